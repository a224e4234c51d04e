theorem dX6_init_0 : decode cX6_init 0 = .ok (.aload_n 0, 1) := by decide +kernel
theorem dX6_init_1 : decode cX6_init 1 = .ok (.invokespecial 1, 3) := by decide +kernel
theorem dX6_init_4 : decode cX6_init 4 = .ok (.aload_n 0, 1) := by decide +kernel
theorem dX6_init_5 : decode cX6_init 5 = .ok (.bipush 6, 2) := by decide +kernel
theorem dX6_init_7 : decode cX6_init 7 = .ok (.newarray .int, 2) := by decide +kernel
theorem dX6_init_9 : decode cX6_init 9 = .ok (.putfield 7, 3) := by decide +kernel
theorem dX6_init_12 : decode cX6_init 12 = .ok (.aload_n 0, 1) := by decide +kernel
theorem dX6_init_13 : decode cX6_init 13 = .ok (.lconst 1, 1) := by decide +kernel
theorem dX6_init_14 : decode cX6_init 14 = .ok (.putfield 13, 3) := by decide +kernel
theorem dX6_init_17 : decode cX6_init 17 = .ok (.aload_n 0, 1) := by decide +kernel
theorem dX6_init_18 : decode cX6_init 18 = .ok (.bipush 6, 2) := by decide +kernel
theorem dX6_init_20 : decode cX6_init 20 = .ok (.newarray .int, 2) := by decide +kernel
theorem dX6_init_22 : decode cX6_init 22 = .ok (.putfield 17, 3) := by decide +kernel
theorem dX6_init_25 : decode cX6_init 25 = .ok (.aload_n 0, 1) := by decide +kernel
theorem dX6_init_26 : decode cX6_init 26 = .ok (.sipush 240, 3) := by decide +kernel
theorem dX6_init_29 : decode cX6_init 29 = .ok (.newarray .int, 2) := by decide +kernel
theorem dX6_init_31 : decode cX6_init 31 = .ok (.putfield 20, 3) := by decide +kernel
theorem dX6_init_34 : decode cX6_init 34 = .ok (.aload_n 0, 1) := by decide +kernel
theorem dX6_init_35 : decode cX6_init 35 = .ok (.bipush 40, 2) := by decide +kernel
theorem dX6_init_37 : decode cX6_init 37 = .ok (.newarray .int, 2) := by decide +kernel
theorem dX6_init_39 : decode cX6_init 39 = .ok (.putfield 23, 3) := by decide +kernel
theorem dX6_init_42 : decode cX6_init 42 = .ok (.aload_n 0, 1) := by decide +kernel
theorem dX6_init_43 : decode cX6_init 43 = .ok (.iconst 4, 1) := by decide +kernel
theorem dX6_init_44 : decode cX6_init 44 = .ok (.newarray .int, 2) := by decide +kernel
theorem dX6_init_46 : decode cX6_init 46 = .ok (.putfield 26, 3) := by decide +kernel
theorem dX6_init_49 : decode cX6_init 49 = .ok (.aload_n 0, 1) := by decide +kernel
theorem dX6_init_50 : decode cX6_init 50 = .ok (.sipush 240, 3) := by decide +kernel
theorem dX6_init_53 : decode cX6_init 53 = .ok (.newarray .byte, 2) := by decide +kernel
theorem dX6_init_55 : decode cX6_init 55 = .ok (.putfield 29, 3) := by decide +kernel
theorem dX6_init_58 : decode cX6_init 58 = .ok (.aload_n 0, 1) := by decide +kernel
theorem dX6_init_59 : decode cX6_init 59 = .ok (.bipush 6, 2) := by decide +kernel
theorem dX6_init_61 : decode cX6_init 61 = .ok (.newarray .int, 2) := by decide +kernel
theorem dX6_init_63 : decode cX6_init 63 = .ok (.putfield 33, 3) := by decide +kernel
theorem dX6_init_66 : decode cX6_init 66 = .ok (.aload_n 0, 1) := by decide +kernel
theorem dX6_init_67 : decode cX6_init 67 = .ok (.bipush 6, 2) := by decide +kernel
theorem dX6_init_69 : decode cX6_init 69 = .ok (.newarray .int, 2) := by decide +kernel
theorem dX6_init_71 : decode cX6_init 71 = .ok (.putfield 36, 3) := by decide +kernel
theorem dX6_init_74 : decode cX6_init 74 = .ok (.aload_n 0, 1) := by decide +kernel
theorem dX6_init_75 : decode cX6_init 75 = .ok (.bipush 6, 2) := by decide +kernel
theorem dX6_init_77 : decode cX6_init 77 = .ok (.newarray .int, 2) := by decide +kernel
theorem dX6_init_79 : decode cX6_init 79 = .ok (.putfield 39, 3) := by decide +kernel
theorem dX6_init_82 : decode cX6_init 82 = .ok (.aload_n 0, 1) := by decide +kernel
theorem dX6_init_83 : decode cX6_init 83 = .ok (.bipush 6, 2) := by decide +kernel
theorem dX6_init_85 : decode cX6_init 85 = .ok (.newarray .int, 2) := by decide +kernel
theorem dX6_init_87 : decode cX6_init 87 = .ok (.putfield 42, 3) := by decide +kernel
theorem dX6_init_90 : decode cX6_init 90 = .ok (.aload_n 0, 1) := by decide +kernel
theorem dX6_init_91 : decode cX6_init 91 = .ok (.bipush 6, 2) := by decide +kernel
theorem dX6_init_93 : decode cX6_init 93 = .ok (.newarray .int, 2) := by decide +kernel
theorem dX6_init_95 : decode cX6_init 95 = .ok (.putfield 45, 3) := by decide +kernel
theorem dX6_init_98 : decode cX6_init 98 = .ok (.aload_n 0, 1) := by decide +kernel
theorem dX6_init_99 : decode cX6_init 99 = .ok (.bipush 6, 2) := by decide +kernel
theorem dX6_init_101 : decode cX6_init 101 = .ok (.newarray .int, 2) := by decide +kernel
theorem dX6_init_103 : decode cX6_init 103 = .ok (.putfield 48, 3) := by decide +kernel
theorem dX6_init_106 : decode cX6_init 106 = .ok (.aload_n 0, 1) := by decide +kernel
theorem dX6_init_107 : decode cX6_init 107 = .ok (.bipush 36, 2) := by decide +kernel
theorem dX6_init_109 : decode cX6_init 109 = .ok (.newarray .int, 2) := by decide +kernel
theorem dX6_init_111 : decode cX6_init 111 = .ok (.putfield 51, 3) := by decide +kernel
theorem dX6_init_114 : decode cX6_init 114 = .ok (.aload_n 0, 1) := by decide +kernel
theorem dX6_init_115 : decode cX6_init 115 = .ok (.bipush 14, 2) := by decide +kernel
theorem dX6_init_117 : decode cX6_init 117 = .ok (.newarray .int, 2) := by decide +kernel
theorem dX6_init_119 : decode cX6_init 119 = .ok (.putfield 54, 3) := by decide +kernel
theorem dX6_init_122 : decode cX6_init 122 = .ok (.aload_n 0, 1) := by decide +kernel
theorem dX6_init_123 : decode cX6_init 123 = .ok (.sipush 840, 3) := by decide +kernel
theorem dX6_init_126 : decode cX6_init 126 = .ok (.newarray .int, 2) := by decide +kernel
theorem dX6_init_128 : decode cX6_init 128 = .ok (.putfield 57, 3) := by decide +kernel
theorem dX6_init_131 : decode cX6_init 131 = .ok (.aload_n 0, 1) := by decide +kernel
theorem dX6_init_132 : decode cX6_init 132 = .ok (.iconst 3, 1) := by decide +kernel
theorem dX6_init_133 : decode cX6_init 133 = .ok (.newarray .boolean, 2) := by decide +kernel
theorem dX6_init_135 : decode cX6_init 135 = .ok (.putfield 60, 3) := by decide +kernel
theorem dX6_init_138 : decode cX6_init 138 = .ok (.aload_n 0, 1) := by decide +kernel
theorem dX6_init_139 : decode cX6_init 139 = .ok (.iconst 3, 1) := by decide +kernel
theorem dX6_init_140 : decode cX6_init 140 = .ok (.newarray .int, 2) := by decide +kernel
theorem dX6_init_142 : decode cX6_init 142 = .ok (.putfield 64, 3) := by decide +kernel
theorem dX6_init_145 : decode cX6_init 145 = .ok (.aload_n 0, 1) := by decide +kernel
theorem dX6_init_146 : decode cX6_init 146 = .ok (.bipush 18, 2) := by decide +kernel
theorem dX6_init_148 : decode cX6_init 148 = .ok (.newarray .int, 2) := by decide +kernel
theorem dX6_init_150 : decode cX6_init 150 = .ok (.putfield 67, 3) := by decide +kernel
theorem dX6_init_153 : decode cX6_init 153 = .ok (.aload_n 0, 1) := by decide +kernel
theorem dX6_init_154 : decode cX6_init 154 = .ok (.bipush 42, 2) := by decide +kernel
theorem dX6_init_156 : decode cX6_init 156 = .ok (.newarray .int, 2) := by decide +kernel
theorem dX6_init_158 : decode cX6_init 158 = .ok (.putfield 70, 3) := by decide +kernel
theorem dX6_init_161 : decode cX6_init 161 = .ok (.aload_n 0, 1) := by decide +kernel
theorem dX6_init_162 : decode cX6_init 162 = .ok (.sipush 2520, 3) := by decide +kernel
theorem dX6_init_165 : decode cX6_init 165 = .ok (.newarray .int, 2) := by decide +kernel
theorem dX6_init_167 : decode cX6_init 167 = .ok (.putfield 73, 3) := by decide +kernel
theorem dX6_init_170 : decode cX6_init 170 = .ok (.aload_n 0, 1) := by decide +kernel
theorem dX6_init_171 : decode cX6_init 171 = .ok (.bipush 6, 2) := by decide +kernel
theorem dX6_init_173 : decode cX6_init 173 = .ok (.newarray .int, 2) := by decide +kernel
theorem dX6_init_175 : decode cX6_init 175 = .ok (.putfield 76, 3) := by decide +kernel
theorem dX6_init_178 : decode cX6_init 178 = .ok (.iconst 0, 1) := by decide +kernel
theorem dX6_init_179 : decode cX6_init 179 = .ok (.istore_n 1, 1) := by decide +kernel
theorem dX6_init_180 : decode cX6_init 180 = .ok (.iload_n 1, 1) := by decide +kernel
theorem dX6_init_181 : decode cX6_init 181 = .ok (.bipush 6, 2) := by decide +kernel
theorem dX6_init_183 : decode cX6_init 183 = .ok (.if_icmp .ge 16, 3) := by decide +kernel
theorem dX6_init_186 : decode cX6_init 186 = .ok (.aload_n 0, 1) := by decide +kernel
theorem dX6_init_187 : decode cX6_init 187 = .ok (.getfield 17, 3) := by decide +kernel
theorem dX6_init_190 : decode cX6_init 190 = .ok (.iload_n 1, 1) := by decide +kernel
theorem dX6_init_191 : decode cX6_init 191 = .ok (.iconst (-1), 1) := by decide +kernel
theorem dX6_init_192 : decode cX6_init 192 = .ok (.iastore, 1) := by decide +kernel
theorem dX6_init_193 : decode cX6_init 193 = .ok (.iinc 1 1, 3) := by decide +kernel
theorem dX6_init_196 : decode cX6_init 196 = .ok (.goto (-16), 3) := by decide +kernel
theorem dX6_init_199 : decode cX6_init 199 = .ok (.iconst 0, 1) := by decide +kernel
theorem dX6_init_200 : decode cX6_init 200 = .ok (.istore_n 1, 1) := by decide +kernel
theorem dX6_init_201 : decode cX6_init 201 = .ok (.iload_n 1, 1) := by decide +kernel
theorem dX6_init_202 : decode cX6_init 202 = .ok (.iconst 4, 1) := by decide +kernel
theorem dX6_init_203 : decode cX6_init 203 = .ok (.if_icmp .ge 16, 3) := by decide +kernel
theorem dX6_init_206 : decode cX6_init 206 = .ok (.aload_n 0, 1) := by decide +kernel
theorem dX6_init_207 : decode cX6_init 207 = .ok (.getfield 26, 3) := by decide +kernel
theorem dX6_init_210 : decode cX6_init 210 = .ok (.iload_n 1, 1) := by decide +kernel
theorem dX6_init_211 : decode cX6_init 211 = .ok (.iconst (-1), 1) := by decide +kernel
theorem dX6_init_212 : decode cX6_init 212 = .ok (.iastore, 1) := by decide +kernel
theorem dX6_init_213 : decode cX6_init 213 = .ok (.iinc 1 1, 3) := by decide +kernel
theorem dX6_init_216 : decode cX6_init 216 = .ok (.goto (-15), 3) := by decide +kernel
theorem dX6_init_219 : decode cX6_init 219 = .ok (.return_, 1) := by decide +kernel
theorem dX6_in_0 : decode cX6_in 0 = .ok (.iload_n 0, 1) := by decide +kernel
theorem dX6_in_1 : decode cX6_in 1 = .ok (.iload_n 1, 1) := by decide +kernel
theorem dX6_in_2 : decode cX6_in 2 = .ok (.if_icmp .lt 12, 3) := by decide +kernel
theorem dX6_in_5 : decode cX6_in 5 = .ok (.iload_n 0, 1) := by decide +kernel
theorem dX6_in_6 : decode cX6_in 6 = .ok (.iload_n 2, 1) := by decide +kernel
theorem dX6_in_7 : decode cX6_in 7 = .ok (.if_icmp .gt 7, 3) := by decide +kernel
theorem dX6_in_10 : decode cX6_in 10 = .ok (.iconst 1, 1) := by decide +kernel
theorem dX6_in_11 : decode cX6_in 11 = .ok (.goto 4, 3) := by decide +kernel
theorem dX6_in_14 : decode cX6_in 14 = .ok (.iconst 0, 1) := by decide +kernel
theorem dX6_in_15 : decode cX6_in 15 = .ok (.ireturn, 1) := by decide +kernel
theorem dX6_has_0 : decode cX6_has 0 = .ok (.iload_n 0, 1) := by decide +kernel
theorem dX6_has_1 : decode cX6_has 1 = .ok (.iload_n 1, 1) := by decide +kernel
theorem dX6_has_2 : decode cX6_has 2 = .ok (.ishr, 1) := by decide +kernel
theorem dX6_has_3 : decode cX6_has 3 = .ok (.iconst 1, 1) := by decide +kernel
theorem dX6_has_4 : decode cX6_has 4 = .ok (.iand, 1) := by decide +kernel
theorem dX6_has_5 : decode cX6_has 5 = .ok (.iconst 1, 1) := by decide +kernel
theorem dX6_has_6 : decode cX6_has 6 = .ok (.if_icmp .ne 7, 3) := by decide +kernel
theorem dX6_has_9 : decode cX6_has 9 = .ok (.iconst 1, 1) := by decide +kernel
theorem dX6_has_10 : decode cX6_has 10 = .ok (.goto 4, 3) := by decide +kernel
theorem dX6_has_13 : decode cX6_has 13 = .ok (.iconst 0, 1) := by decide +kernel
theorem dX6_has_14 : decode cX6_has 14 = .ok (.ireturn, 1) := by decide +kernel
theorem dX6_bits_0 : decode cX6_bits 0 = .ok (.iconst 0, 1) := by decide +kernel
theorem dX6_bits_1 : decode cX6_bits 1 = .ok (.istore_n 1, 1) := by decide +kernel
theorem dX6_bits_2 : decode cX6_bits 2 = .ok (.iload_n 0, 1) := by decide +kernel
theorem dX6_bits_3 : decode cX6_bits 3 = .ok (.istore_n 2, 1) := by decide +kernel
theorem dX6_bits_4 : decode cX6_bits 4 = .ok (.iload_n 2, 1) := by decide +kernel
theorem dX6_bits_5 : decode cX6_bits 5 = .ok (.ifCond .eq 15, 3) := by decide +kernel
theorem dX6_bits_8 : decode cX6_bits 8 = .ok (.iinc 1 1, 3) := by decide +kernel
theorem dX6_bits_11 : decode cX6_bits 11 = .ok (.iload_n 2, 1) := by decide +kernel
theorem dX6_bits_12 : decode cX6_bits 12 = .ok (.iload_n 2, 1) := by decide +kernel
theorem dX6_bits_13 : decode cX6_bits 13 = .ok (.iconst 1, 1) := by decide +kernel
theorem dX6_bits_14 : decode cX6_bits 14 = .ok (.isub, 1) := by decide +kernel
theorem dX6_bits_15 : decode cX6_bits 15 = .ok (.iand, 1) := by decide +kernel
theorem dX6_bits_16 : decode cX6_bits 16 = .ok (.istore_n 2, 1) := by decide +kernel
theorem dX6_bits_17 : decode cX6_bits 17 = .ok (.goto (-13), 3) := by decide +kernel
theorem dX6_bits_20 : decode cX6_bits 20 = .ok (.iload_n 1, 1) := by decide +kernel
theorem dX6_bits_21 : decode cX6_bits 21 = .ok (.ireturn, 1) := by decide +kernel
theorem dX6_meets_0 : decode cX6_meets 0 = .ok (.aload_n 0, 1) := by decide +kernel
theorem dX6_meets_1 : decode cX6_meets 1 = .ok (.iload_n 1, 1) := by decide +kernel
theorem dX6_meets_2 : decode cX6_meets 2 = .ok (.putfield 79, 3) := by decide +kernel
theorem dX6_meets_5 : decode cX6_meets 5 = .ok (.aload_n 0, 1) := by decide +kernel
theorem dX6_meets_6 : decode cX6_meets 6 = .ok (.getfield 7, 3) := by decide +kernel
theorem dX6_meets_9 : decode cX6_meets 9 = .ok (.iload_n 1, 1) := by decide +kernel
theorem dX6_meets_10 : decode cX6_meets 10 = .ok (.dup2, 1) := by decide +kernel
theorem dX6_meets_11 : decode cX6_meets 11 = .ok (.iaload, 1) := by decide +kernel
theorem dX6_meets_12 : decode cX6_meets 12 = .ok (.iconst 1, 1) := by decide +kernel
theorem dX6_meets_13 : decode cX6_meets 13 = .ok (.iadd, 1) := by decide +kernel
theorem dX6_meets_14 : decode cX6_meets 14 = .ok (.iastore, 1) := by decide +kernel
theorem dX6_meets_15 : decode cX6_meets 15 = .ok (.bipush (-3), 2) := by decide +kernel
theorem dX6_meets_17 : decode cX6_meets 17 = .ok (.ireturn, 1) := by decide +kernel
theorem dX6_finding_0 : decode cX6_finding 0 = .ok (.aload_n 0, 1) := by decide +kernel
theorem dX6_finding_1 : decode cX6_finding 1 = .ok (.getfield 79, 3) := by decide +kernel
theorem dX6_finding_4 : decode cX6_finding 4 = .ok (.ireturn, 1) := by decide +kernel
theorem dX6_findings_0 : decode cX6_findings 0 = .ok (.iload_n 1, 1) := by decide +kernel
theorem dX6_findings_1 : decode cX6_findings 1 = .ok (.iconst 1, 1) := by decide +kernel
theorem dX6_findings_2 : decode cX6_findings 2 = .ok (.iconst 5, 1) := by decide +kernel
theorem dX6_findings_3 : decode cX6_findings 3 = .ok (.invokestatic 83, 3) := by decide +kernel
theorem dX6_findings_6 : decode cX6_findings 6 = .ok (.ifCond .eq 12, 3) := by decide +kernel
theorem dX6_findings_9 : decode cX6_findings 9 = .ok (.aload_n 0, 1) := by decide +kernel
theorem dX6_findings_10 : decode cX6_findings 10 = .ok (.getfield 7, 3) := by decide +kernel
theorem dX6_findings_13 : decode cX6_findings 13 = .ok (.iload_n 1, 1) := by decide +kernel
theorem dX6_findings_14 : decode cX6_findings 14 = .ok (.iaload, 1) := by decide +kernel
theorem dX6_findings_15 : decode cX6_findings 15 = .ok (.goto 4, 3) := by decide +kernel
theorem dX6_findings_18 : decode cX6_findings 18 = .ok (.iconst (-1), 1) := by decide +kernel
theorem dX6_findings_19 : decode cX6_findings 19 = .ok (.ireturn, 1) := by decide +kernel
theorem dX6_tells_0 : decode cX6_tells 0 = .ok (.aload_n 0, 1) := by decide +kernel
theorem dX6_tells_1 : decode cX6_tells 1 = .ok (.iload_n 1, 1) := by decide +kernel
theorem dX6_tells_2 : decode cX6_tells 2 = .ok (.putfield 87, 3) := by decide +kernel
theorem dX6_tells_5 : decode cX6_tells 5 = .ok (.iload_n 2, 1) := by decide +kernel
theorem dX6_tells_6 : decode cX6_tells 6 = .ok (.ireturn, 1) := by decide +kernel
theorem dX6_asked_0 : decode cX6_asked 0 = .ok (.aload_n 0, 1) := by decide +kernel
theorem dX6_asked_1 : decode cX6_asked 1 = .ok (.getfield 87, 3) := by decide +kernel
theorem dX6_asked_4 : decode cX6_asked 4 = .ok (.ireturn, 1) := by decide +kernel
theorem dX6_fraction_0 : decode cX6_fraction 0 = .ok (.iload_n 1, 1) := by decide +kernel
theorem dX6_fraction_1 : decode cX6_fraction 1 = .ok (.istore_n 3, 1) := by decide +kernel
theorem dX6_fraction_2 : decode cX6_fraction 2 = .ok (.iload_n 2, 1) := by decide +kernel
theorem dX6_fraction_3 : decode cX6_fraction 3 = .ok (.istore 4, 2) := by decide +kernel
theorem dX6_fraction_5 : decode cX6_fraction 5 = .ok (.iload 4, 2) := by decide +kernel
theorem dX6_fraction_7 : decode cX6_fraction 7 = .ok (.ifCond .eq 19, 3) := by decide +kernel
theorem dX6_fraction_10 : decode cX6_fraction 10 = .ok (.iload_n 3, 1) := by decide +kernel
theorem dX6_fraction_11 : decode cX6_fraction 11 = .ok (.iload 4, 2) := by decide +kernel
theorem dX6_fraction_13 : decode cX6_fraction 13 = .ok (.irem, 1) := by decide +kernel
theorem dX6_fraction_14 : decode cX6_fraction 14 = .ok (.istore 5, 2) := by decide +kernel
theorem dX6_fraction_16 : decode cX6_fraction 16 = .ok (.iload 4, 2) := by decide +kernel
theorem dX6_fraction_18 : decode cX6_fraction 18 = .ok (.istore_n 3, 1) := by decide +kernel
theorem dX6_fraction_19 : decode cX6_fraction 19 = .ok (.iload 5, 2) := by decide +kernel
theorem dX6_fraction_21 : decode cX6_fraction 21 = .ok (.istore 4, 2) := by decide +kernel
theorem dX6_fraction_23 : decode cX6_fraction 23 = .ok (.goto (-18), 3) := by decide +kernel
theorem dX6_fraction_26 : decode cX6_fraction 26 = .ok (.aload_n 0, 1) := by decide +kernel
theorem dX6_fraction_27 : decode cX6_fraction 27 = .ok (.iload_n 1, 1) := by decide +kernel
theorem dX6_fraction_28 : decode cX6_fraction 28 = .ok (.iload_n 3, 1) := by decide +kernel
theorem dX6_fraction_29 : decode cX6_fraction 29 = .ok (.idiv, 1) := by decide +kernel
theorem dX6_fraction_30 : decode cX6_fraction 30 = .ok (.i2l, 1) := by decide +kernel
theorem dX6_fraction_31 : decode cX6_fraction 31 = .ok (.putfield 90, 3) := by decide +kernel
theorem dX6_fraction_34 : decode cX6_fraction 34 = .ok (.aload_n 0, 1) := by decide +kernel
theorem dX6_fraction_35 : decode cX6_fraction 35 = .ok (.iload_n 2, 1) := by decide +kernel
theorem dX6_fraction_36 : decode cX6_fraction 36 = .ok (.iload_n 3, 1) := by decide +kernel
theorem dX6_fraction_37 : decode cX6_fraction 37 = .ok (.idiv, 1) := by decide +kernel
theorem dX6_fraction_38 : decode cX6_fraction 38 = .ok (.i2l, 1) := by decide +kernel
theorem dX6_fraction_39 : decode cX6_fraction 39 = .ok (.putfield 13, 3) := by decide +kernel
theorem dX6_fraction_42 : decode cX6_fraction 42 = .ok (.iconst 1, 1) := by decide +kernel
theorem dX6_fraction_43 : decode cX6_fraction 43 = .ok (.ireturn, 1) := by decide +kernel
theorem dX6_upper_0 : decode cX6_upper 0 = .ok (.aload_n 0, 1) := by decide +kernel
theorem dX6_upper_1 : decode cX6_upper 1 = .ok (.getfield 90, 3) := by decide +kernel
theorem dX6_upper_4 : decode cX6_upper 4 = .ok (.lreturn, 1) := by decide +kernel
theorem dX6_lower_0 : decode cX6_lower 0 = .ok (.aload_n 0, 1) := by decide +kernel
theorem dX6_lower_1 : decode cX6_lower 1 = .ok (.getfield 13, 3) := by decide +kernel
theorem dX6_lower_4 : decode cX6_lower 4 = .ok (.lreturn, 1) := by decide +kernel
theorem dX6_isRow_0 : decode cX6_isRow 0 = .ok (.iload_n 0, 1) := by decide +kernel
theorem dX6_isRow_1 : decode cX6_isRow 1 = .ok (.iconst 0, 1) := by decide +kernel
theorem dX6_isRow_2 : decode cX6_isRow 2 = .ok (.iconst 5, 1) := by decide +kernel
theorem dX6_isRow_3 : decode cX6_isRow 3 = .ok (.invokestatic 83, 3) := by decide +kernel
theorem dX6_isRow_6 : decode cX6_isRow 6 = .ok (.ireturn, 1) := by decide +kernel
theorem dX6_rowAt_0 : decode cX6_rowAt 0 = .ok (.aload_n 0, 1) := by decide +kernel
theorem dX6_rowAt_1 : decode cX6_rowAt 1 = .ok (.getfield 20, 3) := by decide +kernel
theorem dX6_rowAt_4 : decode cX6_rowAt 4 = .ok (.bipush 40, 2) := by decide +kernel
theorem dX6_rowAt_6 : decode cX6_rowAt 6 = .ok (.iload_n 1, 1) := by decide +kernel
theorem dX6_rowAt_7 : decode cX6_rowAt 7 = .ok (.imul, 1) := by decide +kernel
theorem dX6_rowAt_8 : decode cX6_rowAt 8 = .ok (.iload_n 2, 1) := by decide +kernel
theorem dX6_rowAt_9 : decode cX6_rowAt 9 = .ok (.iadd, 1) := by decide +kernel
theorem dX6_rowAt_10 : decode cX6_rowAt 10 = .ok (.iaload, 1) := by decide +kernel
theorem dX6_rowAt_11 : decode cX6_rowAt 11 = .ok (.ireturn, 1) := by decide +kernel
theorem dX6_row_0 : decode cX6_row 0 = .ok (.iload_n 1, 1) := by decide +kernel
theorem dX6_row_1 : decode cX6_row 1 = .ok (.invokestatic 93, 3) := by decide +kernel
theorem dX6_row_4 : decode cX6_row 4 = .ok (.ifCond .eq 9, 3) := by decide +kernel
theorem dX6_row_7 : decode cX6_row 7 = .ok (.iload_n 2, 1) := by decide +kernel
theorem dX6_row_8 : decode cX6_row 8 = .ok (.bipush 40, 2) := by decide +kernel
theorem dX6_row_10 : decode cX6_row 10 = .ok (.if_icmp .le 5, 3) := by decide +kernel
theorem dX6_row_13 : decode cX6_row 13 = .ok (.iconst (-1), 1) := by decide +kernel
theorem dX6_row_14 : decode cX6_row 14 = .ok (.ireturn, 1) := by decide +kernel
theorem dX6_row_15 : decode cX6_row 15 = .ok (.iload_n 2, 1) := by decide +kernel
theorem dX6_row_16 : decode cX6_row 16 = .ok (.ifCond .ge 9, 3) := by decide +kernel
theorem dX6_row_19 : decode cX6_row 19 = .ok (.aload_n 0, 1) := by decide +kernel
theorem dX6_row_20 : decode cX6_row 20 = .ok (.iconst 5, 1) := by decide +kernel
theorem dX6_row_21 : decode cX6_row 21 = .ok (.invokevirtual 97, 3) := by decide +kernel
theorem dX6_row_24 : decode cX6_row 24 = .ok (.ireturn, 1) := by decide +kernel
theorem dX6_row_25 : decode cX6_row 25 = .ok (.aload_n 0, 1) := by decide +kernel
theorem dX6_row_26 : decode cX6_row 26 = .ok (.getfield 17, 3) := by decide +kernel
theorem dX6_row_29 : decode cX6_row 29 = .ok (.iload_n 1, 1) := by decide +kernel
theorem dX6_row_30 : decode cX6_row 30 = .ok (.iload_n 2, 1) := by decide +kernel
theorem dX6_row_31 : decode cX6_row 31 = .ok (.iastore, 1) := by decide +kernel
theorem dX6_row_32 : decode cX6_row 32 = .ok (.iconst 0, 1) := by decide +kernel
theorem dX6_row_33 : decode cX6_row 33 = .ok (.istore_n 3, 1) := by decide +kernel
theorem dX6_row_34 : decode cX6_row 34 = .ok (.iload_n 3, 1) := by decide +kernel
theorem dX6_row_35 : decode cX6_row 35 = .ok (.bipush 40, 2) := by decide +kernel
theorem dX6_row_37 : decode cX6_row 37 = .ok (.if_icmp .ge 21, 3) := by decide +kernel
theorem dX6_row_40 : decode cX6_row 40 = .ok (.aload_n 0, 1) := by decide +kernel
theorem dX6_row_41 : decode cX6_row 41 = .ok (.getfield 20, 3) := by decide +kernel
theorem dX6_row_44 : decode cX6_row 44 = .ok (.bipush 40, 2) := by decide +kernel
theorem dX6_row_46 : decode cX6_row 46 = .ok (.iload_n 1, 1) := by decide +kernel
theorem dX6_row_47 : decode cX6_row 47 = .ok (.imul, 1) := by decide +kernel
theorem dX6_row_48 : decode cX6_row 48 = .ok (.iload_n 3, 1) := by decide +kernel
theorem dX6_row_49 : decode cX6_row 49 = .ok (.iadd, 1) := by decide +kernel
theorem dX6_row_50 : decode cX6_row 50 = .ok (.iconst 0, 1) := by decide +kernel
theorem dX6_row_51 : decode cX6_row 51 = .ok (.iastore, 1) := by decide +kernel
theorem dX6_row_52 : decode cX6_row 52 = .ok (.iinc 3 1, 3) := by decide +kernel
theorem dX6_row_55 : decode cX6_row 55 = .ok (.goto (-21), 3) := by decide +kernel
theorem dX6_row_58 : decode cX6_row 58 = .ok (.iload_n 2, 1) := by decide +kernel
theorem dX6_row_59 : decode cX6_row 59 = .ok (.ireturn, 1) := by decide +kernel
theorem dX6_lay_0 : decode cX6_lay 0 = .ok (.iload_n 1, 1) := by decide +kernel
theorem dX6_lay_1 : decode cX6_lay 1 = .ok (.invokestatic 93, 3) := by decide +kernel
theorem dX6_lay_4 : decode cX6_lay 4 = .ok (.ifCond .ne 5, 3) := by decide +kernel
theorem dX6_lay_7 : decode cX6_lay 7 = .ok (.iconst (-1), 1) := by decide +kernel
theorem dX6_lay_8 : decode cX6_lay 8 = .ok (.ireturn, 1) := by decide +kernel
theorem dX6_lay_9 : decode cX6_lay 9 = .ok (.aload_n 0, 1) := by decide +kernel
theorem dX6_lay_10 : decode cX6_lay 10 = .ok (.getfield 17, 3) := by decide +kernel
theorem dX6_lay_13 : decode cX6_lay 13 = .ok (.iload_n 1, 1) := by decide +kernel
theorem dX6_lay_14 : decode cX6_lay 14 = .ok (.iaload, 1) := by decide +kernel
theorem dX6_lay_15 : decode cX6_lay 15 = .ok (.ifCond .ge 9, 3) := by decide +kernel
theorem dX6_lay_18 : decode cX6_lay 18 = .ok (.aload_n 0, 1) := by decide +kernel
theorem dX6_lay_19 : decode cX6_lay 19 = .ok (.iconst 1, 1) := by decide +kernel
theorem dX6_lay_20 : decode cX6_lay 20 = .ok (.invokevirtual 97, 3) := by decide +kernel
theorem dX6_lay_23 : decode cX6_lay 23 = .ok (.ireturn, 1) := by decide +kernel
theorem dX6_lay_24 : decode cX6_lay 24 = .ok (.iload_n 2, 1) := by decide +kernel
theorem dX6_lay_25 : decode cX6_lay 25 = .ok (.iconst 0, 1) := by decide +kernel
theorem dX6_lay_26 : decode cX6_lay 26 = .ok (.aload_n 0, 1) := by decide +kernel
theorem dX6_lay_27 : decode cX6_lay 27 = .ok (.getfield 17, 3) := by decide +kernel
theorem dX6_lay_30 : decode cX6_lay 30 = .ok (.iload_n 1, 1) := by decide +kernel
theorem dX6_lay_31 : decode cX6_lay 31 = .ok (.iaload, 1) := by decide +kernel
theorem dX6_lay_32 : decode cX6_lay 32 = .ok (.iconst 1, 1) := by decide +kernel
theorem dX6_lay_33 : decode cX6_lay 33 = .ok (.isub, 1) := by decide +kernel
theorem dX6_lay_34 : decode cX6_lay 34 = .ok (.invokestatic 83, 3) := by decide +kernel
theorem dX6_lay_37 : decode cX6_lay 37 = .ok (.ifCond .ne 9, 3) := by decide +kernel
theorem dX6_lay_40 : decode cX6_lay 40 = .ok (.aload_n 0, 1) := by decide +kernel
theorem dX6_lay_41 : decode cX6_lay 41 = .ok (.iconst 2, 1) := by decide +kernel
theorem dX6_lay_42 : decode cX6_lay 42 = .ok (.invokevirtual 97, 3) := by decide +kernel
theorem dX6_lay_45 : decode cX6_lay 45 = .ok (.ireturn, 1) := by decide +kernel
theorem dX6_lay_46 : decode cX6_lay 46 = .ok (.aload_n 0, 1) := by decide +kernel
theorem dX6_lay_47 : decode cX6_lay 47 = .ok (.iload_n 1, 1) := by decide +kernel
theorem dX6_lay_48 : decode cX6_lay 48 = .ok (.iload_n 2, 1) := by decide +kernel
theorem dX6_lay_49 : decode cX6_lay 49 = .ok (.invokevirtual 101, 3) := by decide +kernel
theorem dX6_lay_52 : decode cX6_lay 52 = .ok (.istore 4, 2) := by decide +kernel
theorem dX6_lay_54 : decode cX6_lay 54 = .ok (.aload_n 0, 1) := by decide +kernel
theorem dX6_lay_55 : decode cX6_lay 55 = .ok (.getfield 20, 3) := by decide +kernel
theorem dX6_lay_58 : decode cX6_lay 58 = .ok (.bipush 40, 2) := by decide +kernel
theorem dX6_lay_60 : decode cX6_lay 60 = .ok (.iload_n 1, 1) := by decide +kernel
theorem dX6_lay_61 : decode cX6_lay 61 = .ok (.imul, 1) := by decide +kernel
theorem dX6_lay_62 : decode cX6_lay 62 = .ok (.iload_n 2, 1) := by decide +kernel
theorem dX6_lay_63 : decode cX6_lay 63 = .ok (.iadd, 1) := by decide +kernel
theorem dX6_lay_64 : decode cX6_lay 64 = .ok (.iload_n 3, 1) := by decide +kernel
theorem dX6_lay_65 : decode cX6_lay 65 = .ok (.iastore, 1) := by decide +kernel
theorem dX6_lay_66 : decode cX6_lay 66 = .ok (.aload_n 0, 1) := by decide +kernel
theorem dX6_lay_67 : decode cX6_lay 67 = .ok (.iload 4, 2) := by decide +kernel
theorem dX6_lay_69 : decode cX6_lay 69 = .ok (.iconst 1, 1) := by decide +kernel
theorem dX6_lay_70 : decode cX6_lay 70 = .ok (.invokevirtual 105, 3) := by decide +kernel
theorem dX6_lay_73 : decode cX6_lay 73 = .ok (.ireturn, 1) := by decide +kernel
theorem dX6_at_0 : decode cX6_at 0 = .ok (.iload_n 1, 1) := by decide +kernel
theorem dX6_at_1 : decode cX6_at 1 = .ok (.invokestatic 93, 3) := by decide +kernel
theorem dX6_at_4 : decode cX6_at 4 = .ok (.ifCond .ne 5, 3) := by decide +kernel
theorem dX6_at_7 : decode cX6_at 7 = .ok (.iconst (-1), 1) := by decide +kernel
theorem dX6_at_8 : decode cX6_at 8 = .ok (.ireturn, 1) := by decide +kernel
theorem dX6_at_9 : decode cX6_at 9 = .ok (.aload_n 0, 1) := by decide +kernel
theorem dX6_at_10 : decode cX6_at 10 = .ok (.getfield 17, 3) := by decide +kernel
theorem dX6_at_13 : decode cX6_at 13 = .ok (.iload_n 1, 1) := by decide +kernel
theorem dX6_at_14 : decode cX6_at 14 = .ok (.iaload, 1) := by decide +kernel
theorem dX6_at_15 : decode cX6_at 15 = .ok (.ifCond .ge 9, 3) := by decide +kernel
theorem dX6_at_18 : decode cX6_at 18 = .ok (.aload_n 0, 1) := by decide +kernel
theorem dX6_at_19 : decode cX6_at 19 = .ok (.iconst 1, 1) := by decide +kernel
theorem dX6_at_20 : decode cX6_at 20 = .ok (.invokevirtual 97, 3) := by decide +kernel
theorem dX6_at_23 : decode cX6_at 23 = .ok (.ireturn, 1) := by decide +kernel
theorem dX6_at_24 : decode cX6_at 24 = .ok (.iload_n 2, 1) := by decide +kernel
theorem dX6_at_25 : decode cX6_at 25 = .ok (.iconst 0, 1) := by decide +kernel
theorem dX6_at_26 : decode cX6_at 26 = .ok (.aload_n 0, 1) := by decide +kernel
theorem dX6_at_27 : decode cX6_at 27 = .ok (.getfield 17, 3) := by decide +kernel
theorem dX6_at_30 : decode cX6_at 30 = .ok (.iload_n 1, 1) := by decide +kernel
theorem dX6_at_31 : decode cX6_at 31 = .ok (.iaload, 1) := by decide +kernel
theorem dX6_at_32 : decode cX6_at 32 = .ok (.iconst 1, 1) := by decide +kernel
theorem dX6_at_33 : decode cX6_at 33 = .ok (.isub, 1) := by decide +kernel
theorem dX6_at_34 : decode cX6_at 34 = .ok (.invokestatic 83, 3) := by decide +kernel
theorem dX6_at_37 : decode cX6_at 37 = .ok (.ifCond .eq 17, 3) := by decide +kernel
theorem dX6_at_40 : decode cX6_at 40 = .ok (.aload_n 0, 1) := by decide +kernel
theorem dX6_at_41 : decode cX6_at 41 = .ok (.aload_n 0, 1) := by decide +kernel
theorem dX6_at_42 : decode cX6_at 42 = .ok (.iload_n 1, 1) := by decide +kernel
theorem dX6_at_43 : decode cX6_at 43 = .ok (.iload_n 2, 1) := by decide +kernel
theorem dX6_at_44 : decode cX6_at 44 = .ok (.invokevirtual 101, 3) := by decide +kernel
theorem dX6_at_47 : decode cX6_at 47 = .ok (.iconst 1, 1) := by decide +kernel
theorem dX6_at_48 : decode cX6_at 48 = .ok (.invokevirtual 105, 3) := by decide +kernel
theorem dX6_at_51 : decode cX6_at 51 = .ok (.goto 8, 3) := by decide +kernel
theorem dX6_at_54 : decode cX6_at 54 = .ok (.aload_n 0, 1) := by decide +kernel
theorem dX6_at_55 : decode cX6_at 55 = .ok (.iconst 2, 1) := by decide +kernel
theorem dX6_at_56 : decode cX6_at 56 = .ok (.invokevirtual 97, 3) := by decide +kernel
theorem dX6_at_59 : decode cX6_at 59 = .ok (.ireturn, 1) := by decide +kernel
theorem dX6_tear_0 : decode cX6_tear 0 = .ok (.iload_n 1, 1) := by decide +kernel
theorem dX6_tear_1 : decode cX6_tear 1 = .ok (.invokestatic 93, 3) := by decide +kernel
theorem dX6_tear_4 : decode cX6_tear 4 = .ok (.ifCond .ne 5, 3) := by decide +kernel
theorem dX6_tear_7 : decode cX6_tear 7 = .ok (.iconst (-1), 1) := by decide +kernel
theorem dX6_tear_8 : decode cX6_tear 8 = .ok (.ireturn, 1) := by decide +kernel
theorem dX6_tear_9 : decode cX6_tear 9 = .ok (.aload_n 0, 1) := by decide +kernel
theorem dX6_tear_10 : decode cX6_tear 10 = .ok (.getfield 17, 3) := by decide +kernel
theorem dX6_tear_13 : decode cX6_tear 13 = .ok (.iload_n 1, 1) := by decide +kernel
theorem dX6_tear_14 : decode cX6_tear 14 = .ok (.iaload, 1) := by decide +kernel
theorem dX6_tear_15 : decode cX6_tear 15 = .ok (.ifCond .ge 9, 3) := by decide +kernel
theorem dX6_tear_18 : decode cX6_tear 18 = .ok (.aload_n 0, 1) := by decide +kernel
theorem dX6_tear_19 : decode cX6_tear 19 = .ok (.iconst 1, 1) := by decide +kernel
theorem dX6_tear_20 : decode cX6_tear 20 = .ok (.invokevirtual 97, 3) := by decide +kernel
theorem dX6_tear_23 : decode cX6_tear 23 = .ok (.ireturn, 1) := by decide +kernel
theorem dX6_tear_24 : decode cX6_tear 24 = .ok (.aload_n 0, 1) := by decide +kernel
theorem dX6_tear_25 : decode cX6_tear 25 = .ok (.getfield 17, 3) := by decide +kernel
theorem dX6_tear_28 : decode cX6_tear 28 = .ok (.iload_n 1, 1) := by decide +kernel
theorem dX6_tear_29 : decode cX6_tear 29 = .ok (.iconst (-1), 1) := by decide +kernel
theorem dX6_tear_30 : decode cX6_tear 30 = .ok (.iastore, 1) := by decide +kernel
theorem dX6_tear_31 : decode cX6_tear 31 = .ok (.iconst 1, 1) := by decide +kernel
theorem dX6_tear_32 : decode cX6_tear 32 = .ok (.ireturn, 1) := by decide +kernel
theorem dX6_copy_0 : decode cX6_copy 0 = .ok (.iload_n 1, 1) := by decide +kernel
theorem dX6_copy_1 : decode cX6_copy 1 = .ok (.invokestatic 93, 3) := by decide +kernel
theorem dX6_copy_4 : decode cX6_copy 4 = .ok (.ifCond .eq 10, 3) := by decide +kernel
theorem dX6_copy_7 : decode cX6_copy 7 = .ok (.iload_n 3, 1) := by decide +kernel
theorem dX6_copy_8 : decode cX6_copy 8 = .ok (.invokestatic 93, 3) := by decide +kernel
theorem dX6_copy_11 : decode cX6_copy 11 = .ok (.ifCond .ne 5, 3) := by decide +kernel
theorem dX6_copy_14 : decode cX6_copy 14 = .ok (.iconst (-1), 1) := by decide +kernel
theorem dX6_copy_15 : decode cX6_copy 15 = .ok (.ireturn, 1) := by decide +kernel
theorem dX6_copy_16 : decode cX6_copy 16 = .ok (.iload 5, 2) := by decide +kernel
theorem dX6_copy_18 : decode cX6_copy 18 = .ok (.ifCond .ge 9, 3) := by decide +kernel
theorem dX6_copy_21 : decode cX6_copy 21 = .ok (.aload_n 0, 1) := by decide +kernel
theorem dX6_copy_22 : decode cX6_copy 22 = .ok (.iconst 5, 1) := by decide +kernel
theorem dX6_copy_23 : decode cX6_copy 23 = .ok (.invokevirtual 97, 3) := by decide +kernel
theorem dX6_copy_26 : decode cX6_copy 26 = .ok (.ireturn, 1) := by decide +kernel
theorem dX6_copy_27 : decode cX6_copy 27 = .ok (.aload_n 0, 1) := by decide +kernel
theorem dX6_copy_28 : decode cX6_copy 28 = .ok (.getfield 17, 3) := by decide +kernel
theorem dX6_copy_31 : decode cX6_copy 31 = .ok (.iload_n 1, 1) := by decide +kernel
theorem dX6_copy_32 : decode cX6_copy 32 = .ok (.iaload, 1) := by decide +kernel
theorem dX6_copy_33 : decode cX6_copy 33 = .ok (.ifCond .lt 12, 3) := by decide +kernel
theorem dX6_copy_36 : decode cX6_copy 36 = .ok (.aload_n 0, 1) := by decide +kernel
theorem dX6_copy_37 : decode cX6_copy 37 = .ok (.getfield 17, 3) := by decide +kernel
theorem dX6_copy_40 : decode cX6_copy 40 = .ok (.iload_n 3, 1) := by decide +kernel
theorem dX6_copy_41 : decode cX6_copy 41 = .ok (.iaload, 1) := by decide +kernel
theorem dX6_copy_42 : decode cX6_copy 42 = .ok (.ifCond .ge 9, 3) := by decide +kernel
theorem dX6_copy_45 : decode cX6_copy 45 = .ok (.aload_n 0, 1) := by decide +kernel
theorem dX6_copy_46 : decode cX6_copy 46 = .ok (.iconst 1, 1) := by decide +kernel
theorem dX6_copy_47 : decode cX6_copy 47 = .ok (.invokevirtual 97, 3) := by decide +kernel
theorem dX6_copy_50 : decode cX6_copy 50 = .ok (.ireturn, 1) := by decide +kernel
theorem dX6_copy_51 : decode cX6_copy 51 = .ok (.iload_n 2, 1) := by decide +kernel
theorem dX6_copy_52 : decode cX6_copy 52 = .ok (.ifCond .lt 43, 3) := by decide +kernel
theorem dX6_copy_55 : decode cX6_copy 55 = .ok (.iload 4, 2) := by decide +kernel
theorem dX6_copy_57 : decode cX6_copy 57 = .ok (.ifCond .lt 38, 3) := by decide +kernel
theorem dX6_copy_60 : decode cX6_copy 60 = .ok (.iload_n 2, 1) := by decide +kernel
theorem dX6_copy_61 : decode cX6_copy 61 = .ok (.i2l, 1) := by decide +kernel
theorem dX6_copy_62 : decode cX6_copy 62 = .ok (.iload 5, 2) := by decide +kernel
theorem dX6_copy_64 : decode cX6_copy 64 = .ok (.i2l, 1) := by decide +kernel
theorem dX6_copy_65 : decode cX6_copy 65 = .ok (.ladd, 1) := by decide +kernel
theorem dX6_copy_66 : decode cX6_copy 66 = .ok (.aload_n 0, 1) := by decide +kernel
theorem dX6_copy_67 : decode cX6_copy 67 = .ok (.getfield 17, 3) := by decide +kernel
theorem dX6_copy_70 : decode cX6_copy 70 = .ok (.iload_n 1, 1) := by decide +kernel
theorem dX6_copy_71 : decode cX6_copy 71 = .ok (.iaload, 1) := by decide +kernel
theorem dX6_copy_72 : decode cX6_copy 72 = .ok (.i2l, 1) := by decide +kernel
theorem dX6_copy_73 : decode cX6_copy 73 = .ok (.lcmp, 1) := by decide +kernel
theorem dX6_copy_74 : decode cX6_copy 74 = .ok (.ifCond .gt 21, 3) := by decide +kernel
theorem dX6_copy_77 : decode cX6_copy 77 = .ok (.iload 4, 2) := by decide +kernel
theorem dX6_copy_79 : decode cX6_copy 79 = .ok (.i2l, 1) := by decide +kernel
theorem dX6_copy_80 : decode cX6_copy 80 = .ok (.iload 5, 2) := by decide +kernel
theorem dX6_copy_82 : decode cX6_copy 82 = .ok (.i2l, 1) := by decide +kernel
theorem dX6_copy_83 : decode cX6_copy 83 = .ok (.ladd, 1) := by decide +kernel
theorem dX6_copy_84 : decode cX6_copy 84 = .ok (.aload_n 0, 1) := by decide +kernel
theorem dX6_copy_85 : decode cX6_copy 85 = .ok (.getfield 17, 3) := by decide +kernel
theorem dX6_copy_88 : decode cX6_copy 88 = .ok (.iload_n 3, 1) := by decide +kernel
theorem dX6_copy_89 : decode cX6_copy 89 = .ok (.iaload, 1) := by decide +kernel
theorem dX6_copy_90 : decode cX6_copy 90 = .ok (.i2l, 1) := by decide +kernel
theorem dX6_copy_91 : decode cX6_copy 91 = .ok (.lcmp, 1) := by decide +kernel
theorem dX6_copy_92 : decode cX6_copy 92 = .ok (.ifCond .le 9, 3) := by decide +kernel
theorem dX6_copy_95 : decode cX6_copy 95 = .ok (.aload_n 0, 1) := by decide +kernel
theorem dX6_copy_96 : decode cX6_copy 96 = .ok (.iconst 2, 1) := by decide +kernel
theorem dX6_copy_97 : decode cX6_copy 97 = .ok (.invokevirtual 97, 3) := by decide +kernel
theorem dX6_copy_100 : decode cX6_copy 100 = .ok (.ireturn, 1) := by decide +kernel
theorem dX6_copy_101 : decode cX6_copy 101 = .ok (.iconst 0, 1) := by decide +kernel
theorem dX6_copy_102 : decode cX6_copy 102 = .ok (.istore 6, 2) := by decide +kernel
theorem dX6_copy_104 : decode cX6_copy 104 = .ok (.iload 6, 2) := by decide +kernel
theorem dX6_copy_106 : decode cX6_copy 106 = .ok (.iload 5, 2) := by decide +kernel
theorem dX6_copy_108 : decode cX6_copy 108 = .ok (.if_icmp .ge 25, 3) := by decide +kernel
theorem dX6_copy_111 : decode cX6_copy 111 = .ok (.aload_n 0, 1) := by decide +kernel
theorem dX6_copy_112 : decode cX6_copy 112 = .ok (.getfield 23, 3) := by decide +kernel
theorem dX6_copy_115 : decode cX6_copy 115 = .ok (.iload 6, 2) := by decide +kernel
theorem dX6_copy_117 : decode cX6_copy 117 = .ok (.aload_n 0, 1) := by decide +kernel
theorem dX6_copy_118 : decode cX6_copy 118 = .ok (.iload_n 1, 1) := by decide +kernel
theorem dX6_copy_119 : decode cX6_copy 119 = .ok (.iload_n 2, 1) := by decide +kernel
theorem dX6_copy_120 : decode cX6_copy 120 = .ok (.iload 6, 2) := by decide +kernel
theorem dX6_copy_122 : decode cX6_copy 122 = .ok (.iadd, 1) := by decide +kernel
theorem dX6_copy_123 : decode cX6_copy 123 = .ok (.invokevirtual 101, 3) := by decide +kernel
theorem dX6_copy_126 : decode cX6_copy 126 = .ok (.iastore, 1) := by decide +kernel
theorem dX6_copy_127 : decode cX6_copy 127 = .ok (.iinc 6 1, 3) := by decide +kernel
theorem dX6_copy_130 : decode cX6_copy 130 = .ok (.goto (-26), 3) := by decide +kernel
theorem dX6_copy_133 : decode cX6_copy 133 = .ok (.iconst 0, 1) := by decide +kernel
theorem dX6_copy_134 : decode cX6_copy 134 = .ok (.istore 6, 2) := by decide +kernel
theorem dX6_copy_136 : decode cX6_copy 136 = .ok (.iload 6, 2) := by decide +kernel
theorem dX6_copy_138 : decode cX6_copy 138 = .ok (.iload 5, 2) := by decide +kernel
theorem dX6_copy_140 : decode cX6_copy 140 = .ok (.if_icmp .ge 31, 3) := by decide +kernel
theorem dX6_copy_143 : decode cX6_copy 143 = .ok (.aload_n 0, 1) := by decide +kernel
theorem dX6_copy_144 : decode cX6_copy 144 = .ok (.getfield 20, 3) := by decide +kernel
theorem dX6_copy_147 : decode cX6_copy 147 = .ok (.bipush 40, 2) := by decide +kernel
theorem dX6_copy_149 : decode cX6_copy 149 = .ok (.iload_n 3, 1) := by decide +kernel
theorem dX6_copy_150 : decode cX6_copy 150 = .ok (.imul, 1) := by decide +kernel
theorem dX6_copy_151 : decode cX6_copy 151 = .ok (.iload 4, 2) := by decide +kernel
theorem dX6_copy_153 : decode cX6_copy 153 = .ok (.iadd, 1) := by decide +kernel
theorem dX6_copy_154 : decode cX6_copy 154 = .ok (.iload 6, 2) := by decide +kernel
theorem dX6_copy_156 : decode cX6_copy 156 = .ok (.iadd, 1) := by decide +kernel
theorem dX6_copy_157 : decode cX6_copy 157 = .ok (.aload_n 0, 1) := by decide +kernel
theorem dX6_copy_158 : decode cX6_copy 158 = .ok (.getfield 23, 3) := by decide +kernel
theorem dX6_copy_161 : decode cX6_copy 161 = .ok (.iload 6, 2) := by decide +kernel
theorem dX6_copy_163 : decode cX6_copy 163 = .ok (.iaload, 1) := by decide +kernel
theorem dX6_copy_164 : decode cX6_copy 164 = .ok (.iastore, 1) := by decide +kernel
theorem dX6_copy_165 : decode cX6_copy 165 = .ok (.iinc 6 1, 3) := by decide +kernel
theorem dX6_copy_168 : decode cX6_copy 168 = .ok (.goto (-32), 3) := by decide +kernel
theorem dX6_copy_171 : decode cX6_copy 171 = .ok (.iconst 1, 1) := by decide +kernel
theorem dX6_copy_172 : decode cX6_copy 172 = .ok (.ireturn, 1) := by decide +kernel
theorem dX6_mean_0 : decode cX6_mean 0 = .ok (.iload_n 1, 1) := by decide +kernel
theorem dX6_mean_1 : decode cX6_mean 1 = .ok (.invokestatic 93, 3) := by decide +kernel
theorem dX6_mean_4 : decode cX6_mean 4 = .ok (.ifCond .ne 5, 3) := by decide +kernel
theorem dX6_mean_7 : decode cX6_mean 7 = .ok (.iconst (-1), 1) := by decide +kernel
theorem dX6_mean_8 : decode cX6_mean 8 = .ok (.ireturn, 1) := by decide +kernel
theorem dX6_mean_9 : decode cX6_mean 9 = .ok (.aload_n 0, 1) := by decide +kernel
theorem dX6_mean_10 : decode cX6_mean 10 = .ok (.getfield 17, 3) := by decide +kernel
theorem dX6_mean_13 : decode cX6_mean 13 = .ok (.iload_n 1, 1) := by decide +kernel
theorem dX6_mean_14 : decode cX6_mean 14 = .ok (.iaload, 1) := by decide +kernel
theorem dX6_mean_15 : decode cX6_mean 15 = .ok (.ifCond .ge 9, 3) := by decide +kernel
theorem dX6_mean_18 : decode cX6_mean 18 = .ok (.aload_n 0, 1) := by decide +kernel
theorem dX6_mean_19 : decode cX6_mean 19 = .ok (.iconst 1, 1) := by decide +kernel
theorem dX6_mean_20 : decode cX6_mean 20 = .ok (.invokevirtual 97, 3) := by decide +kernel
theorem dX6_mean_23 : decode cX6_mean 23 = .ok (.ireturn, 1) := by decide +kernel
theorem dX6_mean_24 : decode cX6_mean 24 = .ok (.aload_n 0, 1) := by decide +kernel
theorem dX6_mean_25 : decode cX6_mean 25 = .ok (.getfield 17, 3) := by decide +kernel
theorem dX6_mean_28 : decode cX6_mean 28 = .ok (.iload_n 1, 1) := by decide +kernel
theorem dX6_mean_29 : decode cX6_mean 29 = .ok (.iaload, 1) := by decide +kernel
theorem dX6_mean_30 : decode cX6_mean 30 = .ok (.ifCond .ne 9, 3) := by decide +kernel
theorem dX6_mean_33 : decode cX6_mean 33 = .ok (.aload_n 0, 1) := by decide +kernel
theorem dX6_mean_34 : decode cX6_mean 34 = .ok (.iconst 4, 1) := by decide +kernel
theorem dX6_mean_35 : decode cX6_mean 35 = .ok (.invokevirtual 97, 3) := by decide +kernel
theorem dX6_mean_38 : decode cX6_mean 38 = .ok (.ireturn, 1) := by decide +kernel
theorem dX6_mean_39 : decode cX6_mean 39 = .ok (.lconst 0, 1) := by decide +kernel
theorem dX6_mean_40 : decode cX6_mean 40 = .ok (.lstore_n 2, 1) := by decide +kernel
theorem dX6_mean_41 : decode cX6_mean 41 = .ok (.iconst 0, 1) := by decide +kernel
theorem dX6_mean_42 : decode cX6_mean 42 = .ok (.istore 4, 2) := by decide +kernel
theorem dX6_mean_44 : decode cX6_mean 44 = .ok (.iload 4, 2) := by decide +kernel
theorem dX6_mean_46 : decode cX6_mean 46 = .ok (.aload_n 0, 1) := by decide +kernel
theorem dX6_mean_47 : decode cX6_mean 47 = .ok (.getfield 17, 3) := by decide +kernel
theorem dX6_mean_50 : decode cX6_mean 50 = .ok (.iload_n 1, 1) := by decide +kernel
theorem dX6_mean_51 : decode cX6_mean 51 = .ok (.iaload, 1) := by decide +kernel
theorem dX6_mean_52 : decode cX6_mean 52 = .ok (.if_icmp .ge 20, 3) := by decide +kernel
theorem dX6_mean_55 : decode cX6_mean 55 = .ok (.lload_n 2, 1) := by decide +kernel
theorem dX6_mean_56 : decode cX6_mean 56 = .ok (.aload_n 0, 1) := by decide +kernel
theorem dX6_mean_57 : decode cX6_mean 57 = .ok (.iload_n 1, 1) := by decide +kernel
theorem dX6_mean_58 : decode cX6_mean 58 = .ok (.iload 4, 2) := by decide +kernel
theorem dX6_mean_60 : decode cX6_mean 60 = .ok (.invokevirtual 101, 3) := by decide +kernel
theorem dX6_mean_63 : decode cX6_mean 63 = .ok (.i2l, 1) := by decide +kernel
theorem dX6_mean_64 : decode cX6_mean 64 = .ok (.ladd, 1) := by decide +kernel
theorem dX6_mean_65 : decode cX6_mean 65 = .ok (.lstore_n 2, 1) := by decide +kernel
theorem dX6_mean_66 : decode cX6_mean 66 = .ok (.iinc 4 1, 3) := by decide +kernel
theorem dX6_mean_69 : decode cX6_mean 69 = .ok (.goto (-25), 3) := by decide +kernel
theorem dX6_mean_72 : decode cX6_mean 72 = .ok (.aload_n 0, 1) := by decide +kernel
theorem dX6_mean_73 : decode cX6_mean 73 = .ok (.lload_n 2, 1) := by decide +kernel
theorem dX6_mean_74 : decode cX6_mean 74 = .ok (.aload_n 0, 1) := by decide +kernel
theorem dX6_mean_75 : decode cX6_mean 75 = .ok (.getfield 17, 3) := by decide +kernel
theorem dX6_mean_78 : decode cX6_mean 78 = .ok (.iload_n 1, 1) := by decide +kernel
theorem dX6_mean_79 : decode cX6_mean 79 = .ok (.iaload, 1) := by decide +kernel
theorem dX6_mean_80 : decode cX6_mean 80 = .ok (.i2l, 1) := by decide +kernel
theorem dX6_mean_81 : decode cX6_mean 81 = .ok (.ldiv, 1) := by decide +kernel
theorem dX6_mean_82 : decode cX6_mean 82 = .ok (.l2i, 1) := by decide +kernel
theorem dX6_mean_83 : decode cX6_mean 83 = .ok (.iconst 1, 1) := by decide +kernel
theorem dX6_mean_84 : decode cX6_mean 84 = .ok (.invokevirtual 105, 3) := by decide +kernel
theorem dX6_mean_87 : decode cX6_mean 87 = .ok (.ireturn, 1) := by decide +kernel
theorem dX6_isText_0 : decode cX6_isText 0 = .ok (.iload_n 0, 1) := by decide +kernel
theorem dX6_isText_1 : decode cX6_isText 1 = .ok (.iconst 0, 1) := by decide +kernel
theorem dX6_isText_2 : decode cX6_isText 2 = .ok (.iconst 3, 1) := by decide +kernel
theorem dX6_isText_3 : decode cX6_isText 3 = .ok (.invokestatic 83, 3) := by decide +kernel
theorem dX6_isText_6 : decode cX6_isText 6 = .ok (.ireturn, 1) := by decide +kernel
theorem dX6_text_0 : decode cX6_text 0 = .ok (.iload_n 1, 1) := by decide +kernel
theorem dX6_text_1 : decode cX6_text 1 = .ok (.invokestatic 108, 3) := by decide +kernel
theorem dX6_text_4 : decode cX6_text 4 = .ok (.ifCond .eq 9, 3) := by decide +kernel
theorem dX6_text_7 : decode cX6_text 7 = .ok (.iload_n 2, 1) := by decide +kernel
theorem dX6_text_8 : decode cX6_text 8 = .ok (.bipush 60, 2) := by decide +kernel
theorem dX6_text_10 : decode cX6_text 10 = .ok (.if_icmp .le 5, 3) := by decide +kernel
theorem dX6_text_13 : decode cX6_text 13 = .ok (.iconst (-1), 1) := by decide +kernel
theorem dX6_text_14 : decode cX6_text 14 = .ok (.ireturn, 1) := by decide +kernel
theorem dX6_text_15 : decode cX6_text 15 = .ok (.iload_n 2, 1) := by decide +kernel
theorem dX6_text_16 : decode cX6_text 16 = .ok (.ifCond .ge 9, 3) := by decide +kernel
theorem dX6_text_19 : decode cX6_text 19 = .ok (.aload_n 0, 1) := by decide +kernel
theorem dX6_text_20 : decode cX6_text 20 = .ok (.iconst 5, 1) := by decide +kernel
theorem dX6_text_21 : decode cX6_text 21 = .ok (.invokevirtual 97, 3) := by decide +kernel
theorem dX6_text_24 : decode cX6_text 24 = .ok (.ireturn, 1) := by decide +kernel
theorem dX6_text_25 : decode cX6_text 25 = .ok (.aload_n 0, 1) := by decide +kernel
theorem dX6_text_26 : decode cX6_text 26 = .ok (.getfield 26, 3) := by decide +kernel
theorem dX6_text_29 : decode cX6_text 29 = .ok (.iload_n 1, 1) := by decide +kernel
theorem dX6_text_30 : decode cX6_text 30 = .ok (.iload_n 2, 1) := by decide +kernel
theorem dX6_text_31 : decode cX6_text 31 = .ok (.iastore, 1) := by decide +kernel
theorem dX6_text_32 : decode cX6_text 32 = .ok (.iconst 0, 1) := by decide +kernel
theorem dX6_text_33 : decode cX6_text 33 = .ok (.istore_n 3, 1) := by decide +kernel
theorem dX6_text_34 : decode cX6_text 34 = .ok (.iload_n 3, 1) := by decide +kernel
theorem dX6_text_35 : decode cX6_text 35 = .ok (.bipush 60, 2) := by decide +kernel
theorem dX6_text_37 : decode cX6_text 37 = .ok (.if_icmp .ge 22, 3) := by decide +kernel
theorem dX6_text_40 : decode cX6_text 40 = .ok (.aload_n 0, 1) := by decide +kernel
theorem dX6_text_41 : decode cX6_text 41 = .ok (.getfield 29, 3) := by decide +kernel
theorem dX6_text_44 : decode cX6_text 44 = .ok (.bipush 60, 2) := by decide +kernel
theorem dX6_text_46 : decode cX6_text 46 = .ok (.iload_n 1, 1) := by decide +kernel
theorem dX6_text_47 : decode cX6_text 47 = .ok (.imul, 1) := by decide +kernel
theorem dX6_text_48 : decode cX6_text 48 = .ok (.iload_n 3, 1) := by decide +kernel
theorem dX6_text_49 : decode cX6_text 49 = .ok (.iadd, 1) := by decide +kernel
theorem dX6_text_50 : decode cX6_text 50 = .ok (.bipush 32, 2) := by decide +kernel
theorem dX6_text_52 : decode cX6_text 52 = .ok (.bastore, 1) := by decide +kernel
theorem dX6_text_53 : decode cX6_text 53 = .ok (.iinc 3 1, 3) := by decide +kernel
theorem dX6_text_56 : decode cX6_text 56 = .ok (.goto (-22), 3) := by decide +kernel
theorem dX6_text_59 : decode cX6_text 59 = .ok (.iload_n 2, 1) := by decide +kernel
theorem dX6_text_60 : decode cX6_text 60 = .ok (.ireturn, 1) := by decide +kernel
theorem dX6_put_0 : decode cX6_put 0 = .ok (.iload_n 1, 1) := by decide +kernel
theorem dX6_put_1 : decode cX6_put 1 = .ok (.invokestatic 108, 3) := by decide +kernel
theorem dX6_put_4 : decode cX6_put 4 = .ok (.ifCond .ne 5, 3) := by decide +kernel
theorem dX6_put_7 : decode cX6_put 7 = .ok (.iconst (-1), 1) := by decide +kernel
theorem dX6_put_8 : decode cX6_put 8 = .ok (.ireturn, 1) := by decide +kernel
theorem dX6_put_9 : decode cX6_put 9 = .ok (.aload_n 0, 1) := by decide +kernel
theorem dX6_put_10 : decode cX6_put 10 = .ok (.getfield 26, 3) := by decide +kernel
theorem dX6_put_13 : decode cX6_put 13 = .ok (.iload_n 1, 1) := by decide +kernel
theorem dX6_put_14 : decode cX6_put 14 = .ok (.iaload, 1) := by decide +kernel
theorem dX6_put_15 : decode cX6_put 15 = .ok (.ifCond .ge 9, 3) := by decide +kernel
theorem dX6_put_18 : decode cX6_put 18 = .ok (.aload_n 0, 1) := by decide +kernel
theorem dX6_put_19 : decode cX6_put 19 = .ok (.iconst 1, 1) := by decide +kernel
theorem dX6_put_20 : decode cX6_put 20 = .ok (.invokevirtual 97, 3) := by decide +kernel
theorem dX6_put_23 : decode cX6_put 23 = .ok (.ireturn, 1) := by decide +kernel
theorem dX6_put_24 : decode cX6_put 24 = .ok (.iload_n 2, 1) := by decide +kernel
theorem dX6_put_25 : decode cX6_put 25 = .ok (.iconst 0, 1) := by decide +kernel
theorem dX6_put_26 : decode cX6_put 26 = .ok (.aload_n 0, 1) := by decide +kernel
theorem dX6_put_27 : decode cX6_put 27 = .ok (.getfield 26, 3) := by decide +kernel
theorem dX6_put_30 : decode cX6_put 30 = .ok (.iload_n 1, 1) := by decide +kernel
theorem dX6_put_31 : decode cX6_put 31 = .ok (.iaload, 1) := by decide +kernel
theorem dX6_put_32 : decode cX6_put 32 = .ok (.iconst 1, 1) := by decide +kernel
theorem dX6_put_33 : decode cX6_put 33 = .ok (.isub, 1) := by decide +kernel
theorem dX6_put_34 : decode cX6_put 34 = .ok (.invokestatic 83, 3) := by decide +kernel
theorem dX6_put_37 : decode cX6_put 37 = .ok (.ifCond .ne 9, 3) := by decide +kernel
theorem dX6_put_40 : decode cX6_put 40 = .ok (.aload_n 0, 1) := by decide +kernel
theorem dX6_put_41 : decode cX6_put 41 = .ok (.iconst 2, 1) := by decide +kernel
theorem dX6_put_42 : decode cX6_put 42 = .ok (.invokevirtual 97, 3) := by decide +kernel
theorem dX6_put_45 : decode cX6_put 45 = .ok (.ireturn, 1) := by decide +kernel
theorem dX6_put_46 : decode cX6_put 46 = .ok (.aload_n 0, 1) := by decide +kernel
theorem dX6_put_47 : decode cX6_put 47 = .ok (.getfield 29, 3) := by decide +kernel
theorem dX6_put_50 : decode cX6_put 50 = .ok (.bipush 60, 2) := by decide +kernel
theorem dX6_put_52 : decode cX6_put 52 = .ok (.iload_n 1, 1) := by decide +kernel
theorem dX6_put_53 : decode cX6_put 53 = .ok (.imul, 1) := by decide +kernel
theorem dX6_put_54 : decode cX6_put 54 = .ok (.iload_n 2, 1) := by decide +kernel
theorem dX6_put_55 : decode cX6_put 55 = .ok (.iadd, 1) := by decide +kernel
theorem dX6_put_56 : decode cX6_put 56 = .ok (.baload, 1) := by decide +kernel
theorem dX6_put_57 : decode cX6_put 57 = .ok (.istore 4, 2) := by decide +kernel
theorem dX6_put_59 : decode cX6_put 59 = .ok (.aload_n 0, 1) := by decide +kernel
theorem dX6_put_60 : decode cX6_put 60 = .ok (.getfield 29, 3) := by decide +kernel
theorem dX6_put_63 : decode cX6_put 63 = .ok (.bipush 60, 2) := by decide +kernel
theorem dX6_put_65 : decode cX6_put 65 = .ok (.iload_n 1, 1) := by decide +kernel
theorem dX6_put_66 : decode cX6_put 66 = .ok (.imul, 1) := by decide +kernel
theorem dX6_put_67 : decode cX6_put 67 = .ok (.iload_n 2, 1) := by decide +kernel
theorem dX6_put_68 : decode cX6_put 68 = .ok (.iadd, 1) := by decide +kernel
theorem dX6_put_69 : decode cX6_put 69 = .ok (.iload_n 3, 1) := by decide +kernel
theorem dX6_put_70 : decode cX6_put 70 = .ok (.i2b, 1) := by decide +kernel
theorem dX6_put_71 : decode cX6_put 71 = .ok (.bastore, 1) := by decide +kernel
theorem dX6_put_72 : decode cX6_put 72 = .ok (.sipush 1000, 3) := by decide +kernel
theorem dX6_put_75 : decode cX6_put 75 = .ok (.iload 4, 2) := by decide +kernel
theorem dX6_put_77 : decode cX6_put 77 = .ok (.iadd, 1) := by decide +kernel
theorem dX6_put_78 : decode cX6_put 78 = .ok (.ireturn, 1) := by decide +kernel
theorem dX6_byteAt_0 : decode cX6_byteAt 0 = .ok (.iload_n 2, 1) := by decide +kernel
theorem dX6_byteAt_1 : decode cX6_byteAt 1 = .ok (.aload_n 0, 1) := by decide +kernel
theorem dX6_byteAt_2 : decode cX6_byteAt 2 = .ok (.getfield 26, 3) := by decide +kernel
theorem dX6_byteAt_5 : decode cX6_byteAt 5 = .ok (.iload_n 1, 1) := by decide +kernel
theorem dX6_byteAt_6 : decode cX6_byteAt 6 = .ok (.iaload, 1) := by decide +kernel
theorem dX6_byteAt_7 : decode cX6_byteAt 7 = .ok (.if_icmp .ge 17, 3) := by decide +kernel
theorem dX6_byteAt_10 : decode cX6_byteAt 10 = .ok (.aload_n 0, 1) := by decide +kernel
theorem dX6_byteAt_11 : decode cX6_byteAt 11 = .ok (.getfield 29, 3) := by decide +kernel
theorem dX6_byteAt_14 : decode cX6_byteAt 14 = .ok (.bipush 60, 2) := by decide +kernel
theorem dX6_byteAt_16 : decode cX6_byteAt 16 = .ok (.iload_n 1, 1) := by decide +kernel
theorem dX6_byteAt_17 : decode cX6_byteAt 17 = .ok (.imul, 1) := by decide +kernel
theorem dX6_byteAt_18 : decode cX6_byteAt 18 = .ok (.iload_n 2, 1) := by decide +kernel
theorem dX6_byteAt_19 : decode cX6_byteAt 19 = .ok (.iadd, 1) := by decide +kernel
theorem dX6_byteAt_20 : decode cX6_byteAt 20 = .ok (.baload, 1) := by decide +kernel
theorem dX6_byteAt_21 : decode cX6_byteAt 21 = .ok (.goto 4, 3) := by decide +kernel
theorem dX6_byteAt_24 : decode cX6_byteAt 24 = .ok (.iconst 0, 1) := by decide +kernel
theorem dX6_byteAt_25 : decode cX6_byteAt 25 = .ok (.ireturn, 1) := by decide +kernel
theorem dX6_layRow_0 : decode cX6_layRow 0 = .ok (.aload_n 0, 1) := by decide +kernel
theorem dX6_layRow_1 : decode cX6_layRow 1 = .ok (.getfield 17, 3) := by decide +kernel
theorem dX6_layRow_4 : decode cX6_layRow 4 = .ok (.iload_n 1, 1) := by decide +kernel
theorem dX6_layRow_5 : decode cX6_layRow 5 = .ok (.iload_n 3, 1) := by decide +kernel
theorem dX6_layRow_6 : decode cX6_layRow 6 = .ok (.iastore, 1) := by decide +kernel
theorem dX6_layRow_7 : decode cX6_layRow 7 = .ok (.iconst 0, 1) := by decide +kernel
theorem dX6_layRow_8 : decode cX6_layRow 8 = .ok (.istore 4, 2) := by decide +kernel
theorem dX6_layRow_10 : decode cX6_layRow 10 = .ok (.iload 4, 2) := by decide +kernel
theorem dX6_layRow_12 : decode cX6_layRow 12 = .ok (.bipush 40, 2) := by decide +kernel
theorem dX6_layRow_14 : decode cX6_layRow 14 = .ok (.if_icmp .ge 35, 3) := by decide +kernel
theorem dX6_layRow_17 : decode cX6_layRow 17 = .ok (.aload_n 0, 1) := by decide +kernel
theorem dX6_layRow_18 : decode cX6_layRow 18 = .ok (.getfield 20, 3) := by decide +kernel
theorem dX6_layRow_21 : decode cX6_layRow 21 = .ok (.bipush 40, 2) := by decide +kernel
theorem dX6_layRow_23 : decode cX6_layRow 23 = .ok (.iload_n 1, 1) := by decide +kernel
theorem dX6_layRow_24 : decode cX6_layRow 24 = .ok (.imul, 1) := by decide +kernel
theorem dX6_layRow_25 : decode cX6_layRow 25 = .ok (.iload 4, 2) := by decide +kernel
theorem dX6_layRow_27 : decode cX6_layRow 27 = .ok (.iadd, 1) := by decide +kernel
theorem dX6_layRow_28 : decode cX6_layRow 28 = .ok (.iload 4, 2) := by decide +kernel
theorem dX6_layRow_30 : decode cX6_layRow 30 = .ok (.iload_n 3, 1) := by decide +kernel
theorem dX6_layRow_31 : decode cX6_layRow 31 = .ok (.if_icmp .ge 10, 3) := by decide +kernel
theorem dX6_layRow_34 : decode cX6_layRow 34 = .ok (.aload_n 2, 1) := by decide +kernel
theorem dX6_layRow_35 : decode cX6_layRow 35 = .ok (.iload 4, 2) := by decide +kernel
theorem dX6_layRow_37 : decode cX6_layRow 37 = .ok (.iaload, 1) := by decide +kernel
theorem dX6_layRow_38 : decode cX6_layRow 38 = .ok (.goto 4, 3) := by decide +kernel
theorem dX6_layRow_41 : decode cX6_layRow 41 = .ok (.iconst 0, 1) := by decide +kernel
theorem dX6_layRow_42 : decode cX6_layRow 42 = .ok (.iastore, 1) := by decide +kernel
theorem dX6_layRow_43 : decode cX6_layRow 43 = .ok (.iinc 4 1, 3) := by decide +kernel
theorem dX6_layRow_46 : decode cX6_layRow 46 = .ok (.goto (-36), 3) := by decide +kernel
theorem dX6_layRow_49 : decode cX6_layRow 49 = .ok (.return_, 1) := by decide +kernel
theorem dX6_kindOf_0 : decode cX6_kindOf 0 = .ok (.iload_n 0, 1) := by decide +kernel
theorem dX6_kindOf_1 : decode cX6_kindOf 1 = .ok (.lookupswitch 71 #[(99, 63), (102, 69), (104, 65), (114, 59), (115, 61), (121, 67)], 59) := by decide +kernel
theorem dX6_kindOf_60 : decode cX6_kindOf 60 = .ok (.iconst 0, 1) := by decide +kernel
theorem dX6_kindOf_61 : decode cX6_kindOf 61 = .ok (.ireturn, 1) := by decide +kernel
theorem dX6_kindOf_62 : decode cX6_kindOf 62 = .ok (.iconst 1, 1) := by decide +kernel
theorem dX6_kindOf_63 : decode cX6_kindOf 63 = .ok (.ireturn, 1) := by decide +kernel
theorem dX6_kindOf_64 : decode cX6_kindOf 64 = .ok (.iconst 2, 1) := by decide +kernel
theorem dX6_kindOf_65 : decode cX6_kindOf 65 = .ok (.ireturn, 1) := by decide +kernel
theorem dX6_kindOf_66 : decode cX6_kindOf 66 = .ok (.iconst 3, 1) := by decide +kernel
theorem dX6_kindOf_67 : decode cX6_kindOf 67 = .ok (.ireturn, 1) := by decide +kernel
theorem dX6_kindOf_68 : decode cX6_kindOf 68 = .ok (.iconst 4, 1) := by decide +kernel
theorem dX6_kindOf_69 : decode cX6_kindOf 69 = .ok (.ireturn, 1) := by decide +kernel
theorem dX6_kindOf_70 : decode cX6_kindOf 70 = .ok (.iconst 5, 1) := by decide +kernel
theorem dX6_kindOf_71 : decode cX6_kindOf 71 = .ok (.ireturn, 1) := by decide +kernel
theorem dX6_kindOf_72 : decode cX6_kindOf 72 = .ok (.bipush (-9), 2) := by decide +kernel
theorem dX6_kindOf_74 : decode cX6_kindOf 74 = .ok (.ireturn, 1) := by decide +kernel
theorem dX6_lowOf_0 : decode cX6_lowOf 0 = .ok (.iload_n 0, 1) := by decide +kernel
theorem dX6_lowOf_1 : decode cX6_lowOf 1 = .ok (.iconst 5, 1) := by decide +kernel
theorem dX6_lowOf_2 : decode cX6_lowOf 2 = .ok (.if_icmp .ne 7, 3) := by decide +kernel
theorem dX6_lowOf_5 : decode cX6_lowOf 5 = .ok (.iconst 1, 1) := by decide +kernel
theorem dX6_lowOf_6 : decode cX6_lowOf 6 = .ok (.goto 4, 3) := by decide +kernel
theorem dX6_lowOf_9 : decode cX6_lowOf 9 = .ok (.iconst 0, 1) := by decide +kernel
theorem dX6_lowOf_10 : decode cX6_lowOf 10 = .ok (.ireturn, 1) := by decide +kernel
theorem dX6_highOf_0 : decode cX6_highOf 0 = .ok (.iload_n 0, 1) := by decide +kernel
theorem dX6_highOf_1 : decode cX6_highOf 1 = .ok (.iconst 3, 1) := by decide +kernel
theorem dX6_highOf_2 : decode cX6_highOf 2 = .ok (.if_icmp .ge 7, 3) := by decide +kernel
theorem dX6_highOf_5 : decode cX6_highOf 5 = .ok (.iconst 3, 1) := by decide +kernel
theorem dX6_highOf_6 : decode cX6_highOf 6 = .ok (.goto 14, 3) := by decide +kernel
theorem dX6_highOf_9 : decode cX6_highOf 9 = .ok (.iload_n 0, 1) := by decide +kernel
theorem dX6_highOf_10 : decode cX6_highOf 10 = .ok (.iconst 5, 1) := by decide +kernel
theorem dX6_highOf_11 : decode cX6_highOf 11 = .ok (.if_icmp .ge 7, 3) := by decide +kernel
theorem dX6_highOf_14 : decode cX6_highOf 14 = .ok (.iconst 5, 1) := by decide +kernel
theorem dX6_highOf_15 : decode cX6_highOf 15 = .ok (.goto 5, 3) := by decide +kernel
theorem dX6_highOf_18 : decode cX6_highOf 18 = .ok (.bipush 9, 2) := by decide +kernel
theorem dX6_highOf_20 : decode cX6_highOf 20 = .ok (.ireturn, 1) := by decide +kernel
theorem dX6_readsOne_0 : decode cX6_readsOne 0 = .ok (.aload_n 0, 1) := by decide +kernel
theorem dX6_readsOne_1 : decode cX6_readsOne 1 = .ok (.iload_n 1, 1) := by decide +kernel
theorem dX6_readsOne_2 : decode cX6_readsOne 2 = .ok (.aload_n 0, 1) := by decide +kernel
theorem dX6_readsOne_3 : decode cX6_readsOne 3 = .ok (.getfield 111, 3) := by decide +kernel
theorem dX6_readsOne_6 : decode cX6_readsOne 6 = .ok (.invokevirtual 114, 3) := by decide +kernel
theorem dX6_readsOne_9 : decode cX6_readsOne 9 = .ok (.invokestatic 117, 3) := by decide +kernel
theorem dX6_readsOne_12 : decode cX6_readsOne 12 = .ok (.istore_n 2, 1) := by decide +kernel
theorem dX6_readsOne_13 : decode cX6_readsOne 13 = .ok (.iload_n 2, 1) := by decide +kernel
theorem dX6_readsOne_14 : decode cX6_readsOne 14 = .ok (.bipush (-9), 2) := by decide +kernel
theorem dX6_readsOne_16 : decode cX6_readsOne 16 = .ok (.if_icmp .eq 12, 3) := by decide +kernel
theorem dX6_readsOne_19 : decode cX6_readsOne 19 = .ok (.aload_n 0, 1) := by decide +kernel
theorem dX6_readsOne_20 : decode cX6_readsOne 20 = .ok (.getfield 120, 3) := by decide +kernel
theorem dX6_readsOne_23 : decode cX6_readsOne 23 = .ok (.bipush 6, 2) := by decide +kernel
theorem dX6_readsOne_25 : decode cX6_readsOne 25 = .ok (.if_icmp .ne 5, 3) := by decide +kernel
theorem dX6_readsOne_28 : decode cX6_readsOne 28 = .ok (.iconst 0, 1) := by decide +kernel
theorem dX6_readsOne_29 : decode cX6_readsOne 29 = .ok (.ireturn, 1) := by decide +kernel
theorem dX6_readsOne_30 : decode cX6_readsOne 30 = .ok (.bipush 6, 2) := by decide +kernel
theorem dX6_readsOne_32 : decode cX6_readsOne 32 = .ok (.aload_n 0, 1) := by decide +kernel
theorem dX6_readsOne_33 : decode cX6_readsOne 33 = .ok (.getfield 120, 3) := by decide +kernel
theorem dX6_readsOne_36 : decode cX6_readsOne 36 = .ok (.imul, 1) := by decide +kernel
theorem dX6_readsOne_37 : decode cX6_readsOne 37 = .ok (.istore_n 3, 1) := by decide +kernel
theorem dX6_readsOne_38 : decode cX6_readsOne 38 = .ok (.aload_n 0, 1) := by decide +kernel
theorem dX6_readsOne_39 : decode cX6_readsOne 39 = .ok (.dup, 1) := by decide +kernel
theorem dX6_readsOne_40 : decode cX6_readsOne 40 = .ok (.getfield 111, 3) := by decide +kernel
theorem dX6_readsOne_43 : decode cX6_readsOne 43 = .ok (.iconst 1, 1) := by decide +kernel
theorem dX6_readsOne_44 : decode cX6_readsOne 44 = .ok (.iadd, 1) := by decide +kernel
theorem dX6_readsOne_45 : decode cX6_readsOne 45 = .ok (.putfield 111, 3) := by decide +kernel
theorem dX6_readsOne_48 : decode cX6_readsOne 48 = .ok (.aload_n 0, 1) := by decide +kernel
theorem dX6_readsOne_49 : decode cX6_readsOne 49 = .ok (.getfield 51, 3) := by decide +kernel
theorem dX6_readsOne_52 : decode cX6_readsOne 52 = .ok (.iload_n 3, 1) := by decide +kernel
theorem dX6_readsOne_53 : decode cX6_readsOne 53 = .ok (.iload_n 2, 1) := by decide +kernel
theorem dX6_readsOne_54 : decode cX6_readsOne 54 = .ok (.iastore, 1) := by decide +kernel
theorem dX6_readsOne_55 : decode cX6_readsOne 55 = .ok (.iconst 1, 1) := by decide +kernel
theorem dX6_readsOne_56 : decode cX6_readsOne 56 = .ok (.istore 4, 2) := by decide +kernel
theorem dX6_readsOne_58 : decode cX6_readsOne 58 = .ok (.iload 4, 2) := by decide +kernel
theorem dX6_readsOne_60 : decode cX6_readsOne 60 = .ok (.bipush 6, 2) := by decide +kernel
theorem dX6_readsOne_62 : decode cX6_readsOne 62 = .ok (.if_icmp .ge 64, 3) := by decide +kernel
theorem dX6_readsOne_65 : decode cX6_readsOne 65 = .ok (.aload_n 0, 1) := by decide +kernel
theorem dX6_readsOne_66 : decode cX6_readsOne 66 = .ok (.iload_n 1, 1) := by decide +kernel
theorem dX6_readsOne_67 : decode cX6_readsOne 67 = .ok (.aload_n 0, 1) := by decide +kernel
theorem dX6_readsOne_68 : decode cX6_readsOne 68 = .ok (.getfield 111, 3) := by decide +kernel
theorem dX6_readsOne_71 : decode cX6_readsOne 71 = .ok (.invokevirtual 114, 3) := by decide +kernel
theorem dX6_readsOne_74 : decode cX6_readsOne 74 = .ok (.bipush 48, 2) := by decide +kernel
theorem dX6_readsOne_76 : decode cX6_readsOne 76 = .ok (.isub, 1) := by decide +kernel
theorem dX6_readsOne_77 : decode cX6_readsOne 77 = .ok (.istore 5, 2) := by decide +kernel
theorem dX6_readsOne_79 : decode cX6_readsOne 79 = .ok (.iload 5, 2) := by decide +kernel
theorem dX6_readsOne_81 : decode cX6_readsOne 81 = .ok (.iload 4, 2) := by decide +kernel
theorem dX6_readsOne_83 : decode cX6_readsOne 83 = .ok (.invokestatic 123, 3) := by decide +kernel
theorem dX6_readsOne_86 : decode cX6_readsOne 86 = .ok (.iload 4, 2) := by decide +kernel
theorem dX6_readsOne_88 : decode cX6_readsOne 88 = .ok (.invokestatic 126, 3) := by decide +kernel
theorem dX6_readsOne_91 : decode cX6_readsOne 91 = .ok (.invokestatic 83, 3) := by decide +kernel
theorem dX6_readsOne_94 : decode cX6_readsOne 94 = .ok (.ifCond .ne 5, 3) := by decide +kernel
theorem dX6_readsOne_97 : decode cX6_readsOne 97 = .ok (.iconst 0, 1) := by decide +kernel
theorem dX6_readsOne_98 : decode cX6_readsOne 98 = .ok (.ireturn, 1) := by decide +kernel
theorem dX6_readsOne_99 : decode cX6_readsOne 99 = .ok (.aload_n 0, 1) := by decide +kernel
theorem dX6_readsOne_100 : decode cX6_readsOne 100 = .ok (.getfield 51, 3) := by decide +kernel
theorem dX6_readsOne_103 : decode cX6_readsOne 103 = .ok (.iload_n 3, 1) := by decide +kernel
theorem dX6_readsOne_104 : decode cX6_readsOne 104 = .ok (.iload 4, 2) := by decide +kernel
theorem dX6_readsOne_106 : decode cX6_readsOne 106 = .ok (.iadd, 1) := by decide +kernel
theorem dX6_readsOne_107 : decode cX6_readsOne 107 = .ok (.iload 5, 2) := by decide +kernel
theorem dX6_readsOne_109 : decode cX6_readsOne 109 = .ok (.iastore, 1) := by decide +kernel
theorem dX6_readsOne_110 : decode cX6_readsOne 110 = .ok (.aload_n 0, 1) := by decide +kernel
theorem dX6_readsOne_111 : decode cX6_readsOne 111 = .ok (.dup, 1) := by decide +kernel
theorem dX6_readsOne_112 : decode cX6_readsOne 112 = .ok (.getfield 111, 3) := by decide +kernel
theorem dX6_readsOne_115 : decode cX6_readsOne 115 = .ok (.iconst 1, 1) := by decide +kernel
theorem dX6_readsOne_116 : decode cX6_readsOne 116 = .ok (.iadd, 1) := by decide +kernel
theorem dX6_readsOne_117 : decode cX6_readsOne 117 = .ok (.putfield 111, 3) := by decide +kernel
theorem dX6_readsOne_120 : decode cX6_readsOne 120 = .ok (.iinc 4 1, 3) := by decide +kernel
theorem dX6_readsOne_123 : decode cX6_readsOne 123 = .ok (.goto (-65), 3) := by decide +kernel
theorem dX6_readsOne_126 : decode cX6_readsOne 126 = .ok (.aload_n 0, 1) := by decide +kernel
theorem dX6_readsOne_127 : decode cX6_readsOne 127 = .ok (.dup, 1) := by decide +kernel
theorem dX6_readsOne_128 : decode cX6_readsOne 128 = .ok (.getfield 120, 3) := by decide +kernel
theorem dX6_readsOne_131 : decode cX6_readsOne 131 = .ok (.iconst 1, 1) := by decide +kernel
theorem dX6_readsOne_132 : decode cX6_readsOne 132 = .ok (.iadd, 1) := by decide +kernel
theorem dX6_readsOne_133 : decode cX6_readsOne 133 = .ok (.putfield 120, 3) := by decide +kernel
theorem dX6_readsOne_136 : decode cX6_readsOne 136 = .ok (.iconst 1, 1) := by decide +kernel
theorem dX6_readsOne_137 : decode cX6_readsOne 137 = .ok (.ireturn, 1) := by decide +kernel
theorem dX6_faultOf_0 : decode cX6_faultOf 0 = .ok (.aload_n 0, 1) := by decide +kernel
theorem dX6_faultOf_1 : decode cX6_faultOf 1 = .ok (.iconst 0, 1) := by decide +kernel
theorem dX6_faultOf_2 : decode cX6_faultOf 2 = .ok (.putfield 111, 3) := by decide +kernel
theorem dX6_faultOf_5 : decode cX6_faultOf 5 = .ok (.aload_n 0, 1) := by decide +kernel
theorem dX6_faultOf_6 : decode cX6_faultOf 6 = .ok (.iconst 0, 1) := by decide +kernel
theorem dX6_faultOf_7 : decode cX6_faultOf 7 = .ok (.putfield 120, 3) := by decide +kernel
theorem dX6_faultOf_10 : decode cX6_faultOf 10 = .ok (.aload_n 0, 1) := by decide +kernel
theorem dX6_faultOf_11 : decode cX6_faultOf 11 = .ok (.getfield 111, 3) := by decide +kernel
theorem dX6_faultOf_14 : decode cX6_faultOf 14 = .ok (.aload_n 0, 1) := by decide +kernel
theorem dX6_faultOf_15 : decode cX6_faultOf 15 = .ok (.getfield 26, 3) := by decide +kernel
theorem dX6_faultOf_18 : decode cX6_faultOf 18 = .ok (.iload_n 1, 1) := by decide +kernel
theorem dX6_faultOf_19 : decode cX6_faultOf 19 = .ok (.iaload, 1) := by decide +kernel
theorem dX6_faultOf_20 : decode cX6_faultOf 20 = .ok (.if_icmp .ge 43, 3) := by decide +kernel
theorem dX6_faultOf_23 : decode cX6_faultOf 23 = .ok (.aload_n 0, 1) := by decide +kernel
theorem dX6_faultOf_24 : decode cX6_faultOf 24 = .ok (.iload_n 1, 1) := by decide +kernel
theorem dX6_faultOf_25 : decode cX6_faultOf 25 = .ok (.aload_n 0, 1) := by decide +kernel
theorem dX6_faultOf_26 : decode cX6_faultOf 26 = .ok (.getfield 111, 3) := by decide +kernel
theorem dX6_faultOf_29 : decode cX6_faultOf 29 = .ok (.invokevirtual 114, 3) := by decide +kernel
theorem dX6_faultOf_32 : decode cX6_faultOf 32 = .ok (.bipush 32, 2) := by decide +kernel
theorem dX6_faultOf_34 : decode cX6_faultOf 34 = .ok (.if_icmp .ne 16, 3) := by decide +kernel
theorem dX6_faultOf_37 : decode cX6_faultOf 37 = .ok (.aload_n 0, 1) := by decide +kernel
theorem dX6_faultOf_38 : decode cX6_faultOf 38 = .ok (.dup, 1) := by decide +kernel
theorem dX6_faultOf_39 : decode cX6_faultOf 39 = .ok (.getfield 111, 3) := by decide +kernel
theorem dX6_faultOf_42 : decode cX6_faultOf 42 = .ok (.iconst 1, 1) := by decide +kernel
theorem dX6_faultOf_43 : decode cX6_faultOf 43 = .ok (.iadd, 1) := by decide +kernel
theorem dX6_faultOf_44 : decode cX6_faultOf 44 = .ok (.putfield 111, 3) := by decide +kernel
theorem dX6_faultOf_47 : decode cX6_faultOf 47 = .ok (.goto (-37), 3) := by decide +kernel
theorem dX6_faultOf_50 : decode cX6_faultOf 50 = .ok (.aload_n 0, 1) := by decide +kernel
theorem dX6_faultOf_51 : decode cX6_faultOf 51 = .ok (.iload_n 1, 1) := by decide +kernel
theorem dX6_faultOf_52 : decode cX6_faultOf 52 = .ok (.invokevirtual 129, 3) := by decide +kernel
theorem dX6_faultOf_55 : decode cX6_faultOf 55 = .ok (.ifCond .ne (-45), 3) := by decide +kernel
theorem dX6_faultOf_58 : decode cX6_faultOf 58 = .ok (.aload_n 0, 1) := by decide +kernel
theorem dX6_faultOf_59 : decode cX6_faultOf 59 = .ok (.getfield 111, 3) := by decide +kernel
theorem dX6_faultOf_62 : decode cX6_faultOf 62 = .ok (.ireturn, 1) := by decide +kernel
theorem dX6_faultOf_63 : decode cX6_faultOf 63 = .ok (.aload_n 0, 1) := by decide +kernel
theorem dX6_faultOf_64 : decode cX6_faultOf 64 = .ok (.getfield 120, 3) := by decide +kernel
theorem dX6_faultOf_67 : decode cX6_faultOf 67 = .ok (.ifCond .ne 12, 3) := by decide +kernel
theorem dX6_faultOf_70 : decode cX6_faultOf 70 = .ok (.aload_n 0, 1) := by decide +kernel
theorem dX6_faultOf_71 : decode cX6_faultOf 71 = .ok (.getfield 26, 3) := by decide +kernel
theorem dX6_faultOf_74 : decode cX6_faultOf 74 = .ok (.iload_n 1, 1) := by decide +kernel
theorem dX6_faultOf_75 : decode cX6_faultOf 75 = .ok (.iaload, 1) := by decide +kernel
theorem dX6_faultOf_76 : decode cX6_faultOf 76 = .ok (.goto 5, 3) := by decide +kernel
theorem dX6_faultOf_79 : decode cX6_faultOf 79 = .ok (.bipush (-9), 2) := by decide +kernel
theorem dX6_faultOf_81 : decode cX6_faultOf 81 = .ok (.ireturn, 1) := by decide +kernel
theorem dX6_fault_0 : decode cX6_fault 0 = .ok (.iload_n 1, 1) := by decide +kernel
theorem dX6_fault_1 : decode cX6_fault 1 = .ok (.invokestatic 108, 3) := by decide +kernel
theorem dX6_fault_4 : decode cX6_fault 4 = .ok (.ifCond .ne 5, 3) := by decide +kernel
theorem dX6_fault_7 : decode cX6_fault 7 = .ok (.iconst (-1), 1) := by decide +kernel
theorem dX6_fault_8 : decode cX6_fault 8 = .ok (.ireturn, 1) := by decide +kernel
theorem dX6_fault_9 : decode cX6_fault 9 = .ok (.aload_n 0, 1) := by decide +kernel
theorem dX6_fault_10 : decode cX6_fault 10 = .ok (.getfield 26, 3) := by decide +kernel
theorem dX6_fault_13 : decode cX6_fault 13 = .ok (.iload_n 1, 1) := by decide +kernel
theorem dX6_fault_14 : decode cX6_fault 14 = .ok (.iaload, 1) := by decide +kernel
theorem dX6_fault_15 : decode cX6_fault 15 = .ok (.ifCond .ge 11, 3) := by decide +kernel
theorem dX6_fault_18 : decode cX6_fault 18 = .ok (.aload_n 0, 1) := by decide +kernel
theorem dX6_fault_19 : decode cX6_fault 19 = .ok (.iconst 1, 1) := by decide +kernel
theorem dX6_fault_20 : decode cX6_fault 20 = .ok (.invokevirtual 97, 3) := by decide +kernel
theorem dX6_fault_23 : decode cX6_fault 23 = .ok (.goto 8, 3) := by decide +kernel
theorem dX6_fault_26 : decode cX6_fault 26 = .ok (.aload_n 0, 1) := by decide +kernel
theorem dX6_fault_27 : decode cX6_fault 27 = .ok (.iload_n 1, 1) := by decide +kernel
theorem dX6_fault_28 : decode cX6_fault 28 = .ok (.invokevirtual 132, 3) := by decide +kernel
theorem dX6_fault_31 : decode cX6_fault 31 = .ok (.ireturn, 1) := by decide +kernel
theorem dX6_shop_0 : decode cX6_shop 0 = .ok (.iload_n 1, 1) := by decide +kernel
theorem dX6_shop_1 : decode cX6_shop 1 = .ok (.invokestatic 108, 3) := by decide +kernel
theorem dX6_shop_4 : decode cX6_shop 4 = .ok (.ifCond .ne 5, 3) := by decide +kernel
theorem dX6_shop_7 : decode cX6_shop 7 = .ok (.iconst (-1), 1) := by decide +kernel
theorem dX6_shop_8 : decode cX6_shop 8 = .ok (.ireturn, 1) := by decide +kernel
theorem dX6_shop_9 : decode cX6_shop 9 = .ok (.aload_n 0, 1) := by decide +kernel
theorem dX6_shop_10 : decode cX6_shop 10 = .ok (.getfield 26, 3) := by decide +kernel
theorem dX6_shop_13 : decode cX6_shop 13 = .ok (.iload_n 1, 1) := by decide +kernel
theorem dX6_shop_14 : decode cX6_shop 14 = .ok (.iaload, 1) := by decide +kernel
theorem dX6_shop_15 : decode cX6_shop 15 = .ok (.ifCond .ge 9, 3) := by decide +kernel
theorem dX6_shop_18 : decode cX6_shop 18 = .ok (.aload_n 0, 1) := by decide +kernel
theorem dX6_shop_19 : decode cX6_shop 19 = .ok (.iconst 1, 1) := by decide +kernel
theorem dX6_shop_20 : decode cX6_shop 20 = .ok (.invokevirtual 97, 3) := by decide +kernel
theorem dX6_shop_23 : decode cX6_shop 23 = .ok (.ireturn, 1) := by decide +kernel
theorem dX6_shop_24 : decode cX6_shop 24 = .ok (.aload_n 0, 1) := by decide +kernel
theorem dX6_shop_25 : decode cX6_shop 25 = .ok (.iload_n 1, 1) := by decide +kernel
theorem dX6_shop_26 : decode cX6_shop 26 = .ok (.invokevirtual 132, 3) := by decide +kernel
theorem dX6_shop_29 : decode cX6_shop 29 = .ok (.bipush (-9), 2) := by decide +kernel
theorem dX6_shop_31 : decode cX6_shop 31 = .ok (.if_icmp .eq 6, 3) := by decide +kernel
theorem dX6_shop_34 : decode cX6_shop 34 = .ok (.bipush (-4), 2) := by decide +kernel
theorem dX6_shop_36 : decode cX6_shop 36 = .ok (.ireturn, 1) := by decide +kernel
theorem dX6_shop_37 : decode cX6_shop 37 = .ok (.aload_n 0, 1) := by decide +kernel
theorem dX6_shop_38 : decode cX6_shop 38 = .ok (.aload_n 0, 1) := by decide +kernel
theorem dX6_shop_39 : decode cX6_shop 39 = .ok (.getfield 120, 3) := by decide +kernel
theorem dX6_shop_42 : decode cX6_shop 42 = .ok (.putfield 135, 3) := by decide +kernel
theorem dX6_shop_45 : decode cX6_shop 45 = .ok (.iconst 0, 1) := by decide +kernel
theorem dX6_shop_46 : decode cX6_shop 46 = .ok (.istore_n 2, 1) := by decide +kernel
theorem dX6_shop_47 : decode cX6_shop 47 = .ok (.iload_n 2, 1) := by decide +kernel
theorem dX6_shop_48 : decode cX6_shop 48 = .ok (.aload_n 0, 1) := by decide +kernel
theorem dX6_shop_49 : decode cX6_shop 49 = .ok (.getfield 135, 3) := by decide +kernel
theorem dX6_shop_52 : decode cX6_shop 52 = .ok (.if_icmp .ge 109, 3) := by decide +kernel
theorem dX6_shop_55 : decode cX6_shop 55 = .ok (.aload_n 0, 1) := by decide +kernel
theorem dX6_shop_56 : decode cX6_shop 56 = .ok (.getfield 33, 3) := by decide +kernel
theorem dX6_shop_59 : decode cX6_shop 59 = .ok (.iload_n 2, 1) := by decide +kernel
theorem dX6_shop_60 : decode cX6_shop 60 = .ok (.aload_n 0, 1) := by decide +kernel
theorem dX6_shop_61 : decode cX6_shop 61 = .ok (.getfield 51, 3) := by decide +kernel
theorem dX6_shop_64 : decode cX6_shop 64 = .ok (.bipush 6, 2) := by decide +kernel
theorem dX6_shop_66 : decode cX6_shop 66 = .ok (.iload_n 2, 1) := by decide +kernel
theorem dX6_shop_67 : decode cX6_shop 67 = .ok (.imul, 1) := by decide +kernel
theorem dX6_shop_68 : decode cX6_shop 68 = .ok (.iaload, 1) := by decide +kernel
theorem dX6_shop_69 : decode cX6_shop 69 = .ok (.iastore, 1) := by decide +kernel
theorem dX6_shop_70 : decode cX6_shop 70 = .ok (.aload_n 0, 1) := by decide +kernel
theorem dX6_shop_71 : decode cX6_shop 71 = .ok (.getfield 36, 3) := by decide +kernel
theorem dX6_shop_74 : decode cX6_shop 74 = .ok (.iload_n 2, 1) := by decide +kernel
theorem dX6_shop_75 : decode cX6_shop 75 = .ok (.aload_n 0, 1) := by decide +kernel
theorem dX6_shop_76 : decode cX6_shop 76 = .ok (.getfield 51, 3) := by decide +kernel
theorem dX6_shop_79 : decode cX6_shop 79 = .ok (.bipush 6, 2) := by decide +kernel
theorem dX6_shop_81 : decode cX6_shop 81 = .ok (.iload_n 2, 1) := by decide +kernel
theorem dX6_shop_82 : decode cX6_shop 82 = .ok (.imul, 1) := by decide +kernel
theorem dX6_shop_83 : decode cX6_shop 83 = .ok (.iconst 1, 1) := by decide +kernel
theorem dX6_shop_84 : decode cX6_shop 84 = .ok (.iadd, 1) := by decide +kernel
theorem dX6_shop_85 : decode cX6_shop 85 = .ok (.iaload, 1) := by decide +kernel
theorem dX6_shop_86 : decode cX6_shop 86 = .ok (.iastore, 1) := by decide +kernel
theorem dX6_shop_87 : decode cX6_shop 87 = .ok (.aload_n 0, 1) := by decide +kernel
theorem dX6_shop_88 : decode cX6_shop 88 = .ok (.getfield 39, 3) := by decide +kernel
theorem dX6_shop_91 : decode cX6_shop 91 = .ok (.iload_n 2, 1) := by decide +kernel
theorem dX6_shop_92 : decode cX6_shop 92 = .ok (.aload_n 0, 1) := by decide +kernel
theorem dX6_shop_93 : decode cX6_shop 93 = .ok (.getfield 51, 3) := by decide +kernel
theorem dX6_shop_96 : decode cX6_shop 96 = .ok (.bipush 6, 2) := by decide +kernel
theorem dX6_shop_98 : decode cX6_shop 98 = .ok (.iload_n 2, 1) := by decide +kernel
theorem dX6_shop_99 : decode cX6_shop 99 = .ok (.imul, 1) := by decide +kernel
theorem dX6_shop_100 : decode cX6_shop 100 = .ok (.iconst 2, 1) := by decide +kernel
theorem dX6_shop_101 : decode cX6_shop 101 = .ok (.iadd, 1) := by decide +kernel
theorem dX6_shop_102 : decode cX6_shop 102 = .ok (.iaload, 1) := by decide +kernel
theorem dX6_shop_103 : decode cX6_shop 103 = .ok (.iastore, 1) := by decide +kernel
theorem dX6_shop_104 : decode cX6_shop 104 = .ok (.aload_n 0, 1) := by decide +kernel
theorem dX6_shop_105 : decode cX6_shop 105 = .ok (.getfield 42, 3) := by decide +kernel
theorem dX6_shop_108 : decode cX6_shop 108 = .ok (.iload_n 2, 1) := by decide +kernel
theorem dX6_shop_109 : decode cX6_shop 109 = .ok (.aload_n 0, 1) := by decide +kernel
theorem dX6_shop_110 : decode cX6_shop 110 = .ok (.getfield 51, 3) := by decide +kernel
theorem dX6_shop_113 : decode cX6_shop 113 = .ok (.bipush 6, 2) := by decide +kernel
theorem dX6_shop_115 : decode cX6_shop 115 = .ok (.iload_n 2, 1) := by decide +kernel
theorem dX6_shop_116 : decode cX6_shop 116 = .ok (.imul, 1) := by decide +kernel
theorem dX6_shop_117 : decode cX6_shop 117 = .ok (.iconst 3, 1) := by decide +kernel
theorem dX6_shop_118 : decode cX6_shop 118 = .ok (.iadd, 1) := by decide +kernel
theorem dX6_shop_119 : decode cX6_shop 119 = .ok (.iaload, 1) := by decide +kernel
theorem dX6_shop_120 : decode cX6_shop 120 = .ok (.iastore, 1) := by decide +kernel
theorem dX6_shop_121 : decode cX6_shop 121 = .ok (.aload_n 0, 1) := by decide +kernel
theorem dX6_shop_122 : decode cX6_shop 122 = .ok (.getfield 45, 3) := by decide +kernel
theorem dX6_shop_125 : decode cX6_shop 125 = .ok (.iload_n 2, 1) := by decide +kernel
theorem dX6_shop_126 : decode cX6_shop 126 = .ok (.aload_n 0, 1) := by decide +kernel
theorem dX6_shop_127 : decode cX6_shop 127 = .ok (.getfield 51, 3) := by decide +kernel
theorem dX6_shop_130 : decode cX6_shop 130 = .ok (.bipush 6, 2) := by decide +kernel
theorem dX6_shop_132 : decode cX6_shop 132 = .ok (.iload_n 2, 1) := by decide +kernel
theorem dX6_shop_133 : decode cX6_shop 133 = .ok (.imul, 1) := by decide +kernel
theorem dX6_shop_134 : decode cX6_shop 134 = .ok (.iconst 4, 1) := by decide +kernel
theorem dX6_shop_135 : decode cX6_shop 135 = .ok (.iadd, 1) := by decide +kernel
theorem dX6_shop_136 : decode cX6_shop 136 = .ok (.iaload, 1) := by decide +kernel
theorem dX6_shop_137 : decode cX6_shop 137 = .ok (.iastore, 1) := by decide +kernel
theorem dX6_shop_138 : decode cX6_shop 138 = .ok (.aload_n 0, 1) := by decide +kernel
theorem dX6_shop_139 : decode cX6_shop 139 = .ok (.getfield 48, 3) := by decide +kernel
theorem dX6_shop_142 : decode cX6_shop 142 = .ok (.iload_n 2, 1) := by decide +kernel
theorem dX6_shop_143 : decode cX6_shop 143 = .ok (.aload_n 0, 1) := by decide +kernel
theorem dX6_shop_144 : decode cX6_shop 144 = .ok (.getfield 51, 3) := by decide +kernel
theorem dX6_shop_147 : decode cX6_shop 147 = .ok (.bipush 6, 2) := by decide +kernel
theorem dX6_shop_149 : decode cX6_shop 149 = .ok (.iload_n 2, 1) := by decide +kernel
theorem dX6_shop_150 : decode cX6_shop 150 = .ok (.imul, 1) := by decide +kernel
theorem dX6_shop_151 : decode cX6_shop 151 = .ok (.iconst 5, 1) := by decide +kernel
theorem dX6_shop_152 : decode cX6_shop 152 = .ok (.iadd, 1) := by decide +kernel
theorem dX6_shop_153 : decode cX6_shop 153 = .ok (.iaload, 1) := by decide +kernel
theorem dX6_shop_154 : decode cX6_shop 154 = .ok (.iastore, 1) := by decide +kernel
theorem dX6_shop_155 : decode cX6_shop 155 = .ok (.iinc 2 1, 3) := by decide +kernel
theorem dX6_shop_158 : decode cX6_shop 158 = .ok (.goto (-111), 3) := by decide +kernel
theorem dX6_shop_161 : decode cX6_shop 161 = .ok (.iconst 0, 1) := by decide +kernel
theorem dX6_shop_162 : decode cX6_shop 162 = .ok (.istore_n 2, 1) := by decide +kernel
theorem dX6_shop_163 : decode cX6_shop 163 = .ok (.iload_n 2, 1) := by decide +kernel
theorem dX6_shop_164 : decode cX6_shop 164 = .ok (.bipush 14, 2) := by decide +kernel
theorem dX6_shop_166 : decode cX6_shop 166 = .ok (.if_icmp .ge 16, 3) := by decide +kernel
theorem dX6_shop_169 : decode cX6_shop 169 = .ok (.aload_n 0, 1) := by decide +kernel
theorem dX6_shop_170 : decode cX6_shop 170 = .ok (.getfield 54, 3) := by decide +kernel
theorem dX6_shop_173 : decode cX6_shop 173 = .ok (.iload_n 2, 1) := by decide +kernel
theorem dX6_shop_174 : decode cX6_shop 174 = .ok (.iconst 0, 1) := by decide +kernel
theorem dX6_shop_175 : decode cX6_shop 175 = .ok (.iastore, 1) := by decide +kernel
theorem dX6_shop_176 : decode cX6_shop 176 = .ok (.iinc 2 1, 3) := by decide +kernel
theorem dX6_shop_179 : decode cX6_shop 179 = .ok (.goto (-16), 3) := by decide +kernel
theorem dX6_shop_182 : decode cX6_shop 182 = .ok (.aload_n 0, 1) := by decide +kernel
theorem dX6_shop_183 : decode cX6_shop 183 = .ok (.iconst 0, 1) := by decide +kernel
theorem dX6_shop_184 : decode cX6_shop 184 = .ok (.putfield 138, 3) := by decide +kernel
theorem dX6_shop_187 : decode cX6_shop 187 = .ok (.iconst 0, 1) := by decide +kernel
theorem dX6_shop_188 : decode cX6_shop 188 = .ok (.istore_n 2, 1) := by decide +kernel
theorem dX6_shop_189 : decode cX6_shop 189 = .ok (.iload_n 2, 1) := by decide +kernel
theorem dX6_shop_190 : decode cX6_shop 190 = .ok (.iconst 3, 1) := by decide +kernel
theorem dX6_shop_191 : decode cX6_shop 191 = .ok (.if_icmp .ge 16, 3) := by decide +kernel
theorem dX6_shop_194 : decode cX6_shop 194 = .ok (.aload_n 0, 1) := by decide +kernel
theorem dX6_shop_195 : decode cX6_shop 195 = .ok (.getfield 60, 3) := by decide +kernel
theorem dX6_shop_198 : decode cX6_shop 198 = .ok (.iload_n 2, 1) := by decide +kernel
theorem dX6_shop_199 : decode cX6_shop 199 = .ok (.iconst 0, 1) := by decide +kernel
theorem dX6_shop_200 : decode cX6_shop 200 = .ok (.bastore, 1) := by decide +kernel
theorem dX6_shop_201 : decode cX6_shop 201 = .ok (.iinc 2 1, 3) := by decide +kernel
theorem dX6_shop_204 : decode cX6_shop 204 = .ok (.goto (-15), 3) := by decide +kernel
theorem dX6_shop_207 : decode cX6_shop 207 = .ok (.aload_n 0, 1) := by decide +kernel
theorem dX6_shop_208 : decode cX6_shop 208 = .ok (.getfield 135, 3) := by decide +kernel
theorem dX6_shop_211 : decode cX6_shop 211 = .ok (.ireturn, 1) := by decide +kernel
theorem dX6_isRegular_0 : decode cX6_isRegular 0 = .ok (.iload_n 1, 1) := by decide +kernel
theorem dX6_isRegular_1 : decode cX6_isRegular 1 = .ok (.iconst 0, 1) := by decide +kernel
theorem dX6_isRegular_2 : decode cX6_isRegular 2 = .ok (.aload_n 0, 1) := by decide +kernel
theorem dX6_isRegular_3 : decode cX6_isRegular 3 = .ok (.getfield 135, 3) := by decide +kernel
theorem dX6_isRegular_6 : decode cX6_isRegular 6 = .ok (.iconst 1, 1) := by decide +kernel
theorem dX6_isRegular_7 : decode cX6_isRegular 7 = .ok (.isub, 1) := by decide +kernel
theorem dX6_isRegular_8 : decode cX6_isRegular 8 = .ok (.invokestatic 83, 3) := by decide +kernel
theorem dX6_isRegular_11 : decode cX6_isRegular 11 = .ok (.ireturn, 1) := by decide +kernel
theorem dX6_isThing_0 : decode cX6_isThing 0 = .ok (.iload_n 0, 1) := by decide +kernel
theorem dX6_isThing_1 : decode cX6_isThing 1 = .ok (.iconst 0, 1) := by decide +kernel
theorem dX6_isThing_2 : decode cX6_isThing 2 = .ok (.iconst 5, 1) := by decide +kernel
theorem dX6_isThing_3 : decode cX6_isThing 3 = .ok (.invokestatic 83, 3) := by decide +kernel
theorem dX6_isThing_6 : decode cX6_isThing 6 = .ok (.ireturn, 1) := by decide +kernel
theorem dX6_isLaid_0 : decode cX6_isLaid 0 = .ok (.iload_n 0, 1) := by decide +kernel
theorem dX6_isLaid_1 : decode cX6_isLaid 1 = .ok (.bipush (-9), 2) := by decide +kernel
theorem dX6_isLaid_3 : decode cX6_isLaid 3 = .ok (.if_icmp .eq 10, 3) := by decide +kernel
theorem dX6_isLaid_6 : decode cX6_isLaid 6 = .ok (.iload_n 0, 1) := by decide +kernel
theorem dX6_isLaid_7 : decode cX6_isLaid 7 = .ok (.invokestatic 141, 3) := by decide +kernel
theorem dX6_isLaid_10 : decode cX6_isLaid 10 = .ok (.ifCond .eq 7, 3) := by decide +kernel
theorem dX6_isLaid_13 : decode cX6_isLaid 13 = .ok (.iconst 1, 1) := by decide +kernel
theorem dX6_isLaid_14 : decode cX6_isLaid 14 = .ok (.goto 4, 3) := by decide +kernel
theorem dX6_isLaid_17 : decode cX6_isLaid 17 = .ok (.iconst 0, 1) := by decide +kernel
theorem dX6_isLaid_18 : decode cX6_isLaid 18 = .ok (.ireturn, 1) := by decide +kernel
theorem dX6_isOther_0 : decode cX6_isOther 0 = .ok (.iload_n 0, 1) := by decide +kernel
theorem dX6_isOther_1 : decode cX6_isOther 1 = .ok (.tableswitch 86 2 5 #[31, 86, 73, 42], 31) := by decide +kernel
theorem dX6_isOther_32 : decode cX6_isOther 32 = .ok (.iload_n 1, 1) := by decide +kernel
theorem dX6_isOther_33 : decode cX6_isOther 33 = .ok (.iconst 2, 1) := by decide +kernel
theorem dX6_isOther_34 : decode cX6_isOther 34 = .ok (.if_icmp .le 7, 3) := by decide +kernel
theorem dX6_isOther_37 : decode cX6_isOther 37 = .ok (.iconst 1, 1) := by decide +kernel
theorem dX6_isOther_38 : decode cX6_isOther 38 = .ok (.goto 4, 3) := by decide +kernel
theorem dX6_isOther_41 : decode cX6_isOther 41 = .ok (.iconst 0, 1) := by decide +kernel
theorem dX6_isOther_42 : decode cX6_isOther 42 = .ok (.ireturn, 1) := by decide +kernel
theorem dX6_isOther_43 : decode cX6_isOther 43 = .ok (.iload_n 1, 1) := by decide +kernel
theorem dX6_isOther_44 : decode cX6_isOther 44 = .ok (.iconst 5, 1) := by decide +kernel
theorem dX6_isOther_45 : decode cX6_isOther 45 = .ok (.irem, 1) := by decide +kernel
theorem dX6_isOther_46 : decode cX6_isOther 46 = .ok (.iconst 4, 1) := by decide +kernel
theorem dX6_isOther_47 : decode cX6_isOther 47 = .ok (.if_icmp .ne 16, 3) := by decide +kernel
theorem dX6_isOther_50 : decode cX6_isOther 50 = .ok (.iload_n 1, 1) := by decide +kernel
theorem dX6_isOther_51 : decode cX6_isOther 51 = .ok (.iconst 2, 1) := by decide +kernel
theorem dX6_isOther_52 : decode cX6_isOther 52 = .ok (.if_icmp .gt 7, 3) := by decide +kernel
theorem dX6_isOther_55 : decode cX6_isOther 55 = .ok (.iconst 1, 1) := by decide +kernel
theorem dX6_isOther_56 : decode cX6_isOther 56 = .ok (.goto 17, 3) := by decide +kernel
theorem dX6_isOther_59 : decode cX6_isOther 59 = .ok (.iconst 0, 1) := by decide +kernel
theorem dX6_isOther_60 : decode cX6_isOther 60 = .ok (.goto 13, 3) := by decide +kernel
theorem dX6_isOther_63 : decode cX6_isOther 63 = .ok (.iload_n 1, 1) := by decide +kernel
theorem dX6_isOther_64 : decode cX6_isOther 64 = .ok (.iconst 2, 1) := by decide +kernel
theorem dX6_isOther_65 : decode cX6_isOther 65 = .ok (.if_icmp .le 7, 3) := by decide +kernel
theorem dX6_isOther_68 : decode cX6_isOther 68 = .ok (.iconst 1, 1) := by decide +kernel
theorem dX6_isOther_69 : decode cX6_isOther 69 = .ok (.goto 4, 3) := by decide +kernel
theorem dX6_isOther_72 : decode cX6_isOther 72 = .ok (.iconst 0, 1) := by decide +kernel
theorem dX6_isOther_73 : decode cX6_isOther 73 = .ok (.ireturn, 1) := by decide +kernel
theorem dX6_isOther_74 : decode cX6_isOther 74 = .ok (.iload_n 1, 1) := by decide +kernel
theorem dX6_isOther_75 : decode cX6_isOther 75 = .ok (.iconst 2, 1) := by decide +kernel
theorem dX6_isOther_76 : decode cX6_isOther 76 = .ok (.irem, 1) := by decide +kernel
theorem dX6_isOther_77 : decode cX6_isOther 77 = .ok (.iconst 1, 1) := by decide +kernel
theorem dX6_isOther_78 : decode cX6_isOther 78 = .ok (.if_icmp .ne 7, 3) := by decide +kernel
theorem dX6_isOther_81 : decode cX6_isOther 81 = .ok (.iconst 1, 1) := by decide +kernel
theorem dX6_isOther_82 : decode cX6_isOther 82 = .ok (.goto 4, 3) := by decide +kernel
theorem dX6_isOther_85 : decode cX6_isOther 85 = .ok (.iconst 0, 1) := by decide +kernel
theorem dX6_isOther_86 : decode cX6_isOther 86 = .ok (.ireturn, 1) := by decide +kernel
theorem dX6_isOther_87 : decode cX6_isOther 87 = .ok (.iconst 0, 1) := by decide +kernel
theorem dX6_isOther_88 : decode cX6_isOther 88 = .ok (.ireturn, 1) := by decide +kernel
theorem dX6_wantsOn_0 : decode cX6_wantsOn 0 = .ok (.aload_n 0, 1) := by decide +kernel
theorem dX6_wantsOn_1 : decode cX6_wantsOn 1 = .ok (.getfield 33, 3) := by decide +kernel
theorem dX6_wantsOn_4 : decode cX6_wantsOn 4 = .ok (.iload_n 1, 1) := by decide +kernel
theorem dX6_wantsOn_5 : decode cX6_wantsOn 5 = .ok (.iaload, 1) := by decide +kernel
theorem dX6_wantsOn_6 : decode cX6_wantsOn 6 = .ok (.iload_n 2, 1) := by decide +kernel
theorem dX6_wantsOn_7 : decode cX6_wantsOn 7 = .ok (.invokestatic 144, 3) := by decide +kernel
theorem dX6_wantsOn_10 : decode cX6_wantsOn 10 = .ok (.ifCond .eq 12, 3) := by decide +kernel
theorem dX6_wantsOn_13 : decode cX6_wantsOn 13 = .ok (.aload_n 0, 1) := by decide +kernel
theorem dX6_wantsOn_14 : decode cX6_wantsOn 14 = .ok (.getfield 45, 3) := by decide +kernel
theorem dX6_wantsOn_17 : decode cX6_wantsOn 17 = .ok (.iload_n 1, 1) := by decide +kernel
theorem dX6_wantsOn_18 : decode cX6_wantsOn 18 = .ok (.iaload, 1) := by decide +kernel
theorem dX6_wantsOn_19 : decode cX6_wantsOn 19 = .ok (.goto 9, 3) := by decide +kernel
theorem dX6_wantsOn_22 : decode cX6_wantsOn 22 = .ok (.aload_n 0, 1) := by decide +kernel
theorem dX6_wantsOn_23 : decode cX6_wantsOn 23 = .ok (.getfield 42, 3) := by decide +kernel
theorem dX6_wantsOn_26 : decode cX6_wantsOn 26 = .ok (.iload_n 1, 1) := by decide +kernel
theorem dX6_wantsOn_27 : decode cX6_wantsOn 27 = .ok (.iaload, 1) := by decide +kernel
theorem dX6_wantsOn_28 : decode cX6_wantsOn 28 = .ok (.ireturn, 1) := by decide +kernel
theorem dX6_wantsNow_0 : decode cX6_wantsNow 0 = .ok (.aload_n 0, 1) := by decide +kernel
theorem dX6_wantsNow_1 : decode cX6_wantsNow 1 = .ok (.iload_n 1, 1) := by decide +kernel
theorem dX6_wantsNow_2 : decode cX6_wantsNow 2 = .ok (.aload_n 0, 1) := by decide +kernel
theorem dX6_wantsNow_3 : decode cX6_wantsNow 3 = .ok (.getfield 54, 3) := by decide +kernel
theorem dX6_wantsNow_6 : decode cX6_wantsNow 6 = .ok (.bipush 12, 2) := by decide +kernel
theorem dX6_wantsNow_8 : decode cX6_wantsNow 8 = .ok (.iaload, 1) := by decide +kernel
theorem dX6_wantsNow_9 : decode cX6_wantsNow 9 = .ok (.invokevirtual 148, 3) := by decide +kernel
theorem dX6_wantsNow_12 : decode cX6_wantsNow 12 = .ok (.ireturn, 1) := by decide +kernel
theorem dX6_isKnown_0 : decode cX6_isKnown 0 = .ok (.aload_n 0, 1) := by decide +kernel
theorem dX6_isKnown_1 : decode cX6_isKnown 1 = .ok (.getfield 54, 3) := by decide +kernel
theorem dX6_isKnown_4 : decode cX6_isKnown 4 = .ok (.iload_n 1, 1) := by decide +kernel
theorem dX6_isKnown_5 : decode cX6_isKnown 5 = .ok (.iaload, 1) := by decide +kernel
theorem dX6_isKnown_6 : decode cX6_isKnown 6 = .ok (.iconst 1, 1) := by decide +kernel
theorem dX6_isKnown_7 : decode cX6_isKnown 7 = .ok (.if_icmp .le 7, 3) := by decide +kernel
theorem dX6_isKnown_10 : decode cX6_isKnown 10 = .ok (.iconst 1, 1) := by decide +kernel
theorem dX6_isKnown_11 : decode cX6_isKnown 11 = .ok (.goto 4, 3) := by decide +kernel
theorem dX6_isKnown_14 : decode cX6_isKnown 14 = .ok (.iconst 0, 1) := by decide +kernel
theorem dX6_isKnown_15 : decode cX6_isKnown 15 = .ok (.ireturn, 1) := by decide +kernel
theorem dX6_isSilent_0 : decode cX6_isSilent 0 = .ok (.aload_n 0, 1) := by decide +kernel
theorem dX6_isSilent_1 : decode cX6_isSilent 1 = .ok (.getfield 33, 3) := by decide +kernel
theorem dX6_isSilent_4 : decode cX6_isSilent 4 = .ok (.iload_n 1, 1) := by decide +kernel
theorem dX6_isSilent_5 : decode cX6_isSilent 5 = .ok (.iaload, 1) := by decide +kernel
theorem dX6_isSilent_6 : decode cX6_isSilent 6 = .ok (.iconst 1, 1) := by decide +kernel
theorem dX6_isSilent_7 : decode cX6_isSilent 7 = .ok (.if_icmp .eq 13, 3) := by decide +kernel
theorem dX6_isSilent_10 : decode cX6_isSilent 10 = .ok (.aload_n 0, 1) := by decide +kernel
theorem dX6_isSilent_11 : decode cX6_isSilent 11 = .ok (.getfield 33, 3) := by decide +kernel
theorem dX6_isSilent_14 : decode cX6_isSilent 14 = .ok (.iload_n 1, 1) := by decide +kernel
theorem dX6_isSilent_15 : decode cX6_isSilent 15 = .ok (.iaload, 1) := by decide +kernel
theorem dX6_isSilent_16 : decode cX6_isSilent 16 = .ok (.iconst 4, 1) := by decide +kernel
theorem dX6_isSilent_17 : decode cX6_isSilent 17 = .ok (.if_icmp .ne 7, 3) := by decide +kernel
theorem dX6_isSilent_20 : decode cX6_isSilent 20 = .ok (.iconst 1, 1) := by decide +kernel
theorem dX6_isSilent_21 : decode cX6_isSilent 21 = .ok (.goto 4, 3) := by decide +kernel
theorem dX6_isSilent_24 : decode cX6_isSilent 24 = .ok (.iconst 0, 1) := by decide +kernel
theorem dX6_isSilent_25 : decode cX6_isSilent 25 = .ok (.ireturn, 1) := by decide +kernel
theorem dX6_askedIn_0 : decode cX6_askedIn 0 = .ok (.aload_n 0, 1) := by decide +kernel
theorem dX6_askedIn_1 : decode cX6_askedIn 1 = .ok (.iload_n 1, 1) := by decide +kernel
theorem dX6_askedIn_2 : decode cX6_askedIn 2 = .ok (.invokevirtual 151, 3) := by decide +kernel
theorem dX6_askedIn_5 : decode cX6_askedIn 5 = .ok (.ifCond .eq 8, 3) := by decide +kernel
theorem dX6_askedIn_8 : decode cX6_askedIn 8 = .ok (.bipush 30, 2) := by decide +kernel
theorem dX6_askedIn_10 : decode cX6_askedIn 10 = .ok (.goto 5, 3) := by decide +kernel
theorem dX6_askedIn_13 : decode cX6_askedIn 13 = .ok (.bipush 40, 2) := by decide +kernel
theorem dX6_askedIn_15 : decode cX6_askedIn 15 = .ok (.ireturn, 1) := by decide +kernel
theorem dX6_isSour_0 : decode cX6_isSour 0 = .ok (.iload_n 2, 1) := by decide +kernel
theorem dX6_isSour_1 : decode cX6_isSour 1 = .ok (.bipush (-9), 2) := by decide +kernel
theorem dX6_isSour_3 : decode cX6_isSour 3 = .ok (.if_icmp .eq 24, 3) := by decide +kernel
theorem dX6_isSour_6 : decode cX6_isSour 6 = .ok (.aload_n 0, 1) := by decide +kernel
theorem dX6_isSour_7 : decode cX6_isSour 7 = .ok (.iload_n 1, 1) := by decide +kernel
theorem dX6_isSour_8 : decode cX6_isSour 8 = .ok (.invokevirtual 154, 3) := by decide +kernel
theorem dX6_isSour_11 : decode cX6_isSour 11 = .ok (.ifCond .eq 16, 3) := by decide +kernel
theorem dX6_isSour_14 : decode cX6_isSour 14 = .ok (.aload_n 0, 1) := by decide +kernel
theorem dX6_isSour_15 : decode cX6_isSour 15 = .ok (.iload_n 1, 1) := by decide +kernel
theorem dX6_isSour_16 : decode cX6_isSour 16 = .ok (.invokevirtual 157, 3) := by decide +kernel
theorem dX6_isSour_19 : decode cX6_isSour 19 = .ok (.iload_n 2, 1) := by decide +kernel
theorem dX6_isSour_20 : decode cX6_isSour 20 = .ok (.if_icmp .eq 7, 3) := by decide +kernel
theorem dX6_isSour_23 : decode cX6_isSour 23 = .ok (.iconst 1, 1) := by decide +kernel
theorem dX6_isSour_24 : decode cX6_isSour 24 = .ok (.goto 4, 3) := by decide +kernel
theorem dX6_isSour_27 : decode cX6_isSour 27 = .ok (.iconst 0, 1) := by decide +kernel
theorem dX6_isSour_28 : decode cX6_isSour 28 = .ok (.ireturn, 1) := by decide +kernel
theorem dX6_takesIn_0 : decode cX6_takesIn 0 = .ok (.iload_n 2, 1) := by decide +kernel
theorem dX6_takesIn_1 : decode cX6_takesIn 1 = .ok (.bipush (-9), 2) := by decide +kernel
theorem dX6_takesIn_3 : decode cX6_takesIn 3 = .ok (.if_icmp .ne 9, 3) := by decide +kernel
theorem dX6_takesIn_6 : decode cX6_takesIn 6 = .ok (.aload_n 0, 1) := by decide +kernel
theorem dX6_takesIn_7 : decode cX6_takesIn 7 = .ok (.iload_n 1, 1) := by decide +kernel
theorem dX6_takesIn_8 : decode cX6_takesIn 8 = .ok (.invokevirtual 160, 3) := by decide +kernel
theorem dX6_takesIn_11 : decode cX6_takesIn 11 = .ok (.ireturn, 1) := by decide +kernel
theorem dX6_takesIn_12 : decode cX6_takesIn 12 = .ok (.aload_n 0, 1) := by decide +kernel
theorem dX6_takesIn_13 : decode cX6_takesIn 13 = .ok (.iload_n 1, 1) := by decide +kernel
theorem dX6_takesIn_14 : decode cX6_takesIn 14 = .ok (.invokevirtual 157, 3) := by decide +kernel
theorem dX6_takesIn_17 : decode cX6_takesIn 17 = .ok (.iload_n 2, 1) := by decide +kernel
theorem dX6_takesIn_18 : decode cX6_takesIn 18 = .ok (.if_icmp .eq 11, 3) := by decide +kernel
theorem dX6_takesIn_21 : decode cX6_takesIn 21 = .ok (.aload_n 0, 1) := by decide +kernel
theorem dX6_takesIn_22 : decode cX6_takesIn 22 = .ok (.iload_n 1, 1) := by decide +kernel
theorem dX6_takesIn_23 : decode cX6_takesIn 23 = .ok (.invokevirtual 154, 3) := by decide +kernel
theorem dX6_takesIn_26 : decode cX6_takesIn 26 = .ok (.ifCond .eq 6, 3) := by decide +kernel
theorem dX6_takesIn_29 : decode cX6_takesIn 29 = .ok (.bipush 9, 2) := by decide +kernel
theorem dX6_takesIn_31 : decode cX6_takesIn 31 = .ok (.ireturn, 1) := by decide +kernel
theorem dX6_takesIn_32 : decode cX6_takesIn 32 = .ok (.bipush 9, 2) := by decide +kernel
theorem dX6_takesIn_34 : decode cX6_takesIn 34 = .ok (.aload_n 0, 1) := by decide +kernel
theorem dX6_takesIn_35 : decode cX6_takesIn 35 = .ok (.iload_n 1, 1) := by decide +kernel
theorem dX6_takesIn_36 : decode cX6_takesIn 36 = .ok (.invokevirtual 160, 3) := by decide +kernel
theorem dX6_takesIn_39 : decode cX6_takesIn 39 = .ok (.iadd, 1) := by decide +kernel
theorem dX6_takesIn_40 : decode cX6_takesIn 40 = .ok (.aload_n 0, 1) := by decide +kernel
theorem dX6_takesIn_41 : decode cX6_takesIn 41 = .ok (.getfield 33, 3) := by decide +kernel
theorem dX6_takesIn_44 : decode cX6_takesIn 44 = .ok (.iload_n 1, 1) := by decide +kernel
theorem dX6_takesIn_45 : decode cX6_takesIn 45 = .ok (.iaload, 1) := by decide +kernel
theorem dX6_takesIn_46 : decode cX6_takesIn 46 = .ok (.iconst 3, 1) := by decide +kernel
theorem dX6_takesIn_47 : decode cX6_takesIn 47 = .ok (.if_icmp .ne 8, 3) := by decide +kernel
theorem dX6_takesIn_50 : decode cX6_takesIn 50 = .ok (.bipush 20, 2) := by decide +kernel
theorem dX6_takesIn_52 : decode cX6_takesIn 52 = .ok (.goto 5, 3) := by decide +kernel
theorem dX6_takesIn_55 : decode cX6_takesIn 55 = .ok (.bipush 10, 2) := by decide +kernel
theorem dX6_takesIn_57 : decode cX6_takesIn 57 = .ok (.iadd, 1) := by decide +kernel
theorem dX6_takesIn_58 : decode cX6_takesIn 58 = .ok (.ireturn, 1) := by decide +kernel
theorem dX6_regularTells_0 : decode cX6_regularTells 0 = .ok (.iload_n 2, 1) := by decide +kernel
theorem dX6_regularTells_1 : decode cX6_regularTells 1 = .ok (.tableswitch 106 0 7 #[47, 54, 61, 68, 75, 82, 89, 96], 47) := by decide +kernel
theorem dX6_regularTells_48 : decode cX6_regularTells 48 = .ok (.aload_n 0, 1) := by decide +kernel
theorem dX6_regularTells_49 : decode cX6_regularTells 49 = .ok (.getfield 33, 3) := by decide +kernel
theorem dX6_regularTells_52 : decode cX6_regularTells 52 = .ok (.iload_n 1, 1) := by decide +kernel
theorem dX6_regularTells_53 : decode cX6_regularTells 53 = .ok (.iaload, 1) := by decide +kernel
theorem dX6_regularTells_54 : decode cX6_regularTells 54 = .ok (.ireturn, 1) := by decide +kernel
theorem dX6_regularTells_55 : decode cX6_regularTells 55 = .ok (.aload_n 0, 1) := by decide +kernel
theorem dX6_regularTells_56 : decode cX6_regularTells 56 = .ok (.getfield 36, 3) := by decide +kernel
theorem dX6_regularTells_59 : decode cX6_regularTells 59 = .ok (.iload_n 1, 1) := by decide +kernel
theorem dX6_regularTells_60 : decode cX6_regularTells 60 = .ok (.iaload, 1) := by decide +kernel
theorem dX6_regularTells_61 : decode cX6_regularTells 61 = .ok (.ireturn, 1) := by decide +kernel
theorem dX6_regularTells_62 : decode cX6_regularTells 62 = .ok (.aload_n 0, 1) := by decide +kernel
theorem dX6_regularTells_63 : decode cX6_regularTells 63 = .ok (.getfield 39, 3) := by decide +kernel
theorem dX6_regularTells_66 : decode cX6_regularTells 66 = .ok (.iload_n 1, 1) := by decide +kernel
theorem dX6_regularTells_67 : decode cX6_regularTells 67 = .ok (.iaload, 1) := by decide +kernel
theorem dX6_regularTells_68 : decode cX6_regularTells 68 = .ok (.ireturn, 1) := by decide +kernel
theorem dX6_regularTells_69 : decode cX6_regularTells 69 = .ok (.aload_n 0, 1) := by decide +kernel
theorem dX6_regularTells_70 : decode cX6_regularTells 70 = .ok (.getfield 42, 3) := by decide +kernel
theorem dX6_regularTells_73 : decode cX6_regularTells 73 = .ok (.iload_n 1, 1) := by decide +kernel
theorem dX6_regularTells_74 : decode cX6_regularTells 74 = .ok (.iaload, 1) := by decide +kernel
theorem dX6_regularTells_75 : decode cX6_regularTells 75 = .ok (.ireturn, 1) := by decide +kernel
theorem dX6_regularTells_76 : decode cX6_regularTells 76 = .ok (.aload_n 0, 1) := by decide +kernel
theorem dX6_regularTells_77 : decode cX6_regularTells 77 = .ok (.getfield 45, 3) := by decide +kernel
theorem dX6_regularTells_80 : decode cX6_regularTells 80 = .ok (.iload_n 1, 1) := by decide +kernel
theorem dX6_regularTells_81 : decode cX6_regularTells 81 = .ok (.iaload, 1) := by decide +kernel
theorem dX6_regularTells_82 : decode cX6_regularTells 82 = .ok (.ireturn, 1) := by decide +kernel
theorem dX6_regularTells_83 : decode cX6_regularTells 83 = .ok (.aload_n 0, 1) := by decide +kernel
theorem dX6_regularTells_84 : decode cX6_regularTells 84 = .ok (.getfield 48, 3) := by decide +kernel
theorem dX6_regularTells_87 : decode cX6_regularTells 87 = .ok (.iload_n 1, 1) := by decide +kernel
theorem dX6_regularTells_88 : decode cX6_regularTells 88 = .ok (.iaload, 1) := by decide +kernel
theorem dX6_regularTells_89 : decode cX6_regularTells 89 = .ok (.ireturn, 1) := by decide +kernel
theorem dX6_regularTells_90 : decode cX6_regularTells 90 = .ok (.aload_n 0, 1) := by decide +kernel
theorem dX6_regularTells_91 : decode cX6_regularTells 91 = .ok (.getfield 54, 3) := by decide +kernel
theorem dX6_regularTells_94 : decode cX6_regularTells 94 = .ok (.iload_n 1, 1) := by decide +kernel
theorem dX6_regularTells_95 : decode cX6_regularTells 95 = .ok (.iaload, 1) := by decide +kernel
theorem dX6_regularTells_96 : decode cX6_regularTells 96 = .ok (.ireturn, 1) := by decide +kernel
theorem dX6_regularTells_97 : decode cX6_regularTells 97 = .ok (.aload_n 0, 1) := by decide +kernel
theorem dX6_regularTells_98 : decode cX6_regularTells 98 = .ok (.getfield 54, 3) := by decide +kernel
theorem dX6_regularTells_101 : decode cX6_regularTells 101 = .ok (.bipush 6, 2) := by decide +kernel
theorem dX6_regularTells_103 : decode cX6_regularTells 103 = .ok (.iload_n 1, 1) := by decide +kernel
theorem dX6_regularTells_104 : decode cX6_regularTells 104 = .ok (.iadd, 1) := by decide +kernel
theorem dX6_regularTells_105 : decode cX6_regularTells 105 = .ok (.iaload, 1) := by decide +kernel
theorem dX6_regularTells_106 : decode cX6_regularTells 106 = .ok (.ireturn, 1) := by decide +kernel
theorem dX6_regularTells_107 : decode cX6_regularTells 107 = .ok (.aload_n 0, 1) := by decide +kernel
theorem dX6_regularTells_108 : decode cX6_regularTells 108 = .ok (.iload_n 1, 1) := by decide +kernel
theorem dX6_regularTells_109 : decode cX6_regularTells 109 = .ok (.invokevirtual 157, 3) := by decide +kernel
theorem dX6_regularTells_112 : decode cX6_regularTells 112 = .ok (.ireturn, 1) := by decide +kernel
theorem dX6_regular_0 : decode cX6_regular 0 = .ok (.aload_n 0, 1) := by decide +kernel
theorem dX6_regular_1 : decode cX6_regular 1 = .ok (.iload_n 1, 1) := by decide +kernel
theorem dX6_regular_2 : decode cX6_regular 2 = .ok (.invokevirtual 163, 3) := by decide +kernel
theorem dX6_regular_5 : decode cX6_regular 5 = .ok (.ifCond .eq 27, 3) := by decide +kernel
theorem dX6_regular_8 : decode cX6_regular 8 = .ok (.iload_n 2, 1) := by decide +kernel
theorem dX6_regular_9 : decode cX6_regular 9 = .ok (.iconst 0, 1) := by decide +kernel
theorem dX6_regular_10 : decode cX6_regular 10 = .ok (.bipush 8, 2) := by decide +kernel
theorem dX6_regular_12 : decode cX6_regular 12 = .ok (.invokestatic 83, 3) := by decide +kernel
theorem dX6_regular_15 : decode cX6_regular 15 = .ok (.ifCond .eq 17, 3) := by decide +kernel
theorem dX6_regular_18 : decode cX6_regular 18 = .ok (.aload_n 0, 1) := by decide +kernel
theorem dX6_regular_19 : decode cX6_regular 19 = .ok (.aload_n 0, 1) := by decide +kernel
theorem dX6_regular_20 : decode cX6_regular 20 = .ok (.iload_n 1, 1) := by decide +kernel
theorem dX6_regular_21 : decode cX6_regular 21 = .ok (.iload_n 2, 1) := by decide +kernel
theorem dX6_regular_22 : decode cX6_regular 22 = .ok (.invokevirtual 166, 3) := by decide +kernel
theorem dX6_regular_25 : decode cX6_regular 25 = .ok (.iconst 1, 1) := by decide +kernel
theorem dX6_regular_26 : decode cX6_regular 26 = .ok (.invokevirtual 105, 3) := by decide +kernel
theorem dX6_regular_29 : decode cX6_regular 29 = .ok (.goto 4, 3) := by decide +kernel
theorem dX6_regular_32 : decode cX6_regular 32 = .ok (.iconst (-1), 1) := by decide +kernel
theorem dX6_regular_33 : decode cX6_regular 33 = .ok (.ireturn, 1) := by decide +kernel
theorem dX6_soursBy_0 : decode cX6_soursBy 0 = .ok (.iconst 0, 1) := by decide +kernel
theorem dX6_soursBy_1 : decode cX6_soursBy 1 = .ok (.istore_n 2, 1) := by decide +kernel
theorem dX6_soursBy_2 : decode cX6_soursBy 2 = .ok (.iconst 0, 1) := by decide +kernel
theorem dX6_soursBy_3 : decode cX6_soursBy 3 = .ok (.istore_n 3, 1) := by decide +kernel
theorem dX6_soursBy_4 : decode cX6_soursBy 4 = .ok (.iload_n 3, 1) := by decide +kernel
theorem dX6_soursBy_5 : decode cX6_soursBy 5 = .ok (.bipush 6, 2) := by decide +kernel
theorem dX6_soursBy_7 : decode cX6_soursBy 7 = .ok (.if_icmp .ge 26, 3) := by decide +kernel
theorem dX6_soursBy_10 : decode cX6_soursBy 10 = .ok (.iload_n 2, 1) := by decide +kernel
theorem dX6_soursBy_11 : decode cX6_soursBy 11 = .ok (.aload_n 0, 1) := by decide +kernel
theorem dX6_soursBy_12 : decode cX6_soursBy 12 = .ok (.iload_n 1, 1) := by decide +kernel
theorem dX6_soursBy_13 : decode cX6_soursBy 13 = .ok (.iload_n 3, 1) := by decide +kernel
theorem dX6_soursBy_14 : decode cX6_soursBy 14 = .ok (.invokevirtual 169, 3) := by decide +kernel
theorem dX6_soursBy_17 : decode cX6_soursBy 17 = .ok (.ifCond .eq 7, 3) := by decide +kernel
theorem dX6_soursBy_20 : decode cX6_soursBy 20 = .ok (.iconst 1, 1) := by decide +kernel
theorem dX6_soursBy_21 : decode cX6_soursBy 21 = .ok (.goto 4, 3) := by decide +kernel
theorem dX6_soursBy_24 : decode cX6_soursBy 24 = .ok (.iconst 0, 1) := by decide +kernel
theorem dX6_soursBy_25 : decode cX6_soursBy 25 = .ok (.iadd, 1) := by decide +kernel
theorem dX6_soursBy_26 : decode cX6_soursBy 26 = .ok (.istore_n 2, 1) := by decide +kernel
theorem dX6_soursBy_27 : decode cX6_soursBy 27 = .ok (.iinc 3 1, 3) := by decide +kernel
theorem dX6_soursBy_30 : decode cX6_soursBy 30 = .ok (.goto (-26), 3) := by decide +kernel
theorem dX6_soursBy_33 : decode cX6_soursBy 33 = .ok (.iload_n 2, 1) := by decide +kernel
theorem dX6_soursBy_34 : decode cX6_soursBy 34 = .ok (.ireturn, 1) := by decide +kernel
theorem dX6_changesIn_0 : decode cX6_changesIn 0 = .ok (.iconst 1, 1) := by decide +kernel
theorem dX6_changesIn_1 : decode cX6_changesIn 1 = .ok (.istore_n 2, 1) := by decide +kernel
theorem dX6_changesIn_2 : decode cX6_changesIn 2 = .ok (.iload_n 2, 1) := by decide +kernel
theorem dX6_changesIn_3 : decode cX6_changesIn 3 = .ok (.bipush 10, 2) := by decide +kernel
theorem dX6_changesIn_5 : decode cX6_changesIn 5 = .ok (.if_icmp .ge 33, 3) := by decide +kernel
theorem dX6_changesIn_8 : decode cX6_changesIn 8 = .ok (.aload_n 0, 1) := by decide +kernel
theorem dX6_changesIn_9 : decode cX6_changesIn 9 = .ok (.iload_n 1, 1) := by decide +kernel
theorem dX6_changesIn_10 : decode cX6_changesIn 10 = .ok (.aload_n 0, 1) := by decide +kernel
theorem dX6_changesIn_11 : decode cX6_changesIn 11 = .ok (.getfield 54, 3) := by decide +kernel
theorem dX6_changesIn_14 : decode cX6_changesIn 14 = .ok (.bipush 12, 2) := by decide +kernel
theorem dX6_changesIn_16 : decode cX6_changesIn 16 = .ok (.iaload, 1) := by decide +kernel
theorem dX6_changesIn_17 : decode cX6_changesIn 17 = .ok (.iload_n 2, 1) := by decide +kernel
theorem dX6_changesIn_18 : decode cX6_changesIn 18 = .ok (.iadd, 1) := by decide +kernel
theorem dX6_changesIn_19 : decode cX6_changesIn 19 = .ok (.invokevirtual 148, 3) := by decide +kernel
theorem dX6_changesIn_22 : decode cX6_changesIn 22 = .ok (.aload_n 0, 1) := by decide +kernel
theorem dX6_changesIn_23 : decode cX6_changesIn 23 = .ok (.iload_n 1, 1) := by decide +kernel
theorem dX6_changesIn_24 : decode cX6_changesIn 24 = .ok (.invokevirtual 157, 3) := by decide +kernel
theorem dX6_changesIn_27 : decode cX6_changesIn 27 = .ok (.if_icmp .eq 5, 3) := by decide +kernel
theorem dX6_changesIn_30 : decode cX6_changesIn 30 = .ok (.iload_n 2, 1) := by decide +kernel
theorem dX6_changesIn_31 : decode cX6_changesIn 31 = .ok (.ireturn, 1) := by decide +kernel
theorem dX6_changesIn_32 : decode cX6_changesIn 32 = .ok (.iinc 2 1, 3) := by decide +kernel
theorem dX6_changesIn_35 : decode cX6_changesIn 35 = .ok (.goto (-33), 3) := by decide +kernel
theorem dX6_changesIn_38 : decode cX6_changesIn 38 = .ok (.bipush (-9), 2) := by decide +kernel
theorem dX6_changesIn_40 : decode cX6_changesIn 40 = .ok (.ireturn, 1) := by decide +kernel
theorem dX6_looksLike_0 : decode cX6_looksLike 0 = .ok (.iconst 0, 1) := by decide +kernel
theorem dX6_looksLike_1 : decode cX6_looksLike 1 = .ok (.istore_n 2, 1) := by decide +kernel
theorem dX6_looksLike_2 : decode cX6_looksLike 2 = .ok (.iconst 0, 1) := by decide +kernel
theorem dX6_looksLike_3 : decode cX6_looksLike 3 = .ok (.istore_n 3, 1) := by decide +kernel
theorem dX6_looksLike_4 : decode cX6_looksLike 4 = .ok (.iload_n 3, 1) := by decide +kernel
theorem dX6_looksLike_5 : decode cX6_looksLike 5 = .ok (.aload_n 0, 1) := by decide +kernel
theorem dX6_looksLike_6 : decode cX6_looksLike 6 = .ok (.getfield 135, 3) := by decide +kernel
theorem dX6_looksLike_9 : decode cX6_looksLike 9 = .ok (.if_icmp .ge 52, 3) := by decide +kernel
theorem dX6_looksLike_12 : decode cX6_looksLike 12 = .ok (.iload_n 2, 1) := by decide +kernel
theorem dX6_looksLike_13 : decode cX6_looksLike 13 = .ok (.iload_n 3, 1) := by decide +kernel
theorem dX6_looksLike_14 : decode cX6_looksLike 14 = .ok (.iload_n 1, 1) := by decide +kernel
theorem dX6_looksLike_15 : decode cX6_looksLike 15 = .ok (.if_icmp .eq 37, 3) := by decide +kernel
theorem dX6_looksLike_18 : decode cX6_looksLike 18 = .ok (.aload_n 0, 1) := by decide +kernel
theorem dX6_looksLike_19 : decode cX6_looksLike 19 = .ok (.getfield 36, 3) := by decide +kernel
theorem dX6_looksLike_22 : decode cX6_looksLike 22 = .ok (.iload_n 3, 1) := by decide +kernel
theorem dX6_looksLike_23 : decode cX6_looksLike 23 = .ok (.iaload, 1) := by decide +kernel
theorem dX6_looksLike_24 : decode cX6_looksLike 24 = .ok (.aload_n 0, 1) := by decide +kernel
theorem dX6_looksLike_25 : decode cX6_looksLike 25 = .ok (.getfield 36, 3) := by decide +kernel
theorem dX6_looksLike_28 : decode cX6_looksLike 28 = .ok (.iload_n 1, 1) := by decide +kernel
theorem dX6_looksLike_29 : decode cX6_looksLike 29 = .ok (.iaload, 1) := by decide +kernel
theorem dX6_looksLike_30 : decode cX6_looksLike 30 = .ok (.if_icmp .ne 22, 3) := by decide +kernel
theorem dX6_looksLike_33 : decode cX6_looksLike 33 = .ok (.aload_n 0, 1) := by decide +kernel
theorem dX6_looksLike_34 : decode cX6_looksLike 34 = .ok (.getfield 39, 3) := by decide +kernel
theorem dX6_looksLike_37 : decode cX6_looksLike 37 = .ok (.iload_n 3, 1) := by decide +kernel
theorem dX6_looksLike_38 : decode cX6_looksLike 38 = .ok (.iaload, 1) := by decide +kernel
theorem dX6_looksLike_39 : decode cX6_looksLike 39 = .ok (.aload_n 0, 1) := by decide +kernel
theorem dX6_looksLike_40 : decode cX6_looksLike 40 = .ok (.getfield 39, 3) := by decide +kernel
theorem dX6_looksLike_43 : decode cX6_looksLike 43 = .ok (.iload_n 1, 1) := by decide +kernel
theorem dX6_looksLike_44 : decode cX6_looksLike 44 = .ok (.iaload, 1) := by decide +kernel
theorem dX6_looksLike_45 : decode cX6_looksLike 45 = .ok (.if_icmp .ne 7, 3) := by decide +kernel
theorem dX6_looksLike_48 : decode cX6_looksLike 48 = .ok (.iconst 1, 1) := by decide +kernel
theorem dX6_looksLike_49 : decode cX6_looksLike 49 = .ok (.goto 4, 3) := by decide +kernel
theorem dX6_looksLike_52 : decode cX6_looksLike 52 = .ok (.iconst 0, 1) := by decide +kernel
theorem dX6_looksLike_53 : decode cX6_looksLike 53 = .ok (.iadd, 1) := by decide +kernel
theorem dX6_looksLike_54 : decode cX6_looksLike 54 = .ok (.istore_n 2, 1) := by decide +kernel
theorem dX6_looksLike_55 : decode cX6_looksLike 55 = .ok (.iinc 3 1, 3) := by decide +kernel
theorem dX6_looksLike_58 : decode cX6_looksLike 58 = .ok (.goto (-54), 3) := by decide +kernel
theorem dX6_looksLike_61 : decode cX6_looksLike 61 = .ok (.iload_n 2, 1) := by decide +kernel
theorem dX6_looksLike_62 : decode cX6_looksLike 62 = .ok (.ireturn, 1) := by decide +kernel
theorem dX6_othersOf_0 : decode cX6_othersOf 0 = .ok (.iconst 0, 1) := by decide +kernel
theorem dX6_othersOf_1 : decode cX6_othersOf 1 = .ok (.istore_n 2, 1) := by decide +kernel
theorem dX6_othersOf_2 : decode cX6_othersOf 2 = .ok (.iconst 0, 1) := by decide +kernel
theorem dX6_othersOf_3 : decode cX6_othersOf 3 = .ok (.istore_n 3, 1) := by decide +kernel
theorem dX6_othersOf_4 : decode cX6_othersOf 4 = .ok (.iload_n 3, 1) := by decide +kernel
theorem dX6_othersOf_5 : decode cX6_othersOf 5 = .ok (.bipush 10, 2) := by decide +kernel
theorem dX6_othersOf_7 : decode cX6_othersOf 7 = .ok (.if_icmp .ge 32, 3) := by decide +kernel
theorem dX6_othersOf_10 : decode cX6_othersOf 10 = .ok (.iload_n 2, 1) := by decide +kernel
theorem dX6_othersOf_11 : decode cX6_othersOf 11 = .ok (.aload_n 0, 1) := by decide +kernel
theorem dX6_othersOf_12 : decode cX6_othersOf 12 = .ok (.iload_n 1, 1) := by decide +kernel
theorem dX6_othersOf_13 : decode cX6_othersOf 13 = .ok (.iload_n 3, 1) := by decide +kernel
theorem dX6_othersOf_14 : decode cX6_othersOf 14 = .ok (.invokevirtual 148, 3) := by decide +kernel
theorem dX6_othersOf_17 : decode cX6_othersOf 17 = .ok (.aload_n 0, 1) := by decide +kernel
theorem dX6_othersOf_18 : decode cX6_othersOf 18 = .ok (.getfield 45, 3) := by decide +kernel
theorem dX6_othersOf_21 : decode cX6_othersOf 21 = .ok (.iload_n 1, 1) := by decide +kernel
theorem dX6_othersOf_22 : decode cX6_othersOf 22 = .ok (.iaload, 1) := by decide +kernel
theorem dX6_othersOf_23 : decode cX6_othersOf 23 = .ok (.if_icmp .ne 7, 3) := by decide +kernel
theorem dX6_othersOf_26 : decode cX6_othersOf 26 = .ok (.iconst 1, 1) := by decide +kernel
theorem dX6_othersOf_27 : decode cX6_othersOf 27 = .ok (.goto 4, 3) := by decide +kernel
theorem dX6_othersOf_30 : decode cX6_othersOf 30 = .ok (.iconst 0, 1) := by decide +kernel
theorem dX6_othersOf_31 : decode cX6_othersOf 31 = .ok (.iadd, 1) := by decide +kernel
theorem dX6_othersOf_32 : decode cX6_othersOf 32 = .ok (.istore_n 2, 1) := by decide +kernel
theorem dX6_othersOf_33 : decode cX6_othersOf 33 = .ok (.iinc 3 1, 3) := by decide +kernel
theorem dX6_othersOf_36 : decode cX6_othersOf 36 = .ok (.goto (-32), 3) := by decide +kernel
theorem dX6_othersOf_39 : decode cX6_othersOf 39 = .ok (.iload_n 2, 1) := by decide +kernel
theorem dX6_othersOf_40 : decode cX6_othersOf 40 = .ok (.ireturn, 1) := by decide +kernel
theorem dX6_mark_0 : decode cX6_mark 0 = .ok (.aload_n 0, 1) := by decide +kernel
theorem dX6_mark_1 : decode cX6_mark 1 = .ok (.iload_n 1, 1) := by decide +kernel
theorem dX6_mark_2 : decode cX6_mark 2 = .ok (.invokevirtual 163, 3) := by decide +kernel
theorem dX6_mark_5 : decode cX6_mark 5 = .ok (.ifCond .eq 12, 3) := by decide +kernel
theorem dX6_mark_8 : decode cX6_mark 8 = .ok (.iload_n 2, 1) := by decide +kernel
theorem dX6_mark_9 : decode cX6_mark 9 = .ok (.iconst 1, 1) := by decide +kernel
theorem dX6_mark_10 : decode cX6_mark 10 = .ok (.iconst 5, 1) := by decide +kernel
theorem dX6_mark_11 : decode cX6_mark 11 = .ok (.invokestatic 83, 3) := by decide +kernel
theorem dX6_mark_14 : decode cX6_mark 14 = .ok (.ifCond .ne 5, 3) := by decide +kernel
theorem dX6_mark_17 : decode cX6_mark 17 = .ok (.iconst (-1), 1) := by decide +kernel
theorem dX6_mark_18 : decode cX6_mark 18 = .ok (.ireturn, 1) := by decide +kernel
theorem dX6_mark_19 : decode cX6_mark 19 = .ok (.aload_n 0, 1) := by decide +kernel
theorem dX6_mark_20 : decode cX6_mark 20 = .ok (.getfield 33, 3) := by decide +kernel
theorem dX6_mark_23 : decode cX6_mark 23 = .ok (.iload_n 1, 1) := by decide +kernel
theorem dX6_mark_24 : decode cX6_mark 24 = .ok (.iaload, 1) := by decide +kernel
theorem dX6_mark_25 : decode cX6_mark 25 = .ok (.istore_n 3, 1) := by decide +kernel
theorem dX6_mark_26 : decode cX6_mark 26 = .ok (.iload_n 3, 1) := by decide +kernel
theorem dX6_mark_27 : decode cX6_mark 27 = .ok (.iload_n 2, 1) := by decide +kernel
theorem dX6_mark_28 : decode cX6_mark 28 = .ok (.if_icmp .eq 29, 3) := by decide +kernel
theorem dX6_mark_31 : decode cX6_mark 31 = .ok (.iload_n 2, 1) := by decide +kernel
theorem dX6_mark_32 : decode cX6_mark 32 = .ok (.iconst 1, 1) := by decide +kernel
theorem dX6_mark_33 : decode cX6_mark 33 = .ok (.if_icmp .ne 8, 3) := by decide +kernel
theorem dX6_mark_36 : decode cX6_mark 36 = .ok (.iload_n 3, 1) := by decide +kernel
theorem dX6_mark_37 : decode cX6_mark 37 = .ok (.iconst 4, 1) := by decide +kernel
theorem dX6_mark_38 : decode cX6_mark 38 = .ok (.if_icmp .eq 19, 3) := by decide +kernel
theorem dX6_mark_41 : decode cX6_mark 41 = .ok (.iload_n 2, 1) := by decide +kernel
theorem dX6_mark_42 : decode cX6_mark 42 = .ok (.iconst 2, 1) := by decide +kernel
theorem dX6_mark_43 : decode cX6_mark 43 = .ok (.if_icmp .ne 8, 3) := by decide +kernel
theorem dX6_mark_46 : decode cX6_mark 46 = .ok (.iload_n 3, 1) := by decide +kernel
theorem dX6_mark_47 : decode cX6_mark 47 = .ok (.iconst 5, 1) := by decide +kernel
theorem dX6_mark_48 : decode cX6_mark 48 = .ok (.if_icmp .eq 9, 3) := by decide +kernel
theorem dX6_mark_51 : decode cX6_mark 51 = .ok (.aload_n 0, 1) := by decide +kernel
theorem dX6_mark_52 : decode cX6_mark 52 = .ok (.iconst 3, 1) := by decide +kernel
theorem dX6_mark_53 : decode cX6_mark 53 = .ok (.invokevirtual 97, 3) := by decide +kernel
theorem dX6_mark_56 : decode cX6_mark 56 = .ok (.ireturn, 1) := by decide +kernel
theorem dX6_mark_57 : decode cX6_mark 57 = .ok (.iload_n 2, 1) := by decide +kernel
theorem dX6_mark_58 : decode cX6_mark 58 = .ok (.tableswitch 60 1 4 #[30, 36, 42, 54], 30) := by decide +kernel
theorem dX6_mark_88 : decode cX6_mark 88 = .ok (.aload_n 0, 1) := by decide +kernel
theorem dX6_mark_89 : decode cX6_mark 89 = .ok (.iload_n 1, 1) := by decide +kernel
theorem dX6_mark_90 : decode cX6_mark 90 = .ok (.invokevirtual 172, 3) := by decide +kernel
theorem dX6_mark_93 : decode cX6_mark 93 = .ok (.ireturn, 1) := by decide +kernel
theorem dX6_mark_94 : decode cX6_mark 94 = .ok (.aload_n 0, 1) := by decide +kernel
theorem dX6_mark_95 : decode cX6_mark 95 = .ok (.iload_n 1, 1) := by decide +kernel
theorem dX6_mark_96 : decode cX6_mark 96 = .ok (.invokevirtual 175, 3) := by decide +kernel
theorem dX6_mark_99 : decode cX6_mark 99 = .ok (.ireturn, 1) := by decide +kernel
theorem dX6_mark_100 : decode cX6_mark 100 = .ok (.bipush 9, 2) := by decide +kernel
theorem dX6_mark_102 : decode cX6_mark 102 = .ok (.aload_n 0, 1) := by decide +kernel
theorem dX6_mark_103 : decode cX6_mark 103 = .ok (.iload_n 1, 1) := by decide +kernel
theorem dX6_mark_104 : decode cX6_mark 104 = .ok (.invokevirtual 160, 3) := by decide +kernel
theorem dX6_mark_107 : decode cX6_mark 107 = .ok (.iadd, 1) := by decide +kernel
theorem dX6_mark_108 : decode cX6_mark 108 = .ok (.bipush 20, 2) := by decide +kernel
theorem dX6_mark_110 : decode cX6_mark 110 = .ok (.iadd, 1) := by decide +kernel
theorem dX6_mark_111 : decode cX6_mark 111 = .ok (.ireturn, 1) := by decide +kernel
theorem dX6_mark_112 : decode cX6_mark 112 = .ok (.aload_n 0, 1) := by decide +kernel
theorem dX6_mark_113 : decode cX6_mark 113 = .ok (.iload_n 1, 1) := by decide +kernel
theorem dX6_mark_114 : decode cX6_mark 114 = .ok (.invokevirtual 178, 3) := by decide +kernel
theorem dX6_mark_117 : decode cX6_mark 117 = .ok (.ireturn, 1) := by decide +kernel
theorem dX6_mark_118 : decode cX6_mark 118 = .ok (.aload_n 0, 1) := by decide +kernel
theorem dX6_mark_119 : decode cX6_mark 119 = .ok (.iload_n 1, 1) := by decide +kernel
theorem dX6_mark_120 : decode cX6_mark 120 = .ok (.invokevirtual 181, 3) := by decide +kernel
theorem dX6_mark_123 : decode cX6_mark 123 = .ok (.ireturn, 1) := by decide +kernel
theorem dX6_other_0 : decode cX6_other 0 = .ok (.aload_n 0, 1) := by decide +kernel
theorem dX6_other_1 : decode cX6_other 1 = .ok (.iload_n 1, 1) := by decide +kernel
theorem dX6_other_2 : decode cX6_other 2 = .ok (.invokevirtual 163, 3) := by decide +kernel
theorem dX6_other_5 : decode cX6_other 5 = .ok (.ifCond .eq 10, 3) := by decide +kernel
theorem dX6_other_8 : decode cX6_other 8 = .ok (.iload_n 2, 1) := by decide +kernel
theorem dX6_other_9 : decode cX6_other 9 = .ok (.invokestatic 141, 3) := by decide +kernel
theorem dX6_other_12 : decode cX6_other 12 = .ok (.ifCond .ne 5, 3) := by decide +kernel
theorem dX6_other_15 : decode cX6_other 15 = .ok (.iconst (-1), 1) := by decide +kernel
theorem dX6_other_16 : decode cX6_other 16 = .ok (.ireturn, 1) := by decide +kernel
theorem dX6_other_17 : decode cX6_other 17 = .ok (.aload_n 0, 1) := by decide +kernel
theorem dX6_other_18 : decode cX6_other 18 = .ok (.getfield 138, 3) := by decide +kernel
theorem dX6_other_21 : decode cX6_other 21 = .ok (.ifCond .le 6, 3) := by decide +kernel
theorem dX6_other_24 : decode cX6_other 24 = .ok (.bipush (-4), 2) := by decide +kernel
theorem dX6_other_26 : decode cX6_other 26 = .ok (.ireturn, 1) := by decide +kernel
theorem dX6_other_27 : decode cX6_other 27 = .ok (.aload_n 0, 1) := by decide +kernel
theorem dX6_other_28 : decode cX6_other 28 = .ok (.getfield 45, 3) := by decide +kernel
theorem dX6_other_31 : decode cX6_other 31 = .ok (.iload_n 1, 1) := by decide +kernel
theorem dX6_other_32 : decode cX6_other 32 = .ok (.iaload, 1) := by decide +kernel
theorem dX6_other_33 : decode cX6_other 33 = .ok (.istore_n 3, 1) := by decide +kernel
theorem dX6_other_34 : decode cX6_other 34 = .ok (.aload_n 0, 1) := by decide +kernel
theorem dX6_other_35 : decode cX6_other 35 = .ok (.getfield 45, 3) := by decide +kernel
theorem dX6_other_38 : decode cX6_other 38 = .ok (.iload_n 1, 1) := by decide +kernel
theorem dX6_other_39 : decode cX6_other 39 = .ok (.iload_n 2, 1) := by decide +kernel
theorem dX6_other_40 : decode cX6_other 40 = .ok (.iastore, 1) := by decide +kernel
theorem dX6_other_41 : decode cX6_other 41 = .ok (.iload_n 3, 1) := by decide +kernel
theorem dX6_other_42 : decode cX6_other 42 = .ok (.ireturn, 1) := by decide +kernel
theorem dX6_remember_0 : decode cX6_remember 0 = .ok (.iconst 0, 1) := by decide +kernel
theorem dX6_remember_1 : decode cX6_remember 1 = .ok (.istore_n 1, 1) := by decide +kernel
theorem dX6_remember_2 : decode cX6_remember 2 = .ok (.iload_n 1, 1) := by decide +kernel
theorem dX6_remember_3 : decode cX6_remember 3 = .ok (.bipush 14, 2) := by decide +kernel
theorem dX6_remember_5 : decode cX6_remember 5 = .ok (.if_icmp .ge 29, 3) := by decide +kernel
theorem dX6_remember_8 : decode cX6_remember 8 = .ok (.aload_n 0, 1) := by decide +kernel
theorem dX6_remember_9 : decode cX6_remember 9 = .ok (.getfield 57, 3) := by decide +kernel
theorem dX6_remember_12 : decode cX6_remember 12 = .ok (.bipush 14, 2) := by decide +kernel
theorem dX6_remember_14 : decode cX6_remember 14 = .ok (.aload_n 0, 1) := by decide +kernel
theorem dX6_remember_15 : decode cX6_remember 15 = .ok (.getfield 138, 3) := by decide +kernel
theorem dX6_remember_18 : decode cX6_remember 18 = .ok (.imul, 1) := by decide +kernel
theorem dX6_remember_19 : decode cX6_remember 19 = .ok (.iload_n 1, 1) := by decide +kernel
theorem dX6_remember_20 : decode cX6_remember 20 = .ok (.iadd, 1) := by decide +kernel
theorem dX6_remember_21 : decode cX6_remember 21 = .ok (.aload_n 0, 1) := by decide +kernel
theorem dX6_remember_22 : decode cX6_remember 22 = .ok (.getfield 54, 3) := by decide +kernel
theorem dX6_remember_25 : decode cX6_remember 25 = .ok (.iload_n 1, 1) := by decide +kernel
theorem dX6_remember_26 : decode cX6_remember 26 = .ok (.iaload, 1) := by decide +kernel
theorem dX6_remember_27 : decode cX6_remember 27 = .ok (.iastore, 1) := by decide +kernel
theorem dX6_remember_28 : decode cX6_remember 28 = .ok (.iinc 1 1, 3) := by decide +kernel
theorem dX6_remember_31 : decode cX6_remember 31 = .ok (.goto (-29), 3) := by decide +kernel
theorem dX6_remember_34 : decode cX6_remember 34 = .ok (.aload_n 0, 1) := by decide +kernel
theorem dX6_remember_35 : decode cX6_remember 35 = .ok (.dup, 1) := by decide +kernel
theorem dX6_remember_36 : decode cX6_remember 36 = .ok (.getfield 138, 3) := by decide +kernel
theorem dX6_remember_39 : decode cX6_remember 39 = .ok (.iconst 1, 1) := by decide +kernel
theorem dX6_remember_40 : decode cX6_remember 40 = .ok (.iadd, 1) := by decide +kernel
theorem dX6_remember_41 : decode cX6_remember 41 = .ok (.putfield 138, 3) := by decide +kernel
theorem dX6_remember_44 : decode cX6_remember 44 = .ok (.return_, 1) := by decide +kernel
theorem dX6_serves_0 : decode cX6_serves 0 = .ok (.aload_n 0, 1) := by decide +kernel
theorem dX6_serves_1 : decode cX6_serves 1 = .ok (.iload_n 1, 1) := by decide +kernel
theorem dX6_serves_2 : decode cX6_serves 2 = .ok (.iload_n 2, 1) := by decide +kernel
theorem dX6_serves_3 : decode cX6_serves 3 = .ok (.invokevirtual 184, 3) := by decide +kernel
theorem dX6_serves_6 : decode cX6_serves 6 = .ok (.istore_n 3, 1) := by decide +kernel
theorem dX6_serves_7 : decode cX6_serves 7 = .ok (.aload_n 0, 1) := by decide +kernel
theorem dX6_serves_8 : decode cX6_serves 8 = .ok (.iload_n 1, 1) := by decide +kernel
theorem dX6_serves_9 : decode cX6_serves 9 = .ok (.iload_n 2, 1) := by decide +kernel
theorem dX6_serves_10 : decode cX6_serves 10 = .ok (.invokevirtual 169, 3) := by decide +kernel
theorem dX6_serves_13 : decode cX6_serves 13 = .ok (.istore 4, 2) := by decide +kernel
theorem dX6_serves_15 : decode cX6_serves 15 = .ok (.aload_n 0, 1) := by decide +kernel
theorem dX6_serves_16 : decode cX6_serves 16 = .ok (.invokevirtual 187, 3) := by decide +kernel
theorem dX6_serves_19 : decode cX6_serves 19 = .ok (.aload_n 0, 1) := by decide +kernel
theorem dX6_serves_20 : decode cX6_serves 20 = .ok (.getfield 54, 3) := by decide +kernel
theorem dX6_serves_23 : decode cX6_serves 23 = .ok (.iload_n 1, 1) := by decide +kernel
theorem dX6_serves_24 : decode cX6_serves 24 = .ok (.dup2, 1) := by decide +kernel
theorem dX6_serves_25 : decode cX6_serves 25 = .ok (.iaload, 1) := by decide +kernel
theorem dX6_serves_26 : decode cX6_serves 26 = .ok (.iconst 1, 1) := by decide +kernel
theorem dX6_serves_27 : decode cX6_serves 27 = .ok (.iadd, 1) := by decide +kernel
theorem dX6_serves_28 : decode cX6_serves 28 = .ok (.iastore, 1) := by decide +kernel
theorem dX6_serves_29 : decode cX6_serves 29 = .ok (.aload_n 0, 1) := by decide +kernel
theorem dX6_serves_30 : decode cX6_serves 30 = .ok (.getfield 54, 3) := by decide +kernel
theorem dX6_serves_33 : decode cX6_serves 33 = .ok (.bipush 6, 2) := by decide +kernel
theorem dX6_serves_35 : decode cX6_serves 35 = .ok (.iload_n 1, 1) := by decide +kernel
theorem dX6_serves_36 : decode cX6_serves 36 = .ok (.iadd, 1) := by decide +kernel
theorem dX6_serves_37 : decode cX6_serves 37 = .ok (.dup2, 1) := by decide +kernel
theorem dX6_serves_38 : decode cX6_serves 38 = .ok (.iaload, 1) := by decide +kernel
theorem dX6_serves_39 : decode cX6_serves 39 = .ok (.iload 4, 2) := by decide +kernel
theorem dX6_serves_41 : decode cX6_serves 41 = .ok (.ifCond .eq 7, 3) := by decide +kernel
theorem dX6_serves_44 : decode cX6_serves 44 = .ok (.iconst 1, 1) := by decide +kernel
theorem dX6_serves_45 : decode cX6_serves 45 = .ok (.goto 4, 3) := by decide +kernel
theorem dX6_serves_48 : decode cX6_serves 48 = .ok (.iconst 0, 1) := by decide +kernel
theorem dX6_serves_49 : decode cX6_serves 49 = .ok (.iadd, 1) := by decide +kernel
theorem dX6_serves_50 : decode cX6_serves 50 = .ok (.iastore, 1) := by decide +kernel
theorem dX6_serves_51 : decode cX6_serves 51 = .ok (.aload_n 0, 1) := by decide +kernel
theorem dX6_serves_52 : decode cX6_serves 52 = .ok (.getfield 54, 3) := by decide +kernel
theorem dX6_serves_55 : decode cX6_serves 55 = .ok (.bipush 13, 2) := by decide +kernel
theorem dX6_serves_57 : decode cX6_serves 57 = .ok (.dup2, 1) := by decide +kernel
theorem dX6_serves_58 : decode cX6_serves 58 = .ok (.iaload, 1) := by decide +kernel
theorem dX6_serves_59 : decode cX6_serves 59 = .ok (.iload_n 3, 1) := by decide +kernel
theorem dX6_serves_60 : decode cX6_serves 60 = .ok (.iadd, 1) := by decide +kernel
theorem dX6_serves_61 : decode cX6_serves 61 = .ok (.iastore, 1) := by decide +kernel
theorem dX6_serves_62 : decode cX6_serves 62 = .ok (.iload_n 3, 1) := by decide +kernel
theorem dX6_serves_63 : decode cX6_serves 63 = .ok (.ireturn, 1) := by decide +kernel
theorem dX6_serve_0 : decode cX6_serve 0 = .ok (.aload_n 0, 1) := by decide +kernel
theorem dX6_serve_1 : decode cX6_serve 1 = .ok (.iload_n 1, 1) := by decide +kernel
theorem dX6_serve_2 : decode cX6_serve 2 = .ok (.invokevirtual 163, 3) := by decide +kernel
theorem dX6_serve_5 : decode cX6_serve 5 = .ok (.ifCond .eq 10, 3) := by decide +kernel
theorem dX6_serve_8 : decode cX6_serve 8 = .ok (.iload_n 2, 1) := by decide +kernel
theorem dX6_serve_9 : decode cX6_serve 9 = .ok (.invokestatic 190, 3) := by decide +kernel
theorem dX6_serve_12 : decode cX6_serve 12 = .ok (.ifCond .ne 5, 3) := by decide +kernel
theorem dX6_serve_15 : decode cX6_serve 15 = .ok (.iconst (-1), 1) := by decide +kernel
theorem dX6_serve_16 : decode cX6_serve 16 = .ok (.ireturn, 1) := by decide +kernel
theorem dX6_serve_17 : decode cX6_serve 17 = .ok (.aload_n 0, 1) := by decide +kernel
theorem dX6_serve_18 : decode cX6_serve 18 = .ok (.getfield 54, 3) := by decide +kernel
theorem dX6_serve_21 : decode cX6_serve 21 = .ok (.bipush 13, 2) := by decide +kernel
theorem dX6_serve_23 : decode cX6_serve 23 = .ok (.iaload, 1) := by decide +kernel
theorem dX6_serve_24 : decode cX6_serve 24 = .ok (.aload_n 0, 1) := by decide +kernel
theorem dX6_serve_25 : decode cX6_serve 25 = .ok (.iload_n 1, 1) := by decide +kernel
theorem dX6_serve_26 : decode cX6_serve 26 = .ok (.iload_n 2, 1) := by decide +kernel
theorem dX6_serve_27 : decode cX6_serve 27 = .ok (.invokevirtual 184, 3) := by decide +kernel
theorem dX6_serve_30 : decode cX6_serve 30 = .ok (.iadd, 1) := by decide +kernel
theorem dX6_serve_31 : decode cX6_serve 31 = .ok (.sipush 9999, 3) := by decide +kernel
theorem dX6_serve_34 : decode cX6_serve 34 = .ok (.if_icmp .le 6, 3) := by decide +kernel
theorem dX6_serve_37 : decode cX6_serve 37 = .ok (.bipush (-4), 2) := by decide +kernel
theorem dX6_serve_39 : decode cX6_serve 39 = .ok (.ireturn, 1) := by decide +kernel
theorem dX6_serve_40 : decode cX6_serve 40 = .ok (.aload_n 0, 1) := by decide +kernel
theorem dX6_serve_41 : decode cX6_serve 41 = .ok (.getfield 138, 3) := by decide +kernel
theorem dX6_serve_44 : decode cX6_serve 44 = .ok (.bipush 60, 2) := by decide +kernel
theorem dX6_serve_46 : decode cX6_serve 46 = .ok (.if_icmp .ne 8, 3) := by decide +kernel
theorem dX6_serve_49 : decode cX6_serve 49 = .ok (.bipush (-2), 2) := by decide +kernel
theorem dX6_serve_51 : decode cX6_serve 51 = .ok (.goto 9, 3) := by decide +kernel
theorem dX6_serve_54 : decode cX6_serve 54 = .ok (.aload_n 0, 1) := by decide +kernel
theorem dX6_serve_55 : decode cX6_serve 55 = .ok (.iload_n 1, 1) := by decide +kernel
theorem dX6_serve_56 : decode cX6_serve 56 = .ok (.iload_n 2, 1) := by decide +kernel
theorem dX6_serve_57 : decode cX6_serve 57 = .ok (.invokevirtual 193, 3) := by decide +kernel
theorem dX6_serve_60 : decode cX6_serve 60 = .ok (.ireturn, 1) := by decide +kernel
theorem dX6_morning_0 : decode cX6_morning 0 = .ok (.aload_n 0, 1) := by decide +kernel
theorem dX6_morning_1 : decode cX6_morning 1 = .ok (.getfield 135, 3) := by decide +kernel
theorem dX6_morning_4 : decode cX6_morning 4 = .ok (.ifCond .ne 6, 3) := by decide +kernel
theorem dX6_morning_7 : decode cX6_morning 7 = .ok (.bipush (-4), 2) := by decide +kernel
theorem dX6_morning_9 : decode cX6_morning 9 = .ok (.ireturn, 1) := by decide +kernel
theorem dX6_morning_10 : decode cX6_morning 10 = .ok (.aload_n 0, 1) := by decide +kernel
theorem dX6_morning_11 : decode cX6_morning 11 = .ok (.getfield 138, 3) := by decide +kernel
theorem dX6_morning_14 : decode cX6_morning 14 = .ok (.bipush 60, 2) := by decide +kernel
theorem dX6_morning_16 : decode cX6_morning 16 = .ok (.if_icmp .ne 6, 3) := by decide +kernel
theorem dX6_morning_19 : decode cX6_morning 19 = .ok (.bipush (-2), 2) := by decide +kernel
theorem dX6_morning_21 : decode cX6_morning 21 = .ok (.ireturn, 1) := by decide +kernel
theorem dX6_morning_22 : decode cX6_morning 22 = .ok (.aload_n 0, 1) := by decide +kernel
theorem dX6_morning_23 : decode cX6_morning 23 = .ok (.invokevirtual 187, 3) := by decide +kernel
theorem dX6_morning_26 : decode cX6_morning 26 = .ok (.aload_n 0, 1) := by decide +kernel
theorem dX6_morning_27 : decode cX6_morning 27 = .ok (.getfield 54, 3) := by decide +kernel
theorem dX6_morning_30 : decode cX6_morning 30 = .ok (.bipush 12, 2) := by decide +kernel
theorem dX6_morning_32 : decode cX6_morning 32 = .ok (.dup2, 1) := by decide +kernel
theorem dX6_morning_33 : decode cX6_morning 33 = .ok (.iaload, 1) := by decide +kernel
theorem dX6_morning_34 : decode cX6_morning 34 = .ok (.iconst 1, 1) := by decide +kernel
theorem dX6_morning_35 : decode cX6_morning 35 = .ok (.iadd, 1) := by decide +kernel
theorem dX6_morning_36 : decode cX6_morning 36 = .ok (.iastore, 1) := by decide +kernel
theorem dX6_morning_37 : decode cX6_morning 37 = .ok (.aload_n 0, 1) := by decide +kernel
theorem dX6_morning_38 : decode cX6_morning 38 = .ok (.getfield 54, 3) := by decide +kernel
theorem dX6_morning_41 : decode cX6_morning 41 = .ok (.bipush 13, 2) := by decide +kernel
theorem dX6_morning_43 : decode cX6_morning 43 = .ok (.iconst 0, 1) := by decide +kernel
theorem dX6_morning_44 : decode cX6_morning 44 = .ok (.iastore, 1) := by decide +kernel
theorem dX6_morning_45 : decode cX6_morning 45 = .ok (.aload_n 0, 1) := by decide +kernel
theorem dX6_morning_46 : decode cX6_morning 46 = .ok (.getfield 54, 3) := by decide +kernel
theorem dX6_morning_49 : decode cX6_morning 49 = .ok (.bipush 12, 2) := by decide +kernel
theorem dX6_morning_51 : decode cX6_morning 51 = .ok (.iaload, 1) := by decide +kernel
theorem dX6_morning_52 : decode cX6_morning 52 = .ok (.ireturn, 1) := by decide +kernel
theorem dX6_undo_0 : decode cX6_undo 0 = .ok (.iload_n 1, 1) := by decide +kernel
theorem dX6_undo_1 : decode cX6_undo 1 = .ok (.iconst 0, 1) := by decide +kernel
theorem dX6_undo_2 : decode cX6_undo 2 = .ok (.aload_n 0, 1) := by decide +kernel
theorem dX6_undo_3 : decode cX6_undo 3 = .ok (.getfield 138, 3) := by decide +kernel
theorem dX6_undo_6 : decode cX6_undo 6 = .ok (.invokestatic 83, 3) := by decide +kernel
theorem dX6_undo_9 : decode cX6_undo 9 = .ok (.ifCond .ne 5, 3) := by decide +kernel
theorem dX6_undo_12 : decode cX6_undo 12 = .ok (.iconst (-1), 1) := by decide +kernel
theorem dX6_undo_13 : decode cX6_undo 13 = .ok (.ireturn, 1) := by decide +kernel
theorem dX6_undo_14 : decode cX6_undo 14 = .ok (.aload_n 0, 1) := by decide +kernel
theorem dX6_undo_15 : decode cX6_undo 15 = .ok (.getfield 138, 3) := by decide +kernel
theorem dX6_undo_18 : decode cX6_undo 18 = .ok (.iload_n 1, 1) := by decide +kernel
theorem dX6_undo_19 : decode cX6_undo 19 = .ok (.isub, 1) := by decide +kernel
theorem dX6_undo_20 : decode cX6_undo 20 = .ok (.istore_n 2, 1) := by decide +kernel
theorem dX6_undo_21 : decode cX6_undo 21 = .ok (.iconst 0, 1) := by decide +kernel
theorem dX6_undo_22 : decode cX6_undo 22 = .ok (.istore_n 3, 1) := by decide +kernel
theorem dX6_undo_23 : decode cX6_undo 23 = .ok (.iload_n 3, 1) := by decide +kernel
theorem dX6_undo_24 : decode cX6_undo 24 = .ok (.bipush 14, 2) := by decide +kernel
theorem dX6_undo_26 : decode cX6_undo 26 = .ok (.if_icmp .ge 30, 3) := by decide +kernel
theorem dX6_undo_29 : decode cX6_undo 29 = .ok (.iload_n 2, 1) := by decide +kernel
theorem dX6_undo_30 : decode cX6_undo 30 = .ok (.ifCond .le 26, 3) := by decide +kernel
theorem dX6_undo_33 : decode cX6_undo 33 = .ok (.aload_n 0, 1) := by decide +kernel
theorem dX6_undo_34 : decode cX6_undo 34 = .ok (.getfield 54, 3) := by decide +kernel
theorem dX6_undo_37 : decode cX6_undo 37 = .ok (.iload_n 3, 1) := by decide +kernel
theorem dX6_undo_38 : decode cX6_undo 38 = .ok (.aload_n 0, 1) := by decide +kernel
theorem dX6_undo_39 : decode cX6_undo 39 = .ok (.getfield 57, 3) := by decide +kernel
theorem dX6_undo_42 : decode cX6_undo 42 = .ok (.bipush 14, 2) := by decide +kernel
theorem dX6_undo_44 : decode cX6_undo 44 = .ok (.iload_n 1, 1) := by decide +kernel
theorem dX6_undo_45 : decode cX6_undo 45 = .ok (.imul, 1) := by decide +kernel
theorem dX6_undo_46 : decode cX6_undo 46 = .ok (.iload_n 3, 1) := by decide +kernel
theorem dX6_undo_47 : decode cX6_undo 47 = .ok (.iadd, 1) := by decide +kernel
theorem dX6_undo_48 : decode cX6_undo 48 = .ok (.iaload, 1) := by decide +kernel
theorem dX6_undo_49 : decode cX6_undo 49 = .ok (.iastore, 1) := by decide +kernel
theorem dX6_undo_50 : decode cX6_undo 50 = .ok (.iinc 3 1, 3) := by decide +kernel
theorem dX6_undo_53 : decode cX6_undo 53 = .ok (.goto (-30), 3) := by decide +kernel
theorem dX6_undo_56 : decode cX6_undo 56 = .ok (.aload_n 0, 1) := by decide +kernel
theorem dX6_undo_57 : decode cX6_undo 57 = .ok (.iload_n 1, 1) := by decide +kernel
theorem dX6_undo_58 : decode cX6_undo 58 = .ok (.putfield 138, 3) := by decide +kernel
theorem dX6_undo_61 : decode cX6_undo 61 = .ok (.iload_n 2, 1) := by decide +kernel
theorem dX6_undo_62 : decode cX6_undo 62 = .ok (.ireturn, 1) := by decide +kernel
theorem dX6_keep_0 : decode cX6_keep 0 = .ok (.iload_n 1, 1) := by decide +kernel
theorem dX6_keep_1 : decode cX6_keep 1 = .ok (.iconst 0, 1) := by decide +kernel
theorem dX6_keep_2 : decode cX6_keep 2 = .ok (.iconst 2, 1) := by decide +kernel
theorem dX6_keep_3 : decode cX6_keep 3 = .ok (.invokestatic 83, 3) := by decide +kernel
theorem dX6_keep_6 : decode cX6_keep 6 = .ok (.ifCond .ne 5, 3) := by decide +kernel
theorem dX6_keep_9 : decode cX6_keep 9 = .ok (.iconst (-1), 1) := by decide +kernel
theorem dX6_keep_10 : decode cX6_keep 10 = .ok (.ireturn, 1) := by decide +kernel
theorem dX6_keep_11 : decode cX6_keep 11 = .ok (.aload_n 0, 1) := by decide +kernel
theorem dX6_keep_12 : decode cX6_keep 12 = .ok (.getfield 135, 3) := by decide +kernel
theorem dX6_keep_15 : decode cX6_keep 15 = .ok (.ifCond .ne 6, 3) := by decide +kernel
theorem dX6_keep_18 : decode cX6_keep 18 = .ok (.bipush (-4), 2) := by decide +kernel
theorem dX6_keep_20 : decode cX6_keep 20 = .ok (.ireturn, 1) := by decide +kernel
theorem dX6_keep_21 : decode cX6_keep 21 = .ok (.aload_n 0, 1) := by decide +kernel
theorem dX6_keep_22 : decode cX6_keep 22 = .ok (.getfield 60, 3) := by decide +kernel
theorem dX6_keep_25 : decode cX6_keep 25 = .ok (.iload_n 1, 1) := by decide +kernel
theorem dX6_keep_26 : decode cX6_keep 26 = .ok (.iconst 1, 1) := by decide +kernel
theorem dX6_keep_27 : decode cX6_keep 27 = .ok (.bastore, 1) := by decide +kernel
theorem dX6_keep_28 : decode cX6_keep 28 = .ok (.aload_n 0, 1) := by decide +kernel
theorem dX6_keep_29 : decode cX6_keep 29 = .ok (.getfield 64, 3) := by decide +kernel
theorem dX6_keep_32 : decode cX6_keep 32 = .ok (.iload_n 1, 1) := by decide +kernel
theorem dX6_keep_33 : decode cX6_keep 33 = .ok (.aload_n 0, 1) := by decide +kernel
theorem dX6_keep_34 : decode cX6_keep 34 = .ok (.getfield 138, 3) := by decide +kernel
theorem dX6_keep_37 : decode cX6_keep 37 = .ok (.iastore, 1) := by decide +kernel
theorem dX6_keep_38 : decode cX6_keep 38 = .ok (.iconst 0, 1) := by decide +kernel
theorem dX6_keep_39 : decode cX6_keep 39 = .ok (.istore_n 2, 1) := by decide +kernel
theorem dX6_keep_40 : decode cX6_keep 40 = .ok (.iload_n 2, 1) := by decide +kernel
theorem dX6_keep_41 : decode cX6_keep 41 = .ok (.bipush 6, 2) := by decide +kernel
theorem dX6_keep_43 : decode cX6_keep 43 = .ok (.if_icmp .ge 26, 3) := by decide +kernel
theorem dX6_keep_46 : decode cX6_keep 46 = .ok (.aload_n 0, 1) := by decide +kernel
theorem dX6_keep_47 : decode cX6_keep 47 = .ok (.getfield 67, 3) := by decide +kernel
theorem dX6_keep_50 : decode cX6_keep 50 = .ok (.bipush 6, 2) := by decide +kernel
theorem dX6_keep_52 : decode cX6_keep 52 = .ok (.iload_n 1, 1) := by decide +kernel
theorem dX6_keep_53 : decode cX6_keep 53 = .ok (.imul, 1) := by decide +kernel
theorem dX6_keep_54 : decode cX6_keep 54 = .ok (.iload_n 2, 1) := by decide +kernel
theorem dX6_keep_55 : decode cX6_keep 55 = .ok (.iadd, 1) := by decide +kernel
theorem dX6_keep_56 : decode cX6_keep 56 = .ok (.aload_n 0, 1) := by decide +kernel
theorem dX6_keep_57 : decode cX6_keep 57 = .ok (.getfield 45, 3) := by decide +kernel
theorem dX6_keep_60 : decode cX6_keep 60 = .ok (.iload_n 2, 1) := by decide +kernel
theorem dX6_keep_61 : decode cX6_keep 61 = .ok (.iaload, 1) := by decide +kernel
theorem dX6_keep_62 : decode cX6_keep 62 = .ok (.iastore, 1) := by decide +kernel
theorem dX6_keep_63 : decode cX6_keep 63 = .ok (.iinc 2 1, 3) := by decide +kernel
theorem dX6_keep_66 : decode cX6_keep 66 = .ok (.goto (-26), 3) := by decide +kernel
theorem dX6_keep_69 : decode cX6_keep 69 = .ok (.iconst 0, 1) := by decide +kernel
theorem dX6_keep_70 : decode cX6_keep 70 = .ok (.istore_n 2, 1) := by decide +kernel
theorem dX6_keep_71 : decode cX6_keep 71 = .ok (.iload_n 2, 1) := by decide +kernel
theorem dX6_keep_72 : decode cX6_keep 72 = .ok (.bipush 14, 2) := by decide +kernel
theorem dX6_keep_74 : decode cX6_keep 74 = .ok (.if_icmp .ge 26, 3) := by decide +kernel
theorem dX6_keep_77 : decode cX6_keep 77 = .ok (.aload_n 0, 1) := by decide +kernel
theorem dX6_keep_78 : decode cX6_keep 78 = .ok (.getfield 70, 3) := by decide +kernel
theorem dX6_keep_81 : decode cX6_keep 81 = .ok (.bipush 14, 2) := by decide +kernel
theorem dX6_keep_83 : decode cX6_keep 83 = .ok (.iload_n 1, 1) := by decide +kernel
theorem dX6_keep_84 : decode cX6_keep 84 = .ok (.imul, 1) := by decide +kernel
theorem dX6_keep_85 : decode cX6_keep 85 = .ok (.iload_n 2, 1) := by decide +kernel
theorem dX6_keep_86 : decode cX6_keep 86 = .ok (.iadd, 1) := by decide +kernel
theorem dX6_keep_87 : decode cX6_keep 87 = .ok (.aload_n 0, 1) := by decide +kernel
theorem dX6_keep_88 : decode cX6_keep 88 = .ok (.getfield 54, 3) := by decide +kernel
theorem dX6_keep_91 : decode cX6_keep 91 = .ok (.iload_n 2, 1) := by decide +kernel
theorem dX6_keep_92 : decode cX6_keep 92 = .ok (.iaload, 1) := by decide +kernel
theorem dX6_keep_93 : decode cX6_keep 93 = .ok (.iastore, 1) := by decide +kernel
theorem dX6_keep_94 : decode cX6_keep 94 = .ok (.iinc 2 1, 3) := by decide +kernel
theorem dX6_keep_97 : decode cX6_keep 97 = .ok (.goto (-26), 3) := by decide +kernel
theorem dX6_keep_100 : decode cX6_keep 100 = .ok (.iconst 0, 1) := by decide +kernel
theorem dX6_keep_101 : decode cX6_keep 101 = .ok (.istore_n 2, 1) := by decide +kernel
theorem dX6_keep_102 : decode cX6_keep 102 = .ok (.iload_n 2, 1) := by decide +kernel
theorem dX6_keep_103 : decode cX6_keep 103 = .ok (.bipush 14, 2) := by decide +kernel
theorem dX6_keep_105 : decode cX6_keep 105 = .ok (.aload_n 0, 1) := by decide +kernel
theorem dX6_keep_106 : decode cX6_keep 106 = .ok (.getfield 138, 3) := by decide +kernel
theorem dX6_keep_109 : decode cX6_keep 109 = .ok (.imul, 1) := by decide +kernel
theorem dX6_keep_110 : decode cX6_keep 110 = .ok (.if_icmp .ge 27, 3) := by decide +kernel
theorem dX6_keep_113 : decode cX6_keep 113 = .ok (.aload_n 0, 1) := by decide +kernel
theorem dX6_keep_114 : decode cX6_keep 114 = .ok (.getfield 73, 3) := by decide +kernel
theorem dX6_keep_117 : decode cX6_keep 117 = .ok (.sipush 840, 3) := by decide +kernel
theorem dX6_keep_120 : decode cX6_keep 120 = .ok (.iload_n 1, 1) := by decide +kernel
theorem dX6_keep_121 : decode cX6_keep 121 = .ok (.imul, 1) := by decide +kernel
theorem dX6_keep_122 : decode cX6_keep 122 = .ok (.iload_n 2, 1) := by decide +kernel
theorem dX6_keep_123 : decode cX6_keep 123 = .ok (.iadd, 1) := by decide +kernel
theorem dX6_keep_124 : decode cX6_keep 124 = .ok (.aload_n 0, 1) := by decide +kernel
theorem dX6_keep_125 : decode cX6_keep 125 = .ok (.getfield 57, 3) := by decide +kernel
theorem dX6_keep_128 : decode cX6_keep 128 = .ok (.iload_n 2, 1) := by decide +kernel
theorem dX6_keep_129 : decode cX6_keep 129 = .ok (.iaload, 1) := by decide +kernel
theorem dX6_keep_130 : decode cX6_keep 130 = .ok (.iastore, 1) := by decide +kernel
theorem dX6_keep_131 : decode cX6_keep 131 = .ok (.iinc 2 1, 3) := by decide +kernel
theorem dX6_keep_134 : decode cX6_keep 134 = .ok (.goto (-32), 3) := by decide +kernel
theorem dX6_keep_137 : decode cX6_keep 137 = .ok (.aload_n 0, 1) := by decide +kernel
theorem dX6_keep_138 : decode cX6_keep 138 = .ok (.getfield 138, 3) := by decide +kernel
theorem dX6_keep_141 : decode cX6_keep 141 = .ok (.ireturn, 1) := by decide +kernel
theorem dX6_on_0 : decode cX6_on 0 = .ok (.iload_n 1, 1) := by decide +kernel
theorem dX6_on_1 : decode cX6_on 1 = .ok (.iconst 0, 1) := by decide +kernel
theorem dX6_on_2 : decode cX6_on 2 = .ok (.iconst 2, 1) := by decide +kernel
theorem dX6_on_3 : decode cX6_on 3 = .ok (.invokestatic 83, 3) := by decide +kernel
theorem dX6_on_6 : decode cX6_on 6 = .ok (.ifCond .ne 5, 3) := by decide +kernel
theorem dX6_on_9 : decode cX6_on 9 = .ok (.iconst (-1), 1) := by decide +kernel
theorem dX6_on_10 : decode cX6_on 10 = .ok (.ireturn, 1) := by decide +kernel
theorem dX6_on_11 : decode cX6_on 11 = .ok (.aload_n 0, 1) := by decide +kernel
theorem dX6_on_12 : decode cX6_on 12 = .ok (.getfield 60, 3) := by decide +kernel
theorem dX6_on_15 : decode cX6_on 15 = .ok (.iload_n 1, 1) := by decide +kernel
theorem dX6_on_16 : decode cX6_on 16 = .ok (.baload, 1) := by decide +kernel
theorem dX6_on_17 : decode cX6_on 17 = .ok (.ifCond .ne 9, 3) := by decide +kernel
theorem dX6_on_20 : decode cX6_on 20 = .ok (.aload_n 0, 1) := by decide +kernel
theorem dX6_on_21 : decode cX6_on 21 = .ok (.iconst 1, 1) := by decide +kernel
theorem dX6_on_22 : decode cX6_on 22 = .ok (.invokevirtual 97, 3) := by decide +kernel
theorem dX6_on_25 : decode cX6_on 25 = .ok (.ireturn, 1) := by decide +kernel
theorem dX6_on_26 : decode cX6_on 26 = .ok (.aload_n 0, 1) := by decide +kernel
theorem dX6_on_27 : decode cX6_on 27 = .ok (.aload_n 0, 1) := by decide +kernel
theorem dX6_on_28 : decode cX6_on 28 = .ok (.getfield 64, 3) := by decide +kernel
theorem dX6_on_31 : decode cX6_on 31 = .ok (.iload_n 1, 1) := by decide +kernel
theorem dX6_on_32 : decode cX6_on 32 = .ok (.iaload, 1) := by decide +kernel
theorem dX6_on_33 : decode cX6_on 33 = .ok (.putfield 138, 3) := by decide +kernel
theorem dX6_on_36 : decode cX6_on 36 = .ok (.iconst 0, 1) := by decide +kernel
theorem dX6_on_37 : decode cX6_on 37 = .ok (.istore_n 2, 1) := by decide +kernel
theorem dX6_on_38 : decode cX6_on 38 = .ok (.iload_n 2, 1) := by decide +kernel
theorem dX6_on_39 : decode cX6_on 39 = .ok (.bipush 6, 2) := by decide +kernel
theorem dX6_on_41 : decode cX6_on 41 = .ok (.if_icmp .ge 26, 3) := by decide +kernel
theorem dX6_on_44 : decode cX6_on 44 = .ok (.aload_n 0, 1) := by decide +kernel
theorem dX6_on_45 : decode cX6_on 45 = .ok (.getfield 45, 3) := by decide +kernel
theorem dX6_on_48 : decode cX6_on 48 = .ok (.iload_n 2, 1) := by decide +kernel
theorem dX6_on_49 : decode cX6_on 49 = .ok (.aload_n 0, 1) := by decide +kernel
theorem dX6_on_50 : decode cX6_on 50 = .ok (.getfield 67, 3) := by decide +kernel
theorem dX6_on_53 : decode cX6_on 53 = .ok (.bipush 6, 2) := by decide +kernel
theorem dX6_on_55 : decode cX6_on 55 = .ok (.iload_n 1, 1) := by decide +kernel
theorem dX6_on_56 : decode cX6_on 56 = .ok (.imul, 1) := by decide +kernel
theorem dX6_on_57 : decode cX6_on 57 = .ok (.iload_n 2, 1) := by decide +kernel
theorem dX6_on_58 : decode cX6_on 58 = .ok (.iadd, 1) := by decide +kernel
theorem dX6_on_59 : decode cX6_on 59 = .ok (.iaload, 1) := by decide +kernel
theorem dX6_on_60 : decode cX6_on 60 = .ok (.iastore, 1) := by decide +kernel
theorem dX6_on_61 : decode cX6_on 61 = .ok (.iinc 2 1, 3) := by decide +kernel
theorem dX6_on_64 : decode cX6_on 64 = .ok (.goto (-26), 3) := by decide +kernel
theorem dX6_on_67 : decode cX6_on 67 = .ok (.iconst 0, 1) := by decide +kernel
theorem dX6_on_68 : decode cX6_on 68 = .ok (.istore_n 2, 1) := by decide +kernel
theorem dX6_on_69 : decode cX6_on 69 = .ok (.iload_n 2, 1) := by decide +kernel
theorem dX6_on_70 : decode cX6_on 70 = .ok (.bipush 14, 2) := by decide +kernel
theorem dX6_on_72 : decode cX6_on 72 = .ok (.if_icmp .ge 26, 3) := by decide +kernel
theorem dX6_on_75 : decode cX6_on 75 = .ok (.aload_n 0, 1) := by decide +kernel
theorem dX6_on_76 : decode cX6_on 76 = .ok (.getfield 54, 3) := by decide +kernel
theorem dX6_on_79 : decode cX6_on 79 = .ok (.iload_n 2, 1) := by decide +kernel
theorem dX6_on_80 : decode cX6_on 80 = .ok (.aload_n 0, 1) := by decide +kernel
theorem dX6_on_81 : decode cX6_on 81 = .ok (.getfield 70, 3) := by decide +kernel
theorem dX6_on_84 : decode cX6_on 84 = .ok (.bipush 14, 2) := by decide +kernel
theorem dX6_on_86 : decode cX6_on 86 = .ok (.iload_n 1, 1) := by decide +kernel
theorem dX6_on_87 : decode cX6_on 87 = .ok (.imul, 1) := by decide +kernel
theorem dX6_on_88 : decode cX6_on 88 = .ok (.iload_n 2, 1) := by decide +kernel
theorem dX6_on_89 : decode cX6_on 89 = .ok (.iadd, 1) := by decide +kernel
theorem dX6_on_90 : decode cX6_on 90 = .ok (.iaload, 1) := by decide +kernel
theorem dX6_on_91 : decode cX6_on 91 = .ok (.iastore, 1) := by decide +kernel
theorem dX6_on_92 : decode cX6_on 92 = .ok (.iinc 2 1, 3) := by decide +kernel
theorem dX6_on_95 : decode cX6_on 95 = .ok (.goto (-26), 3) := by decide +kernel
theorem dX6_on_98 : decode cX6_on 98 = .ok (.iconst 0, 1) := by decide +kernel
theorem dX6_on_99 : decode cX6_on 99 = .ok (.istore_n 2, 1) := by decide +kernel
theorem dX6_on_100 : decode cX6_on 100 = .ok (.iload_n 2, 1) := by decide +kernel
theorem dX6_on_101 : decode cX6_on 101 = .ok (.bipush 14, 2) := by decide +kernel
theorem dX6_on_103 : decode cX6_on 103 = .ok (.aload_n 0, 1) := by decide +kernel
theorem dX6_on_104 : decode cX6_on 104 = .ok (.getfield 138, 3) := by decide +kernel
theorem dX6_on_107 : decode cX6_on 107 = .ok (.imul, 1) := by decide +kernel
theorem dX6_on_108 : decode cX6_on 108 = .ok (.if_icmp .ge 27, 3) := by decide +kernel
theorem dX6_on_111 : decode cX6_on 111 = .ok (.aload_n 0, 1) := by decide +kernel
theorem dX6_on_112 : decode cX6_on 112 = .ok (.getfield 57, 3) := by decide +kernel
theorem dX6_on_115 : decode cX6_on 115 = .ok (.iload_n 2, 1) := by decide +kernel
theorem dX6_on_116 : decode cX6_on 116 = .ok (.aload_n 0, 1) := by decide +kernel
theorem dX6_on_117 : decode cX6_on 117 = .ok (.getfield 73, 3) := by decide +kernel
theorem dX6_on_120 : decode cX6_on 120 = .ok (.sipush 840, 3) := by decide +kernel
theorem dX6_on_123 : decode cX6_on 123 = .ok (.iload_n 1, 1) := by decide +kernel
theorem dX6_on_124 : decode cX6_on 124 = .ok (.imul, 1) := by decide +kernel
theorem dX6_on_125 : decode cX6_on 125 = .ok (.iload_n 2, 1) := by decide +kernel
theorem dX6_on_126 : decode cX6_on 126 = .ok (.iadd, 1) := by decide +kernel
theorem dX6_on_127 : decode cX6_on 127 = .ok (.iaload, 1) := by decide +kernel
theorem dX6_on_128 : decode cX6_on 128 = .ok (.iastore, 1) := by decide +kernel
theorem dX6_on_129 : decode cX6_on 129 = .ok (.iinc 2 1, 3) := by decide +kernel
theorem dX6_on_132 : decode cX6_on 132 = .ok (.goto (-32), 3) := by decide +kernel
theorem dX6_on_135 : decode cX6_on 135 = .ok (.aload_n 0, 1) := by decide +kernel
theorem dX6_on_136 : decode cX6_on 136 = .ok (.getfield 138, 3) := by decide +kernel
theorem dX6_on_139 : decode cX6_on 139 = .ok (.ireturn, 1) := by decide +kernel
theorem dX6_isSign_0 : decode cX6_isSign 0 = .ok (.iload_n 0, 1) := by decide +kernel
theorem dX6_isSign_1 : decode cX6_isSign 1 = .ok (.bipush (-9), 2) := by decide +kernel
theorem dX6_isSign_3 : decode cX6_isSign 3 = .ok (.if_icmp .eq 12, 3) := by decide +kernel
theorem dX6_isSign_6 : decode cX6_isSign 6 = .ok (.iload_n 0, 1) := by decide +kernel
theorem dX6_isSign_7 : decode cX6_isSign 7 = .ok (.iconst 0, 1) := by decide +kernel
theorem dX6_isSign_8 : decode cX6_isSign 8 = .ok (.iconst 3, 1) := by decide +kernel
theorem dX6_isSign_9 : decode cX6_isSign 9 = .ok (.invokestatic 83, 3) := by decide +kernel
theorem dX6_isSign_12 : decode cX6_isSign 12 = .ok (.ifCond .eq 7, 3) := by decide +kernel
theorem dX6_isSign_15 : decode cX6_isSign 15 = .ok (.iconst 1, 1) := by decide +kernel
theorem dX6_isSign_16 : decode cX6_isSign 16 = .ok (.goto 4, 3) := by decide +kernel
theorem dX6_isSign_19 : decode cX6_isSign 19 = .ok (.iconst 0, 1) := by decide +kernel
theorem dX6_isSign_20 : decode cX6_isSign 20 = .ok (.ireturn, 1) := by decide +kernel
theorem dX6_looksSo_0 : decode cX6_looksSo 0 = .ok (.iconst 0, 1) := by decide +kernel
theorem dX6_looksSo_1 : decode cX6_looksSo 1 = .ok (.istore_n 3, 1) := by decide +kernel
theorem dX6_looksSo_2 : decode cX6_looksSo 2 = .ok (.iconst 0, 1) := by decide +kernel
theorem dX6_looksSo_3 : decode cX6_looksSo 3 = .ok (.istore 4, 2) := by decide +kernel
theorem dX6_looksSo_5 : decode cX6_looksSo 5 = .ok (.iload 4, 2) := by decide +kernel
theorem dX6_looksSo_7 : decode cX6_looksSo 7 = .ok (.aload_n 0, 1) := by decide +kernel
theorem dX6_looksSo_8 : decode cX6_looksSo 8 = .ok (.getfield 135, 3) := by decide +kernel
theorem dX6_looksSo_11 : decode cX6_looksSo 11 = .ok (.if_icmp .ge 66, 3) := by decide +kernel
theorem dX6_looksSo_14 : decode cX6_looksSo 14 = .ok (.iload_n 1, 1) := by decide +kernel
theorem dX6_looksSo_15 : decode cX6_looksSo 15 = .ok (.bipush (-9), 2) := by decide +kernel
theorem dX6_looksSo_17 : decode cX6_looksSo 17 = .ok (.if_icmp .eq 14, 3) := by decide +kernel
theorem dX6_looksSo_20 : decode cX6_looksSo 20 = .ok (.aload_n 0, 1) := by decide +kernel
theorem dX6_looksSo_21 : decode cX6_looksSo 21 = .ok (.getfield 36, 3) := by decide +kernel
theorem dX6_looksSo_24 : decode cX6_looksSo 24 = .ok (.iload 4, 2) := by decide +kernel
theorem dX6_looksSo_26 : decode cX6_looksSo 26 = .ok (.iaload, 1) := by decide +kernel
theorem dX6_looksSo_27 : decode cX6_looksSo 27 = .ok (.iload_n 1, 1) := by decide +kernel
theorem dX6_looksSo_28 : decode cX6_looksSo 28 = .ok (.if_icmp .ne 24, 3) := by decide +kernel
theorem dX6_looksSo_31 : decode cX6_looksSo 31 = .ok (.iload_n 2, 1) := by decide +kernel
theorem dX6_looksSo_32 : decode cX6_looksSo 32 = .ok (.bipush (-9), 2) := by decide +kernel
theorem dX6_looksSo_34 : decode cX6_looksSo 34 = .ok (.if_icmp .eq 14, 3) := by decide +kernel
theorem dX6_looksSo_37 : decode cX6_looksSo 37 = .ok (.aload_n 0, 1) := by decide +kernel
theorem dX6_looksSo_38 : decode cX6_looksSo 38 = .ok (.getfield 39, 3) := by decide +kernel
theorem dX6_looksSo_41 : decode cX6_looksSo 41 = .ok (.iload 4, 2) := by decide +kernel
theorem dX6_looksSo_43 : decode cX6_looksSo 43 = .ok (.iaload, 1) := by decide +kernel
theorem dX6_looksSo_44 : decode cX6_looksSo 44 = .ok (.iload_n 2, 1) := by decide +kernel
theorem dX6_looksSo_45 : decode cX6_looksSo 45 = .ok (.if_icmp .ne 7, 3) := by decide +kernel
theorem dX6_looksSo_48 : decode cX6_looksSo 48 = .ok (.iconst 1, 1) := by decide +kernel
theorem dX6_looksSo_49 : decode cX6_looksSo 49 = .ok (.goto 4, 3) := by decide +kernel
theorem dX6_looksSo_52 : decode cX6_looksSo 52 = .ok (.iconst 0, 1) := by decide +kernel
theorem dX6_looksSo_53 : decode cX6_looksSo 53 = .ok (.istore 5, 2) := by decide +kernel
theorem dX6_looksSo_55 : decode cX6_looksSo 55 = .ok (.iload_n 3, 1) := by decide +kernel
theorem dX6_looksSo_56 : decode cX6_looksSo 56 = .ok (.iload 5, 2) := by decide +kernel
theorem dX6_looksSo_58 : decode cX6_looksSo 58 = .ok (.ifCond .eq 10, 3) := by decide +kernel
theorem dX6_looksSo_61 : decode cX6_looksSo 61 = .ok (.iconst 1, 1) := by decide +kernel
theorem dX6_looksSo_62 : decode cX6_looksSo 62 = .ok (.iload 4, 2) := by decide +kernel
theorem dX6_looksSo_64 : decode cX6_looksSo 64 = .ok (.ishl, 1) := by decide +kernel
theorem dX6_looksSo_65 : decode cX6_looksSo 65 = .ok (.goto 4, 3) := by decide +kernel
theorem dX6_looksSo_68 : decode cX6_looksSo 68 = .ok (.iconst 0, 1) := by decide +kernel
theorem dX6_looksSo_69 : decode cX6_looksSo 69 = .ok (.ior, 1) := by decide +kernel
theorem dX6_looksSo_70 : decode cX6_looksSo 70 = .ok (.istore_n 3, 1) := by decide +kernel
theorem dX6_looksSo_71 : decode cX6_looksSo 71 = .ok (.iinc 4 1, 3) := by decide +kernel
theorem dX6_looksSo_74 : decode cX6_looksSo 74 = .ok (.goto (-69), 3) := by decide +kernel
theorem dX6_looksSo_77 : decode cX6_looksSo 77 = .ok (.iload_n 3, 1) := by decide +kernel
theorem dX6_looksSo_78 : decode cX6_looksSo 78 = .ok (.ireturn, 1) := by decide +kernel
theorem dX6_who_0 : decode cX6_who 0 = .ok (.iload_n 1, 1) := by decide +kernel
theorem dX6_who_1 : decode cX6_who 1 = .ok (.invokestatic 196, 3) := by decide +kernel
theorem dX6_who_4 : decode cX6_who 4 = .ok (.ifCond .eq 19, 3) := by decide +kernel
theorem dX6_who_7 : decode cX6_who 7 = .ok (.iload_n 2, 1) := by decide +kernel
theorem dX6_who_8 : decode cX6_who 8 = .ok (.invokestatic 196, 3) := by decide +kernel
theorem dX6_who_11 : decode cX6_who 11 = .ok (.ifCond .eq 12, 3) := by decide +kernel
theorem dX6_who_14 : decode cX6_who 14 = .ok (.aload_n 0, 1) := by decide +kernel
theorem dX6_who_15 : decode cX6_who 15 = .ok (.iload_n 1, 1) := by decide +kernel
theorem dX6_who_16 : decode cX6_who 16 = .ok (.iload_n 2, 1) := by decide +kernel
theorem dX6_who_17 : decode cX6_who 17 = .ok (.invokevirtual 199, 3) := by decide +kernel
theorem dX6_who_20 : decode cX6_who 20 = .ok (.goto 4, 3) := by decide +kernel
theorem dX6_who_23 : decode cX6_who 23 = .ok (.iconst (-1), 1) := by decide +kernel
theorem dX6_who_24 : decode cX6_who 24 = .ok (.ireturn, 1) := by decide +kernel
theorem dX6_parts_0 : decode cX6_parts 0 = .ok (.aload_n 0, 1) := by decide +kernel
theorem dX6_parts_1 : decode cX6_parts 1 = .ok (.iload_n 1, 1) := by decide +kernel
theorem dX6_parts_2 : decode cX6_parts 2 = .ok (.invokevirtual 163, 3) := by decide +kernel
theorem dX6_parts_5 : decode cX6_parts 5 = .ok (.ifCond .eq 16, 3) := by decide +kernel
theorem dX6_parts_8 : decode cX6_parts 8 = .ok (.aload_n 0, 1) := by decide +kernel
theorem dX6_parts_9 : decode cX6_parts 9 = .ok (.iload_n 2, 1) := by decide +kernel
theorem dX6_parts_10 : decode cX6_parts 10 = .ok (.invokevirtual 163, 3) := by decide +kernel
theorem dX6_parts_13 : decode cX6_parts 13 = .ok (.ifCond .eq 8, 3) := by decide +kernel
theorem dX6_parts_16 : decode cX6_parts 16 = .ok (.iload_n 1, 1) := by decide +kernel
theorem dX6_parts_17 : decode cX6_parts 17 = .ok (.iload_n 2, 1) := by decide +kernel
theorem dX6_parts_18 : decode cX6_parts 18 = .ok (.if_icmp .ne 5, 3) := by decide +kernel
theorem dX6_parts_21 : decode cX6_parts 21 = .ok (.iconst (-1), 1) := by decide +kernel
theorem dX6_parts_22 : decode cX6_parts 22 = .ok (.ireturn, 1) := by decide +kernel
theorem dX6_parts_23 : decode cX6_parts 23 = .ok (.aload_n 0, 1) := by decide +kernel
theorem dX6_parts_24 : decode cX6_parts 24 = .ok (.getfield 36, 3) := by decide +kernel
theorem dX6_parts_27 : decode cX6_parts 27 = .ok (.iload_n 1, 1) := by decide +kernel
theorem dX6_parts_28 : decode cX6_parts 28 = .ok (.iaload, 1) := by decide +kernel
theorem dX6_parts_29 : decode cX6_parts 29 = .ok (.aload_n 0, 1) := by decide +kernel
theorem dX6_parts_30 : decode cX6_parts 30 = .ok (.getfield 36, 3) := by decide +kernel
theorem dX6_parts_33 : decode cX6_parts 33 = .ok (.iload_n 2, 1) := by decide +kernel
theorem dX6_parts_34 : decode cX6_parts 34 = .ok (.iaload, 1) := by decide +kernel
theorem dX6_parts_35 : decode cX6_parts 35 = .ok (.if_icmp .eq 7, 3) := by decide +kernel
theorem dX6_parts_38 : decode cX6_parts 38 = .ok (.iconst 1, 1) := by decide +kernel
theorem dX6_parts_39 : decode cX6_parts 39 = .ok (.goto 4, 3) := by decide +kernel
theorem dX6_parts_42 : decode cX6_parts 42 = .ok (.iconst 0, 1) := by decide +kernel
theorem dX6_parts_43 : decode cX6_parts 43 = .ok (.aload_n 0, 1) := by decide +kernel
theorem dX6_parts_44 : decode cX6_parts 44 = .ok (.getfield 39, 3) := by decide +kernel
theorem dX6_parts_47 : decode cX6_parts 47 = .ok (.iload_n 1, 1) := by decide +kernel
theorem dX6_parts_48 : decode cX6_parts 48 = .ok (.iaload, 1) := by decide +kernel
theorem dX6_parts_49 : decode cX6_parts 49 = .ok (.aload_n 0, 1) := by decide +kernel
theorem dX6_parts_50 : decode cX6_parts 50 = .ok (.getfield 39, 3) := by decide +kernel
theorem dX6_parts_53 : decode cX6_parts 53 = .ok (.iload_n 2, 1) := by decide +kernel
theorem dX6_parts_54 : decode cX6_parts 54 = .ok (.iaload, 1) := by decide +kernel
theorem dX6_parts_55 : decode cX6_parts 55 = .ok (.if_icmp .eq 7, 3) := by decide +kernel
theorem dX6_parts_58 : decode cX6_parts 58 = .ok (.iconst 2, 1) := by decide +kernel
theorem dX6_parts_59 : decode cX6_parts 59 = .ok (.goto 4, 3) := by decide +kernel
theorem dX6_parts_62 : decode cX6_parts 62 = .ok (.iconst 0, 1) := by decide +kernel
theorem dX6_parts_63 : decode cX6_parts 63 = .ok (.iadd, 1) := by decide +kernel
theorem dX6_parts_64 : decode cX6_parts 64 = .ok (.ireturn, 1) := by decide +kernel
theorem dX6_wants_0 : decode cX6_wants 0 = .ok (.aload_n 0, 1) := by decide +kernel
theorem dX6_wants_1 : decode cX6_wants 1 = .ok (.iload_n 1, 1) := by decide +kernel
theorem dX6_wants_2 : decode cX6_wants 2 = .ok (.invokevirtual 163, 3) := by decide +kernel
theorem dX6_wants_5 : decode cX6_wants 5 = .ok (.ifCond .eq 23, 3) := by decide +kernel
theorem dX6_wants_8 : decode cX6_wants 8 = .ok (.iload_n 2, 1) := by decide +kernel
theorem dX6_wants_9 : decode cX6_wants 9 = .ok (.iconst 0, 1) := by decide +kernel
theorem dX6_wants_10 : decode cX6_wants 10 = .ok (.sipush 999, 3) := by decide +kernel
theorem dX6_wants_13 : decode cX6_wants 13 = .ok (.invokestatic 83, 3) := by decide +kernel
theorem dX6_wants_16 : decode cX6_wants 16 = .ok (.ifCond .eq 12, 3) := by decide +kernel
theorem dX6_wants_19 : decode cX6_wants 19 = .ok (.aload_n 0, 1) := by decide +kernel
theorem dX6_wants_20 : decode cX6_wants 20 = .ok (.iload_n 1, 1) := by decide +kernel
theorem dX6_wants_21 : decode cX6_wants 21 = .ok (.iload_n 2, 1) := by decide +kernel
theorem dX6_wants_22 : decode cX6_wants 22 = .ok (.invokevirtual 148, 3) := by decide +kernel
theorem dX6_wants_25 : decode cX6_wants 25 = .ok (.goto 4, 3) := by decide +kernel
theorem dX6_wants_28 : decode cX6_wants 28 = .ok (.iconst (-1), 1) := by decide +kernel
theorem dX6_wants_29 : decode cX6_wants 29 = .ok (.ireturn, 1) := by decide +kernel
theorem dX6_comesOf_0 : decode cX6_comesOf 0 = .ok (.iconst 0, 1) := by decide +kernel
theorem dX6_comesOf_1 : decode cX6_comesOf 1 = .ok (.istore_n 2, 1) := by decide +kernel
theorem dX6_comesOf_2 : decode cX6_comesOf 2 = .ok (.iconst 0, 1) := by decide +kernel
theorem dX6_comesOf_3 : decode cX6_comesOf 3 = .ok (.istore_n 3, 1) := by decide +kernel
theorem dX6_comesOf_4 : decode cX6_comesOf 4 = .ok (.iload_n 3, 1) := by decide +kernel
theorem dX6_comesOf_5 : decode cX6_comesOf 5 = .ok (.aload_n 0, 1) := by decide +kernel
theorem dX6_comesOf_6 : decode cX6_comesOf 6 = .ok (.getfield 135, 3) := by decide +kernel
theorem dX6_comesOf_9 : decode cX6_comesOf 9 = .ok (.if_icmp .ge 30, 3) := by decide +kernel
theorem dX6_comesOf_12 : decode cX6_comesOf 12 = .ok (.iload_n 2, 1) := by decide +kernel
theorem dX6_comesOf_13 : decode cX6_comesOf 13 = .ok (.iload_n 1, 1) := by decide +kernel
theorem dX6_comesOf_14 : decode cX6_comesOf 14 = .ok (.iload_n 3, 1) := by decide +kernel
theorem dX6_comesOf_15 : decode cX6_comesOf 15 = .ok (.invokestatic 202, 3) := by decide +kernel
theorem dX6_comesOf_18 : decode cX6_comesOf 18 = .ok (.ifCond .eq 12, 3) := by decide +kernel
theorem dX6_comesOf_21 : decode cX6_comesOf 21 = .ok (.aload_n 0, 1) := by decide +kernel
theorem dX6_comesOf_22 : decode cX6_comesOf 22 = .ok (.getfield 48, 3) := by decide +kernel
theorem dX6_comesOf_25 : decode cX6_comesOf 25 = .ok (.iload_n 3, 1) := by decide +kernel
theorem dX6_comesOf_26 : decode cX6_comesOf 26 = .ok (.iaload, 1) := by decide +kernel
theorem dX6_comesOf_27 : decode cX6_comesOf 27 = .ok (.goto 4, 3) := by decide +kernel
theorem dX6_comesOf_30 : decode cX6_comesOf 30 = .ok (.iconst 0, 1) := by decide +kernel
theorem dX6_comesOf_31 : decode cX6_comesOf 31 = .ok (.iadd, 1) := by decide +kernel
theorem dX6_comesOf_32 : decode cX6_comesOf 32 = .ok (.istore_n 2, 1) := by decide +kernel
theorem dX6_comesOf_33 : decode cX6_comesOf 33 = .ok (.iinc 3 1, 3) := by decide +kernel
theorem dX6_comesOf_36 : decode cX6_comesOf 36 = .ok (.goto (-32), 3) := by decide +kernel
theorem dX6_comesOf_39 : decode cX6_comesOf 39 = .ok (.iload_n 2, 1) := by decide +kernel
theorem dX6_comesOf_40 : decode cX6_comesOf 40 = .ok (.ireturn, 1) := by decide +kernel
theorem dX6_wanting_0 : decode cX6_wanting 0 = .ok (.iconst 0, 1) := by decide +kernel
theorem dX6_wanting_1 : decode cX6_wanting 1 = .ok (.istore_n 3, 1) := by decide +kernel
theorem dX6_wanting_2 : decode cX6_wanting 2 = .ok (.iconst 0, 1) := by decide +kernel
theorem dX6_wanting_3 : decode cX6_wanting 3 = .ok (.istore 4, 2) := by decide +kernel
theorem dX6_wanting_5 : decode cX6_wanting 5 = .ok (.iload 4, 2) := by decide +kernel
theorem dX6_wanting_7 : decode cX6_wanting 7 = .ok (.aload_n 0, 1) := by decide +kernel
theorem dX6_wanting_8 : decode cX6_wanting 8 = .ok (.getfield 135, 3) := by decide +kernel
theorem dX6_wanting_11 : decode cX6_wanting 11 = .ok (.if_icmp .ge 39, 3) := by decide +kernel
theorem dX6_wanting_14 : decode cX6_wanting 14 = .ok (.iload_n 3, 1) := by decide +kernel
theorem dX6_wanting_15 : decode cX6_wanting 15 = .ok (.iload_n 1, 1) := by decide +kernel
theorem dX6_wanting_16 : decode cX6_wanting 16 = .ok (.iload 4, 2) := by decide +kernel
theorem dX6_wanting_18 : decode cX6_wanting 18 = .ok (.invokestatic 202, 3) := by decide +kernel
theorem dX6_wanting_21 : decode cX6_wanting 21 = .ok (.ifCond .eq 20, 3) := by decide +kernel
theorem dX6_wanting_24 : decode cX6_wanting 24 = .ok (.aload_n 0, 1) := by decide +kernel
theorem dX6_wanting_25 : decode cX6_wanting 25 = .ok (.iload 4, 2) := by decide +kernel
theorem dX6_wanting_27 : decode cX6_wanting 27 = .ok (.invokevirtual 157, 3) := by decide +kernel
theorem dX6_wanting_30 : decode cX6_wanting 30 = .ok (.iload_n 2, 1) := by decide +kernel
theorem dX6_wanting_31 : decode cX6_wanting 31 = .ok (.if_icmp .ne 10, 3) := by decide +kernel
theorem dX6_wanting_34 : decode cX6_wanting 34 = .ok (.iconst 1, 1) := by decide +kernel
theorem dX6_wanting_35 : decode cX6_wanting 35 = .ok (.iload 4, 2) := by decide +kernel
theorem dX6_wanting_37 : decode cX6_wanting 37 = .ok (.ishl, 1) := by decide +kernel
theorem dX6_wanting_38 : decode cX6_wanting 38 = .ok (.goto 4, 3) := by decide +kernel
theorem dX6_wanting_41 : decode cX6_wanting 41 = .ok (.iconst 0, 1) := by decide +kernel
theorem dX6_wanting_42 : decode cX6_wanting 42 = .ok (.ior, 1) := by decide +kernel
theorem dX6_wanting_43 : decode cX6_wanting 43 = .ok (.istore_n 3, 1) := by decide +kernel
theorem dX6_wanting_44 : decode cX6_wanting 44 = .ok (.iinc 4 1, 3) := by decide +kernel
theorem dX6_wanting_47 : decode cX6_wanting 47 = .ok (.goto (-42), 3) := by decide +kernel
theorem dX6_wanting_50 : decode cX6_wanting 50 = .ok (.iload_n 3, 1) := by decide +kernel
theorem dX6_wanting_51 : decode cX6_wanting 51 = .ok (.ireturn, 1) := by decide +kernel
theorem dX6_likely_0 : decode cX6_likely 0 = .ok (.iload_n 1, 1) := by decide +kernel
theorem dX6_likely_1 : decode cX6_likely 1 = .ok (.invokestatic 196, 3) := by decide +kernel
theorem dX6_likely_4 : decode cX6_likely 4 = .ok (.ifCond .eq 17, 3) := by decide +kernel
theorem dX6_likely_7 : decode cX6_likely 7 = .ok (.iload_n 2, 1) := by decide +kernel
theorem dX6_likely_8 : decode cX6_likely 8 = .ok (.invokestatic 196, 3) := by decide +kernel
theorem dX6_likely_11 : decode cX6_likely 11 = .ok (.ifCond .eq 10, 3) := by decide +kernel
theorem dX6_likely_14 : decode cX6_likely 14 = .ok (.iload_n 3, 1) := by decide +kernel
theorem dX6_likely_15 : decode cX6_likely 15 = .ok (.invokestatic 141, 3) := by decide +kernel
theorem dX6_likely_18 : decode cX6_likely 18 = .ok (.ifCond .ne 5, 3) := by decide +kernel
theorem dX6_likely_21 : decode cX6_likely 21 = .ok (.iconst (-1), 1) := by decide +kernel
theorem dX6_likely_22 : decode cX6_likely 22 = .ok (.ireturn, 1) := by decide +kernel
theorem dX6_likely_23 : decode cX6_likely 23 = .ok (.aload_n 0, 1) := by decide +kernel
theorem dX6_likely_24 : decode cX6_likely 24 = .ok (.iload_n 1, 1) := by decide +kernel
theorem dX6_likely_25 : decode cX6_likely 25 = .ok (.iload_n 2, 1) := by decide +kernel
theorem dX6_likely_26 : decode cX6_likely 26 = .ok (.invokevirtual 199, 3) := by decide +kernel
theorem dX6_likely_29 : decode cX6_likely 29 = .ok (.istore 4, 2) := by decide +kernel
theorem dX6_likely_31 : decode cX6_likely 31 = .ok (.iload 4, 2) := by decide +kernel
theorem dX6_likely_33 : decode cX6_likely 33 = .ok (.ifCond .ne 11, 3) := by decide +kernel
theorem dX6_likely_36 : decode cX6_likely 36 = .ok (.aload_n 0, 1) := by decide +kernel
theorem dX6_likely_37 : decode cX6_likely 37 = .ok (.iconst 4, 1) := by decide +kernel
theorem dX6_likely_38 : decode cX6_likely 38 = .ok (.invokevirtual 97, 3) := by decide +kernel
theorem dX6_likely_41 : decode cX6_likely 41 = .ok (.goto 24, 3) := by decide +kernel
theorem dX6_likely_44 : decode cX6_likely 44 = .ok (.aload_n 0, 1) := by decide +kernel
theorem dX6_likely_45 : decode cX6_likely 45 = .ok (.aload_n 0, 1) := by decide +kernel
theorem dX6_likely_46 : decode cX6_likely 46 = .ok (.aload_n 0, 1) := by decide +kernel
theorem dX6_likely_47 : decode cX6_likely 47 = .ok (.iload 4, 2) := by decide +kernel
theorem dX6_likely_49 : decode cX6_likely 49 = .ok (.iload_n 3, 1) := by decide +kernel
theorem dX6_likely_50 : decode cX6_likely 50 = .ok (.invokevirtual 205, 3) := by decide +kernel
theorem dX6_likely_53 : decode cX6_likely 53 = .ok (.invokevirtual 208, 3) := by decide +kernel
theorem dX6_likely_56 : decode cX6_likely 56 = .ok (.aload_n 0, 1) := by decide +kernel
theorem dX6_likely_57 : decode cX6_likely 57 = .ok (.iload 4, 2) := by decide +kernel
theorem dX6_likely_59 : decode cX6_likely 59 = .ok (.invokevirtual 208, 3) := by decide +kernel
theorem dX6_likely_62 : decode cX6_likely 62 = .ok (.invokevirtual 211, 3) := by decide +kernel
theorem dX6_likely_65 : decode cX6_likely 65 = .ok (.ireturn, 1) := by decide +kernel
theorem dX6_takesOf_0 : decode cX6_takesOf 0 = .ok (.iconst 0, 1) := by decide +kernel
theorem dX6_takesOf_1 : decode cX6_takesOf 1 = .ok (.istore_n 3, 1) := by decide +kernel
theorem dX6_takesOf_2 : decode cX6_takesOf 2 = .ok (.iconst 0, 1) := by decide +kernel
theorem dX6_takesOf_3 : decode cX6_takesOf 3 = .ok (.istore 4, 2) := by decide +kernel
theorem dX6_takesOf_5 : decode cX6_takesOf 5 = .ok (.iload 4, 2) := by decide +kernel
theorem dX6_takesOf_7 : decode cX6_takesOf 7 = .ok (.aload_n 0, 1) := by decide +kernel
theorem dX6_takesOf_8 : decode cX6_takesOf 8 = .ok (.getfield 135, 3) := by decide +kernel
theorem dX6_takesOf_11 : decode cX6_takesOf 11 = .ok (.if_icmp .ge 40, 3) := by decide +kernel
theorem dX6_takesOf_14 : decode cX6_takesOf 14 = .ok (.iload_n 3, 1) := by decide +kernel
theorem dX6_takesOf_15 : decode cX6_takesOf 15 = .ok (.iload_n 1, 1) := by decide +kernel
theorem dX6_takesOf_16 : decode cX6_takesOf 16 = .ok (.iload 4, 2) := by decide +kernel
theorem dX6_takesOf_18 : decode cX6_takesOf 18 = .ok (.invokestatic 202, 3) := by decide +kernel
theorem dX6_takesOf_21 : decode cX6_takesOf 21 = .ok (.ifCond .eq 21, 3) := by decide +kernel
theorem dX6_takesOf_24 : decode cX6_takesOf 24 = .ok (.aload_n 0, 1) := by decide +kernel
theorem dX6_takesOf_25 : decode cX6_takesOf 25 = .ok (.getfield 48, 3) := by decide +kernel
theorem dX6_takesOf_28 : decode cX6_takesOf 28 = .ok (.iload 4, 2) := by decide +kernel
theorem dX6_takesOf_30 : decode cX6_takesOf 30 = .ok (.iaload, 1) := by decide +kernel
theorem dX6_takesOf_31 : decode cX6_takesOf 31 = .ok (.aload_n 0, 1) := by decide +kernel
theorem dX6_takesOf_32 : decode cX6_takesOf 32 = .ok (.iload 4, 2) := by decide +kernel
theorem dX6_takesOf_34 : decode cX6_takesOf 34 = .ok (.iload_n 2, 1) := by decide +kernel
theorem dX6_takesOf_35 : decode cX6_takesOf 35 = .ok (.invokevirtual 184, 3) := by decide +kernel
theorem dX6_takesOf_38 : decode cX6_takesOf 38 = .ok (.imul, 1) := by decide +kernel
theorem dX6_takesOf_39 : decode cX6_takesOf 39 = .ok (.goto 4, 3) := by decide +kernel
theorem dX6_takesOf_42 : decode cX6_takesOf 42 = .ok (.iconst 0, 1) := by decide +kernel
theorem dX6_takesOf_43 : decode cX6_takesOf 43 = .ok (.iadd, 1) := by decide +kernel
theorem dX6_takesOf_44 : decode cX6_takesOf 44 = .ok (.istore_n 3, 1) := by decide +kernel
theorem dX6_takesOf_45 : decode cX6_takesOf 45 = .ok (.iinc 4 1, 3) := by decide +kernel
theorem dX6_takesOf_48 : decode cX6_takesOf 48 = .ok (.goto (-43), 3) := by decide +kernel
theorem dX6_takesOf_51 : decode cX6_takesOf 51 = .ok (.iload_n 3, 1) := by decide +kernel
theorem dX6_takesOf_52 : decode cX6_takesOf 52 = .ok (.ireturn, 1) := by decide +kernel
theorem dX6_takes_0 : decode cX6_takes 0 = .ok (.iload_n 1, 1) := by decide +kernel
theorem dX6_takes_1 : decode cX6_takes 1 = .ok (.invokestatic 196, 3) := by decide +kernel
theorem dX6_takes_4 : decode cX6_takes 4 = .ok (.ifCond .eq 17, 3) := by decide +kernel
theorem dX6_takes_7 : decode cX6_takes 7 = .ok (.iload_n 2, 1) := by decide +kernel
theorem dX6_takes_8 : decode cX6_takes 8 = .ok (.invokestatic 196, 3) := by decide +kernel
theorem dX6_takes_11 : decode cX6_takes 11 = .ok (.ifCond .eq 10, 3) := by decide +kernel
theorem dX6_takes_14 : decode cX6_takes 14 = .ok (.iload_n 3, 1) := by decide +kernel
theorem dX6_takes_15 : decode cX6_takes 15 = .ok (.invokestatic 190, 3) := by decide +kernel
theorem dX6_takes_18 : decode cX6_takes 18 = .ok (.ifCond .ne 5, 3) := by decide +kernel
theorem dX6_takes_21 : decode cX6_takes 21 = .ok (.iconst (-1), 1) := by decide +kernel
theorem dX6_takes_22 : decode cX6_takes 22 = .ok (.ireturn, 1) := by decide +kernel
theorem dX6_takes_23 : decode cX6_takes 23 = .ok (.aload_n 0, 1) := by decide +kernel
theorem dX6_takes_24 : decode cX6_takes 24 = .ok (.iload_n 1, 1) := by decide +kernel
theorem dX6_takes_25 : decode cX6_takes 25 = .ok (.iload_n 2, 1) := by decide +kernel
theorem dX6_takes_26 : decode cX6_takes 26 = .ok (.invokevirtual 199, 3) := by decide +kernel
theorem dX6_takes_29 : decode cX6_takes 29 = .ok (.istore 4, 2) := by decide +kernel
theorem dX6_takes_31 : decode cX6_takes 31 = .ok (.iload 4, 2) := by decide +kernel
theorem dX6_takes_33 : decode cX6_takes 33 = .ok (.ifCond .ne 11, 3) := by decide +kernel
theorem dX6_takes_36 : decode cX6_takes 36 = .ok (.aload_n 0, 1) := by decide +kernel
theorem dX6_takes_37 : decode cX6_takes 37 = .ok (.iconst 4, 1) := by decide +kernel
theorem dX6_takes_38 : decode cX6_takes 38 = .ok (.invokevirtual 97, 3) := by decide +kernel
theorem dX6_takes_41 : decode cX6_takes 41 = .ok (.goto 20, 3) := by decide +kernel
theorem dX6_takes_44 : decode cX6_takes 44 = .ok (.aload_n 0, 1) := by decide +kernel
theorem dX6_takes_45 : decode cX6_takes 45 = .ok (.aload_n 0, 1) := by decide +kernel
theorem dX6_takes_46 : decode cX6_takes 46 = .ok (.iload 4, 2) := by decide +kernel
theorem dX6_takes_48 : decode cX6_takes 48 = .ok (.iload_n 3, 1) := by decide +kernel
theorem dX6_takes_49 : decode cX6_takes 49 = .ok (.invokevirtual 214, 3) := by decide +kernel
theorem dX6_takes_52 : decode cX6_takes 52 = .ok (.aload_n 0, 1) := by decide +kernel
theorem dX6_takes_53 : decode cX6_takes 53 = .ok (.iload 4, 2) := by decide +kernel
theorem dX6_takes_55 : decode cX6_takes 55 = .ok (.invokevirtual 208, 3) := by decide +kernel
theorem dX6_takes_58 : decode cX6_takes 58 = .ok (.invokevirtual 211, 3) := by decide +kernel
theorem dX6_takes_61 : decode cX6_takes 61 = .ok (.ireturn, 1) := by decide +kernel
theorem dX6_quickestOf_0 : decode cX6_quickestOf 0 = .ok (.bipush (-9), 2) := by decide +kernel
theorem dX6_quickestOf_2 : decode cX6_quickestOf 2 = .ok (.istore_n 2, 1) := by decide +kernel
theorem dX6_quickestOf_3 : decode cX6_quickestOf 3 = .ok (.iconst 0, 1) := by decide +kernel
theorem dX6_quickestOf_4 : decode cX6_quickestOf 4 = .ok (.istore_n 3, 1) := by decide +kernel
theorem dX6_quickestOf_5 : decode cX6_quickestOf 5 = .ok (.iload_n 3, 1) := by decide +kernel
theorem dX6_quickestOf_6 : decode cX6_quickestOf 6 = .ok (.bipush 6, 2) := by decide +kernel
theorem dX6_quickestOf_8 : decode cX6_quickestOf 8 = .ok (.if_icmp .ge 30, 3) := by decide +kernel
theorem dX6_quickestOf_11 : decode cX6_quickestOf 11 = .ok (.aload_n 0, 1) := by decide +kernel
theorem dX6_quickestOf_12 : decode cX6_quickestOf 12 = .ok (.iload_n 1, 1) := by decide +kernel
theorem dX6_quickestOf_13 : decode cX6_quickestOf 13 = .ok (.iload_n 3, 1) := by decide +kernel
theorem dX6_quickestOf_14 : decode cX6_quickestOf 14 = .ok (.invokevirtual 214, 3) := by decide +kernel
theorem dX6_quickestOf_17 : decode cX6_quickestOf 17 = .ok (.aload_n 0, 1) := by decide +kernel
theorem dX6_quickestOf_18 : decode cX6_quickestOf 18 = .ok (.iload_n 1, 1) := by decide +kernel
theorem dX6_quickestOf_19 : decode cX6_quickestOf 19 = .ok (.iload_n 2, 1) := by decide +kernel
theorem dX6_quickestOf_20 : decode cX6_quickestOf 20 = .ok (.invokevirtual 214, 3) := by decide +kernel
theorem dX6_quickestOf_23 : decode cX6_quickestOf 23 = .ok (.if_icmp .ge 7, 3) := by decide +kernel
theorem dX6_quickestOf_26 : decode cX6_quickestOf 26 = .ok (.iload_n 3, 1) := by decide +kernel
theorem dX6_quickestOf_27 : decode cX6_quickestOf 27 = .ok (.goto 4, 3) := by decide +kernel
theorem dX6_quickestOf_30 : decode cX6_quickestOf 30 = .ok (.iload_n 2, 1) := by decide +kernel
theorem dX6_quickestOf_31 : decode cX6_quickestOf 31 = .ok (.istore_n 2, 1) := by decide +kernel
theorem dX6_quickestOf_32 : decode cX6_quickestOf 32 = .ok (.iinc 3 1, 3) := by decide +kernel
theorem dX6_quickestOf_35 : decode cX6_quickestOf 35 = .ok (.goto (-30), 3) := by decide +kernel
theorem dX6_quickestOf_38 : decode cX6_quickestOf 38 = .ok (.iload_n 2, 1) := by decide +kernel
theorem dX6_quickestOf_39 : decode cX6_quickestOf 39 = .ok (.ireturn, 1) := by decide +kernel
theorem dX6_soured_0 : decode cX6_soured 0 = .ok (.iconst 0, 1) := by decide +kernel
theorem dX6_soured_1 : decode cX6_soured 1 = .ok (.istore_n 3, 1) := by decide +kernel
theorem dX6_soured_2 : decode cX6_soured 2 = .ok (.iconst 0, 1) := by decide +kernel
theorem dX6_soured_3 : decode cX6_soured 3 = .ok (.istore 4, 2) := by decide +kernel
theorem dX6_soured_5 : decode cX6_soured 5 = .ok (.iload 4, 2) := by decide +kernel
theorem dX6_soured_7 : decode cX6_soured 7 = .ok (.aload_n 0, 1) := by decide +kernel
theorem dX6_soured_8 : decode cX6_soured 8 = .ok (.getfield 135, 3) := by decide +kernel
theorem dX6_soured_11 : decode cX6_soured 11 = .ok (.if_icmp .ge 39, 3) := by decide +kernel
theorem dX6_soured_14 : decode cX6_soured 14 = .ok (.iload_n 3, 1) := by decide +kernel
theorem dX6_soured_15 : decode cX6_soured 15 = .ok (.iload_n 1, 1) := by decide +kernel
theorem dX6_soured_16 : decode cX6_soured 16 = .ok (.iload 4, 2) := by decide +kernel
theorem dX6_soured_18 : decode cX6_soured 18 = .ok (.invokestatic 202, 3) := by decide +kernel
theorem dX6_soured_21 : decode cX6_soured 21 = .ok (.ifCond .eq 20, 3) := by decide +kernel
theorem dX6_soured_24 : decode cX6_soured 24 = .ok (.aload_n 0, 1) := by decide +kernel
theorem dX6_soured_25 : decode cX6_soured 25 = .ok (.iload 4, 2) := by decide +kernel
theorem dX6_soured_27 : decode cX6_soured 27 = .ok (.iload_n 2, 1) := by decide +kernel
theorem dX6_soured_28 : decode cX6_soured 28 = .ok (.invokevirtual 169, 3) := by decide +kernel
theorem dX6_soured_31 : decode cX6_soured 31 = .ok (.ifCond .eq 10, 3) := by decide +kernel
theorem dX6_soured_34 : decode cX6_soured 34 = .ok (.iconst 1, 1) := by decide +kernel
theorem dX6_soured_35 : decode cX6_soured 35 = .ok (.iload 4, 2) := by decide +kernel
theorem dX6_soured_37 : decode cX6_soured 37 = .ok (.ishl, 1) := by decide +kernel
theorem dX6_soured_38 : decode cX6_soured 38 = .ok (.goto 4, 3) := by decide +kernel
theorem dX6_soured_41 : decode cX6_soured 41 = .ok (.iconst 0, 1) := by decide +kernel
theorem dX6_soured_42 : decode cX6_soured 42 = .ok (.ior, 1) := by decide +kernel
theorem dX6_soured_43 : decode cX6_soured 43 = .ok (.istore_n 3, 1) := by decide +kernel
theorem dX6_soured_44 : decode cX6_soured 44 = .ok (.iinc 4 1, 3) := by decide +kernel
theorem dX6_soured_47 : decode cX6_soured 47 = .ok (.goto (-42), 3) := by decide +kernel
theorem dX6_soured_50 : decode cX6_soured 50 = .ok (.iload_n 3, 1) := by decide +kernel
theorem dX6_soured_51 : decode cX6_soured 51 = .ok (.ireturn, 1) := by decide +kernel
theorem dX6_quickest_0 : decode cX6_quickest 0 = .ok (.iload_n 1, 1) := by decide +kernel
theorem dX6_quickest_1 : decode cX6_quickest 1 = .ok (.invokestatic 196, 3) := by decide +kernel
theorem dX6_quickest_4 : decode cX6_quickest 4 = .ok (.ifCond .eq 10, 3) := by decide +kernel
theorem dX6_quickest_7 : decode cX6_quickest 7 = .ok (.iload_n 2, 1) := by decide +kernel
theorem dX6_quickest_8 : decode cX6_quickest 8 = .ok (.invokestatic 196, 3) := by decide +kernel
theorem dX6_quickest_11 : decode cX6_quickest 11 = .ok (.ifCond .ne 5, 3) := by decide +kernel
theorem dX6_quickest_14 : decode cX6_quickest 14 = .ok (.iconst (-1), 1) := by decide +kernel
theorem dX6_quickest_15 : decode cX6_quickest 15 = .ok (.ireturn, 1) := by decide +kernel
theorem dX6_quickest_16 : decode cX6_quickest 16 = .ok (.aload_n 0, 1) := by decide +kernel
theorem dX6_quickest_17 : decode cX6_quickest 17 = .ok (.iload_n 1, 1) := by decide +kernel
theorem dX6_quickest_18 : decode cX6_quickest 18 = .ok (.iload_n 2, 1) := by decide +kernel
theorem dX6_quickest_19 : decode cX6_quickest 19 = .ok (.invokevirtual 199, 3) := by decide +kernel
theorem dX6_quickest_22 : decode cX6_quickest 22 = .ok (.istore_n 3, 1) := by decide +kernel
theorem dX6_quickest_23 : decode cX6_quickest 23 = .ok (.iload_n 3, 1) := by decide +kernel
theorem dX6_quickest_24 : decode cX6_quickest 24 = .ok (.ifCond .ne 9, 3) := by decide +kernel
theorem dX6_quickest_27 : decode cX6_quickest 27 = .ok (.aload_n 0, 1) := by decide +kernel
theorem dX6_quickest_28 : decode cX6_quickest 28 = .ok (.iconst 4, 1) := by decide +kernel
theorem dX6_quickest_29 : decode cX6_quickest 29 = .ok (.invokevirtual 97, 3) := by decide +kernel
theorem dX6_quickest_32 : decode cX6_quickest 32 = .ok (.ireturn, 1) := by decide +kernel
theorem dX6_quickest_33 : decode cX6_quickest 33 = .ok (.aload_n 0, 1) := by decide +kernel
theorem dX6_quickest_34 : decode cX6_quickest 34 = .ok (.iload_n 3, 1) := by decide +kernel
theorem dX6_quickest_35 : decode cX6_quickest 35 = .ok (.invokevirtual 217, 3) := by decide +kernel
theorem dX6_quickest_38 : decode cX6_quickest 38 = .ok (.istore 4, 2) := by decide +kernel
theorem dX6_quickest_40 : decode cX6_quickest 40 = .ok (.aload_n 0, 1) := by decide +kernel
theorem dX6_quickest_41 : decode cX6_quickest 41 = .ok (.aload_n 0, 1) := by decide +kernel
theorem dX6_quickest_42 : decode cX6_quickest 42 = .ok (.iload_n 3, 1) := by decide +kernel
theorem dX6_quickest_43 : decode cX6_quickest 43 = .ok (.iload 4, 2) := by decide +kernel
theorem dX6_quickest_45 : decode cX6_quickest 45 = .ok (.invokevirtual 220, 3) := by decide +kernel
theorem dX6_quickest_48 : decode cX6_quickest 48 = .ok (.invokestatic 223, 3) := by decide +kernel
theorem dX6_quickest_51 : decode cX6_quickest 51 = .ok (.iload 4, 2) := by decide +kernel
theorem dX6_quickest_53 : decode cX6_quickest 53 = .ok (.invokevirtual 105, 3) := by decide +kernel
theorem dX6_quickest_56 : decode cX6_quickest 56 = .ok (.ireturn, 1) := by decide +kernel
theorem dX6_needQueue_0 : decode cX6_needQueue 0 = .ok (.iload_n 2, 1) := by decide +kernel
theorem dX6_needQueue_1 : decode cX6_needQueue 1 = .ok (.ifCond .eq 10, 3) := by decide +kernel
theorem dX6_needQueue_4 : decode cX6_needQueue 4 = .ok (.iload_n 1, 1) := by decide +kernel
theorem dX6_needQueue_5 : decode cX6_needQueue 5 = .ok (.invokestatic 93, 3) := by decide +kernel
theorem dX6_needQueue_8 : decode cX6_needQueue 8 = .ok (.ifCond .ne 5, 3) := by decide +kernel
theorem dX6_needQueue_11 : decode cX6_needQueue 11 = .ok (.iconst (-1), 1) := by decide +kernel
theorem dX6_needQueue_12 : decode cX6_needQueue 12 = .ok (.ireturn, 1) := by decide +kernel
theorem dX6_needQueue_13 : decode cX6_needQueue 13 = .ok (.aload_n 0, 1) := by decide +kernel
theorem dX6_needQueue_14 : decode cX6_needQueue 14 = .ok (.getfield 135, 3) := by decide +kernel
theorem dX6_needQueue_17 : decode cX6_needQueue 17 = .ok (.ifCond .ne 6, 3) := by decide +kernel
theorem dX6_needQueue_20 : decode cX6_needQueue 20 = .ok (.bipush (-4), 2) := by decide +kernel
theorem dX6_needQueue_22 : decode cX6_needQueue 22 = .ok (.ireturn, 1) := by decide +kernel
theorem dX6_needQueue_23 : decode cX6_needQueue 23 = .ok (.aload_n 0, 1) := by decide +kernel
theorem dX6_needQueue_24 : decode cX6_needQueue 24 = .ok (.getfield 17, 3) := by decide +kernel
theorem dX6_needQueue_27 : decode cX6_needQueue 27 = .ok (.iload_n 1, 1) := by decide +kernel
theorem dX6_needQueue_28 : decode cX6_needQueue 28 = .ok (.iaload, 1) := by decide +kernel
theorem dX6_needQueue_29 : decode cX6_needQueue 29 = .ok (.ifCond .ge 9, 3) := by decide +kernel
theorem dX6_needQueue_32 : decode cX6_needQueue 32 = .ok (.aload_n 0, 1) := by decide +kernel
theorem dX6_needQueue_33 : decode cX6_needQueue 33 = .ok (.iconst 1, 1) := by decide +kernel
theorem dX6_needQueue_34 : decode cX6_needQueue 34 = .ok (.invokevirtual 97, 3) := by decide +kernel
theorem dX6_needQueue_37 : decode cX6_needQueue 37 = .ok (.ireturn, 1) := by decide +kernel
theorem dX6_needQueue_38 : decode cX6_needQueue 38 = .ok (.aload_n 0, 1) := by decide +kernel
theorem dX6_needQueue_39 : decode cX6_needQueue 39 = .ok (.getfield 17, 3) := by decide +kernel
theorem dX6_needQueue_42 : decode cX6_needQueue 42 = .ok (.iload_n 1, 1) := by decide +kernel
theorem dX6_needQueue_43 : decode cX6_needQueue 43 = .ok (.iaload, 1) := by decide +kernel
theorem dX6_needQueue_44 : decode cX6_needQueue 44 = .ok (.iconst 2, 1) := by decide +kernel
theorem dX6_needQueue_45 : decode cX6_needQueue 45 = .ok (.irem, 1) := by decide +kernel
theorem dX6_needQueue_46 : decode cX6_needQueue 46 = .ok (.ifCond .ne 14, 3) := by decide +kernel
theorem dX6_needQueue_49 : decode cX6_needQueue 49 = .ok (.aload_n 0, 1) := by decide +kernel
theorem dX6_needQueue_50 : decode cX6_needQueue 50 = .ok (.getfield 17, 3) := by decide +kernel
theorem dX6_needQueue_53 : decode cX6_needQueue 53 = .ok (.iload_n 1, 1) := by decide +kernel
theorem dX6_needQueue_54 : decode cX6_needQueue 54 = .ok (.iaload, 1) := by decide +kernel
theorem dX6_needQueue_55 : decode cX6_needQueue 55 = .ok (.bipush 16, 2) := by decide +kernel
theorem dX6_needQueue_57 : decode cX6_needQueue 57 = .ok (.if_icmp .le 9, 3) := by decide +kernel
theorem dX6_needQueue_60 : decode cX6_needQueue 60 = .ok (.aload_n 0, 1) := by decide +kernel
theorem dX6_needQueue_61 : decode cX6_needQueue 61 = .ok (.iconst 5, 1) := by decide +kernel
theorem dX6_needQueue_62 : decode cX6_needQueue 62 = .ok (.invokevirtual 97, 3) := by decide +kernel
theorem dX6_needQueue_65 : decode cX6_needQueue 65 = .ok (.ireturn, 1) := by decide +kernel
theorem dX6_needQueue_66 : decode cX6_needQueue 66 = .ok (.iconst 1, 1) := by decide +kernel
theorem dX6_needQueue_67 : decode cX6_needQueue 67 = .ok (.istore_n 3, 1) := by decide +kernel
theorem dX6_needQueue_68 : decode cX6_needQueue 68 = .ok (.iconst 0, 1) := by decide +kernel
theorem dX6_needQueue_69 : decode cX6_needQueue 69 = .ok (.istore 4, 2) := by decide +kernel
theorem dX6_needQueue_71 : decode cX6_needQueue 71 = .ok (.iload 4, 2) := by decide +kernel
theorem dX6_needQueue_73 : decode cX6_needQueue 73 = .ok (.aload_n 0, 1) := by decide +kernel
theorem dX6_needQueue_74 : decode cX6_needQueue 74 = .ok (.getfield 17, 3) := by decide +kernel
theorem dX6_needQueue_77 : decode cX6_needQueue 77 = .ok (.iload_n 1, 1) := by decide +kernel
theorem dX6_needQueue_78 : decode cX6_needQueue 78 = .ok (.iaload, 1) := by decide +kernel
theorem dX6_needQueue_79 : decode cX6_needQueue 79 = .ok (.if_icmp .ge 73, 3) := by decide +kernel
theorem dX6_needQueue_82 : decode cX6_needQueue 82 = .ok (.iload 4, 2) := by decide +kernel
theorem dX6_needQueue_84 : decode cX6_needQueue 84 = .ok (.ifCond .ne 7, 3) := by decide +kernel
theorem dX6_needQueue_87 : decode cX6_needQueue 87 = .ok (.iconst 0, 1) := by decide +kernel
theorem dX6_needQueue_88 : decode cX6_needQueue 88 = .ok (.goto 12, 3) := by decide +kernel
theorem dX6_needQueue_91 : decode cX6_needQueue 91 = .ok (.aload_n 0, 1) := by decide +kernel
theorem dX6_needQueue_92 : decode cX6_needQueue 92 = .ok (.iload_n 1, 1) := by decide +kernel
theorem dX6_needQueue_93 : decode cX6_needQueue 93 = .ok (.iload 4, 2) := by decide +kernel
theorem dX6_needQueue_95 : decode cX6_needQueue 95 = .ok (.iconst 1, 1) := by decide +kernel
theorem dX6_needQueue_96 : decode cX6_needQueue 96 = .ok (.isub, 1) := by decide +kernel
theorem dX6_needQueue_97 : decode cX6_needQueue 97 = .ok (.invokevirtual 101, 3) := by decide +kernel
theorem dX6_needQueue_100 : decode cX6_needQueue 100 = .ok (.istore 5, 2) := by decide +kernel
theorem dX6_needQueue_102 : decode cX6_needQueue 102 = .ok (.iload_n 3, 1) := by decide +kernel
theorem dX6_needQueue_103 : decode cX6_needQueue 103 = .ok (.ifCond .eq 41, 3) := by decide +kernel
theorem dX6_needQueue_106 : decode cX6_needQueue 106 = .ok (.aload_n 0, 1) := by decide +kernel
theorem dX6_needQueue_107 : decode cX6_needQueue 107 = .ok (.aload_n 0, 1) := by decide +kernel
theorem dX6_needQueue_108 : decode cX6_needQueue 108 = .ok (.iload_n 1, 1) := by decide +kernel
theorem dX6_needQueue_109 : decode cX6_needQueue 109 = .ok (.iload 4, 2) := by decide +kernel
theorem dX6_needQueue_111 : decode cX6_needQueue 111 = .ok (.invokevirtual 101, 3) := by decide +kernel
theorem dX6_needQueue_114 : decode cX6_needQueue 114 = .ok (.invokevirtual 163, 3) := by decide +kernel
theorem dX6_needQueue_117 : decode cX6_needQueue 117 = .ok (.ifCond .eq 27, 3) := by decide +kernel
theorem dX6_needQueue_120 : decode cX6_needQueue 120 = .ok (.aload_n 0, 1) := by decide +kernel
theorem dX6_needQueue_121 : decode cX6_needQueue 121 = .ok (.iload_n 1, 1) := by decide +kernel
theorem dX6_needQueue_122 : decode cX6_needQueue 122 = .ok (.iload 4, 2) := by decide +kernel
theorem dX6_needQueue_124 : decode cX6_needQueue 124 = .ok (.iconst 1, 1) := by decide +kernel
theorem dX6_needQueue_125 : decode cX6_needQueue 125 = .ok (.iadd, 1) := by decide +kernel
theorem dX6_needQueue_126 : decode cX6_needQueue 126 = .ok (.invokevirtual 101, 3) := by decide +kernel
theorem dX6_needQueue_129 : decode cX6_needQueue 129 = .ok (.iload 5, 2) := by decide +kernel
theorem dX6_needQueue_131 : decode cX6_needQueue 131 = .ok (.sipush 999, 3) := by decide +kernel
theorem dX6_needQueue_134 : decode cX6_needQueue 134 = .ok (.invokestatic 83, 3) := by decide +kernel
theorem dX6_needQueue_137 : decode cX6_needQueue 137 = .ok (.ifCond .eq 7, 3) := by decide +kernel
theorem dX6_needQueue_140 : decode cX6_needQueue 140 = .ok (.iconst 1, 1) := by decide +kernel
theorem dX6_needQueue_141 : decode cX6_needQueue 141 = .ok (.goto 4, 3) := by decide +kernel
theorem dX6_needQueue_144 : decode cX6_needQueue 144 = .ok (.iconst 0, 1) := by decide +kernel
theorem dX6_needQueue_145 : decode cX6_needQueue 145 = .ok (.istore_n 3, 1) := by decide +kernel
theorem dX6_needQueue_146 : decode cX6_needQueue 146 = .ok (.iinc 4 2, 3) := by decide +kernel
theorem dX6_needQueue_149 : decode cX6_needQueue 149 = .ok (.goto (-78), 3) := by decide +kernel
theorem dX6_needQueue_152 : decode cX6_needQueue 152 = .ok (.iload_n 3, 1) := by decide +kernel
theorem dX6_needQueue_153 : decode cX6_needQueue 153 = .ok (.ifCond .eq 7, 3) := by decide +kernel
theorem dX6_needQueue_156 : decode cX6_needQueue 156 = .ok (.iconst 0, 1) := by decide +kernel
theorem dX6_needQueue_157 : decode cX6_needQueue 157 = .ok (.goto 8, 3) := by decide +kernel
theorem dX6_needQueue_160 : decode cX6_needQueue 160 = .ok (.aload_n 0, 1) := by decide +kernel
theorem dX6_needQueue_161 : decode cX6_needQueue 161 = .ok (.iconst 3, 1) := by decide +kernel
theorem dX6_needQueue_162 : decode cX6_needQueue 162 = .ok (.invokevirtual 97, 3) := by decide +kernel
theorem dX6_needQueue_165 : decode cX6_needQueue 165 = .ok (.ireturn, 1) := by decide +kernel
theorem dX6_passes_0 : decode cX6_passes 0 = .ok (.aload_n 0, 1) := by decide +kernel
theorem dX6_passes_1 : decode cX6_passes 1 = .ok (.iconst 0, 1) := by decide +kernel
theorem dX6_passes_2 : decode cX6_passes 2 = .ok (.putfield 226, 3) := by decide +kernel
theorem dX6_passes_5 : decode cX6_passes 5 = .ok (.aload_n 0, 1) := by decide +kernel
theorem dX6_passes_6 : decode cX6_passes 6 = .ok (.iconst 0, 1) := by decide +kernel
theorem dX6_passes_7 : decode cX6_passes 7 = .ok (.putfield 229, 3) := by decide +kernel
theorem dX6_passes_10 : decode cX6_passes 10 = .ok (.aload_n 0, 1) := by decide +kernel
theorem dX6_passes_11 : decode cX6_passes 11 = .ok (.iconst 0, 1) := by decide +kernel
theorem dX6_passes_12 : decode cX6_passes 12 = .ok (.putfield 232, 3) := by decide +kernel
theorem dX6_passes_15 : decode cX6_passes 15 = .ok (.iconst 0, 1) := by decide +kernel
theorem dX6_passes_16 : decode cX6_passes 16 = .ok (.istore_n 3, 1) := by decide +kernel
theorem dX6_passes_17 : decode cX6_passes 17 = .ok (.iload_n 3, 1) := by decide +kernel
theorem dX6_passes_18 : decode cX6_passes 18 = .ok (.aload_n 0, 1) := by decide +kernel
theorem dX6_passes_19 : decode cX6_passes 19 = .ok (.getfield 17, 3) := by decide +kernel
theorem dX6_passes_22 : decode cX6_passes 22 = .ok (.iload_n 1, 1) := by decide +kernel
theorem dX6_passes_23 : decode cX6_passes 23 = .ok (.iaload, 1) := by decide +kernel
theorem dX6_passes_24 : decode cX6_passes 24 = .ok (.if_icmp .ge 121, 3) := by decide +kernel
theorem dX6_passes_27 : decode cX6_passes 27 = .ok (.aload_n 0, 1) := by decide +kernel
theorem dX6_passes_28 : decode cX6_passes 28 = .ok (.iload_n 1, 1) := by decide +kernel
theorem dX6_passes_29 : decode cX6_passes 29 = .ok (.iload_n 3, 1) := by decide +kernel
theorem dX6_passes_30 : decode cX6_passes 30 = .ok (.invokevirtual 101, 3) := by decide +kernel
theorem dX6_passes_33 : decode cX6_passes 33 = .ok (.istore 4, 2) := by decide +kernel
theorem dX6_passes_35 : decode cX6_passes 35 = .ok (.aload_n 0, 1) := by decide +kernel
theorem dX6_passes_36 : decode cX6_passes 36 = .ok (.iload_n 1, 1) := by decide +kernel
theorem dX6_passes_37 : decode cX6_passes 37 = .ok (.iload_n 3, 1) := by decide +kernel
theorem dX6_passes_38 : decode cX6_passes 38 = .ok (.iconst 1, 1) := by decide +kernel
theorem dX6_passes_39 : decode cX6_passes 39 = .ok (.iadd, 1) := by decide +kernel
theorem dX6_passes_40 : decode cX6_passes 40 = .ok (.invokevirtual 101, 3) := by decide +kernel
theorem dX6_passes_43 : decode cX6_passes 43 = .ok (.istore 5, 2) := by decide +kernel
theorem dX6_passes_45 : decode cX6_passes 45 = .ok (.iload 5, 2) := by decide +kernel
theorem dX6_passes_47 : decode cX6_passes 47 = .ok (.aload_n 0, 1) := by decide +kernel
theorem dX6_passes_48 : decode cX6_passes 48 = .ok (.getfield 232, 3) := by decide +kernel
theorem dX6_passes_51 : decode cX6_passes 51 = .ok (.if_icmp .le 8, 3) := by decide +kernel
theorem dX6_passes_54 : decode cX6_passes 54 = .ok (.iload 5, 2) := by decide +kernel
theorem dX6_passes_56 : decode cX6_passes 56 = .ok (.goto 7, 3) := by decide +kernel
theorem dX6_passes_59 : decode cX6_passes 59 = .ok (.aload_n 0, 1) := by decide +kernel
theorem dX6_passes_60 : decode cX6_passes 60 = .ok (.getfield 232, 3) := by decide +kernel
theorem dX6_passes_63 : decode cX6_passes 63 = .ok (.istore 6, 2) := by decide +kernel
theorem dX6_passes_65 : decode cX6_passes 65 = .ok (.iload 6, 2) := by decide +kernel
theorem dX6_passes_67 : decode cX6_passes 67 = .ok (.iload 5, 2) := by decide +kernel
theorem dX6_passes_69 : decode cX6_passes 69 = .ok (.isub, 1) := by decide +kernel
theorem dX6_passes_70 : decode cX6_passes 70 = .ok (.aload_n 0, 1) := by decide +kernel
theorem dX6_passes_71 : decode cX6_passes 71 = .ok (.getfield 33, 3) := by decide +kernel
theorem dX6_passes_74 : decode cX6_passes 74 = .ok (.iload 4, 2) := by decide +kernel
theorem dX6_passes_76 : decode cX6_passes 76 = .ok (.iaload, 1) := by decide +kernel
theorem dX6_passes_77 : decode cX6_passes 77 = .ok (.iconst 3, 1) := by decide +kernel
theorem dX6_passes_78 : decode cX6_passes 78 = .ok (.if_icmp .ne 8, 3) := by decide +kernel
theorem dX6_passes_81 : decode cX6_passes 81 = .ok (.bipush 20, 2) := by decide +kernel
theorem dX6_passes_83 : decode cX6_passes 83 = .ok (.goto 5, 3) := by decide +kernel
theorem dX6_passes_86 : decode cX6_passes 86 = .ok (.bipush 60, 2) := by decide +kernel
theorem dX6_passes_88 : decode cX6_passes 88 = .ok (.if_icmp .le 16, 3) := by decide +kernel
theorem dX6_passes_91 : decode cX6_passes 91 = .ok (.aload_n 0, 1) := by decide +kernel
theorem dX6_passes_92 : decode cX6_passes 92 = .ok (.dup, 1) := by decide +kernel
theorem dX6_passes_93 : decode cX6_passes 93 = .ok (.getfield 226, 3) := by decide +kernel
theorem dX6_passes_96 : decode cX6_passes 96 = .ok (.iconst 1, 1) := by decide +kernel
theorem dX6_passes_97 : decode cX6_passes 97 = .ok (.iadd, 1) := by decide +kernel
theorem dX6_passes_98 : decode cX6_passes 98 = .ok (.putfield 226, 3) := by decide +kernel
theorem dX6_passes_101 : decode cX6_passes 101 = .ok (.goto 38, 3) := by decide +kernel
theorem dX6_passes_104 : decode cX6_passes 104 = .ok (.aload_n 0, 1) := by decide +kernel
theorem dX6_passes_105 : decode cX6_passes 105 = .ok (.iload 6, 2) := by decide +kernel
theorem dX6_passes_107 : decode cX6_passes 107 = .ok (.aload_n 0, 1) := by decide +kernel
theorem dX6_passes_108 : decode cX6_passes 108 = .ok (.iload 4, 2) := by decide +kernel
theorem dX6_passes_110 : decode cX6_passes 110 = .ok (.invokevirtual 160, 3) := by decide +kernel
theorem dX6_passes_113 : decode cX6_passes 113 = .ok (.iadd, 1) := by decide +kernel
theorem dX6_passes_114 : decode cX6_passes 114 = .ok (.putfield 232, 3) := by decide +kernel
theorem dX6_passes_117 : decode cX6_passes 117 = .ok (.aload_n 0, 1) := by decide +kernel
theorem dX6_passes_118 : decode cX6_passes 118 = .ok (.dup, 1) := by decide +kernel
theorem dX6_passes_119 : decode cX6_passes 119 = .ok (.getfield 229, 3) := by decide +kernel
theorem dX6_passes_122 : decode cX6_passes 122 = .ok (.aload_n 0, 1) := by decide +kernel
theorem dX6_passes_123 : decode cX6_passes 123 = .ok (.getfield 232, 3) := by decide +kernel
theorem dX6_passes_126 : decode cX6_passes 126 = .ok (.iload_n 2, 1) := by decide +kernel
theorem dX6_passes_127 : decode cX6_passes 127 = .ok (.if_icmp .gt 7, 3) := by decide +kernel
theorem dX6_passes_130 : decode cX6_passes 130 = .ok (.iconst 1, 1) := by decide +kernel
theorem dX6_passes_131 : decode cX6_passes 131 = .ok (.goto 4, 3) := by decide +kernel
theorem dX6_passes_134 : decode cX6_passes 134 = .ok (.iconst 0, 1) := by decide +kernel
theorem dX6_passes_135 : decode cX6_passes 135 = .ok (.iadd, 1) := by decide +kernel
theorem dX6_passes_136 : decode cX6_passes 136 = .ok (.putfield 229, 3) := by decide +kernel
theorem dX6_passes_139 : decode cX6_passes 139 = .ok (.iinc 3 2, 3) := by decide +kernel
theorem dX6_passes_142 : decode cX6_passes 142 = .ok (.goto (-125), 3) := by decide +kernel
theorem dX6_passes_145 : decode cX6_passes 145 = .ok (.return_, 1) := by decide +kernel
theorem dX6_queue_0 : decode cX6_queue 0 = .ok (.aload_n 0, 1) := by decide +kernel
theorem dX6_queue_1 : decode cX6_queue 1 = .ok (.iload_n 1, 1) := by decide +kernel
theorem dX6_queue_2 : decode cX6_queue 2 = .ok (.iconst 1, 1) := by decide +kernel
theorem dX6_queue_3 : decode cX6_queue 3 = .ok (.invokevirtual 235, 3) := by decide +kernel
theorem dX6_queue_6 : decode cX6_queue 6 = .ok (.istore_n 2, 1) := by decide +kernel
theorem dX6_queue_7 : decode cX6_queue 7 = .ok (.iload_n 2, 1) := by decide +kernel
theorem dX6_queue_8 : decode cX6_queue 8 = .ok (.ifCond .ge 5, 3) := by decide +kernel
theorem dX6_queue_11 : decode cX6_queue 11 = .ok (.iload_n 2, 1) := by decide +kernel
theorem dX6_queue_12 : decode cX6_queue 12 = .ok (.ireturn, 1) := by decide +kernel
theorem dX6_queue_13 : decode cX6_queue 13 = .ok (.aload_n 0, 1) := by decide +kernel
theorem dX6_queue_14 : decode cX6_queue 14 = .ok (.iload_n 1, 1) := by decide +kernel
theorem dX6_queue_15 : decode cX6_queue 15 = .ok (.sipush 9999, 3) := by decide +kernel
theorem dX6_queue_18 : decode cX6_queue 18 = .ok (.invokevirtual 239, 3) := by decide +kernel
theorem dX6_queue_21 : decode cX6_queue 21 = .ok (.aload_n 0, 1) := by decide +kernel
theorem dX6_queue_22 : decode cX6_queue 22 = .ok (.aload_n 0, 1) := by decide +kernel
theorem dX6_queue_23 : decode cX6_queue 23 = .ok (.getfield 232, 3) := by decide +kernel
theorem dX6_queue_26 : decode cX6_queue 26 = .ok (.aload_n 0, 1) := by decide +kernel
theorem dX6_queue_27 : decode cX6_queue 27 = .ok (.getfield 226, 3) := by decide +kernel
theorem dX6_queue_30 : decode cX6_queue 30 = .ok (.invokevirtual 105, 3) := by decide +kernel
theorem dX6_queue_33 : decode cX6_queue 33 = .ok (.ireturn, 1) := by decide +kernel
theorem dX6_by_0 : decode cX6_by 0 = .ok (.aload_n 0, 1) := by decide +kernel
theorem dX6_by_1 : decode cX6_by 1 = .ok (.iload_n 1, 1) := by decide +kernel
theorem dX6_by_2 : decode cX6_by 2 = .ok (.iload_n 2, 1) := by decide +kernel
theorem dX6_by_3 : decode cX6_by 3 = .ok (.iconst 0, 1) := by decide +kernel
theorem dX6_by_4 : decode cX6_by 4 = .ok (.sipush 9999, 3) := by decide +kernel
theorem dX6_by_7 : decode cX6_by 7 = .ok (.invokestatic 83, 3) := by decide +kernel
theorem dX6_by_10 : decode cX6_by 10 = .ok (.invokevirtual 235, 3) := by decide +kernel
theorem dX6_by_13 : decode cX6_by 13 = .ok (.istore_n 3, 1) := by decide +kernel
theorem dX6_by_14 : decode cX6_by 14 = .ok (.iload_n 3, 1) := by decide +kernel
theorem dX6_by_15 : decode cX6_by 15 = .ok (.ifCond .ge 5, 3) := by decide +kernel
theorem dX6_by_18 : decode cX6_by 18 = .ok (.iload_n 3, 1) := by decide +kernel
theorem dX6_by_19 : decode cX6_by 19 = .ok (.ireturn, 1) := by decide +kernel
theorem dX6_by_20 : decode cX6_by 20 = .ok (.aload_n 0, 1) := by decide +kernel
theorem dX6_by_21 : decode cX6_by 21 = .ok (.iload_n 1, 1) := by decide +kernel
theorem dX6_by_22 : decode cX6_by 22 = .ok (.iload_n 2, 1) := by decide +kernel
theorem dX6_by_23 : decode cX6_by 23 = .ok (.invokevirtual 239, 3) := by decide +kernel
theorem dX6_by_26 : decode cX6_by 26 = .ok (.aload_n 0, 1) := by decide +kernel
theorem dX6_by_27 : decode cX6_by 27 = .ok (.getfield 229, 3) := by decide +kernel
theorem dX6_by_30 : decode cX6_by 30 = .ok (.ireturn, 1) := by decide +kernel
theorem dX6_order_0 : decode cX6_order 0 = .ok (.iload_n 1, 1) := by decide +kernel
theorem dX6_order_1 : decode cX6_order 1 = .ok (.invokestatic 93, 3) := by decide +kernel
theorem dX6_order_4 : decode cX6_order 4 = .ok (.ifCond .ne 5, 3) := by decide +kernel
theorem dX6_order_7 : decode cX6_order 7 = .ok (.iconst (-1), 1) := by decide +kernel
theorem dX6_order_8 : decode cX6_order 8 = .ok (.ireturn, 1) := by decide +kernel
theorem dX6_order_9 : decode cX6_order 9 = .ok (.aload_n 0, 1) := by decide +kernel
theorem dX6_order_10 : decode cX6_order 10 = .ok (.getfield 135, 3) := by decide +kernel
theorem dX6_order_13 : decode cX6_order 13 = .ok (.ifCond .ne 6, 3) := by decide +kernel
theorem dX6_order_16 : decode cX6_order 16 = .ok (.bipush (-4), 2) := by decide +kernel
theorem dX6_order_18 : decode cX6_order 18 = .ok (.ireturn, 1) := by decide +kernel
theorem dX6_order_19 : decode cX6_order 19 = .ok (.iconst 0, 1) := by decide +kernel
theorem dX6_order_20 : decode cX6_order 20 = .ok (.istore_n 2, 1) := by decide +kernel
theorem dX6_order_21 : decode cX6_order 21 = .ok (.iconst 1, 1) := by decide +kernel
theorem dX6_order_22 : decode cX6_order 22 = .ok (.istore_n 3, 1) := by decide +kernel
theorem dX6_order_23 : decode cX6_order 23 = .ok (.iload_n 3, 1) := by decide +kernel
theorem dX6_order_24 : decode cX6_order 24 = .ok (.ifCond .lt 57, 3) := by decide +kernel
theorem dX6_order_27 : decode cX6_order 27 = .ok (.iconst 0, 1) := by decide +kernel
theorem dX6_order_28 : decode cX6_order 28 = .ok (.istore 4, 2) := by decide +kernel
theorem dX6_order_30 : decode cX6_order 30 = .ok (.iload 4, 2) := by decide +kernel
theorem dX6_order_32 : decode cX6_order 32 = .ok (.aload_n 0, 1) := by decide +kernel
theorem dX6_order_33 : decode cX6_order 33 = .ok (.getfield 135, 3) := by decide +kernel
theorem dX6_order_36 : decode cX6_order 36 = .ok (.if_icmp .ge 39, 3) := by decide +kernel
theorem dX6_order_39 : decode cX6_order 39 = .ok (.aload_n 0, 1) := by decide +kernel
theorem dX6_order_40 : decode cX6_order 40 = .ok (.iload 4, 2) := by decide +kernel
theorem dX6_order_42 : decode cX6_order 42 = .ok (.invokevirtual 151, 3) := by decide +kernel
theorem dX6_order_45 : decode cX6_order 45 = .ok (.iload_n 3, 1) := by decide +kernel
theorem dX6_order_46 : decode cX6_order 46 = .ok (.iconst 1, 1) := by decide +kernel
theorem dX6_order_47 : decode cX6_order 47 = .ok (.if_icmp .ne 7, 3) := by decide +kernel
theorem dX6_order_50 : decode cX6_order 50 = .ok (.iconst 1, 1) := by decide +kernel
theorem dX6_order_51 : decode cX6_order 51 = .ok (.goto 4, 3) := by decide +kernel
theorem dX6_order_54 : decode cX6_order 54 = .ok (.iconst 0, 1) := by decide +kernel
theorem dX6_order_55 : decode cX6_order 55 = .ok (.if_icmp .ne 14, 3) := by decide +kernel
theorem dX6_order_58 : decode cX6_order 58 = .ok (.aload_n 0, 1) := by decide +kernel
theorem dX6_order_59 : decode cX6_order 59 = .ok (.getfield 76, 3) := by decide +kernel
theorem dX6_order_62 : decode cX6_order 62 = .ok (.iload_n 2, 1) := by decide +kernel
theorem dX6_order_63 : decode cX6_order 63 = .ok (.iload 4, 2) := by decide +kernel
theorem dX6_order_65 : decode cX6_order 65 = .ok (.iastore, 1) := by decide +kernel
theorem dX6_order_66 : decode cX6_order 66 = .ok (.iinc 2 1, 3) := by decide +kernel
theorem dX6_order_69 : decode cX6_order 69 = .ok (.iinc 4 1, 3) := by decide +kernel
theorem dX6_order_72 : decode cX6_order 72 = .ok (.goto (-42), 3) := by decide +kernel
theorem dX6_order_75 : decode cX6_order 75 = .ok (.iinc 3 (-1), 3) := by decide +kernel
theorem dX6_order_78 : decode cX6_order 78 = .ok (.goto (-55), 3) := by decide +kernel
theorem dX6_order_81 : decode cX6_order 81 = .ok (.iconst 0, 1) := by decide +kernel
theorem dX6_order_82 : decode cX6_order 82 = .ok (.istore_n 3, 1) := by decide +kernel
theorem dX6_order_83 : decode cX6_order 83 = .ok (.iconst 0, 1) := by decide +kernel
theorem dX6_order_84 : decode cX6_order 84 = .ok (.istore 4, 2) := by decide +kernel
theorem dX6_order_86 : decode cX6_order 86 = .ok (.iconst 0, 1) := by decide +kernel
theorem dX6_order_87 : decode cX6_order 87 = .ok (.istore 5, 2) := by decide +kernel
theorem dX6_order_89 : decode cX6_order 89 = .ok (.iload 5, 2) := by decide +kernel
theorem dX6_order_91 : decode cX6_order 91 = .ok (.aload_n 0, 1) := by decide +kernel
theorem dX6_order_92 : decode cX6_order 92 = .ok (.getfield 135, 3) := by decide +kernel
theorem dX6_order_95 : decode cX6_order 95 = .ok (.if_icmp .ge 40, 3) := by decide +kernel
theorem dX6_order_98 : decode cX6_order 98 = .ok (.iload_n 3, 1) := by decide +kernel
theorem dX6_order_99 : decode cX6_order 99 = .ok (.iload 4, 2) := by decide +kernel
theorem dX6_order_101 : decode cX6_order 101 = .ok (.iadd, 1) := by decide +kernel
theorem dX6_order_102 : decode cX6_order 102 = .ok (.istore_n 3, 1) := by decide +kernel
theorem dX6_order_103 : decode cX6_order 103 = .ok (.iload 4, 2) := by decide +kernel
theorem dX6_order_105 : decode cX6_order 105 = .ok (.aload_n 0, 1) := by decide +kernel
theorem dX6_order_106 : decode cX6_order 106 = .ok (.aload_n 0, 1) := by decide +kernel
theorem dX6_order_107 : decode cX6_order 107 = .ok (.getfield 76, 3) := by decide +kernel
theorem dX6_order_110 : decode cX6_order 110 = .ok (.iload 5, 2) := by decide +kernel
theorem dX6_order_112 : decode cX6_order 112 = .ok (.iaload, 1) := by decide +kernel
theorem dX6_order_113 : decode cX6_order 113 = .ok (.invokevirtual 151, 3) := by decide +kernel
theorem dX6_order_116 : decode cX6_order 116 = .ok (.ifCond .eq 8, 3) := by decide +kernel
theorem dX6_order_119 : decode cX6_order 119 = .ok (.bipush 9, 2) := by decide +kernel
theorem dX6_order_121 : decode cX6_order 121 = .ok (.goto 5, 3) := by decide +kernel
theorem dX6_order_124 : decode cX6_order 124 = .ok (.bipush 40, 2) := by decide +kernel
theorem dX6_order_126 : decode cX6_order 126 = .ok (.iadd, 1) := by decide +kernel
theorem dX6_order_127 : decode cX6_order 127 = .ok (.istore 4, 2) := by decide +kernel
theorem dX6_order_129 : decode cX6_order 129 = .ok (.iinc 5 1, 3) := by decide +kernel
theorem dX6_order_132 : decode cX6_order 132 = .ok (.goto (-43), 3) := by decide +kernel
theorem dX6_order_135 : decode cX6_order 135 = .ok (.aload_n 0, 1) := by decide +kernel
theorem dX6_order_136 : decode cX6_order 136 = .ok (.iload_n 1, 1) := by decide +kernel
theorem dX6_order_137 : decode cX6_order 137 = .ok (.aload_n 0, 1) := by decide +kernel
theorem dX6_order_138 : decode cX6_order 138 = .ok (.getfield 76, 3) := by decide +kernel
theorem dX6_order_141 : decode cX6_order 141 = .ok (.aload_n 0, 1) := by decide +kernel
theorem dX6_order_142 : decode cX6_order 142 = .ok (.getfield 135, 3) := by decide +kernel
theorem dX6_order_145 : decode cX6_order 145 = .ok (.invokevirtual 243, 3) := by decide +kernel
theorem dX6_order_148 : decode cX6_order 148 = .ok (.iload_n 3, 1) := by decide +kernel
theorem dX6_order_149 : decode cX6_order 149 = .ok (.ireturn, 1) := by decide +kernel
theorem dX6_weekOf_0 : decode cX6_weekOf 0 = .ok (.iconst 0, 1) := by decide +kernel
theorem dX6_weekOf_1 : decode cX6_weekOf 1 = .ok (.istore_n 2, 1) := by decide +kernel
theorem dX6_weekOf_2 : decode cX6_weekOf 2 = .ok (.iconst 0, 1) := by decide +kernel
theorem dX6_weekOf_3 : decode cX6_weekOf 3 = .ok (.istore_n 3, 1) := by decide +kernel
theorem dX6_weekOf_4 : decode cX6_weekOf 4 = .ok (.iload_n 3, 1) := by decide +kernel
theorem dX6_weekOf_5 : decode cX6_weekOf 5 = .ok (.aload_n 0, 1) := by decide +kernel
theorem dX6_weekOf_6 : decode cX6_weekOf 6 = .ok (.getfield 135, 3) := by decide +kernel
theorem dX6_weekOf_9 : decode cX6_weekOf 9 = .ok (.if_icmp .ge 34, 3) := by decide +kernel
theorem dX6_weekOf_12 : decode cX6_weekOf 12 = .ok (.iload_n 2, 1) := by decide +kernel
theorem dX6_weekOf_13 : decode cX6_weekOf 13 = .ok (.aload_n 0, 1) := by decide +kernel
theorem dX6_weekOf_14 : decode cX6_weekOf 14 = .ok (.getfield 48, 3) := by decide +kernel
theorem dX6_weekOf_17 : decode cX6_weekOf 17 = .ok (.iload_n 3, 1) := by decide +kernel
theorem dX6_weekOf_18 : decode cX6_weekOf 18 = .ok (.iaload, 1) := by decide +kernel
theorem dX6_weekOf_19 : decode cX6_weekOf 19 = .ok (.iload_n 1, 1) := by decide +kernel
theorem dX6_weekOf_20 : decode cX6_weekOf 20 = .ok (.iload_n 3, 1) := by decide +kernel
theorem dX6_weekOf_21 : decode cX6_weekOf 21 = .ok (.invokestatic 202, 3) := by decide +kernel
theorem dX6_weekOf_24 : decode cX6_weekOf 24 = .ok (.ifCond .eq 8, 3) := by decide +kernel
theorem dX6_weekOf_27 : decode cX6_weekOf 27 = .ok (.bipush 9, 2) := by decide +kernel
theorem dX6_weekOf_29 : decode cX6_weekOf 29 = .ok (.goto 5, 3) := by decide +kernel
theorem dX6_weekOf_32 : decode cX6_weekOf 32 = .ok (.bipush 40, 2) := by decide +kernel
theorem dX6_weekOf_34 : decode cX6_weekOf 34 = .ok (.imul, 1) := by decide +kernel
theorem dX6_weekOf_35 : decode cX6_weekOf 35 = .ok (.iadd, 1) := by decide +kernel
theorem dX6_weekOf_36 : decode cX6_weekOf 36 = .ok (.istore_n 2, 1) := by decide +kernel
theorem dX6_weekOf_37 : decode cX6_weekOf 37 = .ok (.iinc 3 1, 3) := by decide +kernel
theorem dX6_weekOf_40 : decode cX6_weekOf 40 = .ok (.goto (-36), 3) := by decide +kernel
theorem dX6_weekOf_43 : decode cX6_weekOf 43 = .ok (.iload_n 2, 1) := by decide +kernel
theorem dX6_weekOf_44 : decode cX6_weekOf 44 = .ok (.ireturn, 1) := by decide +kernel
theorem dX6_learn_0 : decode cX6_learn 0 = .ok (.iload_n 1, 1) := by decide +kernel
theorem dX6_learn_1 : decode cX6_learn 1 = .ok (.iconst 0, 1) := by decide +kernel
theorem dX6_learn_2 : decode cX6_learn 2 = .ok (.bipush 6, 2) := by decide +kernel
theorem dX6_learn_4 : decode cX6_learn 4 = .ok (.invokestatic 83, 3) := by decide +kernel
theorem dX6_learn_7 : decode cX6_learn 7 = .ok (.ifCond .ne 5, 3) := by decide +kernel
theorem dX6_learn_10 : decode cX6_learn 10 = .ok (.iconst (-1), 1) := by decide +kernel
theorem dX6_learn_11 : decode cX6_learn 11 = .ok (.ireturn, 1) := by decide +kernel
theorem dX6_learn_12 : decode cX6_learn 12 = .ok (.iload_n 1, 1) := by decide +kernel
theorem dX6_learn_13 : decode cX6_learn 13 = .ok (.aload_n 0, 1) := by decide +kernel
theorem dX6_learn_14 : decode cX6_learn 14 = .ok (.getfield 135, 3) := by decide +kernel
theorem dX6_learn_17 : decode cX6_learn 17 = .ok (.if_icmp .le 6, 3) := by decide +kernel
theorem dX6_learn_20 : decode cX6_learn 20 = .ok (.bipush (-4), 2) := by decide +kernel
theorem dX6_learn_22 : decode cX6_learn 22 = .ok (.ireturn, 1) := by decide +kernel
theorem dX6_learn_23 : decode cX6_learn 23 = .ok (.bipush (-9), 2) := by decide +kernel
theorem dX6_learn_25 : decode cX6_learn 25 = .ok (.istore_n 2, 1) := by decide +kernel
theorem dX6_learn_26 : decode cX6_learn 26 = .ok (.iconst 0, 1) := by decide +kernel
theorem dX6_learn_27 : decode cX6_learn 27 = .ok (.istore_n 3, 1) := by decide +kernel
theorem dX6_learn_28 : decode cX6_learn 28 = .ok (.iload_n 3, 1) := by decide +kernel
theorem dX6_learn_29 : decode cX6_learn 29 = .ok (.iconst 1, 1) := by decide +kernel
theorem dX6_learn_30 : decode cX6_learn 30 = .ok (.aload_n 0, 1) := by decide +kernel
theorem dX6_learn_31 : decode cX6_learn 31 = .ok (.getfield 135, 3) := by decide +kernel
theorem dX6_learn_34 : decode cX6_learn 34 = .ok (.ishl, 1) := by decide +kernel
theorem dX6_learn_35 : decode cX6_learn 35 = .ok (.if_icmp .ge 42, 3) := by decide +kernel
theorem dX6_learn_38 : decode cX6_learn 38 = .ok (.iload_n 3, 1) := by decide +kernel
theorem dX6_learn_39 : decode cX6_learn 39 = .ok (.invokestatic 223, 3) := by decide +kernel
theorem dX6_learn_42 : decode cX6_learn 42 = .ok (.iload_n 1, 1) := by decide +kernel
theorem dX6_learn_43 : decode cX6_learn 43 = .ok (.if_icmp .ne 26, 3) := by decide +kernel
theorem dX6_learn_46 : decode cX6_learn 46 = .ok (.iload_n 2, 1) := by decide +kernel
theorem dX6_learn_47 : decode cX6_learn 47 = .ok (.bipush (-9), 2) := by decide +kernel
theorem dX6_learn_49 : decode cX6_learn 49 = .ok (.if_icmp .eq 16, 3) := by decide +kernel
theorem dX6_learn_52 : decode cX6_learn 52 = .ok (.aload_n 0, 1) := by decide +kernel
theorem dX6_learn_53 : decode cX6_learn 53 = .ok (.iload_n 3, 1) := by decide +kernel
theorem dX6_learn_54 : decode cX6_learn 54 = .ok (.invokevirtual 247, 3) := by decide +kernel
theorem dX6_learn_57 : decode cX6_learn 57 = .ok (.aload_n 0, 1) := by decide +kernel
theorem dX6_learn_58 : decode cX6_learn 58 = .ok (.iload_n 2, 1) := by decide +kernel
theorem dX6_learn_59 : decode cX6_learn 59 = .ok (.invokevirtual 247, 3) := by decide +kernel
theorem dX6_learn_62 : decode cX6_learn 62 = .ok (.if_icmp .ge 7, 3) := by decide +kernel
theorem dX6_learn_65 : decode cX6_learn 65 = .ok (.iload_n 3, 1) := by decide +kernel
theorem dX6_learn_66 : decode cX6_learn 66 = .ok (.goto 4, 3) := by decide +kernel
theorem dX6_learn_69 : decode cX6_learn 69 = .ok (.iload_n 2, 1) := by decide +kernel
theorem dX6_learn_70 : decode cX6_learn 70 = .ok (.istore_n 2, 1) := by decide +kernel
theorem dX6_learn_71 : decode cX6_learn 71 = .ok (.iinc 3 1, 3) := by decide +kernel
theorem dX6_learn_74 : decode cX6_learn 74 = .ok (.goto (-46), 3) := by decide +kernel
theorem dX6_learn_77 : decode cX6_learn 77 = .ok (.aload_n 0, 1) := by decide +kernel
theorem dX6_learn_78 : decode cX6_learn 78 = .ok (.aload_n 0, 1) := by decide +kernel
theorem dX6_learn_79 : decode cX6_learn 79 = .ok (.iload_n 2, 1) := by decide +kernel
theorem dX6_learn_80 : decode cX6_learn 80 = .ok (.invokevirtual 247, 3) := by decide +kernel
theorem dX6_learn_83 : decode cX6_learn 83 = .ok (.iload_n 2, 1) := by decide +kernel
theorem dX6_learn_84 : decode cX6_learn 84 = .ok (.invokevirtual 105, 3) := by decide +kernel
theorem dX6_learn_87 : decode cX6_learn 87 = .ok (.ireturn, 1) := by decide +kernel
theorem dX6_needBook_0 : decode cX6_needBook 0 = .ok (.aload_n 0, 1) := by decide +kernel
theorem dX6_needBook_1 : decode cX6_needBook 1 = .ok (.getfield 17, 3) := by decide +kernel
theorem dX6_needBook_4 : decode cX6_needBook 4 = .ok (.iload_n 1, 1) := by decide +kernel
theorem dX6_needBook_5 : decode cX6_needBook 5 = .ok (.iaload, 1) := by decide +kernel
theorem dX6_needBook_6 : decode cX6_needBook 6 = .ok (.ifCond .ge 9, 3) := by decide +kernel
theorem dX6_needBook_9 : decode cX6_needBook 9 = .ok (.aload_n 0, 1) := by decide +kernel
theorem dX6_needBook_10 : decode cX6_needBook 10 = .ok (.iconst 1, 1) := by decide +kernel
theorem dX6_needBook_11 : decode cX6_needBook 11 = .ok (.invokevirtual 97, 3) := by decide +kernel
theorem dX6_needBook_14 : decode cX6_needBook 14 = .ok (.ireturn, 1) := by decide +kernel
theorem dX6_needBook_15 : decode cX6_needBook 15 = .ok (.aload_n 0, 1) := by decide +kernel
theorem dX6_needBook_16 : decode cX6_needBook 16 = .ok (.getfield 17, 3) := by decide +kernel
theorem dX6_needBook_19 : decode cX6_needBook 19 = .ok (.iload_n 1, 1) := by decide +kernel
theorem dX6_needBook_20 : decode cX6_needBook 20 = .ok (.iaload, 1) := by decide +kernel
theorem dX6_needBook_21 : decode cX6_needBook 21 = .ok (.iconst 2, 1) := by decide +kernel
theorem dX6_needBook_22 : decode cX6_needBook 22 = .ok (.irem, 1) := by decide +kernel
theorem dX6_needBook_23 : decode cX6_needBook 23 = .ok (.ifCond .eq 9, 3) := by decide +kernel
theorem dX6_needBook_26 : decode cX6_needBook 26 = .ok (.aload_n 0, 1) := by decide +kernel
theorem dX6_needBook_27 : decode cX6_needBook 27 = .ok (.iconst 5, 1) := by decide +kernel
theorem dX6_needBook_28 : decode cX6_needBook 28 = .ok (.invokevirtual 97, 3) := by decide +kernel
theorem dX6_needBook_31 : decode cX6_needBook 31 = .ok (.ireturn, 1) := by decide +kernel
theorem dX6_needBook_32 : decode cX6_needBook 32 = .ok (.iconst 1, 1) := by decide +kernel
theorem dX6_needBook_33 : decode cX6_needBook 33 = .ok (.istore_n 2, 1) := by decide +kernel
theorem dX6_needBook_34 : decode cX6_needBook 34 = .ok (.iconst 0, 1) := by decide +kernel
theorem dX6_needBook_35 : decode cX6_needBook 35 = .ok (.istore_n 3, 1) := by decide +kernel
theorem dX6_needBook_36 : decode cX6_needBook 36 = .ok (.iload_n 3, 1) := by decide +kernel
theorem dX6_needBook_37 : decode cX6_needBook 37 = .ok (.aload_n 0, 1) := by decide +kernel
theorem dX6_needBook_38 : decode cX6_needBook 38 = .ok (.getfield 17, 3) := by decide +kernel
theorem dX6_needBook_41 : decode cX6_needBook 41 = .ok (.iload_n 1, 1) := by decide +kernel
theorem dX6_needBook_42 : decode cX6_needBook 42 = .ok (.iaload, 1) := by decide +kernel
theorem dX6_needBook_43 : decode cX6_needBook 43 = .ok (.if_icmp .ge 49, 3) := by decide +kernel
theorem dX6_needBook_46 : decode cX6_needBook 46 = .ok (.iload_n 2, 1) := by decide +kernel
theorem dX6_needBook_47 : decode cX6_needBook 47 = .ok (.ifCond .eq 37, 3) := by decide +kernel
theorem dX6_needBook_50 : decode cX6_needBook 50 = .ok (.aload_n 0, 1) := by decide +kernel
theorem dX6_needBook_51 : decode cX6_needBook 51 = .ok (.iload_n 1, 1) := by decide +kernel
theorem dX6_needBook_52 : decode cX6_needBook 52 = .ok (.iload_n 3, 1) := by decide +kernel
theorem dX6_needBook_53 : decode cX6_needBook 53 = .ok (.invokevirtual 101, 3) := by decide +kernel
theorem dX6_needBook_56 : decode cX6_needBook 56 = .ok (.iconst 0, 1) := by decide +kernel
theorem dX6_needBook_57 : decode cX6_needBook 57 = .ok (.sipush 999, 3) := by decide +kernel
theorem dX6_needBook_60 : decode cX6_needBook 60 = .ok (.invokestatic 83, 3) := by decide +kernel
theorem dX6_needBook_63 : decode cX6_needBook 63 = .ok (.ifCond .eq 21, 3) := by decide +kernel
theorem dX6_needBook_66 : decode cX6_needBook 66 = .ok (.aload_n 0, 1) := by decide +kernel
theorem dX6_needBook_67 : decode cX6_needBook 67 = .ok (.iload_n 1, 1) := by decide +kernel
theorem dX6_needBook_68 : decode cX6_needBook 68 = .ok (.iload_n 3, 1) := by decide +kernel
theorem dX6_needBook_69 : decode cX6_needBook 69 = .ok (.iconst 1, 1) := by decide +kernel
theorem dX6_needBook_70 : decode cX6_needBook 70 = .ok (.iadd, 1) := by decide +kernel
theorem dX6_needBook_71 : decode cX6_needBook 71 = .ok (.invokevirtual 101, 3) := by decide +kernel
theorem dX6_needBook_74 : decode cX6_needBook 74 = .ok (.invokestatic 141, 3) := by decide +kernel
theorem dX6_needBook_77 : decode cX6_needBook 77 = .ok (.ifCond .eq 7, 3) := by decide +kernel
theorem dX6_needBook_80 : decode cX6_needBook 80 = .ok (.iconst 1, 1) := by decide +kernel
theorem dX6_needBook_81 : decode cX6_needBook 81 = .ok (.goto 4, 3) := by decide +kernel
theorem dX6_needBook_84 : decode cX6_needBook 84 = .ok (.iconst 0, 1) := by decide +kernel
theorem dX6_needBook_85 : decode cX6_needBook 85 = .ok (.istore_n 2, 1) := by decide +kernel
theorem dX6_needBook_86 : decode cX6_needBook 86 = .ok (.iinc 3 2, 3) := by decide +kernel
theorem dX6_needBook_89 : decode cX6_needBook 89 = .ok (.goto (-53), 3) := by decide +kernel
theorem dX6_needBook_92 : decode cX6_needBook 92 = .ok (.iload_n 2, 1) := by decide +kernel
theorem dX6_needBook_93 : decode cX6_needBook 93 = .ok (.ifCond .eq 7, 3) := by decide +kernel
theorem dX6_needBook_96 : decode cX6_needBook 96 = .ok (.iconst 0, 1) := by decide +kernel
theorem dX6_needBook_97 : decode cX6_needBook 97 = .ok (.goto 8, 3) := by decide +kernel
theorem dX6_needBook_100 : decode cX6_needBook 100 = .ok (.aload_n 0, 1) := by decide +kernel
theorem dX6_needBook_101 : decode cX6_needBook 101 = .ok (.iconst 3, 1) := by decide +kernel
theorem dX6_needBook_102 : decode cX6_needBook 102 = .ok (.invokevirtual 97, 3) := by decide +kernel
theorem dX6_needBook_105 : decode cX6_needBook 105 = .ok (.ireturn, 1) := by decide +kernel
theorem dX6_liesOf_0 : decode cX6_liesOf 0 = .ok (.iconst 0, 1) := by decide +kernel
theorem dX6_liesOf_1 : decode cX6_liesOf 1 = .ok (.istore 5, 2) := by decide +kernel
theorem dX6_liesOf_3 : decode cX6_liesOf 3 = .ok (.iconst 0, 1) := by decide +kernel
theorem dX6_liesOf_4 : decode cX6_liesOf 4 = .ok (.istore 6, 2) := by decide +kernel
theorem dX6_liesOf_6 : decode cX6_liesOf 6 = .ok (.iload 6, 2) := by decide +kernel
theorem dX6_liesOf_8 : decode cX6_liesOf 8 = .ok (.aload_n 0, 1) := by decide +kernel
theorem dX6_liesOf_9 : decode cX6_liesOf 9 = .ok (.getfield 17, 3) := by decide +kernel
theorem dX6_liesOf_12 : decode cX6_liesOf 12 = .ok (.iload_n 1, 1) := by decide +kernel
theorem dX6_liesOf_13 : decode cX6_liesOf 13 = .ok (.iaload, 1) := by decide +kernel
theorem dX6_liesOf_14 : decode cX6_liesOf 14 = .ok (.if_icmp .ge 51, 3) := by decide +kernel
theorem dX6_liesOf_17 : decode cX6_liesOf 17 = .ok (.iload 5, 2) := by decide +kernel
theorem dX6_liesOf_19 : decode cX6_liesOf 19 = .ok (.iload_n 2, 1) := by decide +kernel
theorem dX6_liesOf_20 : decode cX6_liesOf 20 = .ok (.aload_n 0, 1) := by decide +kernel
theorem dX6_liesOf_21 : decode cX6_liesOf 21 = .ok (.iload_n 1, 1) := by decide +kernel
theorem dX6_liesOf_22 : decode cX6_liesOf 22 = .ok (.iload 6, 2) := by decide +kernel
theorem dX6_liesOf_24 : decode cX6_liesOf 24 = .ok (.invokevirtual 101, 3) := by decide +kernel
theorem dX6_liesOf_27 : decode cX6_liesOf 27 = .ok (.invokestatic 144, 3) := by decide +kernel
theorem dX6_liesOf_30 : decode cX6_liesOf 30 = .ok (.ifCond .eq 8, 3) := by decide +kernel
theorem dX6_liesOf_33 : decode cX6_liesOf 33 = .ok (.iload 4, 2) := by decide +kernel
theorem dX6_liesOf_35 : decode cX6_liesOf 35 = .ok (.goto 4, 3) := by decide +kernel
theorem dX6_liesOf_38 : decode cX6_liesOf 38 = .ok (.iload_n 3, 1) := by decide +kernel
theorem dX6_liesOf_39 : decode cX6_liesOf 39 = .ok (.aload_n 0, 1) := by decide +kernel
theorem dX6_liesOf_40 : decode cX6_liesOf 40 = .ok (.iload_n 1, 1) := by decide +kernel
theorem dX6_liesOf_41 : decode cX6_liesOf 41 = .ok (.iload 6, 2) := by decide +kernel
theorem dX6_liesOf_43 : decode cX6_liesOf 43 = .ok (.iconst 1, 1) := by decide +kernel
theorem dX6_liesOf_44 : decode cX6_liesOf 44 = .ok (.iadd, 1) := by decide +kernel
theorem dX6_liesOf_45 : decode cX6_liesOf 45 = .ok (.invokevirtual 101, 3) := by decide +kernel
theorem dX6_liesOf_48 : decode cX6_liesOf 48 = .ok (.if_icmp .eq 7, 3) := by decide +kernel
theorem dX6_liesOf_51 : decode cX6_liesOf 51 = .ok (.iconst 1, 1) := by decide +kernel
theorem dX6_liesOf_52 : decode cX6_liesOf 52 = .ok (.goto 4, 3) := by decide +kernel
theorem dX6_liesOf_55 : decode cX6_liesOf 55 = .ok (.iconst 0, 1) := by decide +kernel
theorem dX6_liesOf_56 : decode cX6_liesOf 56 = .ok (.iadd, 1) := by decide +kernel
theorem dX6_liesOf_57 : decode cX6_liesOf 57 = .ok (.istore 5, 2) := by decide +kernel
theorem dX6_liesOf_59 : decode cX6_liesOf 59 = .ok (.iinc 6 2, 3) := by decide +kernel
theorem dX6_liesOf_62 : decode cX6_liesOf 62 = .ok (.goto (-56), 3) := by decide +kernel
theorem dX6_liesOf_65 : decode cX6_liesOf 65 = .ok (.iload 5, 2) := by decide +kernel
theorem dX6_liesOf_67 : decode cX6_liesOf 67 = .ok (.ireturn, 1) := by decide +kernel
theorem dX6_liesBy_0 : decode cX6_liesBy 0 = .ok (.aload_n 0, 1) := by decide +kernel
theorem dX6_liesBy_1 : decode cX6_liesBy 1 = .ok (.iload_n 1, 1) := by decide +kernel
theorem dX6_liesBy_2 : decode cX6_liesBy 2 = .ok (.aload_n 0, 1) := by decide +kernel
theorem dX6_liesBy_3 : decode cX6_liesBy 3 = .ok (.getfield 33, 3) := by decide +kernel
theorem dX6_liesBy_6 : decode cX6_liesBy 6 = .ok (.iload_n 2, 1) := by decide +kernel
theorem dX6_liesBy_7 : decode cX6_liesBy 7 = .ok (.iaload, 1) := by decide +kernel
theorem dX6_liesBy_8 : decode cX6_liesBy 8 = .ok (.aload_n 0, 1) := by decide +kernel
theorem dX6_liesBy_9 : decode cX6_liesBy 9 = .ok (.getfield 42, 3) := by decide +kernel
theorem dX6_liesBy_12 : decode cX6_liesBy 12 = .ok (.iload_n 2, 1) := by decide +kernel
theorem dX6_liesBy_13 : decode cX6_liesBy 13 = .ok (.iaload, 1) := by decide +kernel
theorem dX6_liesBy_14 : decode cX6_liesBy 14 = .ok (.aload_n 0, 1) := by decide +kernel
theorem dX6_liesBy_15 : decode cX6_liesBy 15 = .ok (.getfield 45, 3) := by decide +kernel
theorem dX6_liesBy_18 : decode cX6_liesBy 18 = .ok (.iload_n 2, 1) := by decide +kernel
theorem dX6_liesBy_19 : decode cX6_liesBy 19 = .ok (.iaload, 1) := by decide +kernel
theorem dX6_liesBy_20 : decode cX6_liesBy 20 = .ok (.invokevirtual 250, 3) := by decide +kernel
theorem dX6_liesBy_23 : decode cX6_liesBy 23 = .ok (.ireturn, 1) := by decide +kernel
theorem dX6_fits_0 : decode cX6_fits 0 = .ok (.iload_n 1, 1) := by decide +kernel
theorem dX6_fits_1 : decode cX6_fits 1 = .ok (.invokestatic 93, 3) := by decide +kernel
theorem dX6_fits_4 : decode cX6_fits 4 = .ok (.ifCond .ne 5, 3) := by decide +kernel
theorem dX6_fits_7 : decode cX6_fits 7 = .ok (.iconst (-1), 1) := by decide +kernel
theorem dX6_fits_8 : decode cX6_fits 8 = .ok (.ireturn, 1) := by decide +kernel
theorem dX6_fits_9 : decode cX6_fits 9 = .ok (.aload_n 0, 1) := by decide +kernel
theorem dX6_fits_10 : decode cX6_fits 10 = .ok (.iload_n 1, 1) := by decide +kernel
theorem dX6_fits_11 : decode cX6_fits 11 = .ok (.invokevirtual 254, 3) := by decide +kernel
theorem dX6_fits_14 : decode cX6_fits 14 = .ok (.istore_n 2, 1) := by decide +kernel
theorem dX6_fits_15 : decode cX6_fits 15 = .ok (.iload_n 2, 1) := by decide +kernel
theorem dX6_fits_16 : decode cX6_fits 16 = .ok (.ifCond .ge 5, 3) := by decide +kernel
theorem dX6_fits_19 : decode cX6_fits 19 = .ok (.iload_n 2, 1) := by decide +kernel
theorem dX6_fits_20 : decode cX6_fits 20 = .ok (.ireturn, 1) := by decide +kernel
theorem dX6_fits_21 : decode cX6_fits 21 = .ok (.iconst 0, 1) := by decide +kernel
theorem dX6_fits_22 : decode cX6_fits 22 = .ok (.istore_n 3, 1) := by decide +kernel
theorem dX6_fits_23 : decode cX6_fits 23 = .ok (.iconst 0, 1) := by decide +kernel
theorem dX6_fits_24 : decode cX6_fits 24 = .ok (.istore 4, 2) := by decide +kernel
theorem dX6_fits_26 : decode cX6_fits 26 = .ok (.iload 4, 2) := by decide +kernel
theorem dX6_fits_28 : decode cX6_fits 28 = .ok (.aload_n 0, 1) := by decide +kernel
theorem dX6_fits_29 : decode cX6_fits 29 = .ok (.getfield 135, 3) := by decide +kernel
theorem dX6_fits_32 : decode cX6_fits 32 = .ok (.if_icmp .ge 30, 3) := by decide +kernel
theorem dX6_fits_35 : decode cX6_fits 35 = .ok (.iload_n 3, 1) := by decide +kernel
theorem dX6_fits_36 : decode cX6_fits 36 = .ok (.aload_n 0, 1) := by decide +kernel
theorem dX6_fits_37 : decode cX6_fits 37 = .ok (.iload_n 1, 1) := by decide +kernel
theorem dX6_fits_38 : decode cX6_fits 38 = .ok (.iload 4, 2) := by decide +kernel
theorem dX6_fits_40 : decode cX6_fits 40 = .ok (.invokevirtual 257, 3) := by decide +kernel
theorem dX6_fits_43 : decode cX6_fits 43 = .ok (.ifCond .ne 10, 3) := by decide +kernel
theorem dX6_fits_46 : decode cX6_fits 46 = .ok (.iconst 1, 1) := by decide +kernel
theorem dX6_fits_47 : decode cX6_fits 47 = .ok (.iload 4, 2) := by decide +kernel
theorem dX6_fits_49 : decode cX6_fits 49 = .ok (.ishl, 1) := by decide +kernel
theorem dX6_fits_50 : decode cX6_fits 50 = .ok (.goto 4, 3) := by decide +kernel
theorem dX6_fits_53 : decode cX6_fits 53 = .ok (.iconst 0, 1) := by decide +kernel
theorem dX6_fits_54 : decode cX6_fits 54 = .ok (.ior, 1) := by decide +kernel
theorem dX6_fits_55 : decode cX6_fits 55 = .ok (.istore_n 3, 1) := by decide +kernel
theorem dX6_fits_56 : decode cX6_fits 56 = .ok (.iinc 4 1, 3) := by decide +kernel
theorem dX6_fits_59 : decode cX6_fits 59 = .ok (.goto (-33), 3) := by decide +kernel
theorem dX6_fits_62 : decode cX6_fits 62 = .ok (.iload_n 3, 1) := by decide +kernel
theorem dX6_fits_63 : decode cX6_fits 63 = .ok (.ireturn, 1) := by decide +kernel
theorem dX6_kinds_0 : decode cX6_kinds 0 = .ok (.iload_n 1, 1) := by decide +kernel
theorem dX6_kinds_1 : decode cX6_kinds 1 = .ok (.invokestatic 93, 3) := by decide +kernel
theorem dX6_kinds_4 : decode cX6_kinds 4 = .ok (.ifCond .eq 17, 3) := by decide +kernel
theorem dX6_kinds_7 : decode cX6_kinds 7 = .ok (.iload_n 2, 1) := by decide +kernel
theorem dX6_kinds_8 : decode cX6_kinds 8 = .ok (.invokestatic 141, 3) := by decide +kernel
theorem dX6_kinds_11 : decode cX6_kinds 11 = .ok (.ifCond .eq 10, 3) := by decide +kernel
theorem dX6_kinds_14 : decode cX6_kinds 14 = .ok (.iload_n 3, 1) := by decide +kernel
theorem dX6_kinds_15 : decode cX6_kinds 15 = .ok (.invokestatic 141, 3) := by decide +kernel
theorem dX6_kinds_18 : decode cX6_kinds 18 = .ok (.ifCond .ne 5, 3) := by decide +kernel
theorem dX6_kinds_21 : decode cX6_kinds 21 = .ok (.iconst (-1), 1) := by decide +kernel
theorem dX6_kinds_22 : decode cX6_kinds 22 = .ok (.ireturn, 1) := by decide +kernel
theorem dX6_kinds_23 : decode cX6_kinds 23 = .ok (.aload_n 0, 1) := by decide +kernel
theorem dX6_kinds_24 : decode cX6_kinds 24 = .ok (.iload_n 1, 1) := by decide +kernel
theorem dX6_kinds_25 : decode cX6_kinds 25 = .ok (.invokevirtual 254, 3) := by decide +kernel
theorem dX6_kinds_28 : decode cX6_kinds 28 = .ok (.istore 4, 2) := by decide +kernel
theorem dX6_kinds_30 : decode cX6_kinds 30 = .ok (.iload 4, 2) := by decide +kernel
theorem dX6_kinds_32 : decode cX6_kinds 32 = .ok (.ifCond .ge 6, 3) := by decide +kernel
theorem dX6_kinds_35 : decode cX6_kinds 35 = .ok (.iload 4, 2) := by decide +kernel
theorem dX6_kinds_37 : decode cX6_kinds 37 = .ok (.ireturn, 1) := by decide +kernel
theorem dX6_kinds_38 : decode cX6_kinds 38 = .ok (.iconst 0, 1) := by decide +kernel
theorem dX6_kinds_39 : decode cX6_kinds 39 = .ok (.istore 5, 2) := by decide +kernel
theorem dX6_kinds_41 : decode cX6_kinds 41 = .ok (.iconst 0, 1) := by decide +kernel
theorem dX6_kinds_42 : decode cX6_kinds 42 = .ok (.istore 6, 2) := by decide +kernel
theorem dX6_kinds_44 : decode cX6_kinds 44 = .ok (.iload 6, 2) := by decide +kernel
theorem dX6_kinds_46 : decode cX6_kinds 46 = .ok (.bipush 6, 2) := by decide +kernel
theorem dX6_kinds_48 : decode cX6_kinds 48 = .ok (.if_icmp .ge 34, 3) := by decide +kernel
theorem dX6_kinds_51 : decode cX6_kinds 51 = .ok (.iload 5, 2) := by decide +kernel
theorem dX6_kinds_53 : decode cX6_kinds 53 = .ok (.aload_n 0, 1) := by decide +kernel
theorem dX6_kinds_54 : decode cX6_kinds 54 = .ok (.iload_n 1, 1) := by decide +kernel
theorem dX6_kinds_55 : decode cX6_kinds 55 = .ok (.iload 6, 2) := by decide +kernel
theorem dX6_kinds_57 : decode cX6_kinds 57 = .ok (.iload_n 2, 1) := by decide +kernel
theorem dX6_kinds_58 : decode cX6_kinds 58 = .ok (.iload_n 3, 1) := by decide +kernel
theorem dX6_kinds_59 : decode cX6_kinds 59 = .ok (.invokevirtual 250, 3) := by decide +kernel
theorem dX6_kinds_62 : decode cX6_kinds 62 = .ok (.ifCond .ne 10, 3) := by decide +kernel
theorem dX6_kinds_65 : decode cX6_kinds 65 = .ok (.iconst 1, 1) := by decide +kernel
theorem dX6_kinds_66 : decode cX6_kinds 66 = .ok (.iload 6, 2) := by decide +kernel
theorem dX6_kinds_68 : decode cX6_kinds 68 = .ok (.ishl, 1) := by decide +kernel
theorem dX6_kinds_69 : decode cX6_kinds 69 = .ok (.goto 4, 3) := by decide +kernel
theorem dX6_kinds_72 : decode cX6_kinds 72 = .ok (.iconst 0, 1) := by decide +kernel
theorem dX6_kinds_73 : decode cX6_kinds 73 = .ok (.ior, 1) := by decide +kernel
theorem dX6_kinds_74 : decode cX6_kinds 74 = .ok (.istore 5, 2) := by decide +kernel
theorem dX6_kinds_76 : decode cX6_kinds 76 = .ok (.iinc 6 1, 3) := by decide +kernel
theorem dX6_kinds_79 : decode cX6_kinds 79 = .ok (.goto (-35), 3) := by decide +kernel
theorem dX6_kinds_82 : decode cX6_kinds 82 = .ok (.iload 5, 2) := by decide +kernel
theorem dX6_kinds_84 : decode cX6_kinds 84 = .ok (.ireturn, 1) := by decide +kernel
theorem dX6_lies_0 : decode cX6_lies 0 = .ok (.iload_n 1, 1) := by decide +kernel
theorem dX6_lies_1 : decode cX6_lies 1 = .ok (.invokestatic 93, 3) := by decide +kernel
theorem dX6_lies_4 : decode cX6_lies 4 = .ok (.ifCond .ne 5, 3) := by decide +kernel
theorem dX6_lies_7 : decode cX6_lies 7 = .ok (.iconst (-1), 1) := by decide +kernel
theorem dX6_lies_8 : decode cX6_lies 8 = .ok (.ireturn, 1) := by decide +kernel
theorem dX6_lies_9 : decode cX6_lies 9 = .ok (.aload_n 0, 1) := by decide +kernel
theorem dX6_lies_10 : decode cX6_lies 10 = .ok (.getfield 135, 3) := by decide +kernel
theorem dX6_lies_13 : decode cX6_lies 13 = .ok (.ifCond .ne 6, 3) := by decide +kernel
theorem dX6_lies_16 : decode cX6_lies 16 = .ok (.bipush (-4), 2) := by decide +kernel
theorem dX6_lies_18 : decode cX6_lies 18 = .ok (.ireturn, 1) := by decide +kernel
theorem dX6_lies_19 : decode cX6_lies 19 = .ok (.aload_n 0, 1) := by decide +kernel
theorem dX6_lies_20 : decode cX6_lies 20 = .ok (.iload_n 1, 1) := by decide +kernel
theorem dX6_lies_21 : decode cX6_lies 21 = .ok (.invokevirtual 254, 3) := by decide +kernel
theorem dX6_lies_24 : decode cX6_lies 24 = .ok (.istore_n 2, 1) := by decide +kernel
theorem dX6_lies_25 : decode cX6_lies 25 = .ok (.iload_n 2, 1) := by decide +kernel
theorem dX6_lies_26 : decode cX6_lies 26 = .ok (.ifCond .ge 5, 3) := by decide +kernel
theorem dX6_lies_29 : decode cX6_lies 29 = .ok (.iload_n 2, 1) := by decide +kernel
theorem dX6_lies_30 : decode cX6_lies 30 = .ok (.ireturn, 1) := by decide +kernel
theorem dX6_lies_31 : decode cX6_lies 31 = .ok (.iconst 0, 1) := by decide +kernel
theorem dX6_lies_32 : decode cX6_lies 32 = .ok (.istore_n 3, 1) := by decide +kernel
theorem dX6_lies_33 : decode cX6_lies 33 = .ok (.iconst 0, 1) := by decide +kernel
theorem dX6_lies_34 : decode cX6_lies 34 = .ok (.istore 4, 2) := by decide +kernel
theorem dX6_lies_36 : decode cX6_lies 36 = .ok (.iload 4, 2) := by decide +kernel
theorem dX6_lies_38 : decode cX6_lies 38 = .ok (.aload_n 0, 1) := by decide +kernel
theorem dX6_lies_39 : decode cX6_lies 39 = .ok (.getfield 135, 3) := by decide +kernel
theorem dX6_lies_42 : decode cX6_lies 42 = .ok (.if_icmp .ge 32, 3) := by decide +kernel
theorem dX6_lies_45 : decode cX6_lies 45 = .ok (.aload_n 0, 1) := by decide +kernel
theorem dX6_lies_46 : decode cX6_lies 46 = .ok (.iload_n 1, 1) := by decide +kernel
theorem dX6_lies_47 : decode cX6_lies 47 = .ok (.iload 4, 2) := by decide +kernel
theorem dX6_lies_49 : decode cX6_lies 49 = .ok (.invokevirtual 257, 3) := by decide +kernel
theorem dX6_lies_52 : decode cX6_lies 52 = .ok (.aload_n 0, 1) := by decide +kernel
theorem dX6_lies_53 : decode cX6_lies 53 = .ok (.iload_n 1, 1) := by decide +kernel
theorem dX6_lies_54 : decode cX6_lies 54 = .ok (.iload_n 3, 1) := by decide +kernel
theorem dX6_lies_55 : decode cX6_lies 55 = .ok (.invokevirtual 257, 3) := by decide +kernel
theorem dX6_lies_58 : decode cX6_lies 58 = .ok (.if_icmp .ge 8, 3) := by decide +kernel
theorem dX6_lies_61 : decode cX6_lies 61 = .ok (.iload 4, 2) := by decide +kernel
theorem dX6_lies_63 : decode cX6_lies 63 = .ok (.goto 4, 3) := by decide +kernel
theorem dX6_lies_66 : decode cX6_lies 66 = .ok (.iload_n 3, 1) := by decide +kernel
theorem dX6_lies_67 : decode cX6_lies 67 = .ok (.istore_n 3, 1) := by decide +kernel
theorem dX6_lies_68 : decode cX6_lies 68 = .ok (.iinc 4 1, 3) := by decide +kernel
theorem dX6_lies_71 : decode cX6_lies 71 = .ok (.goto (-35), 3) := by decide +kernel
theorem dX6_lies_74 : decode cX6_lies 74 = .ok (.aload_n 0, 1) := by decide +kernel
theorem dX6_lies_75 : decode cX6_lies 75 = .ok (.iload_n 3, 1) := by decide +kernel
theorem dX6_lies_76 : decode cX6_lies 76 = .ok (.aload_n 0, 1) := by decide +kernel
theorem dX6_lies_77 : decode cX6_lies 77 = .ok (.iload_n 1, 1) := by decide +kernel
theorem dX6_lies_78 : decode cX6_lies 78 = .ok (.iload_n 3, 1) := by decide +kernel
theorem dX6_lies_79 : decode cX6_lies 79 = .ok (.invokevirtual 257, 3) := by decide +kernel
theorem dX6_lies_82 : decode cX6_lies 82 = .ok (.invokevirtual 105, 3) := by decide +kernel
theorem dX6_lies_85 : decode cX6_lies 85 = .ok (.ireturn, 1) := by decide +kernel
theorem dX6_apart_0 : decode cX6_apart 0 = .ok (.aload_n 0, 1) := by decide +kernel
theorem dX6_apart_1 : decode cX6_apart 1 = .ok (.iload_n 1, 1) := by decide +kernel
theorem dX6_apart_2 : decode cX6_apart 2 = .ok (.invokevirtual 163, 3) := by decide +kernel
theorem dX6_apart_5 : decode cX6_apart 5 = .ok (.ifCond .eq 39, 3) := by decide +kernel
theorem dX6_apart_8 : decode cX6_apart 8 = .ok (.aload_n 0, 1) := by decide +kernel
theorem dX6_apart_9 : decode cX6_apart 9 = .ok (.iload_n 2, 1) := by decide +kernel
theorem dX6_apart_10 : decode cX6_apart 10 = .ok (.invokevirtual 163, 3) := by decide +kernel
theorem dX6_apart_13 : decode cX6_apart 13 = .ok (.ifCond .eq 31, 3) := by decide +kernel
theorem dX6_apart_16 : decode cX6_apart 16 = .ok (.iload_n 1, 1) := by decide +kernel
theorem dX6_apart_17 : decode cX6_apart 17 = .ok (.iload_n 2, 1) := by decide +kernel
theorem dX6_apart_18 : decode cX6_apart 18 = .ok (.if_icmp .eq 26, 3) := by decide +kernel
theorem dX6_apart_21 : decode cX6_apart 21 = .ok (.iload_n 3, 1) := by decide +kernel
theorem dX6_apart_22 : decode cX6_apart 22 = .ok (.iconst 0, 1) := by decide +kernel
theorem dX6_apart_23 : decode cX6_apart 23 = .ok (.sipush 999, 3) := by decide +kernel
theorem dX6_apart_26 : decode cX6_apart 26 = .ok (.invokestatic 83, 3) := by decide +kernel
theorem dX6_apart_29 : decode cX6_apart 29 = .ok (.ifCond .eq 15, 3) := by decide +kernel
theorem dX6_apart_32 : decode cX6_apart 32 = .ok (.iload 4, 2) := by decide +kernel
theorem dX6_apart_34 : decode cX6_apart 34 = .ok (.iload_n 3, 1) := by decide +kernel
theorem dX6_apart_35 : decode cX6_apart 35 = .ok (.sipush 999, 3) := by decide +kernel
theorem dX6_apart_38 : decode cX6_apart 38 = .ok (.invokestatic 83, 3) := by decide +kernel
theorem dX6_apart_41 : decode cX6_apart 41 = .ok (.ifCond .ne 5, 3) := by decide +kernel
theorem dX6_apart_44 : decode cX6_apart 44 = .ok (.iconst (-1), 1) := by decide +kernel
theorem dX6_apart_45 : decode cX6_apart 45 = .ok (.ireturn, 1) := by decide +kernel
theorem dX6_apart_46 : decode cX6_apart 46 = .ok (.iload_n 3, 1) := by decide +kernel
theorem dX6_apart_47 : decode cX6_apart 47 = .ok (.istore 5, 2) := by decide +kernel
theorem dX6_apart_49 : decode cX6_apart 49 = .ok (.iload 5, 2) := by decide +kernel
theorem dX6_apart_51 : decode cX6_apart 51 = .ok (.iload 4, 2) := by decide +kernel
theorem dX6_apart_53 : decode cX6_apart 53 = .ok (.if_icmp .gt 29, 3) := by decide +kernel
theorem dX6_apart_56 : decode cX6_apart 56 = .ok (.aload_n 0, 1) := by decide +kernel
theorem dX6_apart_57 : decode cX6_apart 57 = .ok (.iload_n 1, 1) := by decide +kernel
theorem dX6_apart_58 : decode cX6_apart 58 = .ok (.iload 5, 2) := by decide +kernel
theorem dX6_apart_60 : decode cX6_apart 60 = .ok (.invokevirtual 148, 3) := by decide +kernel
theorem dX6_apart_63 : decode cX6_apart 63 = .ok (.aload_n 0, 1) := by decide +kernel
theorem dX6_apart_64 : decode cX6_apart 64 = .ok (.iload_n 2, 1) := by decide +kernel
theorem dX6_apart_65 : decode cX6_apart 65 = .ok (.iload 5, 2) := by decide +kernel
theorem dX6_apart_67 : decode cX6_apart 67 = .ok (.invokevirtual 148, 3) := by decide +kernel
theorem dX6_apart_70 : decode cX6_apart 70 = .ok (.if_icmp .eq 6, 3) := by decide +kernel
theorem dX6_apart_73 : decode cX6_apart 73 = .ok (.iload 5, 2) := by decide +kernel
theorem dX6_apart_75 : decode cX6_apart 75 = .ok (.ireturn, 1) := by decide +kernel
theorem dX6_apart_76 : decode cX6_apart 76 = .ok (.iinc 5 1, 3) := by decide +kernel
theorem dX6_apart_79 : decode cX6_apart 79 = .ok (.goto (-30), 3) := by decide +kernel
theorem dX6_apart_82 : decode cX6_apart 82 = .ok (.bipush (-9), 2) := by decide +kernel
theorem dX6_apart_84 : decode cX6_apart 84 = .ok (.ireturn, 1) := by decide +kernel
theorem dX6_everybody_0 : decode cX6_everybody 0 = .ok (.iconst 1, 1) := by decide +kernel
theorem dX6_everybody_1 : decode cX6_everybody 1 = .ok (.aload_n 0, 1) := by decide +kernel
theorem dX6_everybody_2 : decode cX6_everybody 2 = .ok (.getfield 135, 3) := by decide +kernel
theorem dX6_everybody_5 : decode cX6_everybody 5 = .ok (.ishl, 1) := by decide +kernel
theorem dX6_everybody_6 : decode cX6_everybody 6 = .ok (.iconst 1, 1) := by decide +kernel
theorem dX6_everybody_7 : decode cX6_everybody 7 = .ok (.isub, 1) := by decide +kernel
theorem dX6_everybody_8 : decode cX6_everybody 8 = .ok (.ireturn, 1) := by decide +kernel
theorem dX6_sour_0 : decode cX6_sour 0 = .ok (.iload_n 1, 1) := by decide +kernel
theorem dX6_sour_1 : decode cX6_sour 1 = .ok (.invokestatic 141, 3) := by decide +kernel
theorem dX6_sour_4 : decode cX6_sour 4 = .ok (.ifCond .ne 5, 3) := by decide +kernel
theorem dX6_sour_7 : decode cX6_sour 7 = .ok (.iconst (-1), 1) := by decide +kernel
theorem dX6_sour_8 : decode cX6_sour 8 = .ok (.ireturn, 1) := by decide +kernel
theorem dX6_sour_9 : decode cX6_sour 9 = .ok (.aload_n 0, 1) := by decide +kernel
theorem dX6_sour_10 : decode cX6_sour 10 = .ok (.aload_n 0, 1) := by decide +kernel
theorem dX6_sour_11 : decode cX6_sour 11 = .ok (.invokevirtual 260, 3) := by decide +kernel
theorem dX6_sour_14 : decode cX6_sour 14 = .ok (.iload_n 1, 1) := by decide +kernel
theorem dX6_sour_15 : decode cX6_sour 15 = .ok (.invokevirtual 220, 3) := by decide +kernel
theorem dX6_sour_18 : decode cX6_sour 18 = .ok (.istore_n 2, 1) := by decide +kernel
theorem dX6_sour_19 : decode cX6_sour 19 = .ok (.aload_n 0, 1) := by decide +kernel
theorem dX6_sour_20 : decode cX6_sour 20 = .ok (.iload_n 2, 1) := by decide +kernel
theorem dX6_sour_21 : decode cX6_sour 21 = .ok (.iload_n 2, 1) := by decide +kernel
theorem dX6_sour_22 : decode cX6_sour 22 = .ok (.invokestatic 223, 3) := by decide +kernel
theorem dX6_sour_25 : decode cX6_sour 25 = .ok (.invokevirtual 105, 3) := by decide +kernel
theorem dX6_sour_28 : decode cX6_sour 28 = .ok (.ireturn, 1) := by decide +kernel
theorem dX6_power_0 : decode cX6_power 0 = .ok (.iconst 1, 1) := by decide +kernel
theorem dX6_power_1 : decode cX6_power 1 = .ok (.istore_n 2, 1) := by decide +kernel
theorem dX6_power_2 : decode cX6_power 2 = .ok (.iconst 0, 1) := by decide +kernel
theorem dX6_power_3 : decode cX6_power 3 = .ok (.istore_n 3, 1) := by decide +kernel
theorem dX6_power_4 : decode cX6_power 4 = .ok (.iload_n 3, 1) := by decide +kernel
theorem dX6_power_5 : decode cX6_power 5 = .ok (.iload_n 1, 1) := by decide +kernel
theorem dX6_power_6 : decode cX6_power 6 = .ok (.if_icmp .ge 13, 3) := by decide +kernel
theorem dX6_power_9 : decode cX6_power 9 = .ok (.iload_n 2, 1) := by decide +kernel
theorem dX6_power_10 : decode cX6_power 10 = .ok (.iload_n 0, 1) := by decide +kernel
theorem dX6_power_11 : decode cX6_power 11 = .ok (.imul, 1) := by decide +kernel
theorem dX6_power_12 : decode cX6_power 12 = .ok (.istore_n 2, 1) := by decide +kernel
theorem dX6_power_13 : decode cX6_power 13 = .ok (.iinc 3 1, 3) := by decide +kernel
theorem dX6_power_16 : decode cX6_power 16 = .ok (.goto (-12), 3) := by decide +kernel
theorem dX6_power_19 : decode cX6_power 19 = .ok (.iload_n 2, 1) := by decide +kernel
theorem dX6_power_20 : decode cX6_power 20 = .ok (.ireturn, 1) := by decide +kernel
theorem dX6_odds_0 : decode cX6_odds 0 = .ok (.iload_n 1, 1) := by decide +kernel
theorem dX6_odds_1 : decode cX6_odds 1 = .ok (.iconst 1, 1) := by decide +kernel
theorem dX6_odds_2 : decode cX6_odds 2 = .ok (.iconst 3, 1) := by decide +kernel
theorem dX6_odds_3 : decode cX6_odds 3 = .ok (.invokestatic 83, 3) := by decide +kernel
theorem dX6_odds_6 : decode cX6_odds 6 = .ok (.ifCond .ne 5, 3) := by decide +kernel
theorem dX6_odds_9 : decode cX6_odds 9 = .ok (.iconst (-1), 1) := by decide +kernel
theorem dX6_odds_10 : decode cX6_odds 10 = .ok (.ireturn, 1) := by decide +kernel
theorem dX6_odds_11 : decode cX6_odds 11 = .ok (.aload_n 0, 1) := by decide +kernel
theorem dX6_odds_12 : decode cX6_odds 12 = .ok (.getfield 135, 3) := by decide +kernel
theorem dX6_odds_15 : decode cX6_odds 15 = .ok (.ifCond .ne 6, 3) := by decide +kernel
theorem dX6_odds_18 : decode cX6_odds 18 = .ok (.bipush (-4), 2) := by decide +kernel
theorem dX6_odds_20 : decode cX6_odds 20 = .ok (.ireturn, 1) := by decide +kernel
theorem dX6_odds_21 : decode cX6_odds 21 = .ok (.iconst 0, 1) := by decide +kernel
theorem dX6_odds_22 : decode cX6_odds 22 = .ok (.istore_n 2, 1) := by decide +kernel
theorem dX6_odds_23 : decode cX6_odds 23 = .ok (.iconst 0, 1) := by decide +kernel
theorem dX6_odds_24 : decode cX6_odds 24 = .ok (.istore_n 3, 1) := by decide +kernel
theorem dX6_odds_25 : decode cX6_odds 25 = .ok (.iload_n 3, 1) := by decide +kernel
theorem dX6_odds_26 : decode cX6_odds 26 = .ok (.bipush 6, 2) := by decide +kernel
theorem dX6_odds_28 : decode cX6_odds 28 = .ok (.if_icmp .ge 29, 3) := by decide +kernel
theorem dX6_odds_31 : decode cX6_odds 31 = .ok (.iload_n 2, 1) := by decide +kernel
theorem dX6_odds_32 : decode cX6_odds 32 = .ok (.aload_n 0, 1) := by decide +kernel
theorem dX6_odds_33 : decode cX6_odds 33 = .ok (.aload_n 0, 1) := by decide +kernel
theorem dX6_odds_34 : decode cX6_odds 34 = .ok (.aload_n 0, 1) := by decide +kernel
theorem dX6_odds_35 : decode cX6_odds 35 = .ok (.invokevirtual 260, 3) := by decide +kernel
theorem dX6_odds_38 : decode cX6_odds 38 = .ok (.iload_n 3, 1) := by decide +kernel
theorem dX6_odds_39 : decode cX6_odds 39 = .ok (.invokevirtual 205, 3) := by decide +kernel
theorem dX6_odds_42 : decode cX6_odds 42 = .ok (.invokevirtual 208, 3) := by decide +kernel
theorem dX6_odds_45 : decode cX6_odds 45 = .ok (.iload_n 1, 1) := by decide +kernel
theorem dX6_odds_46 : decode cX6_odds 46 = .ok (.invokestatic 264, 3) := by decide +kernel
theorem dX6_odds_49 : decode cX6_odds 49 = .ok (.iadd, 1) := by decide +kernel
theorem dX6_odds_50 : decode cX6_odds 50 = .ok (.istore_n 2, 1) := by decide +kernel
theorem dX6_odds_51 : decode cX6_odds 51 = .ok (.iinc 3 1, 3) := by decide +kernel
theorem dX6_odds_54 : decode cX6_odds 54 = .ok (.goto (-29), 3) := by decide +kernel
theorem dX6_odds_57 : decode cX6_odds 57 = .ok (.aload_n 0, 1) := by decide +kernel
theorem dX6_odds_58 : decode cX6_odds 58 = .ok (.iload_n 2, 1) := by decide +kernel
theorem dX6_odds_59 : decode cX6_odds 59 = .ok (.aload_n 0, 1) := by decide +kernel
theorem dX6_odds_60 : decode cX6_odds 60 = .ok (.aload_n 0, 1) := by decide +kernel
theorem dX6_odds_61 : decode cX6_odds 61 = .ok (.invokevirtual 260, 3) := by decide +kernel
theorem dX6_odds_64 : decode cX6_odds 64 = .ok (.invokevirtual 208, 3) := by decide +kernel
theorem dX6_odds_67 : decode cX6_odds 67 = .ok (.iload_n 1, 1) := by decide +kernel
theorem dX6_odds_68 : decode cX6_odds 68 = .ok (.invokestatic 264, 3) := by decide +kernel
theorem dX6_odds_71 : decode cX6_odds 71 = .ok (.invokevirtual 211, 3) := by decide +kernel
theorem dX6_odds_74 : decode cX6_odds 74 = .ok (.ireturn, 1) := by decide +kernel
theorem dX6_lots_0 : decode cX6_lots 0 = .ok (.iload_n 1, 1) := by decide +kernel
theorem dX6_lots_1 : decode cX6_lots 1 = .ok (.iconst 1, 1) := by decide +kernel
theorem dX6_lots_2 : decode cX6_lots 2 = .ok (.bipush 20, 2) := by decide +kernel
theorem dX6_lots_4 : decode cX6_lots 4 = .ok (.invokestatic 83, 3) := by decide +kernel
theorem dX6_lots_7 : decode cX6_lots 7 = .ok (.ifCond .eq 14, 3) := by decide +kernel
theorem dX6_lots_10 : decode cX6_lots 10 = .ok (.iload_n 2, 1) := by decide +kernel
theorem dX6_lots_11 : decode cX6_lots 11 = .ok (.iconst 1, 1) := by decide +kernel
theorem dX6_lots_12 : decode cX6_lots 12 = .ok (.ldc_w 267, 3) := by decide +kernel
theorem dX6_lots_15 : decode cX6_lots 15 = .ok (.invokestatic 83, 3) := by decide +kernel
theorem dX6_lots_18 : decode cX6_lots 18 = .ok (.ifCond .ne 5, 3) := by decide +kernel
theorem dX6_lots_21 : decode cX6_lots 21 = .ok (.iconst (-1), 1) := by decide +kernel
theorem dX6_lots_22 : decode cX6_lots 22 = .ok (.ireturn, 1) := by decide +kernel
theorem dX6_lots_23 : decode cX6_lots 23 = .ok (.aload_n 0, 1) := by decide +kernel
theorem dX6_lots_24 : decode cX6_lots 24 = .ok (.getfield 135, 3) := by decide +kernel
theorem dX6_lots_27 : decode cX6_lots 27 = .ok (.ifCond .eq 21, 3) := by decide +kernel
theorem dX6_lots_30 : decode cX6_lots 30 = .ok (.aload_n 0, 1) := by decide +kernel
theorem dX6_lots_31 : decode cX6_lots 31 = .ok (.getfield 54, 3) := by decide +kernel
theorem dX6_lots_34 : decode cX6_lots 34 = .ok (.bipush 13, 2) := by decide +kernel
theorem dX6_lots_36 : decode cX6_lots 36 = .ok (.iaload, 1) := by decide +kernel
theorem dX6_lots_37 : decode cX6_lots 37 = .ok (.bipush 70, 2) := by decide +kernel
theorem dX6_lots_39 : decode cX6_lots 39 = .ok (.iload_n 1, 1) := by decide +kernel
theorem dX6_lots_40 : decode cX6_lots 40 = .ok (.imul, 1) := by decide +kernel
theorem dX6_lots_41 : decode cX6_lots 41 = .ok (.iadd, 1) := by decide +kernel
theorem dX6_lots_42 : decode cX6_lots 42 = .ok (.sipush 9999, 3) := by decide +kernel
theorem dX6_lots_45 : decode cX6_lots 45 = .ok (.if_icmp .le 6, 3) := by decide +kernel
theorem dX6_lots_48 : decode cX6_lots 48 = .ok (.bipush (-4), 2) := by decide +kernel
theorem dX6_lots_50 : decode cX6_lots 50 = .ok (.ireturn, 1) := by decide +kernel
theorem dX6_lots_51 : decode cX6_lots 51 = .ok (.aload_n 0, 1) := by decide +kernel
theorem dX6_lots_52 : decode cX6_lots 52 = .ok (.getfield 138, 3) := by decide +kernel
theorem dX6_lots_55 : decode cX6_lots 55 = .ok (.iload_n 1, 1) := by decide +kernel
theorem dX6_lots_56 : decode cX6_lots 56 = .ok (.iadd, 1) := by decide +kernel
theorem dX6_lots_57 : decode cX6_lots 57 = .ok (.bipush 60, 2) := by decide +kernel
theorem dX6_lots_59 : decode cX6_lots 59 = .ok (.if_icmp .le 6, 3) := by decide +kernel
theorem dX6_lots_62 : decode cX6_lots 62 = .ok (.bipush (-2), 2) := by decide +kernel
theorem dX6_lots_64 : decode cX6_lots 64 = .ok (.ireturn, 1) := by decide +kernel
theorem dX6_lots_65 : decode cX6_lots 65 = .ok (.iload_n 2, 1) := by decide +kernel
theorem dX6_lots_66 : decode cX6_lots 66 = .ok (.i2l, 1) := by decide +kernel
theorem dX6_lots_67 : decode cX6_lots 67 = .ok (.lstore_n 3, 1) := by decide +kernel
theorem dX6_lots_68 : decode cX6_lots 68 = .ok (.iconst 0, 1) := by decide +kernel
theorem dX6_lots_69 : decode cX6_lots 69 = .ok (.istore 5, 2) := by decide +kernel
theorem dX6_lots_71 : decode cX6_lots 71 = .ok (.iconst 0, 1) := by decide +kernel
theorem dX6_lots_72 : decode cX6_lots 72 = .ok (.istore 6, 2) := by decide +kernel
theorem dX6_lots_74 : decode cX6_lots 74 = .ok (.iload 6, 2) := by decide +kernel
theorem dX6_lots_76 : decode cX6_lots 76 = .ok (.iload_n 1, 1) := by decide +kernel
theorem dX6_lots_77 : decode cX6_lots 77 = .ok (.if_icmp .ge 62, 3) := by decide +kernel
theorem dX6_lots_80 : decode cX6_lots 80 = .ok (.ldc2_w 268, 3) := by decide +kernel
theorem dX6_lots_83 : decode cX6_lots 83 = .ok (.lload_n 3, 1) := by decide +kernel
theorem dX6_lots_84 : decode cX6_lots 84 = .ok (.lmul, 1) := by decide +kernel
theorem dX6_lots_85 : decode cX6_lots 85 = .ok (.ldc2_w 270, 3) := by decide +kernel
theorem dX6_lots_88 : decode cX6_lots 88 = .ok (.lrem, 1) := by decide +kernel
theorem dX6_lots_89 : decode cX6_lots 89 = .ok (.lstore_n 3, 1) := by decide +kernel
theorem dX6_lots_90 : decode cX6_lots 90 = .ok (.lload_n 3, 1) := by decide +kernel
theorem dX6_lots_91 : decode cX6_lots 91 = .ok (.aload_n 0, 1) := by decide +kernel
theorem dX6_lots_92 : decode cX6_lots 92 = .ok (.getfield 135, 3) := by decide +kernel
theorem dX6_lots_95 : decode cX6_lots 95 = .ok (.i2l, 1) := by decide +kernel
theorem dX6_lots_96 : decode cX6_lots 96 = .ok (.lrem, 1) := by decide +kernel
theorem dX6_lots_97 : decode cX6_lots 97 = .ok (.l2i, 1) := by decide +kernel
theorem dX6_lots_98 : decode cX6_lots 98 = .ok (.istore 7, 2) := by decide +kernel
theorem dX6_lots_100 : decode cX6_lots 100 = .ok (.iload 5, 2) := by decide +kernel
theorem dX6_lots_102 : decode cX6_lots 102 = .ok (.aload_n 0, 1) := by decide +kernel
theorem dX6_lots_103 : decode cX6_lots 103 = .ok (.iload 7, 2) := by decide +kernel
theorem dX6_lots_105 : decode cX6_lots 105 = .ok (.aload_n 0, 1) := by decide +kernel
theorem dX6_lots_106 : decode cX6_lots 106 = .ok (.aload_n 0, 1) := by decide +kernel
theorem dX6_lots_107 : decode cX6_lots 107 = .ok (.aload_n 0, 1) := by decide +kernel
theorem dX6_lots_108 : decode cX6_lots 108 = .ok (.getfield 36, 3) := by decide +kernel
theorem dX6_lots_111 : decode cX6_lots 111 = .ok (.iload 7, 2) := by decide +kernel
theorem dX6_lots_113 : decode cX6_lots 113 = .ok (.iaload, 1) := by decide +kernel
theorem dX6_lots_114 : decode cX6_lots 114 = .ok (.aload_n 0, 1) := by decide +kernel
theorem dX6_lots_115 : decode cX6_lots 115 = .ok (.getfield 39, 3) := by decide +kernel
theorem dX6_lots_118 : decode cX6_lots 118 = .ok (.iload 7, 2) := by decide +kernel
theorem dX6_lots_120 : decode cX6_lots 120 = .ok (.iaload, 1) := by decide +kernel
theorem dX6_lots_121 : decode cX6_lots 121 = .ok (.invokevirtual 199, 3) := by decide +kernel
theorem dX6_lots_124 : decode cX6_lots 124 = .ok (.invokevirtual 217, 3) := by decide +kernel
theorem dX6_lots_127 : decode cX6_lots 127 = .ok (.invokevirtual 193, 3) := by decide +kernel
theorem dX6_lots_130 : decode cX6_lots 130 = .ok (.iadd, 1) := by decide +kernel
theorem dX6_lots_131 : decode cX6_lots 131 = .ok (.istore 5, 2) := by decide +kernel
theorem dX6_lots_133 : decode cX6_lots 133 = .ok (.iinc 6 1, 3) := by decide +kernel
theorem dX6_lots_136 : decode cX6_lots 136 = .ok (.goto (-62), 3) := by decide +kernel
theorem dX6_lots_139 : decode cX6_lots 139 = .ok (.iload 5, 2) := by decide +kernel
theorem dX6_lots_141 : decode cX6_lots 141 = .ok (.ireturn, 1) := by decide +kernel
theorem dX6_counted_0 : decode cX6_counted 0 = .ok (.iconst 0, 1) := by decide +kernel
theorem dX6_counted_1 : decode cX6_counted 1 = .ok (.istore_n 2, 1) := by decide +kernel
theorem dX6_counted_2 : decode cX6_counted 2 = .ok (.iconst 0, 1) := by decide +kernel
theorem dX6_counted_3 : decode cX6_counted 3 = .ok (.istore_n 3, 1) := by decide +kernel
theorem dX6_counted_4 : decode cX6_counted 4 = .ok (.iload_n 3, 1) := by decide +kernel
theorem dX6_counted_5 : decode cX6_counted 5 = .ok (.aload_n 0, 1) := by decide +kernel
theorem dX6_counted_6 : decode cX6_counted 6 = .ok (.getfield 135, 3) := by decide +kernel
theorem dX6_counted_9 : decode cX6_counted 9 = .ok (.if_icmp .ge 61, 3) := by decide +kernel
theorem dX6_counted_12 : decode cX6_counted 12 = .ok (.iload_n 2, 1) := by decide +kernel
theorem dX6_counted_13 : decode cX6_counted 13 = .ok (.iload_n 1, 1) := by decide +kernel
theorem dX6_counted_14 : decode cX6_counted 14 = .ok (.iconst 4, 1) := by decide +kernel
theorem dX6_counted_15 : decode cX6_counted 15 = .ok (.if_icmp .ne 11, 3) := by decide +kernel
theorem dX6_counted_18 : decode cX6_counted 18 = .ok (.aload_n 0, 1) := by decide +kernel
theorem dX6_counted_19 : decode cX6_counted 19 = .ok (.iload_n 3, 1) := by decide +kernel
theorem dX6_counted_20 : decode cX6_counted 20 = .ok (.invokevirtual 151, 3) := by decide +kernel
theorem dX6_counted_23 : decode cX6_counted 23 = .ok (.ifCond .ne 17, 3) := by decide +kernel
theorem dX6_counted_26 : decode cX6_counted 26 = .ok (.iload_n 1, 1) := by decide +kernel
theorem dX6_counted_27 : decode cX6_counted 27 = .ok (.bipush 6, 2) := by decide +kernel
theorem dX6_counted_29 : decode cX6_counted 29 = .ok (.if_icmp .ne 15, 3) := by decide +kernel
theorem dX6_counted_32 : decode cX6_counted 32 = .ok (.aload_n 0, 1) := by decide +kernel
theorem dX6_counted_33 : decode cX6_counted 33 = .ok (.iload_n 3, 1) := by decide +kernel
theorem dX6_counted_34 : decode cX6_counted 34 = .ok (.invokevirtual 154, 3) := by decide +kernel
theorem dX6_counted_37 : decode cX6_counted 37 = .ok (.ifCond .eq 7, 3) := by decide +kernel
theorem dX6_counted_40 : decode cX6_counted 40 = .ok (.iconst 1, 1) := by decide +kernel
theorem dX6_counted_41 : decode cX6_counted 41 = .ok (.goto 21, 3) := by decide +kernel
theorem dX6_counted_44 : decode cX6_counted 44 = .ok (.iload_n 1, 1) := by decide +kernel
theorem dX6_counted_45 : decode cX6_counted 45 = .ok (.iconst 5, 1) := by decide +kernel
theorem dX6_counted_46 : decode cX6_counted 46 = .ok (.if_icmp .ne 15, 3) := by decide +kernel
theorem dX6_counted_49 : decode cX6_counted 49 = .ok (.aload_n 0, 1) := by decide +kernel
theorem dX6_counted_50 : decode cX6_counted 50 = .ok (.getfield 54, 3) := by decide +kernel
theorem dX6_counted_53 : decode cX6_counted 53 = .ok (.bipush 6, 2) := by decide +kernel
theorem dX6_counted_55 : decode cX6_counted 55 = .ok (.iload_n 3, 1) := by decide +kernel
theorem dX6_counted_56 : decode cX6_counted 56 = .ok (.iadd, 1) := by decide +kernel
theorem dX6_counted_57 : decode cX6_counted 57 = .ok (.iaload, 1) := by decide +kernel
theorem dX6_counted_58 : decode cX6_counted 58 = .ok (.goto 4, 3) := by decide +kernel
theorem dX6_counted_61 : decode cX6_counted 61 = .ok (.iconst 0, 1) := by decide +kernel
theorem dX6_counted_62 : decode cX6_counted 62 = .ok (.iadd, 1) := by decide +kernel
theorem dX6_counted_63 : decode cX6_counted 63 = .ok (.istore_n 2, 1) := by decide +kernel
theorem dX6_counted_64 : decode cX6_counted 64 = .ok (.iinc 3 1, 3) := by decide +kernel
theorem dX6_counted_67 : decode cX6_counted 67 = .ok (.goto (-63), 3) := by decide +kernel
theorem dX6_counted_70 : decode cX6_counted 70 = .ok (.iconst 0, 1) := by decide +kernel
theorem dX6_counted_71 : decode cX6_counted 71 = .ok (.istore_n 3, 1) := by decide +kernel
theorem dX6_counted_72 : decode cX6_counted 72 = .ok (.iload_n 3, 1) := by decide +kernel
theorem dX6_counted_73 : decode cX6_counted 73 = .ok (.bipush 6, 2) := by decide +kernel
theorem dX6_counted_75 : decode cX6_counted 75 = .ok (.if_icmp .ge 32, 3) := by decide +kernel
theorem dX6_counted_78 : decode cX6_counted 78 = .ok (.iload_n 2, 1) := by decide +kernel
theorem dX6_counted_79 : decode cX6_counted 79 = .ok (.iload_n 1, 1) := by decide +kernel
theorem dX6_counted_80 : decode cX6_counted 80 = .ok (.bipush 7, 2) := by decide +kernel
theorem dX6_counted_82 : decode cX6_counted 82 = .ok (.if_icmp .ne 16, 3) := by decide +kernel
theorem dX6_counted_85 : decode cX6_counted 85 = .ok (.aload_n 0, 1) := by decide +kernel
theorem dX6_counted_86 : decode cX6_counted 86 = .ok (.getfield 17, 3) := by decide +kernel
theorem dX6_counted_89 : decode cX6_counted 89 = .ok (.iload_n 3, 1) := by decide +kernel
theorem dX6_counted_90 : decode cX6_counted 90 = .ok (.iaload, 1) := by decide +kernel
theorem dX6_counted_91 : decode cX6_counted 91 = .ok (.ifCond .lt 7, 3) := by decide +kernel
theorem dX6_counted_94 : decode cX6_counted 94 = .ok (.iconst 1, 1) := by decide +kernel
theorem dX6_counted_95 : decode cX6_counted 95 = .ok (.goto 4, 3) := by decide +kernel
theorem dX6_counted_98 : decode cX6_counted 98 = .ok (.iconst 0, 1) := by decide +kernel
theorem dX6_counted_99 : decode cX6_counted 99 = .ok (.iadd, 1) := by decide +kernel
theorem dX6_counted_100 : decode cX6_counted 100 = .ok (.istore_n 2, 1) := by decide +kernel
theorem dX6_counted_101 : decode cX6_counted 101 = .ok (.iinc 3 1, 3) := by decide +kernel
theorem dX6_counted_104 : decode cX6_counted 104 = .ok (.goto (-32), 3) := by decide +kernel
theorem dX6_counted_107 : decode cX6_counted 107 = .ok (.iconst 0, 1) := by decide +kernel
theorem dX6_counted_108 : decode cX6_counted 108 = .ok (.istore_n 3, 1) := by decide +kernel
theorem dX6_counted_109 : decode cX6_counted 109 = .ok (.iload_n 3, 1) := by decide +kernel
theorem dX6_counted_110 : decode cX6_counted 110 = .ok (.iconst 4, 1) := by decide +kernel
theorem dX6_counted_111 : decode cX6_counted 111 = .ok (.if_icmp .ge 32, 3) := by decide +kernel
theorem dX6_counted_114 : decode cX6_counted 114 = .ok (.iload_n 2, 1) := by decide +kernel
theorem dX6_counted_115 : decode cX6_counted 115 = .ok (.iload_n 1, 1) := by decide +kernel
theorem dX6_counted_116 : decode cX6_counted 116 = .ok (.bipush 8, 2) := by decide +kernel
theorem dX6_counted_118 : decode cX6_counted 118 = .ok (.if_icmp .ne 16, 3) := by decide +kernel
theorem dX6_counted_121 : decode cX6_counted 121 = .ok (.aload_n 0, 1) := by decide +kernel
theorem dX6_counted_122 : decode cX6_counted 122 = .ok (.getfield 26, 3) := by decide +kernel
theorem dX6_counted_125 : decode cX6_counted 125 = .ok (.iload_n 3, 1) := by decide +kernel
theorem dX6_counted_126 : decode cX6_counted 126 = .ok (.iaload, 1) := by decide +kernel
theorem dX6_counted_127 : decode cX6_counted 127 = .ok (.ifCond .lt 7, 3) := by decide +kernel
theorem dX6_counted_130 : decode cX6_counted 130 = .ok (.iconst 1, 1) := by decide +kernel
theorem dX6_counted_131 : decode cX6_counted 131 = .ok (.goto 4, 3) := by decide +kernel
theorem dX6_counted_134 : decode cX6_counted 134 = .ok (.iconst 0, 1) := by decide +kernel
theorem dX6_counted_135 : decode cX6_counted 135 = .ok (.iadd, 1) := by decide +kernel
theorem dX6_counted_136 : decode cX6_counted 136 = .ok (.istore_n 2, 1) := by decide +kernel
theorem dX6_counted_137 : decode cX6_counted 137 = .ok (.iinc 3 1, 3) := by decide +kernel
theorem dX6_counted_140 : decode cX6_counted 140 = .ok (.goto (-31), 3) := by decide +kernel
theorem dX6_counted_143 : decode cX6_counted 143 = .ok (.iconst 0, 1) := by decide +kernel
theorem dX6_counted_144 : decode cX6_counted 144 = .ok (.istore_n 3, 1) := by decide +kernel
theorem dX6_counted_145 : decode cX6_counted 145 = .ok (.iload_n 3, 1) := by decide +kernel
theorem dX6_counted_146 : decode cX6_counted 146 = .ok (.iconst 3, 1) := by decide +kernel
theorem dX6_counted_147 : decode cX6_counted 147 = .ok (.if_icmp .ge 32, 3) := by decide +kernel
theorem dX6_counted_150 : decode cX6_counted 150 = .ok (.iload_n 2, 1) := by decide +kernel
theorem dX6_counted_151 : decode cX6_counted 151 = .ok (.iload_n 1, 1) := by decide +kernel
theorem dX6_counted_152 : decode cX6_counted 152 = .ok (.bipush 9, 2) := by decide +kernel
theorem dX6_counted_154 : decode cX6_counted 154 = .ok (.if_icmp .ne 16, 3) := by decide +kernel
theorem dX6_counted_157 : decode cX6_counted 157 = .ok (.aload_n 0, 1) := by decide +kernel
theorem dX6_counted_158 : decode cX6_counted 158 = .ok (.getfield 60, 3) := by decide +kernel
theorem dX6_counted_161 : decode cX6_counted 161 = .ok (.iload_n 3, 1) := by decide +kernel
theorem dX6_counted_162 : decode cX6_counted 162 = .ok (.baload, 1) := by decide +kernel
theorem dX6_counted_163 : decode cX6_counted 163 = .ok (.ifCond .eq 7, 3) := by decide +kernel
theorem dX6_counted_166 : decode cX6_counted 166 = .ok (.iconst 1, 1) := by decide +kernel
theorem dX6_counted_167 : decode cX6_counted 167 = .ok (.goto 4, 3) := by decide +kernel
theorem dX6_counted_170 : decode cX6_counted 170 = .ok (.iconst 0, 1) := by decide +kernel
theorem dX6_counted_171 : decode cX6_counted 171 = .ok (.iadd, 1) := by decide +kernel
theorem dX6_counted_172 : decode cX6_counted 172 = .ok (.istore_n 2, 1) := by decide +kernel
theorem dX6_counted_173 : decode cX6_counted 173 = .ok (.iinc 3 1, 3) := by decide +kernel
theorem dX6_counted_176 : decode cX6_counted 176 = .ok (.goto (-31), 3) := by decide +kernel
theorem dX6_counted_179 : decode cX6_counted 179 = .ok (.iload_n 1, 1) := by decide +kernel
theorem dX6_counted_180 : decode cX6_counted 180 = .ok (.tableswitch 58 0 3 #[32, 37, 45, 53], 32) := by decide +kernel
theorem dX6_counted_212 : decode cX6_counted 212 = .ok (.aload_n 0, 1) := by decide +kernel
theorem dX6_counted_213 : decode cX6_counted 213 = .ok (.getfield 135, 3) := by decide +kernel
theorem dX6_counted_216 : decode cX6_counted 216 = .ok (.ireturn, 1) := by decide +kernel
theorem dX6_counted_217 : decode cX6_counted 217 = .ok (.aload_n 0, 1) := by decide +kernel
theorem dX6_counted_218 : decode cX6_counted 218 = .ok (.getfield 54, 3) := by decide +kernel
theorem dX6_counted_221 : decode cX6_counted 221 = .ok (.bipush 12, 2) := by decide +kernel
theorem dX6_counted_223 : decode cX6_counted 223 = .ok (.iaload, 1) := by decide +kernel
theorem dX6_counted_224 : decode cX6_counted 224 = .ok (.ireturn, 1) := by decide +kernel
theorem dX6_counted_225 : decode cX6_counted 225 = .ok (.aload_n 0, 1) := by decide +kernel
theorem dX6_counted_226 : decode cX6_counted 226 = .ok (.getfield 54, 3) := by decide +kernel
theorem dX6_counted_229 : decode cX6_counted 229 = .ok (.bipush 13, 2) := by decide +kernel
theorem dX6_counted_231 : decode cX6_counted 231 = .ok (.iaload, 1) := by decide +kernel
theorem dX6_counted_232 : decode cX6_counted 232 = .ok (.ireturn, 1) := by decide +kernel
theorem dX6_counted_233 : decode cX6_counted 233 = .ok (.aload_n 0, 1) := by decide +kernel
theorem dX6_counted_234 : decode cX6_counted 234 = .ok (.getfield 138, 3) := by decide +kernel
theorem dX6_counted_237 : decode cX6_counted 237 = .ok (.ireturn, 1) := by decide +kernel
theorem dX6_counted_238 : decode cX6_counted 238 = .ok (.iload_n 2, 1) := by decide +kernel
theorem dX6_counted_239 : decode cX6_counted 239 = .ok (.ireturn, 1) := by decide +kernel
theorem dX6_count_0 : decode cX6_count 0 = .ok (.iload_n 1, 1) := by decide +kernel
theorem dX6_count_1 : decode cX6_count 1 = .ok (.iconst 0, 1) := by decide +kernel
theorem dX6_count_2 : decode cX6_count 2 = .ok (.bipush 9, 2) := by decide +kernel
theorem dX6_count_4 : decode cX6_count 4 = .ok (.invokestatic 83, 3) := by decide +kernel
theorem dX6_count_7 : decode cX6_count 7 = .ok (.ifCond .eq 11, 3) := by decide +kernel
theorem dX6_count_10 : decode cX6_count 10 = .ok (.aload_n 0, 1) := by decide +kernel
theorem dX6_count_11 : decode cX6_count 11 = .ok (.iload_n 1, 1) := by decide +kernel
theorem dX6_count_12 : decode cX6_count 12 = .ok (.invokevirtual 272, 3) := by decide +kernel
theorem dX6_count_15 : decode cX6_count 15 = .ok (.goto 4, 3) := by decide +kernel
theorem dX6_count_18 : decode cX6_count 18 = .ok (.iconst (-1), 1) := by decide +kernel
theorem dX6_count_19 : decode cX6_count 19 = .ok (.ireturn, 1) := by decide +kernel
theorem dX6_mix_0 : decode cX6_mix 0 = .ok (.aload_n 0, 1) := by decide +kernel
theorem dX6_mix_1 : decode cX6_mix 1 = .ok (.ldc2_w 275, 3) := by decide +kernel
theorem dX6_mix_4 : decode cX6_mix 4 = .ok (.aload_n 0, 1) := by decide +kernel
theorem dX6_mix_5 : decode cX6_mix 5 = .ok (.getfield 277, 3) := by decide +kernel
theorem dX6_mix_8 : decode cX6_mix 8 = .ok (.lmul, 1) := by decide +kernel
theorem dX6_mix_9 : decode cX6_mix 9 = .ok (.lload_n 1, 1) := by decide +kernel
theorem dX6_mix_10 : decode cX6_mix 10 = .ok (.ladd, 1) := by decide +kernel
theorem dX6_mix_11 : decode cX6_mix 11 = .ok (.putfield 277, 3) := by decide +kernel
theorem dX6_mix_14 : decode cX6_mix 14 = .ok (.return_, 1) := by decide +kernel
theorem dX6_mixShop_0 : decode cX6_mixShop 0 = .ok (.iconst 0, 1) := by decide +kernel
theorem dX6_mixShop_1 : decode cX6_mixShop 1 = .ok (.istore_n 1, 1) := by decide +kernel
theorem dX6_mixShop_2 : decode cX6_mixShop 2 = .ok (.iload_n 1, 1) := by decide +kernel
theorem dX6_mixShop_3 : decode cX6_mixShop 3 = .ok (.aload_n 0, 1) := by decide +kernel
theorem dX6_mixShop_4 : decode cX6_mixShop 4 = .ok (.getfield 135, 3) := by decide +kernel
theorem dX6_mixShop_7 : decode cX6_mixShop 7 = .ok (.if_icmp .ge 34, 3) := by decide +kernel
theorem dX6_mixShop_10 : decode cX6_mixShop 10 = .ok (.iconst 0, 1) := by decide +kernel
theorem dX6_mixShop_11 : decode cX6_mixShop 11 = .ok (.istore_n 2, 1) := by decide +kernel
theorem dX6_mixShop_12 : decode cX6_mixShop 12 = .ok (.iload_n 2, 1) := by decide +kernel
theorem dX6_mixShop_13 : decode cX6_mixShop 13 = .ok (.bipush 9, 2) := by decide +kernel
theorem dX6_mixShop_15 : decode cX6_mixShop 15 = .ok (.if_icmp .ge 20, 3) := by decide +kernel
theorem dX6_mixShop_18 : decode cX6_mixShop 18 = .ok (.aload_n 0, 1) := by decide +kernel
theorem dX6_mixShop_19 : decode cX6_mixShop 19 = .ok (.aload_n 0, 1) := by decide +kernel
theorem dX6_mixShop_20 : decode cX6_mixShop 20 = .ok (.iload_n 1, 1) := by decide +kernel
theorem dX6_mixShop_21 : decode cX6_mixShop 21 = .ok (.iload_n 2, 1) := by decide +kernel
theorem dX6_mixShop_22 : decode cX6_mixShop 22 = .ok (.invokevirtual 166, 3) := by decide +kernel
theorem dX6_mixShop_25 : decode cX6_mixShop 25 = .ok (.i2l, 1) := by decide +kernel
theorem dX6_mixShop_26 : decode cX6_mixShop 26 = .ok (.invokevirtual 280, 3) := by decide +kernel
theorem dX6_mixShop_29 : decode cX6_mixShop 29 = .ok (.iinc 2 1, 3) := by decide +kernel
theorem dX6_mixShop_32 : decode cX6_mixShop 32 = .ok (.goto (-20), 3) := by decide +kernel
theorem dX6_mixShop_35 : decode cX6_mixShop 35 = .ok (.iinc 1 1, 3) := by decide +kernel
theorem dX6_mixShop_38 : decode cX6_mixShop 38 = .ok (.goto (-36), 3) := by decide +kernel
theorem dX6_mixShop_41 : decode cX6_mixShop 41 = .ok (.iconst 0, 1) := by decide +kernel
theorem dX6_mixShop_42 : decode cX6_mixShop 42 = .ok (.istore_n 1, 1) := by decide +kernel
theorem dX6_mixShop_43 : decode cX6_mixShop 43 = .ok (.iload_n 1, 1) := by decide +kernel
theorem dX6_mixShop_44 : decode cX6_mixShop 44 = .ok (.iconst 3, 1) := by decide +kernel
theorem dX6_mixShop_45 : decode cX6_mixShop 45 = .ok (.if_icmp .ge 35, 3) := by decide +kernel
theorem dX6_mixShop_48 : decode cX6_mixShop 48 = .ok (.aload_n 0, 1) := by decide +kernel
theorem dX6_mixShop_49 : decode cX6_mixShop 49 = .ok (.aload_n 0, 1) := by decide +kernel
theorem dX6_mixShop_50 : decode cX6_mixShop 50 = .ok (.getfield 60, 3) := by decide +kernel
theorem dX6_mixShop_53 : decode cX6_mixShop 53 = .ok (.iload_n 1, 1) := by decide +kernel
theorem dX6_mixShop_54 : decode cX6_mixShop 54 = .ok (.baload, 1) := by decide +kernel
theorem dX6_mixShop_55 : decode cX6_mixShop 55 = .ok (.ifCond .eq 13, 3) := by decide +kernel
theorem dX6_mixShop_58 : decode cX6_mixShop 58 = .ok (.aload_n 0, 1) := by decide +kernel
theorem dX6_mixShop_59 : decode cX6_mixShop 59 = .ok (.getfield 64, 3) := by decide +kernel
theorem dX6_mixShop_62 : decode cX6_mixShop 62 = .ok (.iload_n 1, 1) := by decide +kernel
theorem dX6_mixShop_63 : decode cX6_mixShop 63 = .ok (.iaload, 1) := by decide +kernel
theorem dX6_mixShop_64 : decode cX6_mixShop 64 = .ok (.i2l, 1) := by decide +kernel
theorem dX6_mixShop_65 : decode cX6_mixShop 65 = .ok (.goto 6, 3) := by decide +kernel
theorem dX6_mixShop_68 : decode cX6_mixShop 68 = .ok (.ldc2_w 284, 3) := by decide +kernel
theorem dX6_mixShop_71 : decode cX6_mixShop 71 = .ok (.invokevirtual 280, 3) := by decide +kernel
theorem dX6_mixShop_74 : decode cX6_mixShop 74 = .ok (.iinc 1 1, 3) := by decide +kernel
theorem dX6_mixShop_77 : decode cX6_mixShop 77 = .ok (.goto (-34), 3) := by decide +kernel
theorem dX6_mixShop_80 : decode cX6_mixShop 80 = .ok (.return_, 1) := by decide +kernel
theorem dX6_digest_0 : decode cX6_digest 0 = .ok (.aload_n 0, 1) := by decide +kernel
theorem dX6_digest_1 : decode cX6_digest 1 = .ok (.ldc2_w 286, 3) := by decide +kernel
theorem dX6_digest_4 : decode cX6_digest 4 = .ok (.putfield 277, 3) := by decide +kernel
theorem dX6_digest_7 : decode cX6_digest 7 = .ok (.iconst 0, 1) := by decide +kernel
theorem dX6_digest_8 : decode cX6_digest 8 = .ok (.istore_n 1, 1) := by decide +kernel
theorem dX6_digest_9 : decode cX6_digest 9 = .ok (.iload_n 1, 1) := by decide +kernel
theorem dX6_digest_10 : decode cX6_digest 10 = .ok (.bipush 10, 2) := by decide +kernel
theorem dX6_digest_12 : decode cX6_digest 12 = .ok (.if_icmp .ge 19, 3) := by decide +kernel
theorem dX6_digest_15 : decode cX6_digest 15 = .ok (.aload_n 0, 1) := by decide +kernel
theorem dX6_digest_16 : decode cX6_digest 16 = .ok (.aload_n 0, 1) := by decide +kernel
theorem dX6_digest_17 : decode cX6_digest 17 = .ok (.iload_n 1, 1) := by decide +kernel
theorem dX6_digest_18 : decode cX6_digest 18 = .ok (.invokevirtual 272, 3) := by decide +kernel
theorem dX6_digest_21 : decode cX6_digest 21 = .ok (.i2l, 1) := by decide +kernel
theorem dX6_digest_22 : decode cX6_digest 22 = .ok (.invokevirtual 280, 3) := by decide +kernel
theorem dX6_digest_25 : decode cX6_digest 25 = .ok (.iinc 1 1, 3) := by decide +kernel
theorem dX6_digest_28 : decode cX6_digest 28 = .ok (.goto (-19), 3) := by decide +kernel
theorem dX6_digest_31 : decode cX6_digest 31 = .ok (.aload_n 0, 1) := by decide +kernel
theorem dX6_digest_32 : decode cX6_digest 32 = .ok (.invokevirtual 288, 3) := by decide +kernel
theorem dX6_digest_35 : decode cX6_digest 35 = .ok (.iconst 0, 1) := by decide +kernel
theorem dX6_digest_36 : decode cX6_digest 36 = .ok (.istore_n 1, 1) := by decide +kernel
theorem dX6_digest_37 : decode cX6_digest 37 = .ok (.iload_n 1, 1) := by decide +kernel
theorem dX6_digest_38 : decode cX6_digest 38 = .ok (.bipush 6, 2) := by decide +kernel
theorem dX6_digest_40 : decode cX6_digest 40 = .ok (.if_icmp .ge 49, 3) := by decide +kernel
theorem dX6_digest_43 : decode cX6_digest 43 = .ok (.aload_n 0, 1) := by decide +kernel
theorem dX6_digest_44 : decode cX6_digest 44 = .ok (.aload_n 0, 1) := by decide +kernel
theorem dX6_digest_45 : decode cX6_digest 45 = .ok (.getfield 17, 3) := by decide +kernel
theorem dX6_digest_48 : decode cX6_digest 48 = .ok (.iload_n 1, 1) := by decide +kernel
theorem dX6_digest_49 : decode cX6_digest 49 = .ok (.iaload, 1) := by decide +kernel
theorem dX6_digest_50 : decode cX6_digest 50 = .ok (.i2l, 1) := by decide +kernel
theorem dX6_digest_51 : decode cX6_digest 51 = .ok (.invokevirtual 280, 3) := by decide +kernel
theorem dX6_digest_54 : decode cX6_digest 54 = .ok (.iconst 0, 1) := by decide +kernel
theorem dX6_digest_55 : decode cX6_digest 55 = .ok (.istore_n 2, 1) := by decide +kernel
theorem dX6_digest_56 : decode cX6_digest 56 = .ok (.iload_n 2, 1) := by decide +kernel
theorem dX6_digest_57 : decode cX6_digest 57 = .ok (.aload_n 0, 1) := by decide +kernel
theorem dX6_digest_58 : decode cX6_digest 58 = .ok (.getfield 17, 3) := by decide +kernel
theorem dX6_digest_61 : decode cX6_digest 61 = .ok (.iload_n 1, 1) := by decide +kernel
theorem dX6_digest_62 : decode cX6_digest 62 = .ok (.iaload, 1) := by decide +kernel
theorem dX6_digest_63 : decode cX6_digest 63 = .ok (.if_icmp .ge 20, 3) := by decide +kernel
theorem dX6_digest_66 : decode cX6_digest 66 = .ok (.aload_n 0, 1) := by decide +kernel
theorem dX6_digest_67 : decode cX6_digest 67 = .ok (.aload_n 0, 1) := by decide +kernel
theorem dX6_digest_68 : decode cX6_digest 68 = .ok (.iload_n 1, 1) := by decide +kernel
theorem dX6_digest_69 : decode cX6_digest 69 = .ok (.iload_n 2, 1) := by decide +kernel
theorem dX6_digest_70 : decode cX6_digest 70 = .ok (.invokevirtual 101, 3) := by decide +kernel
theorem dX6_digest_73 : decode cX6_digest 73 = .ok (.i2l, 1) := by decide +kernel
theorem dX6_digest_74 : decode cX6_digest 74 = .ok (.invokevirtual 280, 3) := by decide +kernel
theorem dX6_digest_77 : decode cX6_digest 77 = .ok (.iinc 2 1, 3) := by decide +kernel
theorem dX6_digest_80 : decode cX6_digest 80 = .ok (.goto (-24), 3) := by decide +kernel
theorem dX6_digest_83 : decode cX6_digest 83 = .ok (.iinc 1 1, 3) := by decide +kernel
theorem dX6_digest_86 : decode cX6_digest 86 = .ok (.goto (-49), 3) := by decide +kernel
theorem dX6_digest_89 : decode cX6_digest 89 = .ok (.iconst 0, 1) := by decide +kernel
theorem dX6_digest_90 : decode cX6_digest 90 = .ok (.istore_n 1, 1) := by decide +kernel
theorem dX6_digest_91 : decode cX6_digest 91 = .ok (.iload_n 1, 1) := by decide +kernel
theorem dX6_digest_92 : decode cX6_digest 92 = .ok (.iconst 4, 1) := by decide +kernel
theorem dX6_digest_93 : decode cX6_digest 93 = .ok (.if_icmp .ge 49, 3) := by decide +kernel
theorem dX6_digest_96 : decode cX6_digest 96 = .ok (.aload_n 0, 1) := by decide +kernel
theorem dX6_digest_97 : decode cX6_digest 97 = .ok (.aload_n 0, 1) := by decide +kernel
theorem dX6_digest_98 : decode cX6_digest 98 = .ok (.getfield 26, 3) := by decide +kernel
theorem dX6_digest_101 : decode cX6_digest 101 = .ok (.iload_n 1, 1) := by decide +kernel
theorem dX6_digest_102 : decode cX6_digest 102 = .ok (.iaload, 1) := by decide +kernel
theorem dX6_digest_103 : decode cX6_digest 103 = .ok (.i2l, 1) := by decide +kernel
theorem dX6_digest_104 : decode cX6_digest 104 = .ok (.invokevirtual 280, 3) := by decide +kernel
theorem dX6_digest_107 : decode cX6_digest 107 = .ok (.iconst 0, 1) := by decide +kernel
theorem dX6_digest_108 : decode cX6_digest 108 = .ok (.istore_n 2, 1) := by decide +kernel
theorem dX6_digest_109 : decode cX6_digest 109 = .ok (.iload_n 2, 1) := by decide +kernel
theorem dX6_digest_110 : decode cX6_digest 110 = .ok (.aload_n 0, 1) := by decide +kernel
theorem dX6_digest_111 : decode cX6_digest 111 = .ok (.getfield 26, 3) := by decide +kernel
theorem dX6_digest_114 : decode cX6_digest 114 = .ok (.iload_n 1, 1) := by decide +kernel
theorem dX6_digest_115 : decode cX6_digest 115 = .ok (.iaload, 1) := by decide +kernel
theorem dX6_digest_116 : decode cX6_digest 116 = .ok (.if_icmp .ge 20, 3) := by decide +kernel
theorem dX6_digest_119 : decode cX6_digest 119 = .ok (.aload_n 0, 1) := by decide +kernel
theorem dX6_digest_120 : decode cX6_digest 120 = .ok (.aload_n 0, 1) := by decide +kernel
theorem dX6_digest_121 : decode cX6_digest 121 = .ok (.iload_n 1, 1) := by decide +kernel
theorem dX6_digest_122 : decode cX6_digest 122 = .ok (.iload_n 2, 1) := by decide +kernel
theorem dX6_digest_123 : decode cX6_digest 123 = .ok (.invokevirtual 114, 3) := by decide +kernel
theorem dX6_digest_126 : decode cX6_digest 126 = .ok (.i2l, 1) := by decide +kernel
theorem dX6_digest_127 : decode cX6_digest 127 = .ok (.invokevirtual 280, 3) := by decide +kernel
theorem dX6_digest_130 : decode cX6_digest 130 = .ok (.iinc 2 1, 3) := by decide +kernel
theorem dX6_digest_133 : decode cX6_digest 133 = .ok (.goto (-24), 3) := by decide +kernel
theorem dX6_digest_136 : decode cX6_digest 136 = .ok (.iinc 1 1, 3) := by decide +kernel
theorem dX6_digest_139 : decode cX6_digest 139 = .ok (.goto (-48), 3) := by decide +kernel
theorem dX6_digest_142 : decode cX6_digest 142 = .ok (.aload_n 0, 1) := by decide +kernel
theorem dX6_digest_143 : decode cX6_digest 143 = .ok (.getfield 277, 3) := by decide +kernel
theorem dX6_digest_146 : decode cX6_digest 146 = .ok (.lreturn, 1) := by decide +kernel
theorem dJ6_bitCount_0f7a4_0 : decode cJ6_bitCount_0f7a4 0 = .ok (.iload_n 0, 1) := by decide +kernel
theorem dJ6_bitCount_0f7a4_1 : decode cJ6_bitCount_0f7a4 1 = .ok (.iload_n 0, 1) := by decide +kernel
theorem dJ6_bitCount_0f7a4_2 : decode cJ6_bitCount_0f7a4 2 = .ok (.iconst 1, 1) := by decide +kernel
theorem dJ6_bitCount_0f7a4_3 : decode cJ6_bitCount_0f7a4 3 = .ok (.iushr, 1) := by decide +kernel
theorem dJ6_bitCount_0f7a4_4 : decode cJ6_bitCount_0f7a4 4 = .ok (.ldc_w 265, 3) := by decide +kernel
theorem dJ6_bitCount_0f7a4_7 : decode cJ6_bitCount_0f7a4 7 = .ok (.iand, 1) := by decide +kernel
theorem dJ6_bitCount_0f7a4_8 : decode cJ6_bitCount_0f7a4 8 = .ok (.isub, 1) := by decide +kernel
theorem dJ6_bitCount_0f7a4_9 : decode cJ6_bitCount_0f7a4 9 = .ok (.istore_n 0, 1) := by decide +kernel
theorem dJ6_bitCount_0f7a4_10 : decode cJ6_bitCount_0f7a4 10 = .ok (.iload_n 0, 1) := by decide +kernel
theorem dJ6_bitCount_0f7a4_11 : decode cJ6_bitCount_0f7a4 11 = .ok (.ldc_w 266, 3) := by decide +kernel
theorem dJ6_bitCount_0f7a4_14 : decode cJ6_bitCount_0f7a4 14 = .ok (.iand, 1) := by decide +kernel
theorem dJ6_bitCount_0f7a4_15 : decode cJ6_bitCount_0f7a4 15 = .ok (.iload_n 0, 1) := by decide +kernel
theorem dJ6_bitCount_0f7a4_16 : decode cJ6_bitCount_0f7a4 16 = .ok (.iconst 2, 1) := by decide +kernel
theorem dJ6_bitCount_0f7a4_17 : decode cJ6_bitCount_0f7a4 17 = .ok (.iushr, 1) := by decide +kernel
theorem dJ6_bitCount_0f7a4_18 : decode cJ6_bitCount_0f7a4 18 = .ok (.ldc_w 266, 3) := by decide +kernel
theorem dJ6_bitCount_0f7a4_21 : decode cJ6_bitCount_0f7a4 21 = .ok (.iand, 1) := by decide +kernel
theorem dJ6_bitCount_0f7a4_22 : decode cJ6_bitCount_0f7a4 22 = .ok (.iadd, 1) := by decide +kernel
theorem dJ6_bitCount_0f7a4_23 : decode cJ6_bitCount_0f7a4 23 = .ok (.istore_n 0, 1) := by decide +kernel
theorem dJ6_bitCount_0f7a4_24 : decode cJ6_bitCount_0f7a4 24 = .ok (.iload_n 0, 1) := by decide +kernel
theorem dJ6_bitCount_0f7a4_25 : decode cJ6_bitCount_0f7a4 25 = .ok (.iload_n 0, 1) := by decide +kernel
theorem dJ6_bitCount_0f7a4_26 : decode cJ6_bitCount_0f7a4 26 = .ok (.iconst 4, 1) := by decide +kernel
theorem dJ6_bitCount_0f7a4_27 : decode cJ6_bitCount_0f7a4 27 = .ok (.iushr, 1) := by decide +kernel
theorem dJ6_bitCount_0f7a4_28 : decode cJ6_bitCount_0f7a4 28 = .ok (.iadd, 1) := by decide +kernel
theorem dJ6_bitCount_0f7a4_29 : decode cJ6_bitCount_0f7a4 29 = .ok (.ldc_w 267, 3) := by decide +kernel
theorem dJ6_bitCount_0f7a4_32 : decode cJ6_bitCount_0f7a4 32 = .ok (.iand, 1) := by decide +kernel
theorem dJ6_bitCount_0f7a4_33 : decode cJ6_bitCount_0f7a4 33 = .ok (.istore_n 0, 1) := by decide +kernel
theorem dJ6_bitCount_0f7a4_34 : decode cJ6_bitCount_0f7a4 34 = .ok (.iload_n 0, 1) := by decide +kernel
theorem dJ6_bitCount_0f7a4_35 : decode cJ6_bitCount_0f7a4 35 = .ok (.iload_n 0, 1) := by decide +kernel
theorem dJ6_bitCount_0f7a4_36 : decode cJ6_bitCount_0f7a4 36 = .ok (.bipush 8, 2) := by decide +kernel
theorem dJ6_bitCount_0f7a4_38 : decode cJ6_bitCount_0f7a4 38 = .ok (.iushr, 1) := by decide +kernel
theorem dJ6_bitCount_0f7a4_39 : decode cJ6_bitCount_0f7a4 39 = .ok (.iadd, 1) := by decide +kernel
theorem dJ6_bitCount_0f7a4_40 : decode cJ6_bitCount_0f7a4 40 = .ok (.istore_n 0, 1) := by decide +kernel
theorem dJ6_bitCount_0f7a4_41 : decode cJ6_bitCount_0f7a4 41 = .ok (.iload_n 0, 1) := by decide +kernel
theorem dJ6_bitCount_0f7a4_42 : decode cJ6_bitCount_0f7a4 42 = .ok (.iload_n 0, 1) := by decide +kernel
theorem dJ6_bitCount_0f7a4_43 : decode cJ6_bitCount_0f7a4 43 = .ok (.bipush 16, 2) := by decide +kernel
theorem dJ6_bitCount_0f7a4_45 : decode cJ6_bitCount_0f7a4 45 = .ok (.iushr, 1) := by decide +kernel
theorem dJ6_bitCount_0f7a4_46 : decode cJ6_bitCount_0f7a4 46 = .ok (.iadd, 1) := by decide +kernel
theorem dJ6_bitCount_0f7a4_47 : decode cJ6_bitCount_0f7a4 47 = .ok (.istore_n 0, 1) := by decide +kernel
theorem dJ6_bitCount_0f7a4_48 : decode cJ6_bitCount_0f7a4 48 = .ok (.iload_n 0, 1) := by decide +kernel
theorem dJ6_bitCount_0f7a4_49 : decode cJ6_bitCount_0f7a4 49 = .ok (.bipush 63, 2) := by decide +kernel
theorem dJ6_bitCount_0f7a4_51 : decode cJ6_bitCount_0f7a4 51 = .ok (.iand, 1) := by decide +kernel
theorem dJ6_bitCount_0f7a4_52 : decode cJ6_bitCount_0f7a4 52 = .ok (.ireturn, 1) := by decide +kernel
theorem dJ9_max_7cf53_0 : decode cJ9_max_7cf53 0 = .ok (.iload_n 0, 1) := by decide +kernel
theorem dJ9_max_7cf53_1 : decode cJ9_max_7cf53 1 = .ok (.iload_n 1, 1) := by decide +kernel
theorem dJ9_max_7cf53_2 : decode cJ9_max_7cf53 2 = .ok (.if_icmp .lt 7, 3) := by decide +kernel
theorem dJ9_max_7cf53_5 : decode cJ9_max_7cf53 5 = .ok (.iload_n 0, 1) := by decide +kernel
theorem dJ9_max_7cf53_6 : decode cJ9_max_7cf53 6 = .ok (.goto 4, 3) := by decide +kernel
theorem dJ9_max_7cf53_9 : decode cJ9_max_7cf53 9 = .ok (.iload_n 1, 1) := by decide +kernel
theorem dJ9_max_7cf53_10 : decode cJ9_max_7cf53 10 = .ok (.ireturn, 1) := by decide +kernel
theorem dJ9_min_7cf53_0 : decode cJ9_min_7cf53 0 = .ok (.iload_n 0, 1) := by decide +kernel
theorem dJ9_min_7cf53_1 : decode cJ9_min_7cf53 1 = .ok (.iload_n 1, 1) := by decide +kernel
theorem dJ9_min_7cf53_2 : decode cJ9_min_7cf53 2 = .ok (.if_icmp .gt 7, 3) := by decide +kernel
theorem dJ9_min_7cf53_5 : decode cJ9_min_7cf53 5 = .ok (.iload_n 0, 1) := by decide +kernel
theorem dJ9_min_7cf53_6 : decode cJ9_min_7cf53 6 = .ok (.goto 4, 3) := by decide +kernel
theorem dJ9_min_7cf53_9 : decode cJ9_min_7cf53 9 = .ok (.iload_n 1, 1) := by decide +kernel
theorem dJ9_min_7cf53_10 : decode cJ9_min_7cf53 10 = .ok (.ireturn, 1) := by decide +kernel
