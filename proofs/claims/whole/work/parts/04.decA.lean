theorem dX0_init_0 : decode cX0_init 0 = .ok (.aload_n 0, 1) := by decide +kernel
theorem dX0_init_1 : decode cX0_init 1 = .ok (.invokespecial 3, 3) := by decide +kernel
theorem dX0_init_4 : decode cX0_init 4 = .ok (.aload_n 0, 1) := by decide +kernel
theorem dX0_init_5 : decode cX0_init 5 = .ok (.bipush 6, 2) := by decide +kernel
theorem dX0_init_7 : decode cX0_init 7 = .ok (.newarray .int, 2) := by decide +kernel
theorem dX0_init_9 : decode cX0_init 9 = .ok (.putfield 9, 3) := by decide +kernel
theorem dX0_init_12 : decode cX0_init 12 = .ok (.aload_n 0, 1) := by decide +kernel
theorem dX0_init_13 : decode cX0_init 13 = .ok (.new 15, 3) := by decide +kernel
theorem dX0_init_16 : decode cX0_init 16 = .ok (.dup, 1) := by decide +kernel
theorem dX0_init_17 : decode cX0_init 17 = .ok (.invokespecial 17, 3) := by decide +kernel
theorem dX0_init_20 : decode cX0_init 20 = .ok (.putfield 18, 3) := by decide +kernel
theorem dX0_init_23 : decode cX0_init 23 = .ok (.return_, 1) := by decide +kernel
theorem dX0_takeFrom_0 : decode cX0_takeFrom 0 = .ok (.iconst 0, 1) := by decide +kernel
theorem dX0_takeFrom_1 : decode cX0_takeFrom 1 = .ok (.istore_n 2, 1) := by decide +kernel
theorem dX0_takeFrom_2 : decode cX0_takeFrom 2 = .ok (.iload_n 2, 1) := by decide +kernel
theorem dX0_takeFrom_3 : decode cX0_takeFrom 3 = .ok (.aload_n 1, 1) := by decide +kernel
theorem dX0_takeFrom_4 : decode cX0_takeFrom 4 = .ok (.getfield 22, 3) := by decide +kernel
theorem dX0_takeFrom_7 : decode cX0_takeFrom 7 = .ok (.if_icmp .ge 24, 3) := by decide +kernel
theorem dX0_takeFrom_10 : decode cX0_takeFrom 10 = .ok (.aload_n 0, 1) := by decide +kernel
theorem dX0_takeFrom_11 : decode cX0_takeFrom 11 = .ok (.getfield 9, 3) := by decide +kernel
theorem dX0_takeFrom_14 : decode cX0_takeFrom 14 = .ok (.iload_n 2, 1) := by decide +kernel
theorem dX0_takeFrom_15 : decode cX0_takeFrom 15 = .ok (.aload_n 1, 1) := by decide +kernel
theorem dX0_takeFrom_16 : decode cX0_takeFrom 16 = .ok (.getfield 28, 3) := by decide +kernel
theorem dX0_takeFrom_19 : decode cX0_takeFrom 19 = .ok (.iload_n 2, 1) := by decide +kernel
theorem dX0_takeFrom_20 : decode cX0_takeFrom 20 = .ok (.aaload, 1) := by decide +kernel
theorem dX0_takeFrom_21 : decode cX0_takeFrom 21 = .ok (.getfield 32, 3) := by decide +kernel
theorem dX0_takeFrom_24 : decode cX0_takeFrom 24 = .ok (.iastore, 1) := by decide +kernel
theorem dX0_takeFrom_25 : decode cX0_takeFrom 25 = .ok (.iinc 2 1, 3) := by decide +kernel
theorem dX0_takeFrom_28 : decode cX0_takeFrom 28 = .ok (.goto (-26), 3) := by decide +kernel
theorem dX0_takeFrom_31 : decode cX0_takeFrom 31 = .ok (.aload_n 0, 1) := by decide +kernel
theorem dX0_takeFrom_32 : decode cX0_takeFrom 32 = .ok (.getfield 18, 3) := by decide +kernel
theorem dX0_takeFrom_35 : decode cX0_takeFrom 35 = .ok (.aload_n 1, 1) := by decide +kernel
theorem dX0_takeFrom_36 : decode cX0_takeFrom 36 = .ok (.getfield 37, 3) := by decide +kernel
theorem dX0_takeFrom_39 : decode cX0_takeFrom 39 = .ok (.invokevirtual 38, 3) := by decide +kernel
theorem dX0_takeFrom_42 : decode cX0_takeFrom 42 = .ok (.aload_n 0, 1) := by decide +kernel
theorem dX0_takeFrom_43 : decode cX0_takeFrom 43 = .ok (.iconst 1, 1) := by decide +kernel
theorem dX0_takeFrom_44 : decode cX0_takeFrom 44 = .ok (.putfield 42, 3) := by decide +kernel
theorem dX0_takeFrom_47 : decode cX0_takeFrom 47 = .ok (.return_, 1) := by decide +kernel
theorem dX0_giveTo_0 : decode cX0_giveTo 0 = .ok (.iconst 0, 1) := by decide +kernel
theorem dX0_giveTo_1 : decode cX0_giveTo 1 = .ok (.istore_n 2, 1) := by decide +kernel
theorem dX0_giveTo_2 : decode cX0_giveTo 2 = .ok (.iload_n 2, 1) := by decide +kernel
theorem dX0_giveTo_3 : decode cX0_giveTo 3 = .ok (.aload_n 1, 1) := by decide +kernel
theorem dX0_giveTo_4 : decode cX0_giveTo 4 = .ok (.getfield 22, 3) := by decide +kernel
theorem dX0_giveTo_7 : decode cX0_giveTo 7 = .ok (.if_icmp .ge 24, 3) := by decide +kernel
theorem dX0_giveTo_10 : decode cX0_giveTo 10 = .ok (.aload_n 1, 1) := by decide +kernel
theorem dX0_giveTo_11 : decode cX0_giveTo 11 = .ok (.getfield 28, 3) := by decide +kernel
theorem dX0_giveTo_14 : decode cX0_giveTo 14 = .ok (.iload_n 2, 1) := by decide +kernel
theorem dX0_giveTo_15 : decode cX0_giveTo 15 = .ok (.aaload, 1) := by decide +kernel
theorem dX0_giveTo_16 : decode cX0_giveTo 16 = .ok (.aload_n 0, 1) := by decide +kernel
theorem dX0_giveTo_17 : decode cX0_giveTo 17 = .ok (.getfield 9, 3) := by decide +kernel
theorem dX0_giveTo_20 : decode cX0_giveTo 20 = .ok (.iload_n 2, 1) := by decide +kernel
theorem dX0_giveTo_21 : decode cX0_giveTo 21 = .ok (.iaload, 1) := by decide +kernel
theorem dX0_giveTo_22 : decode cX0_giveTo 22 = .ok (.putfield 32, 3) := by decide +kernel
theorem dX0_giveTo_25 : decode cX0_giveTo 25 = .ok (.iinc 2 1, 3) := by decide +kernel
theorem dX0_giveTo_28 : decode cX0_giveTo 28 = .ok (.goto (-26), 3) := by decide +kernel
theorem dX0_giveTo_31 : decode cX0_giveTo 31 = .ok (.aload_n 1, 1) := by decide +kernel
theorem dX0_giveTo_32 : decode cX0_giveTo 32 = .ok (.getfield 37, 3) := by decide +kernel
theorem dX0_giveTo_35 : decode cX0_giveTo 35 = .ok (.aload_n 0, 1) := by decide +kernel
theorem dX0_giveTo_36 : decode cX0_giveTo 36 = .ok (.getfield 18, 3) := by decide +kernel
theorem dX0_giveTo_39 : decode cX0_giveTo 39 = .ok (.invokevirtual 38, 3) := by decide +kernel
theorem dX0_giveTo_42 : decode cX0_giveTo 42 = .ok (.aload_n 1, 1) := by decide +kernel
theorem dX0_giveTo_43 : decode cX0_giveTo 43 = .ok (.aload_n 0, 1) := by decide +kernel
theorem dX0_giveTo_44 : decode cX0_giveTo 44 = .ok (.getfield 18, 3) := by decide +kernel
theorem dX0_giveTo_47 : decode cX0_giveTo 47 = .ok (.getfield 46, 3) := by decide +kernel
theorem dX0_giveTo_50 : decode cX0_giveTo 50 = .ok (.invokevirtual 47, 3) := by decide +kernel
theorem dX0_giveTo_53 : decode cX0_giveTo 53 = .ok (.return_, 1) := by decide +kernel
theorem dX1_init_0 : decode cX1_init 0 = .ok (.aload_n 0, 1) := by decide +kernel
theorem dX1_init_1 : decode cX1_init 1 = .ok (.invokespecial 1, 3) := by decide +kernel
theorem dX1_init_4 : decode cX1_init 4 = .ok (.return_, 1) := by decide +kernel
theorem dX1_walk_0 : decode cX1_walk 0 = .ok (.aload_n 0, 1) := by decide +kernel
theorem dX1_walk_1 : decode cX1_walk 1 = .ok (.iconst 0, 1) := by decide +kernel
theorem dX1_walk_2 : decode cX1_walk 2 = .ok (.putfield 7, 3) := by decide +kernel
theorem dX1_walk_5 : decode cX1_walk 5 = .ok (.aload_n 0, 1) := by decide +kernel
theorem dX1_walk_6 : decode cX1_walk 6 = .ok (.iconst 0, 1) := by decide +kernel
theorem dX1_walk_7 : decode cX1_walk 7 = .ok (.putfield 13, 3) := by decide +kernel
theorem dX1_walk_10 : decode cX1_walk 10 = .ok (.aload_n 0, 1) := by decide +kernel
theorem dX1_walk_11 : decode cX1_walk 11 = .ok (.iconst 0, 1) := by decide +kernel
theorem dX1_walk_12 : decode cX1_walk 12 = .ok (.putfield 16, 3) := by decide +kernel
theorem dX1_walk_15 : decode cX1_walk 15 = .ok (.iconst 0, 1) := by decide +kernel
theorem dX1_walk_16 : decode cX1_walk 16 = .ok (.istore 5, 2) := by decide +kernel
theorem dX1_walk_18 : decode cX1_walk 18 = .ok (.iload 5, 2) := by decide +kernel
theorem dX1_walk_20 : decode cX1_walk 20 = .ok (.iconst 1, 1) := by decide +kernel
theorem dX1_walk_21 : decode cX1_walk 21 = .ok (.iadd, 1) := by decide +kernel
theorem dX1_walk_22 : decode cX1_walk 22 = .ok (.iload_n 3, 1) := by decide +kernel
theorem dX1_walk_23 : decode cX1_walk 23 = .ok (.if_icmp .ge 99, 3) := by decide +kernel
theorem dX1_walk_26 : decode cX1_walk 26 = .ok (.aload_n 1, 1) := by decide +kernel
theorem dX1_walk_27 : decode cX1_walk 27 = .ok (.aload_n 2, 1) := by decide +kernel
theorem dX1_walk_28 : decode cX1_walk 28 = .ok (.iload 5, 2) := by decide +kernel
theorem dX1_walk_30 : decode cX1_walk 30 = .ok (.iaload, 1) := by decide +kernel
theorem dX1_walk_31 : decode cX1_walk 31 = .ok (.aaload, 1) := by decide +kernel
theorem dX1_walk_32 : decode cX1_walk 32 = .ok (.astore 6, 2) := by decide +kernel
theorem dX1_walk_34 : decode cX1_walk 34 = .ok (.aload_n 2, 1) := by decide +kernel
theorem dX1_walk_35 : decode cX1_walk 35 = .ok (.iload 5, 2) := by decide +kernel
theorem dX1_walk_37 : decode cX1_walk 37 = .ok (.iconst 1, 1) := by decide +kernel
theorem dX1_walk_38 : decode cX1_walk 38 = .ok (.iadd, 1) := by decide +kernel
theorem dX1_walk_39 : decode cX1_walk 39 = .ok (.iaload, 1) := by decide +kernel
theorem dX1_walk_40 : decode cX1_walk 40 = .ok (.istore 7, 2) := by decide +kernel
theorem dX1_walk_42 : decode cX1_walk 42 = .ok (.aload_n 0, 1) := by decide +kernel
theorem dX1_walk_43 : decode cX1_walk 43 = .ok (.aload_n 0, 1) := by decide +kernel
theorem dX1_walk_44 : decode cX1_walk 44 = .ok (.getfield 7, 3) := by decide +kernel
theorem dX1_walk_47 : decode cX1_walk 47 = .ok (.iload 7, 2) := by decide +kernel
theorem dX1_walk_49 : decode cX1_walk 49 = .ok (.invokestatic 19, 3) := by decide +kernel
theorem dX1_walk_52 : decode cX1_walk 52 = .ok (.putfield 7, 3) := by decide +kernel
theorem dX1_walk_55 : decode cX1_walk 55 = .ok (.aload_n 0, 1) := by decide +kernel
theorem dX1_walk_56 : decode cX1_walk 56 = .ok (.getfield 7, 3) := by decide +kernel
theorem dX1_walk_59 : decode cX1_walk 59 = .ok (.iload 7, 2) := by decide +kernel
theorem dX1_walk_61 : decode cX1_walk 61 = .ok (.isub, 1) := by decide +kernel
theorem dX1_walk_62 : decode cX1_walk 62 = .ok (.aload 6, 2) := by decide +kernel
theorem dX1_walk_64 : decode cX1_walk 64 = .ok (.invokevirtual 25, 3) := by decide +kernel
theorem dX1_walk_67 : decode cX1_walk 67 = .ok (.if_icmp .le 16, 3) := by decide +kernel
theorem dX1_walk_70 : decode cX1_walk 70 = .ok (.aload_n 0, 1) := by decide +kernel
theorem dX1_walk_71 : decode cX1_walk 71 = .ok (.dup, 1) := by decide +kernel
theorem dX1_walk_72 : decode cX1_walk 72 = .ok (.getfield 13, 3) := by decide +kernel
theorem dX1_walk_75 : decode cX1_walk 75 = .ok (.iconst 1, 1) := by decide +kernel
theorem dX1_walk_76 : decode cX1_walk 76 = .ok (.iadd, 1) := by decide +kernel
theorem dX1_walk_77 : decode cX1_walk 77 = .ok (.putfield 13, 3) := by decide +kernel
theorem dX1_walk_80 : decode cX1_walk 80 = .ok (.goto 36, 3) := by decide +kernel
theorem dX1_walk_83 : decode cX1_walk 83 = .ok (.aload_n 0, 1) := by decide +kernel
theorem dX1_walk_84 : decode cX1_walk 84 = .ok (.dup, 1) := by decide +kernel
theorem dX1_walk_85 : decode cX1_walk 85 = .ok (.getfield 7, 3) := by decide +kernel
theorem dX1_walk_88 : decode cX1_walk 88 = .ok (.aload 6, 2) := by decide +kernel
theorem dX1_walk_90 : decode cX1_walk 90 = .ok (.invokevirtual 31, 3) := by decide +kernel
theorem dX1_walk_93 : decode cX1_walk 93 = .ok (.iadd, 1) := by decide +kernel
theorem dX1_walk_94 : decode cX1_walk 94 = .ok (.putfield 7, 3) := by decide +kernel
theorem dX1_walk_97 : decode cX1_walk 97 = .ok (.aload_n 0, 1) := by decide +kernel
theorem dX1_walk_98 : decode cX1_walk 98 = .ok (.getfield 7, 3) := by decide +kernel
theorem dX1_walk_101 : decode cX1_walk 101 = .ok (.iload 4, 2) := by decide +kernel
theorem dX1_walk_103 : decode cX1_walk 103 = .ok (.if_icmp .gt 13, 3) := by decide +kernel
theorem dX1_walk_106 : decode cX1_walk 106 = .ok (.aload_n 0, 1) := by decide +kernel
theorem dX1_walk_107 : decode cX1_walk 107 = .ok (.dup, 1) := by decide +kernel
theorem dX1_walk_108 : decode cX1_walk 108 = .ok (.getfield 16, 3) := by decide +kernel
theorem dX1_walk_111 : decode cX1_walk 111 = .ok (.iconst 1, 1) := by decide +kernel
theorem dX1_walk_112 : decode cX1_walk 112 = .ok (.iadd, 1) := by decide +kernel
theorem dX1_walk_113 : decode cX1_walk 113 = .ok (.putfield 16, 3) := by decide +kernel
theorem dX1_walk_116 : decode cX1_walk 116 = .ok (.iinc 5 2, 3) := by decide +kernel
theorem dX1_walk_119 : decode cX1_walk 119 = .ok (.goto (-101), 3) := by decide +kernel
theorem dX1_walk_122 : decode cX1_walk 122 = .ok (.return_, 1) := by decide +kernel
theorem dX2_init_0 : decode cX2_init 0 = .ok (.aload_n 0, 1) := by decide +kernel
theorem dX2_init_1 : decode cX2_init 1 = .ok (.invokespecial 3, 3) := by decide +kernel
theorem dX2_init_4 : decode cX2_init 4 = .ok (.return_, 1) := by decide +kernel
theorem dX2_become_0 : decode cX2_become 0 = .ok (.aload_n 0, 1) := by decide +kernel
theorem dX2_become_1 : decode cX2_become 1 = .ok (.aload_n 1, 1) := by decide +kernel
theorem dX2_become_2 : decode cX2_become 2 = .ok (.iload_n 2, 1) := by decide +kernel
theorem dX2_become_3 : decode cX2_become 3 = .ok (.baload, 1) := by decide +kernel
theorem dX2_become_4 : decode cX2_become 4 = .ok (.invokestatic 9, 3) := by decide +kernel
theorem dX2_become_7 : decode cX2_become 7 = .ok (.putfield 13, 3) := by decide +kernel
theorem dX2_become_10 : decode cX2_become 10 = .ok (.aload_n 0, 1) := by decide +kernel
theorem dX2_become_11 : decode cX2_become 11 = .ok (.aload_n 1, 1) := by decide +kernel
theorem dX2_become_12 : decode cX2_become 12 = .ok (.iload_n 2, 1) := by decide +kernel
theorem dX2_become_13 : decode cX2_become 13 = .ok (.iconst 1, 1) := by decide +kernel
theorem dX2_become_14 : decode cX2_become 14 = .ok (.iadd, 1) := by decide +kernel
theorem dX2_become_15 : decode cX2_become 15 = .ok (.baload, 1) := by decide +kernel
theorem dX2_become_16 : decode cX2_become 16 = .ok (.bipush 48, 2) := by decide +kernel
theorem dX2_become_18 : decode cX2_become 18 = .ok (.isub, 1) := by decide +kernel
theorem dX2_become_19 : decode cX2_become 19 = .ok (.putfield 19, 3) := by decide +kernel
theorem dX2_become_22 : decode cX2_become 22 = .ok (.aload_n 0, 1) := by decide +kernel
theorem dX2_become_23 : decode cX2_become 23 = .ok (.aload_n 1, 1) := by decide +kernel
theorem dX2_become_24 : decode cX2_become 24 = .ok (.iload_n 2, 1) := by decide +kernel
theorem dX2_become_25 : decode cX2_become 25 = .ok (.iconst 2, 1) := by decide +kernel
theorem dX2_become_26 : decode cX2_become 26 = .ok (.iadd, 1) := by decide +kernel
theorem dX2_become_27 : decode cX2_become 27 = .ok (.baload, 1) := by decide +kernel
theorem dX2_become_28 : decode cX2_become 28 = .ok (.bipush 48, 2) := by decide +kernel
theorem dX2_become_30 : decode cX2_become 30 = .ok (.isub, 1) := by decide +kernel
theorem dX2_become_31 : decode cX2_become 31 = .ok (.putfield 22, 3) := by decide +kernel
theorem dX2_become_34 : decode cX2_become 34 = .ok (.aload_n 0, 1) := by decide +kernel
theorem dX2_become_35 : decode cX2_become 35 = .ok (.aload_n 1, 1) := by decide +kernel
theorem dX2_become_36 : decode cX2_become 36 = .ok (.iload_n 2, 1) := by decide +kernel
theorem dX2_become_37 : decode cX2_become 37 = .ok (.iconst 3, 1) := by decide +kernel
theorem dX2_become_38 : decode cX2_become 38 = .ok (.iadd, 1) := by decide +kernel
theorem dX2_become_39 : decode cX2_become 39 = .ok (.baload, 1) := by decide +kernel
theorem dX2_become_40 : decode cX2_become 40 = .ok (.bipush 48, 2) := by decide +kernel
theorem dX2_become_42 : decode cX2_become 42 = .ok (.isub, 1) := by decide +kernel
theorem dX2_become_43 : decode cX2_become 43 = .ok (.putfield 25, 3) := by decide +kernel
theorem dX2_become_46 : decode cX2_become 46 = .ok (.aload_n 0, 1) := by decide +kernel
theorem dX2_become_47 : decode cX2_become 47 = .ok (.aload_n 1, 1) := by decide +kernel
theorem dX2_become_48 : decode cX2_become 48 = .ok (.iload_n 2, 1) := by decide +kernel
theorem dX2_become_49 : decode cX2_become 49 = .ok (.iconst 4, 1) := by decide +kernel
theorem dX2_become_50 : decode cX2_become 50 = .ok (.iadd, 1) := by decide +kernel
theorem dX2_become_51 : decode cX2_become 51 = .ok (.baload, 1) := by decide +kernel
theorem dX2_become_52 : decode cX2_become 52 = .ok (.bipush 48, 2) := by decide +kernel
theorem dX2_become_54 : decode cX2_become 54 = .ok (.isub, 1) := by decide +kernel
theorem dX2_become_55 : decode cX2_become 55 = .ok (.putfield 28, 3) := by decide +kernel
theorem dX2_become_58 : decode cX2_become 58 = .ok (.aload_n 0, 1) := by decide +kernel
theorem dX2_become_59 : decode cX2_become 59 = .ok (.aload_n 1, 1) := by decide +kernel
theorem dX2_become_60 : decode cX2_become 60 = .ok (.iload_n 2, 1) := by decide +kernel
theorem dX2_become_61 : decode cX2_become 61 = .ok (.iconst 5, 1) := by decide +kernel
theorem dX2_become_62 : decode cX2_become 62 = .ok (.iadd, 1) := by decide +kernel
theorem dX2_become_63 : decode cX2_become 63 = .ok (.baload, 1) := by decide +kernel
theorem dX2_become_64 : decode cX2_become 64 = .ok (.bipush 48, 2) := by decide +kernel
theorem dX2_become_66 : decode cX2_become 66 = .ok (.isub, 1) := by decide +kernel
theorem dX2_become_67 : decode cX2_become 67 = .ok (.putfield 31, 3) := by decide +kernel
theorem dX2_become_70 : decode cX2_become 70 = .ok (.return_, 1) := by decide +kernel
theorem dX2_isOf_0 : decode cX2_isOf 0 = .ok (.aload_n 0, 1) := by decide +kernel
theorem dX2_isOf_1 : decode cX2_isOf 1 = .ok (.getfield 13, 3) := by decide +kernel
theorem dX2_isOf_4 : decode cX2_isOf 4 = .ok (.iload_n 1, 1) := by decide +kernel
theorem dX2_isOf_5 : decode cX2_isOf 5 = .ok (.if_icmp .eq 33, 3) := by decide +kernel
theorem dX2_isOf_8 : decode cX2_isOf 8 = .ok (.iload_n 1, 1) := by decide +kernel
theorem dX2_isOf_9 : decode cX2_isOf 9 = .ok (.ifCond .eq 29, 3) := by decide +kernel
theorem dX2_isOf_12 : decode cX2_isOf 12 = .ok (.aload_n 0, 1) := by decide +kernel
theorem dX2_isOf_13 : decode cX2_isOf 13 = .ok (.getfield 13, 3) := by decide +kernel
theorem dX2_isOf_16 : decode cX2_isOf 16 = .ok (.iconst 4, 1) := by decide +kernel
theorem dX2_isOf_17 : decode cX2_isOf 17 = .ok (.if_icmp .ne 8, 3) := by decide +kernel
theorem dX2_isOf_20 : decode cX2_isOf 20 = .ok (.iload_n 1, 1) := by decide +kernel
theorem dX2_isOf_21 : decode cX2_isOf 21 = .ok (.iconst 1, 1) := by decide +kernel
theorem dX2_isOf_22 : decode cX2_isOf 22 = .ok (.if_icmp .eq 16, 3) := by decide +kernel
theorem dX2_isOf_25 : decode cX2_isOf 25 = .ok (.aload_n 0, 1) := by decide +kernel
theorem dX2_isOf_26 : decode cX2_isOf 26 = .ok (.getfield 13, 3) := by decide +kernel
theorem dX2_isOf_29 : decode cX2_isOf 29 = .ok (.iconst 5, 1) := by decide +kernel
theorem dX2_isOf_30 : decode cX2_isOf 30 = .ok (.if_icmp .ne 12, 3) := by decide +kernel
theorem dX2_isOf_33 : decode cX2_isOf 33 = .ok (.iload_n 1, 1) := by decide +kernel
theorem dX2_isOf_34 : decode cX2_isOf 34 = .ok (.iconst 2, 1) := by decide +kernel
theorem dX2_isOf_35 : decode cX2_isOf 35 = .ok (.if_icmp .ne 7, 3) := by decide +kernel
theorem dX2_isOf_38 : decode cX2_isOf 38 = .ok (.iconst 1, 1) := by decide +kernel
theorem dX2_isOf_39 : decode cX2_isOf 39 = .ok (.goto 4, 3) := by decide +kernel
theorem dX2_isOf_42 : decode cX2_isOf 42 = .ok (.iconst 0, 1) := by decide +kernel
theorem dX2_isOf_43 : decode cX2_isOf 43 = .ok (.ireturn, 1) := by decide +kernel
theorem dX2_isKnown_0 : decode cX2_isKnown 0 = .ok (.aload_n 0, 1) := by decide +kernel
theorem dX2_isKnown_1 : decode cX2_isKnown 1 = .ok (.getfield 34, 3) := by decide +kernel
theorem dX2_isKnown_4 : decode cX2_isKnown 4 = .ok (.iconst 2, 1) := by decide +kernel
theorem dX2_isKnown_5 : decode cX2_isKnown 5 = .ok (.if_icmp .lt 7, 3) := by decide +kernel
theorem dX2_isKnown_8 : decode cX2_isKnown 8 = .ok (.iconst 1, 1) := by decide +kernel
theorem dX2_isKnown_9 : decode cX2_isKnown 9 = .ok (.goto 4, 3) := by decide +kernel
theorem dX2_isKnown_12 : decode cX2_isKnown 12 = .ok (.iconst 0, 1) := by decide +kernel
theorem dX2_isKnown_13 : decode cX2_isKnown 13 = .ok (.ireturn, 1) := by decide +kernel
theorem dX2_looks_0 : decode cX2_looks 0 = .ok (.iload_n 1, 1) := by decide +kernel
theorem dX2_looks_1 : decode cX2_looks 1 = .ok (.bipush (-9), 2) := by decide +kernel
theorem dX2_looks_3 : decode cX2_looks 3 = .ok (.if_icmp .eq 11, 3) := by decide +kernel
theorem dX2_looks_6 : decode cX2_looks 6 = .ok (.iload_n 1, 1) := by decide +kernel
theorem dX2_looks_7 : decode cX2_looks 7 = .ok (.aload_n 0, 1) := by decide +kernel
theorem dX2_looks_8 : decode cX2_looks 8 = .ok (.getfield 19, 3) := by decide +kernel
theorem dX2_looks_11 : decode cX2_looks 11 = .ok (.if_icmp .ne 21, 3) := by decide +kernel
theorem dX2_looks_14 : decode cX2_looks 14 = .ok (.iload_n 2, 1) := by decide +kernel
theorem dX2_looks_15 : decode cX2_looks 15 = .ok (.bipush (-9), 2) := by decide +kernel
theorem dX2_looks_17 : decode cX2_looks 17 = .ok (.if_icmp .eq 11, 3) := by decide +kernel
theorem dX2_looks_20 : decode cX2_looks 20 = .ok (.iload_n 2, 1) := by decide +kernel
theorem dX2_looks_21 : decode cX2_looks 21 = .ok (.aload_n 0, 1) := by decide +kernel
theorem dX2_looks_22 : decode cX2_looks 22 = .ok (.getfield 22, 3) := by decide +kernel
theorem dX2_looks_25 : decode cX2_looks 25 = .ok (.if_icmp .ne 7, 3) := by decide +kernel
theorem dX2_looks_28 : decode cX2_looks 28 = .ok (.iconst 1, 1) := by decide +kernel
theorem dX2_looks_29 : decode cX2_looks 29 = .ok (.goto 4, 3) := by decide +kernel
theorem dX2_looks_32 : decode cX2_looks 32 = .ok (.iconst 0, 1) := by decide +kernel
theorem dX2_looks_33 : decode cX2_looks 33 = .ok (.ireturn, 1) := by decide +kernel
theorem dX2_wantOn_0 : decode cX2_wantOn 0 = .ok (.aload_n 0, 1) := by decide +kernel
theorem dX2_wantOn_1 : decode cX2_wantOn 1 = .ok (.getfield 13, 3) := by decide +kernel
theorem dX2_wantOn_4 : decode cX2_wantOn 4 = .ok (.iload_n 1, 1) := by decide +kernel
theorem dX2_wantOn_5 : decode cX2_wantOn 5 = .ok (.invokestatic 37, 3) := by decide +kernel
theorem dX2_wantOn_8 : decode cX2_wantOn 8 = .ok (.ifCond .eq 10, 3) := by decide +kernel
theorem dX2_wantOn_11 : decode cX2_wantOn 11 = .ok (.aload_n 0, 1) := by decide +kernel
theorem dX2_wantOn_12 : decode cX2_wantOn 12 = .ok (.getfield 28, 3) := by decide +kernel
theorem dX2_wantOn_15 : decode cX2_wantOn 15 = .ok (.goto 7, 3) := by decide +kernel
theorem dX2_wantOn_18 : decode cX2_wantOn 18 = .ok (.aload_n 0, 1) := by decide +kernel
theorem dX2_wantOn_19 : decode cX2_wantOn 19 = .ok (.getfield 25, 3) := by decide +kernel
theorem dX2_wantOn_22 : decode cX2_wantOn 22 = .ok (.ireturn, 1) := by decide +kernel
theorem dX2_patience_0 : decode cX2_patience 0 = .ok (.aload_n 0, 1) := by decide +kernel
theorem dX2_patience_1 : decode cX2_patience 1 = .ok (.iconst 3, 1) := by decide +kernel
theorem dX2_patience_2 : decode cX2_patience 2 = .ok (.invokevirtual 41, 3) := by decide +kernel
theorem dX2_patience_5 : decode cX2_patience 5 = .ok (.ifCond .eq 8, 3) := by decide +kernel
theorem dX2_patience_8 : decode cX2_patience 8 = .ok (.bipush 20, 2) := by decide +kernel
theorem dX2_patience_10 : decode cX2_patience 10 = .ok (.goto 5, 3) := by decide +kernel
theorem dX2_patience_13 : decode cX2_patience 13 = .ok (.bipush 60, 2) := by decide +kernel
theorem dX2_patience_15 : decode cX2_patience 15 = .ok (.ireturn, 1) := by decide +kernel
theorem dX2_askingSeconds_0 : decode cX2_askingSeconds 0 = .ok (.aload_n 0, 1) := by decide +kernel
theorem dX2_askingSeconds_1 : decode cX2_askingSeconds 1 = .ok (.invokevirtual 45, 3) := by decide +kernel
theorem dX2_askingSeconds_4 : decode cX2_askingSeconds 4 = .ok (.ifCond .eq 8, 3) := by decide +kernel
theorem dX2_askingSeconds_7 : decode cX2_askingSeconds 7 = .ok (.bipush 30, 2) := by decide +kernel
theorem dX2_askingSeconds_9 : decode cX2_askingSeconds 9 = .ok (.goto 5, 3) := by decide +kernel
theorem dX2_askingSeconds_12 : decode cX2_askingSeconds 12 = .ok (.bipush 40, 2) := by decide +kernel
theorem dX2_askingSeconds_14 : decode cX2_askingSeconds 14 = .ok (.ireturn, 1) := by decide +kernel
theorem dX2_wrongSeconds_0 : decode cX2_wrongSeconds 0 = .ok (.bipush 9, 2) := by decide +kernel
theorem dX2_wrongSeconds_2 : decode cX2_wrongSeconds 2 = .ok (.aload_n 0, 1) := by decide +kernel
theorem dX2_wrongSeconds_3 : decode cX2_wrongSeconds 3 = .ok (.invokevirtual 49, 3) := by decide +kernel
theorem dX2_wrongSeconds_6 : decode cX2_wrongSeconds 6 = .ok (.iadd, 1) := by decide +kernel
theorem dX2_wrongSeconds_7 : decode cX2_wrongSeconds 7 = .ok (.aload_n 0, 1) := by decide +kernel
theorem dX2_wrongSeconds_8 : decode cX2_wrongSeconds 8 = .ok (.iconst 3, 1) := by decide +kernel
theorem dX2_wrongSeconds_9 : decode cX2_wrongSeconds 9 = .ok (.invokevirtual 41, 3) := by decide +kernel
theorem dX2_wrongSeconds_12 : decode cX2_wrongSeconds 12 = .ok (.ifCond .eq 8, 3) := by decide +kernel
theorem dX2_wrongSeconds_15 : decode cX2_wrongSeconds 15 = .ok (.bipush 20, 2) := by decide +kernel
theorem dX2_wrongSeconds_17 : decode cX2_wrongSeconds 17 = .ok (.goto 5, 3) := by decide +kernel
theorem dX2_wrongSeconds_20 : decode cX2_wrongSeconds 20 = .ok (.bipush 10, 2) := by decide +kernel
theorem dX2_wrongSeconds_22 : decode cX2_wrongSeconds 22 = .ok (.iadd, 1) := by decide +kernel
theorem dX2_wrongSeconds_23 : decode cX2_wrongSeconds 23 = .ok (.ireturn, 1) := by decide +kernel
theorem dX2_isSouredBy_0 : decode cX2_isSouredBy 0 = .ok (.aload_n 0, 1) := by decide +kernel
theorem dX2_isSouredBy_1 : decode cX2_isSouredBy 1 = .ok (.iconst 1, 1) := by decide +kernel
theorem dX2_isSouredBy_2 : decode cX2_isSouredBy 2 = .ok (.invokevirtual 41, 3) := by decide +kernel
theorem dX2_isSouredBy_5 : decode cX2_isSouredBy 5 = .ok (.ifCond .eq 22, 3) := by decide +kernel
theorem dX2_isSouredBy_8 : decode cX2_isSouredBy 8 = .ok (.iload_n 1, 1) := by decide +kernel
theorem dX2_isSouredBy_9 : decode cX2_isSouredBy 9 = .ok (.bipush (-9), 2) := by decide +kernel
theorem dX2_isSouredBy_11 : decode cX2_isSouredBy 11 = .ok (.if_icmp .eq 16, 3) := by decide +kernel
theorem dX2_isSouredBy_14 : decode cX2_isSouredBy 14 = .ok (.iload_n 1, 1) := by decide +kernel
theorem dX2_isSouredBy_15 : decode cX2_isSouredBy 15 = .ok (.aload_n 0, 1) := by decide +kernel
theorem dX2_isSouredBy_16 : decode cX2_isSouredBy 16 = .ok (.iload_n 2, 1) := by decide +kernel
theorem dX2_isSouredBy_17 : decode cX2_isSouredBy 17 = .ok (.invokevirtual 53, 3) := by decide +kernel
theorem dX2_isSouredBy_20 : decode cX2_isSouredBy 20 = .ok (.if_icmp .eq 7, 3) := by decide +kernel
theorem dX2_isSouredBy_23 : decode cX2_isSouredBy 23 = .ok (.iconst 1, 1) := by decide +kernel
theorem dX2_isSouredBy_24 : decode cX2_isSouredBy 24 = .ok (.goto 4, 3) := by decide +kernel
theorem dX2_isSouredBy_27 : decode cX2_isSouredBy 27 = .ok (.iconst 0, 1) := by decide +kernel
theorem dX2_isSouredBy_28 : decode cX2_isSouredBy 28 = .ok (.ireturn, 1) := by decide +kernel
theorem dX2_secondsFor_0 : decode cX2_secondsFor 0 = .ok (.iload_n 1, 1) := by decide +kernel
theorem dX2_secondsFor_1 : decode cX2_secondsFor 1 = .ok (.bipush (-9), 2) := by decide +kernel
theorem dX2_secondsFor_3 : decode cX2_secondsFor 3 = .ok (.if_icmp .ne 8, 3) := by decide +kernel
theorem dX2_secondsFor_6 : decode cX2_secondsFor 6 = .ok (.aload_n 0, 1) := by decide +kernel
theorem dX2_secondsFor_7 : decode cX2_secondsFor 7 = .ok (.invokevirtual 49, 3) := by decide +kernel
theorem dX2_secondsFor_10 : decode cX2_secondsFor 10 = .ok (.ireturn, 1) := by decide +kernel
theorem dX2_secondsFor_11 : decode cX2_secondsFor 11 = .ok (.iload_n 1, 1) := by decide +kernel
theorem dX2_secondsFor_12 : decode cX2_secondsFor 12 = .ok (.aload_n 0, 1) := by decide +kernel
theorem dX2_secondsFor_13 : decode cX2_secondsFor 13 = .ok (.iload_n 2, 1) := by decide +kernel
theorem dX2_secondsFor_14 : decode cX2_secondsFor 14 = .ok (.invokevirtual 53, 3) := by decide +kernel
theorem dX2_secondsFor_17 : decode cX2_secondsFor 17 = .ok (.if_icmp .eq 11, 3) := by decide +kernel
theorem dX2_secondsFor_20 : decode cX2_secondsFor 20 = .ok (.aload_n 0, 1) := by decide +kernel
theorem dX2_secondsFor_21 : decode cX2_secondsFor 21 = .ok (.iconst 1, 1) := by decide +kernel
theorem dX2_secondsFor_22 : decode cX2_secondsFor 22 = .ok (.invokevirtual 41, 3) := by decide +kernel
theorem dX2_secondsFor_25 : decode cX2_secondsFor 25 = .ok (.ifCond .eq 8, 3) := by decide +kernel
theorem dX2_secondsFor_28 : decode cX2_secondsFor 28 = .ok (.bipush 9, 2) := by decide +kernel
theorem dX2_secondsFor_30 : decode cX2_secondsFor 30 = .ok (.goto 7, 3) := by decide +kernel
theorem dX2_secondsFor_33 : decode cX2_secondsFor 33 = .ok (.aload_n 0, 1) := by decide +kernel
theorem dX2_secondsFor_34 : decode cX2_secondsFor 34 = .ok (.invokevirtual 56, 3) := by decide +kernel
theorem dX2_secondsFor_37 : decode cX2_secondsFor 37 = .ok (.ireturn, 1) := by decide +kernel
theorem dX2_souringThings_0 : decode cX2_souringThings 0 = .ok (.iconst 0, 1) := by decide +kernel
theorem dX2_souringThings_1 : decode cX2_souringThings 1 = .ok (.istore_n 2, 1) := by decide +kernel
theorem dX2_souringThings_2 : decode cX2_souringThings 2 = .ok (.iconst 0, 1) := by decide +kernel
theorem dX2_souringThings_3 : decode cX2_souringThings 3 = .ok (.istore_n 3, 1) := by decide +kernel
theorem dX2_souringThings_4 : decode cX2_souringThings 4 = .ok (.iload_n 3, 1) := by decide +kernel
theorem dX2_souringThings_5 : decode cX2_souringThings 5 = .ok (.bipush 6, 2) := by decide +kernel
theorem dX2_souringThings_7 : decode cX2_souringThings 7 = .ok (.if_icmp .ge 21, 3) := by decide +kernel
theorem dX2_souringThings_10 : decode cX2_souringThings 10 = .ok (.aload_n 0, 1) := by decide +kernel
theorem dX2_souringThings_11 : decode cX2_souringThings 11 = .ok (.iload_n 3, 1) := by decide +kernel
theorem dX2_souringThings_12 : decode cX2_souringThings 12 = .ok (.iload_n 1, 1) := by decide +kernel
theorem dX2_souringThings_13 : decode cX2_souringThings 13 = .ok (.invokevirtual 59, 3) := by decide +kernel
theorem dX2_souringThings_16 : decode cX2_souringThings 16 = .ok (.ifCond .eq 6, 3) := by decide +kernel
theorem dX2_souringThings_19 : decode cX2_souringThings 19 = .ok (.iinc 2 1, 3) := by decide +kernel
theorem dX2_souringThings_22 : decode cX2_souringThings 22 = .ok (.iinc 3 1, 3) := by decide +kernel
theorem dX2_souringThings_25 : decode cX2_souringThings 25 = .ok (.goto (-21), 3) := by decide +kernel
theorem dX2_souringThings_28 : decode cX2_souringThings 28 = .ok (.iload_n 2, 1) := by decide +kernel
theorem dX2_souringThings_29 : decode cX2_souringThings 29 = .ok (.ireturn, 1) := by decide +kernel
theorem dX2_morningsToChange_0 : decode cX2_morningsToChange 0 = .ok (.iconst 1, 1) := by decide +kernel
theorem dX2_morningsToChange_1 : decode cX2_morningsToChange 1 = .ok (.istore_n 2, 1) := by decide +kernel
theorem dX2_morningsToChange_2 : decode cX2_morningsToChange 2 = .ok (.iload_n 2, 1) := by decide +kernel
theorem dX2_morningsToChange_3 : decode cX2_morningsToChange 3 = .ok (.bipush 9, 2) := by decide +kernel
theorem dX2_morningsToChange_5 : decode cX2_morningsToChange 5 = .ok (.if_icmp .gt 26, 3) := by decide +kernel
theorem dX2_morningsToChange_8 : decode cX2_morningsToChange 8 = .ok (.aload_n 0, 1) := by decide +kernel
theorem dX2_morningsToChange_9 : decode cX2_morningsToChange 9 = .ok (.iload_n 1, 1) := by decide +kernel
theorem dX2_morningsToChange_10 : decode cX2_morningsToChange 10 = .ok (.iload_n 2, 1) := by decide +kernel
theorem dX2_morningsToChange_11 : decode cX2_morningsToChange 11 = .ok (.iadd, 1) := by decide +kernel
theorem dX2_morningsToChange_12 : decode cX2_morningsToChange 12 = .ok (.invokevirtual 53, 3) := by decide +kernel
theorem dX2_morningsToChange_15 : decode cX2_morningsToChange 15 = .ok (.aload_n 0, 1) := by decide +kernel
theorem dX2_morningsToChange_16 : decode cX2_morningsToChange 16 = .ok (.iload_n 1, 1) := by decide +kernel
theorem dX2_morningsToChange_17 : decode cX2_morningsToChange 17 = .ok (.invokevirtual 53, 3) := by decide +kernel
theorem dX2_morningsToChange_20 : decode cX2_morningsToChange 20 = .ok (.if_icmp .eq 5, 3) := by decide +kernel
theorem dX2_morningsToChange_23 : decode cX2_morningsToChange 23 = .ok (.iload_n 2, 1) := by decide +kernel
theorem dX2_morningsToChange_24 : decode cX2_morningsToChange 24 = .ok (.ireturn, 1) := by decide +kernel
theorem dX2_morningsToChange_25 : decode cX2_morningsToChange 25 = .ok (.iinc 2 1, 3) := by decide +kernel
theorem dX2_morningsToChange_28 : decode cX2_morningsToChange 28 = .ok (.goto (-26), 3) := by decide +kernel
theorem dX2_morningsToChange_31 : decode cX2_morningsToChange 31 = .ok (.bipush (-9), 2) := by decide +kernel
theorem dX2_morningsToChange_33 : decode cX2_morningsToChange 33 = .ok (.ireturn, 1) := by decide +kernel
theorem dX2_otherMornings_0 : decode cX2_otherMornings 0 = .ok (.iconst 0, 1) := by decide +kernel
theorem dX2_otherMornings_1 : decode cX2_otherMornings 1 = .ok (.istore_n 2, 1) := by decide +kernel
theorem dX2_otherMornings_2 : decode cX2_otherMornings 2 = .ok (.iconst 0, 1) := by decide +kernel
theorem dX2_otherMornings_3 : decode cX2_otherMornings 3 = .ok (.istore_n 3, 1) := by decide +kernel
theorem dX2_otherMornings_4 : decode cX2_otherMornings 4 = .ok (.iload_n 3, 1) := by decide +kernel
theorem dX2_otherMornings_5 : decode cX2_otherMornings 5 = .ok (.iload_n 1, 1) := by decide +kernel
theorem dX2_otherMornings_6 : decode cX2_otherMornings 6 = .ok (.if_icmp .ge 24, 3) := by decide +kernel
theorem dX2_otherMornings_9 : decode cX2_otherMornings 9 = .ok (.aload_n 0, 1) := by decide +kernel
theorem dX2_otherMornings_10 : decode cX2_otherMornings 10 = .ok (.iload_n 3, 1) := by decide +kernel
theorem dX2_otherMornings_11 : decode cX2_otherMornings 11 = .ok (.invokevirtual 53, 3) := by decide +kernel
theorem dX2_otherMornings_14 : decode cX2_otherMornings 14 = .ok (.aload_n 0, 1) := by decide +kernel
theorem dX2_otherMornings_15 : decode cX2_otherMornings 15 = .ok (.getfield 28, 3) := by decide +kernel
theorem dX2_otherMornings_18 : decode cX2_otherMornings 18 = .ok (.if_icmp .ne 6, 3) := by decide +kernel
theorem dX2_otherMornings_21 : decode cX2_otherMornings 21 = .ok (.iinc 2 1, 3) := by decide +kernel
theorem dX2_otherMornings_24 : decode cX2_otherMornings 24 = .ok (.iinc 3 1, 3) := by decide +kernel
theorem dX2_otherMornings_27 : decode cX2_otherMornings 27 = .ok (.goto (-23), 3) := by decide +kernel
theorem dX2_otherMornings_30 : decode cX2_otherMornings 30 = .ok (.iload_n 2, 1) := by decide +kernel
theorem dX2_otherMornings_31 : decode cX2_otherMornings 31 = .ok (.ireturn, 1) := by decide +kernel
theorem dX3_init_0 : decode cX3_init 0 = .ok (.aload_n 0, 1) := by decide +kernel
theorem dX3_init_1 : decode cX3_init 1 = .ok (.invokespecial 3, 3) := by decide +kernel
theorem dX3_init_4 : decode cX3_init 4 = .ok (.aload_n 0, 1) := by decide +kernel
theorem dX3_init_5 : decode cX3_init 5 = .ok (.bipush 6, 2) := by decide +kernel
theorem dX3_init_7 : decode cX3_init 7 = .ok (.anewarray 9, 3) := by decide +kernel
theorem dX3_init_10 : decode cX3_init 10 = .ok (.putfield 11, 3) := by decide +kernel
theorem dX3_init_13 : decode cX3_init 13 = .ok (.aload_n 0, 1) := by decide +kernel
theorem dX3_init_14 : decode cX3_init 14 = .ok (.new 17, 3) := by decide +kernel
theorem dX3_init_17 : decode cX3_init 17 = .ok (.dup, 1) := by decide +kernel
theorem dX3_init_18 : decode cX3_init 18 = .ok (.invokespecial 19, 3) := by decide +kernel
theorem dX3_init_21 : decode cX3_init 21 = .ok (.putfield 20, 3) := by decide +kernel
theorem dX3_init_24 : decode cX3_init 24 = .ok (.iconst 0, 1) := by decide +kernel
theorem dX3_init_25 : decode cX3_init 25 = .ok (.istore_n 1, 1) := by decide +kernel
theorem dX3_init_26 : decode cX3_init 26 = .ok (.iload_n 1, 1) := by decide +kernel
theorem dX3_init_27 : decode cX3_init 27 = .ok (.bipush 6, 2) := by decide +kernel
theorem dX3_init_29 : decode cX3_init 29 = .ok (.if_icmp .ge 22, 3) := by decide +kernel
theorem dX3_init_32 : decode cX3_init 32 = .ok (.aload_n 0, 1) := by decide +kernel
theorem dX3_init_33 : decode cX3_init 33 = .ok (.getfield 11, 3) := by decide +kernel
theorem dX3_init_36 : decode cX3_init 36 = .ok (.iload_n 1, 1) := by decide +kernel
theorem dX3_init_37 : decode cX3_init 37 = .ok (.new 9, 3) := by decide +kernel
theorem dX3_init_40 : decode cX3_init 40 = .ok (.dup, 1) := by decide +kernel
theorem dX3_init_41 : decode cX3_init 41 = .ok (.invokespecial 24, 3) := by decide +kernel
theorem dX3_init_44 : decode cX3_init 44 = .ok (.aastore, 1) := by decide +kernel
theorem dX3_init_45 : decode cX3_init 45 = .ok (.iinc 1 1, 3) := by decide +kernel
theorem dX3_init_48 : decode cX3_init 48 = .ok (.goto (-22), 3) := by decide +kernel
theorem dX3_init_51 : decode cX3_init 51 = .ok (.return_, 1) := by decide +kernel
theorem dX3_open_0 : decode cX3_open 0 = .ok (.aload_n 0, 1) := by decide +kernel
theorem dX3_open_1 : decode cX3_open 1 = .ok (.iconst 0, 1) := by decide +kernel
theorem dX3_open_2 : decode cX3_open 2 = .ok (.putfield 25, 3) := by decide +kernel
theorem dX3_open_5 : decode cX3_open 5 = .ok (.iconst 0, 1) := by decide +kernel
theorem dX3_open_6 : decode cX3_open 6 = .ok (.istore_n 3, 1) := by decide +kernel
theorem dX3_open_7 : decode cX3_open 7 = .ok (.iload_n 3, 1) := by decide +kernel
theorem dX3_open_8 : decode cX3_open 8 = .ok (.bipush 6, 2) := by decide +kernel
theorem dX3_open_10 : decode cX3_open 10 = .ok (.iadd, 1) := by decide +kernel
theorem dX3_open_11 : decode cX3_open 11 = .ok (.iload_n 2, 1) := by decide +kernel
theorem dX3_open_12 : decode cX3_open 12 = .ok (.if_icmp .gt 56, 3) := by decide +kernel
theorem dX3_open_15 : decode cX3_open 15 = .ok (.aload_n 0, 1) := by decide +kernel
theorem dX3_open_16 : decode cX3_open 16 = .ok (.getfield 25, 3) := by decide +kernel
theorem dX3_open_19 : decode cX3_open 19 = .ok (.bipush 6, 2) := by decide +kernel
theorem dX3_open_21 : decode cX3_open 21 = .ok (.if_icmp .ge 47, 3) := by decide +kernel
theorem dX3_open_24 : decode cX3_open 24 = .ok (.aload_n 1, 1) := by decide +kernel
theorem dX3_open_25 : decode cX3_open 25 = .ok (.iload_n 3, 1) := by decide +kernel
theorem dX3_open_26 : decode cX3_open 26 = .ok (.baload, 1) := by decide +kernel
theorem dX3_open_27 : decode cX3_open 27 = .ok (.bipush 32, 2) := by decide +kernel
theorem dX3_open_29 : decode cX3_open 29 = .ok (.if_icmp .ne 9, 3) := by decide +kernel
theorem dX3_open_32 : decode cX3_open 32 = .ok (.iinc 3 1, 3) := by decide +kernel
theorem dX3_open_35 : decode cX3_open 35 = .ok (.goto (-28), 3) := by decide +kernel
theorem dX3_open_38 : decode cX3_open 38 = .ok (.aload_n 0, 1) := by decide +kernel
theorem dX3_open_39 : decode cX3_open 39 = .ok (.getfield 11, 3) := by decide +kernel
theorem dX3_open_42 : decode cX3_open 42 = .ok (.aload_n 0, 1) := by decide +kernel
theorem dX3_open_43 : decode cX3_open 43 = .ok (.getfield 25, 3) := by decide +kernel
theorem dX3_open_46 : decode cX3_open 46 = .ok (.aaload, 1) := by decide +kernel
theorem dX3_open_47 : decode cX3_open 47 = .ok (.aload_n 1, 1) := by decide +kernel
theorem dX3_open_48 : decode cX3_open 48 = .ok (.iload_n 3, 1) := by decide +kernel
theorem dX3_open_49 : decode cX3_open 49 = .ok (.invokevirtual 29, 3) := by decide +kernel
theorem dX3_open_52 : decode cX3_open 52 = .ok (.aload_n 0, 1) := by decide +kernel
theorem dX3_open_53 : decode cX3_open 53 = .ok (.dup, 1) := by decide +kernel
theorem dX3_open_54 : decode cX3_open 54 = .ok (.getfield 25, 3) := by decide +kernel
theorem dX3_open_57 : decode cX3_open 57 = .ok (.iconst 1, 1) := by decide +kernel
theorem dX3_open_58 : decode cX3_open 58 = .ok (.iadd, 1) := by decide +kernel
theorem dX3_open_59 : decode cX3_open 59 = .ok (.putfield 25, 3) := by decide +kernel
theorem dX3_open_62 : decode cX3_open 62 = .ok (.iinc 3 6, 3) := by decide +kernel
theorem dX3_open_65 : decode cX3_open 65 = .ok (.goto (-58), 3) := by decide +kernel
theorem dX3_open_68 : decode cX3_open 68 = .ok (.aload_n 0, 1) := by decide +kernel
theorem dX3_open_69 : decode cX3_open 69 = .ok (.iconst 0, 1) := by decide +kernel
theorem dX3_open_70 : decode cX3_open 70 = .ok (.invokevirtual 33, 3) := by decide +kernel
theorem dX3_open_73 : decode cX3_open 73 = .ok (.return_, 1) := by decide +kernel
theorem dX3_goThrough_0 : decode cX3_goThrough 0 = .ok (.aload_n 0, 1) := by decide +kernel
theorem dX3_goThrough_1 : decode cX3_goThrough 1 = .ok (.iconst 0, 1) := by decide +kernel
theorem dX3_goThrough_2 : decode cX3_goThrough 2 = .ok (.putfield 37, 3) := by decide +kernel
theorem dX3_goThrough_5 : decode cX3_goThrough 5 = .ok (.aload_n 0, 1) := by decide +kernel
theorem dX3_goThrough_6 : decode cX3_goThrough 6 = .ok (.iconst 0, 1) := by decide +kernel
theorem dX3_goThrough_7 : decode cX3_goThrough 7 = .ok (.putfield 40, 3) := by decide +kernel
theorem dX3_goThrough_10 : decode cX3_goThrough 10 = .ok (.iconst 0, 1) := by decide +kernel
theorem dX3_goThrough_11 : decode cX3_goThrough 11 = .ok (.istore_n 2, 1) := by decide +kernel
theorem dX3_goThrough_12 : decode cX3_goThrough 12 = .ok (.iload_n 2, 1) := by decide +kernel
theorem dX3_goThrough_13 : decode cX3_goThrough 13 = .ok (.aload_n 0, 1) := by decide +kernel
theorem dX3_goThrough_14 : decode cX3_goThrough 14 = .ok (.getfield 25, 3) := by decide +kernel
theorem dX3_goThrough_17 : decode cX3_goThrough 17 = .ok (.if_icmp .ge 29, 3) := by decide +kernel
theorem dX3_goThrough_20 : decode cX3_goThrough 20 = .ok (.aload_n 0, 1) := by decide +kernel
theorem dX3_goThrough_21 : decode cX3_goThrough 21 = .ok (.getfield 11, 3) := by decide +kernel
theorem dX3_goThrough_24 : decode cX3_goThrough 24 = .ok (.iload_n 2, 1) := by decide +kernel
theorem dX3_goThrough_25 : decode cX3_goThrough 25 = .ok (.aaload, 1) := by decide +kernel
theorem dX3_goThrough_26 : decode cX3_goThrough 26 = .ok (.iconst 0, 1) := by decide +kernel
theorem dX3_goThrough_27 : decode cX3_goThrough 27 = .ok (.putfield 43, 3) := by decide +kernel
theorem dX3_goThrough_30 : decode cX3_goThrough 30 = .ok (.aload_n 0, 1) := by decide +kernel
theorem dX3_goThrough_31 : decode cX3_goThrough 31 = .ok (.getfield 11, 3) := by decide +kernel
theorem dX3_goThrough_34 : decode cX3_goThrough 34 = .ok (.iload_n 2, 1) := by decide +kernel
theorem dX3_goThrough_35 : decode cX3_goThrough 35 = .ok (.aaload, 1) := by decide +kernel
theorem dX3_goThrough_36 : decode cX3_goThrough 36 = .ok (.iconst 0, 1) := by decide +kernel
theorem dX3_goThrough_37 : decode cX3_goThrough 37 = .ok (.putfield 46, 3) := by decide +kernel
theorem dX3_goThrough_40 : decode cX3_goThrough 40 = .ok (.iinc 2 1, 3) := by decide +kernel
theorem dX3_goThrough_43 : decode cX3_goThrough 43 = .ok (.goto (-31), 3) := by decide +kernel
theorem dX3_goThrough_46 : decode cX3_goThrough 46 = .ok (.aload_n 0, 1) := by decide +kernel
theorem dX3_goThrough_47 : decode cX3_goThrough 47 = .ok (.getfield 20, 3) := by decide +kernel
theorem dX3_goThrough_50 : decode cX3_goThrough 50 = .ok (.iload_n 1, 1) := by decide +kernel
theorem dX3_goThrough_51 : decode cX3_goThrough 51 = .ok (.aload_n 0, 1) := by decide +kernel
theorem dX3_goThrough_52 : decode cX3_goThrough 52 = .ok (.getfield 20, 3) := by decide +kernel
theorem dX3_goThrough_55 : decode cX3_goThrough 55 = .ok (.getfield 49, 3) := by decide +kernel
theorem dX3_goThrough_58 : decode cX3_goThrough 58 = .ok (.invokestatic 50, 3) := by decide +kernel
theorem dX3_goThrough_61 : decode cX3_goThrough 61 = .ok (.putfield 49, 3) := by decide +kernel
theorem dX3_goThrough_64 : decode cX3_goThrough 64 = .ok (.iconst 0, 1) := by decide +kernel
theorem dX3_goThrough_65 : decode cX3_goThrough 65 = .ok (.istore_n 2, 1) := by decide +kernel
theorem dX3_goThrough_66 : decode cX3_goThrough 66 = .ok (.iload_n 2, 1) := by decide +kernel
theorem dX3_goThrough_67 : decode cX3_goThrough 67 = .ok (.aload_n 0, 1) := by decide +kernel
theorem dX3_goThrough_68 : decode cX3_goThrough 68 = .ok (.getfield 20, 3) := by decide +kernel
theorem dX3_goThrough_71 : decode cX3_goThrough 71 = .ok (.getfield 49, 3) := by decide +kernel
theorem dX3_goThrough_74 : decode cX3_goThrough 74 = .ok (.if_icmp .ge 32, 3) := by decide +kernel
theorem dX3_goThrough_77 : decode cX3_goThrough 77 = .ok (.aload_n 0, 1) := by decide +kernel
theorem dX3_goThrough_78 : decode cX3_goThrough 78 = .ok (.aload_n 0, 1) := by decide +kernel
theorem dX3_goThrough_79 : decode cX3_goThrough 79 = .ok (.getfield 20, 3) := by decide +kernel
theorem dX3_goThrough_82 : decode cX3_goThrough 82 = .ok (.getfield 56, 3) := by decide +kernel
theorem dX3_goThrough_85 : decode cX3_goThrough 85 = .ok (.iload_n 2, 1) := by decide +kernel
theorem dX3_goThrough_86 : decode cX3_goThrough 86 = .ok (.iaload, 1) := by decide +kernel
theorem dX3_goThrough_87 : decode cX3_goThrough 87 = .ok (.aload_n 0, 1) := by decide +kernel
theorem dX3_goThrough_88 : decode cX3_goThrough 88 = .ok (.getfield 20, 3) := by decide +kernel
theorem dX3_goThrough_91 : decode cX3_goThrough 91 = .ok (.getfield 60, 3) := by decide +kernel
theorem dX3_goThrough_94 : decode cX3_goThrough 94 = .ok (.iload_n 2, 1) := by decide +kernel
theorem dX3_goThrough_95 : decode cX3_goThrough 95 = .ok (.iaload, 1) := by decide +kernel
theorem dX3_goThrough_96 : decode cX3_goThrough 96 = .ok (.invokevirtual 63, 3) := by decide +kernel
theorem dX3_goThrough_99 : decode cX3_goThrough 99 = .ok (.pop, 1) := by decide +kernel
theorem dX3_goThrough_100 : decode cX3_goThrough 100 = .ok (.iinc 2 1, 3) := by decide +kernel
theorem dX3_goThrough_103 : decode cX3_goThrough 103 = .ok (.goto (-37), 3) := by decide +kernel
theorem dX3_goThrough_106 : decode cX3_goThrough 106 = .ok (.return_, 1) := by decide +kernel
theorem dX3_serveOne_0 : decode cX3_serveOne 0 = .ok (.aload_n 0, 1) := by decide +kernel
theorem dX3_serveOne_1 : decode cX3_serveOne 1 = .ok (.getfield 20, 3) := by decide +kernel
theorem dX3_serveOne_4 : decode cX3_serveOne 4 = .ok (.iload_n 1, 1) := by decide +kernel
theorem dX3_serveOne_5 : decode cX3_serveOne 5 = .ok (.iload_n 2, 1) := by decide +kernel
theorem dX3_serveOne_6 : decode cX3_serveOne 6 = .ok (.invokevirtual 66, 3) := by decide +kernel
theorem dX3_serveOne_9 : decode cX3_serveOne 9 = .ok (.aload_n 0, 1) := by decide +kernel
theorem dX3_serveOne_10 : decode cX3_serveOne 10 = .ok (.iload_n 1, 1) := by decide +kernel
theorem dX3_serveOne_11 : decode cX3_serveOne 11 = .ok (.iload_n 2, 1) := by decide +kernel
theorem dX3_serveOne_12 : decode cX3_serveOne 12 = .ok (.invokevirtual 63, 3) := by decide +kernel
theorem dX3_serveOne_15 : decode cX3_serveOne 15 = .ok (.ireturn, 1) := by decide +kernel
theorem dX3_beginMorning_0 : decode cX3_beginMorning 0 = .ok (.aload_n 0, 1) := by decide +kernel
theorem dX3_beginMorning_1 : decode cX3_beginMorning 1 = .ok (.getfield 20, 3) := by decide +kernel
theorem dX3_beginMorning_4 : decode cX3_beginMorning 4 = .ok (.bipush (-9), 2) := by decide +kernel
theorem dX3_beginMorning_6 : decode cX3_beginMorning 6 = .ok (.bipush (-9), 2) := by decide +kernel
theorem dX3_beginMorning_8 : decode cX3_beginMorning 8 = .ok (.invokevirtual 66, 3) := by decide +kernel
theorem dX3_beginMorning_11 : decode cX3_beginMorning 11 = .ok (.aload_n 0, 1) := by decide +kernel
theorem dX3_beginMorning_12 : decode cX3_beginMorning 12 = .ok (.bipush (-9), 2) := by decide +kernel
theorem dX3_beginMorning_14 : decode cX3_beginMorning 14 = .ok (.bipush (-9), 2) := by decide +kernel
theorem dX3_beginMorning_16 : decode cX3_beginMorning 16 = .ok (.invokevirtual 63, 3) := by decide +kernel
theorem dX3_beginMorning_19 : decode cX3_beginMorning 19 = .ok (.pop, 1) := by decide +kernel
theorem dX3_beginMorning_20 : decode cX3_beginMorning 20 = .ok (.return_, 1) := by decide +kernel
theorem dX3_happen_0 : decode cX3_happen 0 = .ok (.iload_n 1, 1) := by decide +kernel
theorem dX3_happen_1 : decode cX3_happen 1 = .ok (.ifCond .lt 11, 3) := by decide +kernel
theorem dX3_happen_4 : decode cX3_happen 4 = .ok (.iload_n 1, 1) := by decide +kernel
theorem dX3_happen_5 : decode cX3_happen 5 = .ok (.aload_n 0, 1) := by decide +kernel
theorem dX3_happen_6 : decode cX3_happen 6 = .ok (.getfield 25, 3) := by decide +kernel
theorem dX3_happen_9 : decode cX3_happen 9 = .ok (.if_icmp .lt 20, 3) := by decide +kernel
theorem dX3_happen_12 : decode cX3_happen 12 = .ok (.aload_n 0, 1) := by decide +kernel
theorem dX3_happen_13 : decode cX3_happen 13 = .ok (.dup, 1) := by decide +kernel
theorem dX3_happen_14 : decode cX3_happen 14 = .ok (.getfield 37, 3) := by decide +kernel
theorem dX3_happen_17 : decode cX3_happen 17 = .ok (.iconst 1, 1) := by decide +kernel
theorem dX3_happen_18 : decode cX3_happen 18 = .ok (.iadd, 1) := by decide +kernel
theorem dX3_happen_19 : decode cX3_happen 19 = .ok (.putfield 37, 3) := by decide +kernel
theorem dX3_happen_22 : decode cX3_happen 22 = .ok (.aload_n 0, 1) := by decide +kernel
theorem dX3_happen_23 : decode cX3_happen 23 = .ok (.iconst 0, 1) := by decide +kernel
theorem dX3_happen_24 : decode cX3_happen 24 = .ok (.putfield 40, 3) := by decide +kernel
theorem dX3_happen_27 : decode cX3_happen 27 = .ok (.iconst 0, 1) := by decide +kernel
theorem dX3_happen_28 : decode cX3_happen 28 = .ok (.ireturn, 1) := by decide +kernel
theorem dX3_happen_29 : decode cX3_happen 29 = .ok (.aload_n 0, 1) := by decide +kernel
theorem dX3_happen_30 : decode cX3_happen 30 = .ok (.getfield 11, 3) := by decide +kernel
theorem dX3_happen_33 : decode cX3_happen 33 = .ok (.iload_n 1, 1) := by decide +kernel
theorem dX3_happen_34 : decode cX3_happen 34 = .ok (.aaload, 1) := by decide +kernel
theorem dX3_happen_35 : decode cX3_happen 35 = .ok (.astore_n 3, 1) := by decide +kernel
theorem dX3_happen_36 : decode cX3_happen 36 = .ok (.aload_n 3, 1) := by decide +kernel
theorem dX3_happen_37 : decode cX3_happen 37 = .ok (.iload_n 2, 1) := by decide +kernel
theorem dX3_happen_38 : decode cX3_happen 38 = .ok (.aload_n 0, 1) := by decide +kernel
theorem dX3_happen_39 : decode cX3_happen 39 = .ok (.getfield 37, 3) := by decide +kernel
theorem dX3_happen_42 : decode cX3_happen 42 = .ok (.invokevirtual 70, 3) := by decide +kernel
theorem dX3_happen_45 : decode cX3_happen 45 = .ok (.istore 4, 2) := by decide +kernel
theorem dX3_happen_47 : decode cX3_happen 47 = .ok (.aload_n 3, 1) := by decide +kernel
theorem dX3_happen_48 : decode cX3_happen 48 = .ok (.iload_n 2, 1) := by decide +kernel
theorem dX3_happen_49 : decode cX3_happen 49 = .ok (.aload_n 0, 1) := by decide +kernel
theorem dX3_happen_50 : decode cX3_happen 50 = .ok (.getfield 37, 3) := by decide +kernel
theorem dX3_happen_53 : decode cX3_happen 53 = .ok (.invokevirtual 73, 3) := by decide +kernel
theorem dX3_happen_56 : decode cX3_happen 56 = .ok (.ifCond .eq 13, 3) := by decide +kernel
theorem dX3_happen_59 : decode cX3_happen 59 = .ok (.aload_n 3, 1) := by decide +kernel
theorem dX3_happen_60 : decode cX3_happen 60 = .ok (.dup, 1) := by decide +kernel
theorem dX3_happen_61 : decode cX3_happen 61 = .ok (.getfield 46, 3) := by decide +kernel
theorem dX3_happen_64 : decode cX3_happen 64 = .ok (.iconst 1, 1) := by decide +kernel
theorem dX3_happen_65 : decode cX3_happen 65 = .ok (.iadd, 1) := by decide +kernel
theorem dX3_happen_66 : decode cX3_happen 66 = .ok (.putfield 46, 3) := by decide +kernel
theorem dX3_happen_69 : decode cX3_happen 69 = .ok (.aload_n 3, 1) := by decide +kernel
theorem dX3_happen_70 : decode cX3_happen 70 = .ok (.dup, 1) := by decide +kernel
theorem dX3_happen_71 : decode cX3_happen 71 = .ok (.getfield 43, 3) := by decide +kernel
theorem dX3_happen_74 : decode cX3_happen 74 = .ok (.iconst 1, 1) := by decide +kernel
theorem dX3_happen_75 : decode cX3_happen 75 = .ok (.iadd, 1) := by decide +kernel
theorem dX3_happen_76 : decode cX3_happen 76 = .ok (.putfield 43, 3) := by decide +kernel
theorem dX3_happen_79 : decode cX3_happen 79 = .ok (.aload_n 0, 1) := by decide +kernel
theorem dX3_happen_80 : decode cX3_happen 80 = .ok (.dup, 1) := by decide +kernel
theorem dX3_happen_81 : decode cX3_happen 81 = .ok (.getfield 40, 3) := by decide +kernel
theorem dX3_happen_84 : decode cX3_happen 84 = .ok (.iload 4, 2) := by decide +kernel
theorem dX3_happen_86 : decode cX3_happen 86 = .ok (.iadd, 1) := by decide +kernel
theorem dX3_happen_87 : decode cX3_happen 87 = .ok (.putfield 40, 3) := by decide +kernel
theorem dX3_happen_90 : decode cX3_happen 90 = .ok (.iload 4, 2) := by decide +kernel
theorem dX3_happen_92 : decode cX3_happen 92 = .ok (.ireturn, 1) := by decide +kernel
theorem dX3_factOf_0 : decode cX3_factOf 0 = .ok (.aload_n 0, 1) := by decide +kernel
theorem dX3_factOf_1 : decode cX3_factOf 1 = .ok (.getfield 11, 3) := by decide +kernel
theorem dX3_factOf_4 : decode cX3_factOf 4 = .ok (.iload_n 1, 1) := by decide +kernel
theorem dX3_factOf_5 : decode cX3_factOf 5 = .ok (.aaload, 1) := by decide +kernel
theorem dX3_factOf_6 : decode cX3_factOf 6 = .ok (.astore_n 3, 1) := by decide +kernel
theorem dX3_factOf_7 : decode cX3_factOf 7 = .ok (.iload_n 2, 1) := by decide +kernel
theorem dX3_factOf_8 : decode cX3_factOf 8 = .ok (.tableswitch 88 0 7 #[48, 53, 58, 63, 68, 73, 78, 83], 48) := by decide +kernel
theorem dX3_factOf_56 : decode cX3_factOf 56 = .ok (.aload_n 3, 1) := by decide +kernel
theorem dX3_factOf_57 : decode cX3_factOf 57 = .ok (.getfield 77, 3) := by decide +kernel
theorem dX3_factOf_60 : decode cX3_factOf 60 = .ok (.ireturn, 1) := by decide +kernel
theorem dX3_factOf_61 : decode cX3_factOf 61 = .ok (.aload_n 3, 1) := by decide +kernel
theorem dX3_factOf_62 : decode cX3_factOf 62 = .ok (.getfield 80, 3) := by decide +kernel
theorem dX3_factOf_65 : decode cX3_factOf 65 = .ok (.ireturn, 1) := by decide +kernel
theorem dX3_factOf_66 : decode cX3_factOf 66 = .ok (.aload_n 3, 1) := by decide +kernel
theorem dX3_factOf_67 : decode cX3_factOf 67 = .ok (.getfield 83, 3) := by decide +kernel
theorem dX3_factOf_70 : decode cX3_factOf 70 = .ok (.ireturn, 1) := by decide +kernel
theorem dX3_factOf_71 : decode cX3_factOf 71 = .ok (.aload_n 3, 1) := by decide +kernel
theorem dX3_factOf_72 : decode cX3_factOf 72 = .ok (.getfield 86, 3) := by decide +kernel
theorem dX3_factOf_75 : decode cX3_factOf 75 = .ok (.ireturn, 1) := by decide +kernel
theorem dX3_factOf_76 : decode cX3_factOf 76 = .ok (.aload_n 3, 1) := by decide +kernel
theorem dX3_factOf_77 : decode cX3_factOf 77 = .ok (.getfield 89, 3) := by decide +kernel
theorem dX3_factOf_80 : decode cX3_factOf 80 = .ok (.ireturn, 1) := by decide +kernel
theorem dX3_factOf_81 : decode cX3_factOf 81 = .ok (.aload_n 3, 1) := by decide +kernel
theorem dX3_factOf_82 : decode cX3_factOf 82 = .ok (.getfield 92, 3) := by decide +kernel
theorem dX3_factOf_85 : decode cX3_factOf 85 = .ok (.ireturn, 1) := by decide +kernel
theorem dX3_factOf_86 : decode cX3_factOf 86 = .ok (.aload_n 3, 1) := by decide +kernel
theorem dX3_factOf_87 : decode cX3_factOf 87 = .ok (.getfield 43, 3) := by decide +kernel
theorem dX3_factOf_90 : decode cX3_factOf 90 = .ok (.ireturn, 1) := by decide +kernel
theorem dX3_factOf_91 : decode cX3_factOf 91 = .ok (.aload_n 3, 1) := by decide +kernel
theorem dX3_factOf_92 : decode cX3_factOf 92 = .ok (.getfield 46, 3) := by decide +kernel
theorem dX3_factOf_95 : decode cX3_factOf 95 = .ok (.ireturn, 1) := by decide +kernel
theorem dX3_factOf_96 : decode cX3_factOf 96 = .ok (.aload_n 3, 1) := by decide +kernel
theorem dX3_factOf_97 : decode cX3_factOf 97 = .ok (.aload_n 0, 1) := by decide +kernel
theorem dX3_factOf_98 : decode cX3_factOf 98 = .ok (.getfield 37, 3) := by decide +kernel
theorem dX3_factOf_101 : decode cX3_factOf 101 = .ok (.invokevirtual 95, 3) := by decide +kernel
theorem dX3_factOf_104 : decode cX3_factOf 104 = .ok (.ireturn, 1) := by decide +kernel
theorem dX3_everybody_0 : decode cX3_everybody 0 = .ok (.iconst 1, 1) := by decide +kernel
theorem dX3_everybody_1 : decode cX3_everybody 1 = .ok (.aload_n 0, 1) := by decide +kernel
theorem dX3_everybody_2 : decode cX3_everybody 2 = .ok (.getfield 25, 3) := by decide +kernel
theorem dX3_everybody_5 : decode cX3_everybody 5 = .ok (.ishl, 1) := by decide +kernel
theorem dX3_everybody_6 : decode cX3_everybody 6 = .ok (.iconst 1, 1) := by decide +kernel
theorem dX3_everybody_7 : decode cX3_everybody 7 = .ok (.isub, 1) := by decide +kernel
theorem dX3_everybody_8 : decode cX3_everybody 8 = .ok (.ireturn, 1) := by decide +kernel
theorem dX3_thoseWhoLook_0 : decode cX3_thoseWhoLook 0 = .ok (.iconst 0, 1) := by decide +kernel
theorem dX3_thoseWhoLook_1 : decode cX3_thoseWhoLook 1 = .ok (.istore_n 3, 1) := by decide +kernel
theorem dX3_thoseWhoLook_2 : decode cX3_thoseWhoLook 2 = .ok (.iconst 0, 1) := by decide +kernel
theorem dX3_thoseWhoLook_3 : decode cX3_thoseWhoLook 3 = .ok (.istore 4, 2) := by decide +kernel
theorem dX3_thoseWhoLook_5 : decode cX3_thoseWhoLook 5 = .ok (.iload 4, 2) := by decide +kernel
theorem dX3_thoseWhoLook_7 : decode cX3_thoseWhoLook 7 = .ok (.aload_n 0, 1) := by decide +kernel
theorem dX3_thoseWhoLook_8 : decode cX3_thoseWhoLook 8 = .ok (.getfield 25, 3) := by decide +kernel
theorem dX3_thoseWhoLook_11 : decode cX3_thoseWhoLook 11 = .ok (.if_icmp .ge 31, 3) := by decide +kernel
theorem dX3_thoseWhoLook_14 : decode cX3_thoseWhoLook 14 = .ok (.aload_n 0, 1) := by decide +kernel
theorem dX3_thoseWhoLook_15 : decode cX3_thoseWhoLook 15 = .ok (.getfield 11, 3) := by decide +kernel
theorem dX3_thoseWhoLook_18 : decode cX3_thoseWhoLook 18 = .ok (.iload 4, 2) := by decide +kernel
theorem dX3_thoseWhoLook_20 : decode cX3_thoseWhoLook 20 = .ok (.aaload, 1) := by decide +kernel
theorem dX3_thoseWhoLook_21 : decode cX3_thoseWhoLook 21 = .ok (.iload_n 1, 1) := by decide +kernel
theorem dX3_thoseWhoLook_22 : decode cX3_thoseWhoLook 22 = .ok (.iload_n 2, 1) := by decide +kernel
theorem dX3_thoseWhoLook_23 : decode cX3_thoseWhoLook 23 = .ok (.invokevirtual 99, 3) := by decide +kernel
theorem dX3_thoseWhoLook_26 : decode cX3_thoseWhoLook 26 = .ok (.ifCond .eq 10, 3) := by decide +kernel
theorem dX3_thoseWhoLook_29 : decode cX3_thoseWhoLook 29 = .ok (.iload_n 3, 1) := by decide +kernel
theorem dX3_thoseWhoLook_30 : decode cX3_thoseWhoLook 30 = .ok (.iconst 1, 1) := by decide +kernel
theorem dX3_thoseWhoLook_31 : decode cX3_thoseWhoLook 31 = .ok (.iload 4, 2) := by decide +kernel
theorem dX3_thoseWhoLook_33 : decode cX3_thoseWhoLook 33 = .ok (.ishl, 1) := by decide +kernel
theorem dX3_thoseWhoLook_34 : decode cX3_thoseWhoLook 34 = .ok (.ior, 1) := by decide +kernel
theorem dX3_thoseWhoLook_35 : decode cX3_thoseWhoLook 35 = .ok (.istore_n 3, 1) := by decide +kernel
theorem dX3_thoseWhoLook_36 : decode cX3_thoseWhoLook 36 = .ok (.iinc 4 1, 3) := by decide +kernel
theorem dX3_thoseWhoLook_39 : decode cX3_thoseWhoLook 39 = .ok (.goto (-34), 3) := by decide +kernel
theorem dX3_thoseWhoLook_42 : decode cX3_thoseWhoLook 42 = .ok (.iload_n 3, 1) := by decide +kernel
theorem dX3_thoseWhoLook_43 : decode cX3_thoseWhoLook 43 = .ok (.ireturn, 1) := by decide +kernel
theorem dX3_souredBy_0 : decode cX3_souredBy 0 = .ok (.iconst 0, 1) := by decide +kernel
theorem dX3_souredBy_1 : decode cX3_souredBy 1 = .ok (.istore_n 3, 1) := by decide +kernel
theorem dX3_souredBy_2 : decode cX3_souredBy 2 = .ok (.iconst 0, 1) := by decide +kernel
theorem dX3_souredBy_3 : decode cX3_souredBy 3 = .ok (.istore 4, 2) := by decide +kernel
theorem dX3_souredBy_5 : decode cX3_souredBy 5 = .ok (.iload 4, 2) := by decide +kernel
theorem dX3_souredBy_7 : decode cX3_souredBy 7 = .ok (.aload_n 0, 1) := by decide +kernel
theorem dX3_souredBy_8 : decode cX3_souredBy 8 = .ok (.getfield 25, 3) := by decide +kernel
theorem dX3_souredBy_11 : decode cX3_souredBy 11 = .ok (.if_icmp .ge 43, 3) := by decide +kernel
theorem dX3_souredBy_14 : decode cX3_souredBy 14 = .ok (.iload_n 1, 1) := by decide +kernel
theorem dX3_souredBy_15 : decode cX3_souredBy 15 = .ok (.iload 4, 2) := by decide +kernel
theorem dX3_souredBy_17 : decode cX3_souredBy 17 = .ok (.invokestatic 102, 3) := by decide +kernel
theorem dX3_souredBy_20 : decode cX3_souredBy 20 = .ok (.ifCond .eq 28, 3) := by decide +kernel
theorem dX3_souredBy_23 : decode cX3_souredBy 23 = .ok (.aload_n 0, 1) := by decide +kernel
theorem dX3_souredBy_24 : decode cX3_souredBy 24 = .ok (.getfield 11, 3) := by decide +kernel
theorem dX3_souredBy_27 : decode cX3_souredBy 27 = .ok (.iload 4, 2) := by decide +kernel
theorem dX3_souredBy_29 : decode cX3_souredBy 29 = .ok (.aaload, 1) := by decide +kernel
theorem dX3_souredBy_30 : decode cX3_souredBy 30 = .ok (.iload_n 2, 1) := by decide +kernel
theorem dX3_souredBy_31 : decode cX3_souredBy 31 = .ok (.aload_n 0, 1) := by decide +kernel
theorem dX3_souredBy_32 : decode cX3_souredBy 32 = .ok (.getfield 37, 3) := by decide +kernel
theorem dX3_souredBy_35 : decode cX3_souredBy 35 = .ok (.invokevirtual 73, 3) := by decide +kernel
theorem dX3_souredBy_38 : decode cX3_souredBy 38 = .ok (.ifCond .eq 10, 3) := by decide +kernel
theorem dX3_souredBy_41 : decode cX3_souredBy 41 = .ok (.iload_n 3, 1) := by decide +kernel
theorem dX3_souredBy_42 : decode cX3_souredBy 42 = .ok (.iconst 1, 1) := by decide +kernel
theorem dX3_souredBy_43 : decode cX3_souredBy 43 = .ok (.iload 4, 2) := by decide +kernel
theorem dX3_souredBy_45 : decode cX3_souredBy 45 = .ok (.ishl, 1) := by decide +kernel
theorem dX3_souredBy_46 : decode cX3_souredBy 46 = .ok (.ior, 1) := by decide +kernel
theorem dX3_souredBy_47 : decode cX3_souredBy 47 = .ok (.istore_n 3, 1) := by decide +kernel
theorem dX3_souredBy_48 : decode cX3_souredBy 48 = .ok (.iinc 4 1, 3) := by decide +kernel
theorem dX3_souredBy_51 : decode cX3_souredBy 51 = .ok (.goto (-46), 3) := by decide +kernel
theorem dX3_souredBy_54 : decode cX3_souredBy 54 = .ok (.iload_n 3, 1) := by decide +kernel
theorem dX3_souredBy_55 : decode cX3_souredBy 55 = .ok (.ireturn, 1) := by decide +kernel
theorem dX3_comingsOf_0 : decode cX3_comingsOf 0 = .ok (.iconst 0, 1) := by decide +kernel
theorem dX3_comingsOf_1 : decode cX3_comingsOf 1 = .ok (.istore_n 2, 1) := by decide +kernel
theorem dX3_comingsOf_2 : decode cX3_comingsOf 2 = .ok (.iconst 0, 1) := by decide +kernel
theorem dX3_comingsOf_3 : decode cX3_comingsOf 3 = .ok (.istore_n 3, 1) := by decide +kernel
theorem dX3_comingsOf_4 : decode cX3_comingsOf 4 = .ok (.iload_n 3, 1) := by decide +kernel
theorem dX3_comingsOf_5 : decode cX3_comingsOf 5 = .ok (.aload_n 0, 1) := by decide +kernel
theorem dX3_comingsOf_6 : decode cX3_comingsOf 6 = .ok (.getfield 25, 3) := by decide +kernel
theorem dX3_comingsOf_9 : decode cX3_comingsOf 9 = .ok (.if_icmp .ge 29, 3) := by decide +kernel
theorem dX3_comingsOf_12 : decode cX3_comingsOf 12 = .ok (.iload_n 1, 1) := by decide +kernel
theorem dX3_comingsOf_13 : decode cX3_comingsOf 13 = .ok (.iload_n 3, 1) := by decide +kernel
theorem dX3_comingsOf_14 : decode cX3_comingsOf 14 = .ok (.invokestatic 102, 3) := by decide +kernel
theorem dX3_comingsOf_17 : decode cX3_comingsOf 17 = .ok (.ifCond .eq 15, 3) := by decide +kernel
theorem dX3_comingsOf_20 : decode cX3_comingsOf 20 = .ok (.iload_n 2, 1) := by decide +kernel
theorem dX3_comingsOf_21 : decode cX3_comingsOf 21 = .ok (.aload_n 0, 1) := by decide +kernel
theorem dX3_comingsOf_22 : decode cX3_comingsOf 22 = .ok (.getfield 11, 3) := by decide +kernel
theorem dX3_comingsOf_25 : decode cX3_comingsOf 25 = .ok (.iload_n 3, 1) := by decide +kernel
theorem dX3_comingsOf_26 : decode cX3_comingsOf 26 = .ok (.aaload, 1) := by decide +kernel
theorem dX3_comingsOf_27 : decode cX3_comingsOf 27 = .ok (.getfield 92, 3) := by decide +kernel
theorem dX3_comingsOf_30 : decode cX3_comingsOf 30 = .ok (.iadd, 1) := by decide +kernel
theorem dX3_comingsOf_31 : decode cX3_comingsOf 31 = .ok (.istore_n 2, 1) := by decide +kernel
theorem dX3_comingsOf_32 : decode cX3_comingsOf 32 = .ok (.iinc 3 1, 3) := by decide +kernel
theorem dX3_comingsOf_35 : decode cX3_comingsOf 35 = .ok (.goto (-31), 3) := by decide +kernel
theorem dX3_comingsOf_38 : decode cX3_comingsOf 38 = .ok (.iload_n 2, 1) := by decide +kernel
theorem dX3_comingsOf_39 : decode cX3_comingsOf 39 = .ok (.ireturn, 1) := by decide +kernel
theorem dX3_comingsThatWant_0 : decode cX3_comingsThatWant 0 = .ok (.iconst 0, 1) := by decide +kernel
theorem dX3_comingsThatWant_1 : decode cX3_comingsThatWant 1 = .ok (.istore_n 3, 1) := by decide +kernel
theorem dX3_comingsThatWant_2 : decode cX3_comingsThatWant 2 = .ok (.iconst 0, 1) := by decide +kernel
theorem dX3_comingsThatWant_3 : decode cX3_comingsThatWant 3 = .ok (.istore 4, 2) := by decide +kernel
theorem dX3_comingsThatWant_5 : decode cX3_comingsThatWant 5 = .ok (.iload 4, 2) := by decide +kernel
theorem dX3_comingsThatWant_7 : decode cX3_comingsThatWant 7 = .ok (.aload_n 0, 1) := by decide +kernel
theorem dX3_comingsThatWant_8 : decode cX3_comingsThatWant 8 = .ok (.getfield 25, 3) := by decide +kernel
theorem dX3_comingsThatWant_11 : decode cX3_comingsThatWant 11 = .ok (.if_icmp .ge 49, 3) := by decide +kernel
theorem dX3_comingsThatWant_14 : decode cX3_comingsThatWant 14 = .ok (.iload_n 1, 1) := by decide +kernel
theorem dX3_comingsThatWant_15 : decode cX3_comingsThatWant 15 = .ok (.iload 4, 2) := by decide +kernel
theorem dX3_comingsThatWant_17 : decode cX3_comingsThatWant 17 = .ok (.invokestatic 102, 3) := by decide +kernel
theorem dX3_comingsThatWant_20 : decode cX3_comingsThatWant 20 = .ok (.ifCond .eq 34, 3) := by decide +kernel
theorem dX3_comingsThatWant_23 : decode cX3_comingsThatWant 23 = .ok (.aload_n 0, 1) := by decide +kernel
theorem dX3_comingsThatWant_24 : decode cX3_comingsThatWant 24 = .ok (.getfield 11, 3) := by decide +kernel
theorem dX3_comingsThatWant_27 : decode cX3_comingsThatWant 27 = .ok (.iload 4, 2) := by decide +kernel
theorem dX3_comingsThatWant_29 : decode cX3_comingsThatWant 29 = .ok (.aaload, 1) := by decide +kernel
theorem dX3_comingsThatWant_30 : decode cX3_comingsThatWant 30 = .ok (.aload_n 0, 1) := by decide +kernel
theorem dX3_comingsThatWant_31 : decode cX3_comingsThatWant 31 = .ok (.getfield 37, 3) := by decide +kernel
theorem dX3_comingsThatWant_34 : decode cX3_comingsThatWant 34 = .ok (.invokevirtual 95, 3) := by decide +kernel
theorem dX3_comingsThatWant_37 : decode cX3_comingsThatWant 37 = .ok (.iload_n 2, 1) := by decide +kernel
theorem dX3_comingsThatWant_38 : decode cX3_comingsThatWant 38 = .ok (.if_icmp .ne 16, 3) := by decide +kernel
theorem dX3_comingsThatWant_41 : decode cX3_comingsThatWant 41 = .ok (.iload_n 3, 1) := by decide +kernel
theorem dX3_comingsThatWant_42 : decode cX3_comingsThatWant 42 = .ok (.aload_n 0, 1) := by decide +kernel
theorem dX3_comingsThatWant_43 : decode cX3_comingsThatWant 43 = .ok (.getfield 11, 3) := by decide +kernel
theorem dX3_comingsThatWant_46 : decode cX3_comingsThatWant 46 = .ok (.iload 4, 2) := by decide +kernel
theorem dX3_comingsThatWant_48 : decode cX3_comingsThatWant 48 = .ok (.aaload, 1) := by decide +kernel
theorem dX3_comingsThatWant_49 : decode cX3_comingsThatWant 49 = .ok (.getfield 92, 3) := by decide +kernel
theorem dX3_comingsThatWant_52 : decode cX3_comingsThatWant 52 = .ok (.iadd, 1) := by decide +kernel
theorem dX3_comingsThatWant_53 : decode cX3_comingsThatWant 53 = .ok (.istore_n 3, 1) := by decide +kernel
theorem dX3_comingsThatWant_54 : decode cX3_comingsThatWant 54 = .ok (.iinc 4 1, 3) := by decide +kernel
theorem dX3_comingsThatWant_57 : decode cX3_comingsThatWant 57 = .ok (.goto (-52), 3) := by decide +kernel
theorem dX3_comingsThatWant_60 : decode cX3_comingsThatWant 60 = .ok (.iload_n 3, 1) := by decide +kernel
theorem dX3_comingsThatWant_61 : decode cX3_comingsThatWant 61 = .ok (.ireturn, 1) := by decide +kernel
theorem dX3_secondsOf_0 : decode cX3_secondsOf 0 = .ok (.iconst 0, 1) := by decide +kernel
theorem dX3_secondsOf_1 : decode cX3_secondsOf 1 = .ok (.istore_n 3, 1) := by decide +kernel
theorem dX3_secondsOf_2 : decode cX3_secondsOf 2 = .ok (.iconst 0, 1) := by decide +kernel
theorem dX3_secondsOf_3 : decode cX3_secondsOf 3 = .ok (.istore 4, 2) := by decide +kernel
theorem dX3_secondsOf_5 : decode cX3_secondsOf 5 = .ok (.iload 4, 2) := by decide +kernel
theorem dX3_secondsOf_7 : decode cX3_secondsOf 7 = .ok (.aload_n 0, 1) := by decide +kernel
theorem dX3_secondsOf_8 : decode cX3_secondsOf 8 = .ok (.getfield 25, 3) := by decide +kernel
theorem dX3_secondsOf_11 : decode cX3_secondsOf 11 = .ok (.if_icmp .ge 47, 3) := by decide +kernel
theorem dX3_secondsOf_14 : decode cX3_secondsOf 14 = .ok (.iload_n 1, 1) := by decide +kernel
theorem dX3_secondsOf_15 : decode cX3_secondsOf 15 = .ok (.iload 4, 2) := by decide +kernel
theorem dX3_secondsOf_17 : decode cX3_secondsOf 17 = .ok (.invokestatic 102, 3) := by decide +kernel
theorem dX3_secondsOf_20 : decode cX3_secondsOf 20 = .ok (.ifCond .eq 32, 3) := by decide +kernel
theorem dX3_secondsOf_23 : decode cX3_secondsOf 23 = .ok (.iload_n 3, 1) := by decide +kernel
theorem dX3_secondsOf_24 : decode cX3_secondsOf 24 = .ok (.aload_n 0, 1) := by decide +kernel
theorem dX3_secondsOf_25 : decode cX3_secondsOf 25 = .ok (.getfield 11, 3) := by decide +kernel
theorem dX3_secondsOf_28 : decode cX3_secondsOf 28 = .ok (.iload 4, 2) := by decide +kernel
theorem dX3_secondsOf_30 : decode cX3_secondsOf 30 = .ok (.aaload, 1) := by decide +kernel
theorem dX3_secondsOf_31 : decode cX3_secondsOf 31 = .ok (.getfield 92, 3) := by decide +kernel
theorem dX3_secondsOf_34 : decode cX3_secondsOf 34 = .ok (.aload_n 0, 1) := by decide +kernel
theorem dX3_secondsOf_35 : decode cX3_secondsOf 35 = .ok (.getfield 11, 3) := by decide +kernel
theorem dX3_secondsOf_38 : decode cX3_secondsOf 38 = .ok (.iload 4, 2) := by decide +kernel
theorem dX3_secondsOf_40 : decode cX3_secondsOf 40 = .ok (.aaload, 1) := by decide +kernel
theorem dX3_secondsOf_41 : decode cX3_secondsOf 41 = .ok (.iload_n 2, 1) := by decide +kernel
theorem dX3_secondsOf_42 : decode cX3_secondsOf 42 = .ok (.aload_n 0, 1) := by decide +kernel
theorem dX3_secondsOf_43 : decode cX3_secondsOf 43 = .ok (.getfield 37, 3) := by decide +kernel
theorem dX3_secondsOf_46 : decode cX3_secondsOf 46 = .ok (.invokevirtual 70, 3) := by decide +kernel
theorem dX3_secondsOf_49 : decode cX3_secondsOf 49 = .ok (.imul, 1) := by decide +kernel
theorem dX3_secondsOf_50 : decode cX3_secondsOf 50 = .ok (.iadd, 1) := by decide +kernel
theorem dX3_secondsOf_51 : decode cX3_secondsOf 51 = .ok (.istore_n 3, 1) := by decide +kernel
theorem dX3_secondsOf_52 : decode cX3_secondsOf 52 = .ok (.iinc 4 1, 3) := by decide +kernel
theorem dX3_secondsOf_55 : decode cX3_secondsOf 55 = .ok (.goto (-50), 3) := by decide +kernel
theorem dX3_secondsOf_58 : decode cX3_secondsOf 58 = .ok (.iload_n 3, 1) := by decide +kernel
theorem dX3_secondsOf_59 : decode cX3_secondsOf 59 = .ok (.ireturn, 1) := by decide +kernel
theorem dX3_quickestFor_0 : decode cX3_quickestFor 0 = .ok (.bipush (-9), 2) := by decide +kernel
theorem dX3_quickestFor_2 : decode cX3_quickestFor 2 = .ok (.istore_n 2, 1) := by decide +kernel
theorem dX3_quickestFor_3 : decode cX3_quickestFor 3 = .ok (.iconst 0, 1) := by decide +kernel
theorem dX3_quickestFor_4 : decode cX3_quickestFor 4 = .ok (.istore_n 3, 1) := by decide +kernel
theorem dX3_quickestFor_5 : decode cX3_quickestFor 5 = .ok (.iload_n 3, 1) := by decide +kernel
theorem dX3_quickestFor_6 : decode cX3_quickestFor 6 = .ok (.bipush 6, 2) := by decide +kernel
theorem dX3_quickestFor_8 : decode cX3_quickestFor 8 = .ok (.if_icmp .ge 26, 3) := by decide +kernel
theorem dX3_quickestFor_11 : decode cX3_quickestFor 11 = .ok (.aload_n 0, 1) := by decide +kernel
theorem dX3_quickestFor_12 : decode cX3_quickestFor 12 = .ok (.iload_n 1, 1) := by decide +kernel
theorem dX3_quickestFor_13 : decode cX3_quickestFor 13 = .ok (.iload_n 3, 1) := by decide +kernel
theorem dX3_quickestFor_14 : decode cX3_quickestFor 14 = .ok (.invokevirtual 105, 3) := by decide +kernel
theorem dX3_quickestFor_17 : decode cX3_quickestFor 17 = .ok (.aload_n 0, 1) := by decide +kernel
theorem dX3_quickestFor_18 : decode cX3_quickestFor 18 = .ok (.iload_n 1, 1) := by decide +kernel
theorem dX3_quickestFor_19 : decode cX3_quickestFor 19 = .ok (.iload_n 2, 1) := by decide +kernel
theorem dX3_quickestFor_20 : decode cX3_quickestFor 20 = .ok (.invokevirtual 105, 3) := by decide +kernel
theorem dX3_quickestFor_23 : decode cX3_quickestFor 23 = .ok (.if_icmp .ge 5, 3) := by decide +kernel
theorem dX3_quickestFor_26 : decode cX3_quickestFor 26 = .ok (.iload_n 3, 1) := by decide +kernel
theorem dX3_quickestFor_27 : decode cX3_quickestFor 27 = .ok (.istore_n 2, 1) := by decide +kernel
theorem dX3_quickestFor_28 : decode cX3_quickestFor 28 = .ok (.iinc 3 1, 3) := by decide +kernel
theorem dX3_quickestFor_31 : decode cX3_quickestFor 31 = .ok (.goto (-26), 3) := by decide +kernel
theorem dX3_quickestFor_34 : decode cX3_quickestFor 34 = .ok (.iload_n 2, 1) := by decide +kernel
theorem dX3_quickestFor_35 : decode cX3_quickestFor 35 = .ok (.ireturn, 1) := by decide +kernel
theorem dX3_weekWith_0 : decode cX3_weekWith 0 = .ok (.iconst 0, 1) := by decide +kernel
theorem dX3_weekWith_1 : decode cX3_weekWith 1 = .ok (.istore_n 2, 1) := by decide +kernel
theorem dX3_weekWith_2 : decode cX3_weekWith 2 = .ok (.iconst 0, 1) := by decide +kernel
theorem dX3_weekWith_3 : decode cX3_weekWith 3 = .ok (.istore_n 3, 1) := by decide +kernel
theorem dX3_weekWith_4 : decode cX3_weekWith 4 = .ok (.iload_n 3, 1) := by decide +kernel
theorem dX3_weekWith_5 : decode cX3_weekWith 5 = .ok (.aload_n 0, 1) := by decide +kernel
theorem dX3_weekWith_6 : decode cX3_weekWith 6 = .ok (.getfield 25, 3) := by decide +kernel
theorem dX3_weekWith_9 : decode cX3_weekWith 9 = .ok (.if_icmp .ge 37, 3) := by decide +kernel
theorem dX3_weekWith_12 : decode cX3_weekWith 12 = .ok (.iload_n 2, 1) := by decide +kernel
theorem dX3_weekWith_13 : decode cX3_weekWith 13 = .ok (.aload_n 0, 1) := by decide +kernel
theorem dX3_weekWith_14 : decode cX3_weekWith 14 = .ok (.getfield 11, 3) := by decide +kernel
theorem dX3_weekWith_17 : decode cX3_weekWith 17 = .ok (.iload_n 3, 1) := by decide +kernel
theorem dX3_weekWith_18 : decode cX3_weekWith 18 = .ok (.aaload, 1) := by decide +kernel
theorem dX3_weekWith_19 : decode cX3_weekWith 19 = .ok (.getfield 92, 3) := by decide +kernel
theorem dX3_weekWith_22 : decode cX3_weekWith 22 = .ok (.iload_n 1, 1) := by decide +kernel
theorem dX3_weekWith_23 : decode cX3_weekWith 23 = .ok (.iload_n 3, 1) := by decide +kernel
theorem dX3_weekWith_24 : decode cX3_weekWith 24 = .ok (.invokestatic 102, 3) := by decide +kernel
theorem dX3_weekWith_27 : decode cX3_weekWith 27 = .ok (.ifCond .eq 8, 3) := by decide +kernel
theorem dX3_weekWith_30 : decode cX3_weekWith 30 = .ok (.bipush 9, 2) := by decide +kernel
theorem dX3_weekWith_32 : decode cX3_weekWith 32 = .ok (.goto 5, 3) := by decide +kernel
theorem dX3_weekWith_35 : decode cX3_weekWith 35 = .ok (.bipush 40, 2) := by decide +kernel
theorem dX3_weekWith_37 : decode cX3_weekWith 37 = .ok (.imul, 1) := by decide +kernel
theorem dX3_weekWith_38 : decode cX3_weekWith 38 = .ok (.iadd, 1) := by decide +kernel
theorem dX3_weekWith_39 : decode cX3_weekWith 39 = .ok (.istore_n 2, 1) := by decide +kernel
theorem dX3_weekWith_40 : decode cX3_weekWith 40 = .ok (.iinc 3 1, 3) := by decide +kernel
theorem dX3_weekWith_43 : decode cX3_weekWith 43 = .ok (.goto (-39), 3) := by decide +kernel
theorem dX3_weekWith_46 : decode cX3_weekWith 46 = .ok (.iload_n 2, 1) := by decide +kernel
theorem dX3_weekWith_47 : decode cX3_weekWith 47 = .ok (.ireturn, 1) := by decide +kernel
theorem dX3_knownOnes_0 : decode cX3_knownOnes 0 = .ok (.iconst 0, 1) := by decide +kernel
theorem dX3_knownOnes_1 : decode cX3_knownOnes 1 = .ok (.istore_n 1, 1) := by decide +kernel
theorem dX3_knownOnes_2 : decode cX3_knownOnes 2 = .ok (.iconst 0, 1) := by decide +kernel
theorem dX3_knownOnes_3 : decode cX3_knownOnes 3 = .ok (.istore_n 2, 1) := by decide +kernel
theorem dX3_knownOnes_4 : decode cX3_knownOnes 4 = .ok (.iload_n 2, 1) := by decide +kernel
theorem dX3_knownOnes_5 : decode cX3_knownOnes 5 = .ok (.aload_n 0, 1) := by decide +kernel
theorem dX3_knownOnes_6 : decode cX3_knownOnes 6 = .ok (.getfield 25, 3) := by decide +kernel
theorem dX3_knownOnes_9 : decode cX3_knownOnes 9 = .ok (.if_icmp .ge 24, 3) := by decide +kernel
theorem dX3_knownOnes_12 : decode cX3_knownOnes 12 = .ok (.aload_n 0, 1) := by decide +kernel
theorem dX3_knownOnes_13 : decode cX3_knownOnes 13 = .ok (.getfield 11, 3) := by decide +kernel
theorem dX3_knownOnes_16 : decode cX3_knownOnes 16 = .ok (.iload_n 2, 1) := by decide +kernel
theorem dX3_knownOnes_17 : decode cX3_knownOnes 17 = .ok (.aaload, 1) := by decide +kernel
theorem dX3_knownOnes_18 : decode cX3_knownOnes 18 = .ok (.invokevirtual 108, 3) := by decide +kernel
theorem dX3_knownOnes_21 : decode cX3_knownOnes 21 = .ok (.ifCond .eq 6, 3) := by decide +kernel
theorem dX3_knownOnes_24 : decode cX3_knownOnes 24 = .ok (.iinc 1 1, 3) := by decide +kernel
theorem dX3_knownOnes_27 : decode cX3_knownOnes 27 = .ok (.iinc 2 1, 3) := by decide +kernel
theorem dX3_knownOnes_30 : decode cX3_knownOnes 30 = .ok (.goto (-26), 3) := by decide +kernel
theorem dX3_knownOnes_33 : decode cX3_knownOnes 33 = .ok (.iload_n 1, 1) := by decide +kernel
theorem dX3_knownOnes_34 : decode cX3_knownOnes 34 = .ok (.ireturn, 1) := by decide +kernel
theorem dX3_silentOnes_0 : decode cX3_silentOnes 0 = .ok (.iconst 0, 1) := by decide +kernel
theorem dX3_silentOnes_1 : decode cX3_silentOnes 1 = .ok (.istore_n 1, 1) := by decide +kernel
theorem dX3_silentOnes_2 : decode cX3_silentOnes 2 = .ok (.iconst 0, 1) := by decide +kernel
theorem dX3_silentOnes_3 : decode cX3_silentOnes 3 = .ok (.istore_n 2, 1) := by decide +kernel
theorem dX3_silentOnes_4 : decode cX3_silentOnes 4 = .ok (.iload_n 2, 1) := by decide +kernel
theorem dX3_silentOnes_5 : decode cX3_silentOnes 5 = .ok (.aload_n 0, 1) := by decide +kernel
theorem dX3_silentOnes_6 : decode cX3_silentOnes 6 = .ok (.getfield 25, 3) := by decide +kernel
theorem dX3_silentOnes_9 : decode cX3_silentOnes 9 = .ok (.if_icmp .ge 25, 3) := by decide +kernel
theorem dX3_silentOnes_12 : decode cX3_silentOnes 12 = .ok (.aload_n 0, 1) := by decide +kernel
theorem dX3_silentOnes_13 : decode cX3_silentOnes 13 = .ok (.getfield 11, 3) := by decide +kernel
theorem dX3_silentOnes_16 : decode cX3_silentOnes 16 = .ok (.iload_n 2, 1) := by decide +kernel
theorem dX3_silentOnes_17 : decode cX3_silentOnes 17 = .ok (.aaload, 1) := by decide +kernel
theorem dX3_silentOnes_18 : decode cX3_silentOnes 18 = .ok (.iconst 1, 1) := by decide +kernel
theorem dX3_silentOnes_19 : decode cX3_silentOnes 19 = .ok (.invokevirtual 112, 3) := by decide +kernel
theorem dX3_silentOnes_22 : decode cX3_silentOnes 22 = .ok (.ifCond .eq 6, 3) := by decide +kernel
theorem dX3_silentOnes_25 : decode cX3_silentOnes 25 = .ok (.iinc 1 1, 3) := by decide +kernel
theorem dX3_silentOnes_28 : decode cX3_silentOnes 28 = .ok (.iinc 2 1, 3) := by decide +kernel
theorem dX3_silentOnes_31 : decode cX3_silentOnes 31 = .ok (.goto (-27), 3) := by decide +kernel
theorem dX3_silentOnes_34 : decode cX3_silentOnes 34 = .ok (.iload_n 1, 1) := by decide +kernel
theorem dX3_silentOnes_35 : decode cX3_silentOnes 35 = .ok (.ireturn, 1) := by decide +kernel
theorem dX3_soursOfAll_0 : decode cX3_soursOfAll 0 = .ok (.iconst 0, 1) := by decide +kernel
theorem dX3_soursOfAll_1 : decode cX3_soursOfAll 1 = .ok (.istore_n 1, 1) := by decide +kernel
theorem dX3_soursOfAll_2 : decode cX3_soursOfAll 2 = .ok (.iconst 0, 1) := by decide +kernel
theorem dX3_soursOfAll_3 : decode cX3_soursOfAll 3 = .ok (.istore_n 2, 1) := by decide +kernel
theorem dX3_soursOfAll_4 : decode cX3_soursOfAll 4 = .ok (.iload_n 2, 1) := by decide +kernel
theorem dX3_soursOfAll_5 : decode cX3_soursOfAll 5 = .ok (.aload_n 0, 1) := by decide +kernel
theorem dX3_soursOfAll_6 : decode cX3_soursOfAll 6 = .ok (.getfield 25, 3) := by decide +kernel
theorem dX3_soursOfAll_9 : decode cX3_soursOfAll 9 = .ok (.if_icmp .ge 21, 3) := by decide +kernel
theorem dX3_soursOfAll_12 : decode cX3_soursOfAll 12 = .ok (.iload_n 1, 1) := by decide +kernel
theorem dX3_soursOfAll_13 : decode cX3_soursOfAll 13 = .ok (.aload_n 0, 1) := by decide +kernel
theorem dX3_soursOfAll_14 : decode cX3_soursOfAll 14 = .ok (.getfield 11, 3) := by decide +kernel
theorem dX3_soursOfAll_17 : decode cX3_soursOfAll 17 = .ok (.iload_n 2, 1) := by decide +kernel
theorem dX3_soursOfAll_18 : decode cX3_soursOfAll 18 = .ok (.aaload, 1) := by decide +kernel
theorem dX3_soursOfAll_19 : decode cX3_soursOfAll 19 = .ok (.getfield 46, 3) := by decide +kernel
theorem dX3_soursOfAll_22 : decode cX3_soursOfAll 22 = .ok (.iadd, 1) := by decide +kernel
theorem dX3_soursOfAll_23 : decode cX3_soursOfAll 23 = .ok (.istore_n 1, 1) := by decide +kernel
theorem dX3_soursOfAll_24 : decode cX3_soursOfAll 24 = .ok (.iinc 2 1, 3) := by decide +kernel
theorem dX3_soursOfAll_27 : decode cX3_soursOfAll 27 = .ok (.goto (-23), 3) := by decide +kernel
theorem dX3_soursOfAll_30 : decode cX3_soursOfAll 30 = .ok (.iload_n 1, 1) := by decide +kernel
theorem dX3_soursOfAll_31 : decode cX3_soursOfAll 31 = .ok (.ireturn, 1) := by decide +kernel
theorem dX3_isIn_0 : decode cX3_isIn 0 = .ok (.iload_n 0, 1) := by decide +kernel
theorem dX3_isIn_1 : decode cX3_isIn 1 = .ok (.iload_n 1, 1) := by decide +kernel
theorem dX3_isIn_2 : decode cX3_isIn 2 = .ok (.ishr, 1) := by decide +kernel
theorem dX3_isIn_3 : decode cX3_isIn 3 = .ok (.iconst 1, 1) := by decide +kernel
theorem dX3_isIn_4 : decode cX3_isIn 4 = .ok (.iand, 1) := by decide +kernel
theorem dX3_isIn_5 : decode cX3_isIn 5 = .ok (.iconst 1, 1) := by decide +kernel
theorem dX3_isIn_6 : decode cX3_isIn 6 = .ok (.if_icmp .ne 7, 3) := by decide +kernel
theorem dX3_isIn_9 : decode cX3_isIn 9 = .ok (.iconst 1, 1) := by decide +kernel
theorem dX3_isIn_10 : decode cX3_isIn 10 = .ok (.goto 4, 3) := by decide +kernel
theorem dX3_isIn_13 : decode cX3_isIn 13 = .ok (.iconst 0, 1) := by decide +kernel
theorem dX3_isIn_14 : decode cX3_isIn 14 = .ok (.ireturn, 1) := by decide +kernel
theorem dX4_init_0 : decode cX4_init 0 = .ok (.aload_n 0, 1) := by decide +kernel
theorem dX4_init_1 : decode cX4_init 1 = .ok (.invokespecial 3, 3) := by decide +kernel
theorem dX4_init_4 : decode cX4_init 4 = .ok (.aload_n 0, 1) := by decide +kernel
theorem dX4_init_5 : decode cX4_init 5 = .ok (.bipush 60, 2) := by decide +kernel
theorem dX4_init_7 : decode cX4_init 7 = .ok (.newarray .int, 2) := by decide +kernel
theorem dX4_init_9 : decode cX4_init 9 = .ok (.putfield 9, 3) := by decide +kernel
theorem dX4_init_12 : decode cX4_init 12 = .ok (.aload_n 0, 1) := by decide +kernel
theorem dX4_init_13 : decode cX4_init 13 = .ok (.bipush 60, 2) := by decide +kernel
theorem dX4_init_15 : decode cX4_init 15 = .ok (.newarray .int, 2) := by decide +kernel
theorem dX4_init_17 : decode cX4_init 17 = .ok (.putfield 15, 3) := by decide +kernel
theorem dX4_init_20 : decode cX4_init 20 = .ok (.return_, 1) := by decide +kernel
theorem dX4_write_0 : decode cX4_write 0 = .ok (.aload_n 0, 1) := by decide +kernel
theorem dX4_write_1 : decode cX4_write 1 = .ok (.getfield 18, 3) := by decide +kernel
theorem dX4_write_4 : decode cX4_write 4 = .ok (.bipush 60, 2) := by decide +kernel
theorem dX4_write_6 : decode cX4_write 6 = .ok (.if_icmp .ge 33, 3) := by decide +kernel
theorem dX4_write_9 : decode cX4_write 9 = .ok (.aload_n 0, 1) := by decide +kernel
theorem dX4_write_10 : decode cX4_write 10 = .ok (.getfield 9, 3) := by decide +kernel
theorem dX4_write_13 : decode cX4_write 13 = .ok (.aload_n 0, 1) := by decide +kernel
theorem dX4_write_14 : decode cX4_write 14 = .ok (.getfield 18, 3) := by decide +kernel
theorem dX4_write_17 : decode cX4_write 17 = .ok (.iload_n 1, 1) := by decide +kernel
theorem dX4_write_18 : decode cX4_write 18 = .ok (.iastore, 1) := by decide +kernel
theorem dX4_write_19 : decode cX4_write 19 = .ok (.aload_n 0, 1) := by decide +kernel
theorem dX4_write_20 : decode cX4_write 20 = .ok (.getfield 15, 3) := by decide +kernel
theorem dX4_write_23 : decode cX4_write 23 = .ok (.aload_n 0, 1) := by decide +kernel
theorem dX4_write_24 : decode cX4_write 24 = .ok (.getfield 18, 3) := by decide +kernel
theorem dX4_write_27 : decode cX4_write 27 = .ok (.iload_n 2, 1) := by decide +kernel
theorem dX4_write_28 : decode cX4_write 28 = .ok (.iastore, 1) := by decide +kernel
theorem dX4_write_29 : decode cX4_write 29 = .ok (.aload_n 0, 1) := by decide +kernel
theorem dX4_write_30 : decode cX4_write 30 = .ok (.dup, 1) := by decide +kernel
theorem dX4_write_31 : decode cX4_write 31 = .ok (.getfield 18, 3) := by decide +kernel
theorem dX4_write_34 : decode cX4_write 34 = .ok (.iconst 1, 1) := by decide +kernel
theorem dX4_write_35 : decode cX4_write 35 = .ok (.iadd, 1) := by decide +kernel
theorem dX4_write_36 : decode cX4_write 36 = .ok (.putfield 18, 3) := by decide +kernel
theorem dX4_write_39 : decode cX4_write 39 = .ok (.return_, 1) := by decide +kernel
theorem dX4_takeFrom_0 : decode cX4_takeFrom 0 = .ok (.aload_n 1, 1) := by decide +kernel
theorem dX4_takeFrom_1 : decode cX4_takeFrom 1 = .ok (.getfield 9, 3) := by decide +kernel
theorem dX4_takeFrom_4 : decode cX4_takeFrom 4 = .ok (.iconst 0, 1) := by decide +kernel
theorem dX4_takeFrom_5 : decode cX4_takeFrom 5 = .ok (.aload_n 0, 1) := by decide +kernel
theorem dX4_takeFrom_6 : decode cX4_takeFrom 6 = .ok (.getfield 9, 3) := by decide +kernel
theorem dX4_takeFrom_9 : decode cX4_takeFrom 9 = .ok (.iconst 0, 1) := by decide +kernel
theorem dX4_takeFrom_10 : decode cX4_takeFrom 10 = .ok (.aload_n 1, 1) := by decide +kernel
theorem dX4_takeFrom_11 : decode cX4_takeFrom 11 = .ok (.getfield 18, 3) := by decide +kernel
theorem dX4_takeFrom_14 : decode cX4_takeFrom 14 = .ok (.invokestatic 22, 3) := by decide +kernel
theorem dX4_takeFrom_17 : decode cX4_takeFrom 17 = .ok (.aload_n 1, 1) := by decide +kernel
theorem dX4_takeFrom_18 : decode cX4_takeFrom 18 = .ok (.getfield 15, 3) := by decide +kernel
theorem dX4_takeFrom_21 : decode cX4_takeFrom 21 = .ok (.iconst 0, 1) := by decide +kernel
theorem dX4_takeFrom_22 : decode cX4_takeFrom 22 = .ok (.aload_n 0, 1) := by decide +kernel
theorem dX4_takeFrom_23 : decode cX4_takeFrom 23 = .ok (.getfield 15, 3) := by decide +kernel
theorem dX4_takeFrom_26 : decode cX4_takeFrom 26 = .ok (.iconst 0, 1) := by decide +kernel
theorem dX4_takeFrom_27 : decode cX4_takeFrom 27 = .ok (.aload_n 1, 1) := by decide +kernel
theorem dX4_takeFrom_28 : decode cX4_takeFrom 28 = .ok (.getfield 18, 3) := by decide +kernel
theorem dX4_takeFrom_31 : decode cX4_takeFrom 31 = .ok (.invokestatic 22, 3) := by decide +kernel
theorem dX4_takeFrom_34 : decode cX4_takeFrom 34 = .ok (.aload_n 0, 1) := by decide +kernel
theorem dX4_takeFrom_35 : decode cX4_takeFrom 35 = .ok (.aload_n 1, 1) := by decide +kernel
theorem dX4_takeFrom_36 : decode cX4_takeFrom 36 = .ok (.getfield 18, 3) := by decide +kernel
theorem dX4_takeFrom_39 : decode cX4_takeFrom 39 = .ok (.putfield 18, 3) := by decide +kernel
theorem dX4_takeFrom_42 : decode cX4_takeFrom 42 = .ok (.return_, 1) := by decide +kernel
