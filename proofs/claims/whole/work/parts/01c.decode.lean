theorem dX0_init_0 : decode cX0_init 0 = .ok (.aload_n 0, 1) := by decide +kernel
theorem dX0_init_1 : decode cX0_init 1 = .ok (.invokespecial 3, 3) := by decide +kernel
theorem dX0_init_4 : decode cX0_init 4 = .ok (.aload_n 0, 1) := by decide +kernel
theorem dX0_init_5 : decode cX0_init 5 = .ok (.bipush 8, 2) := by decide +kernel
theorem dX0_init_7 : decode cX0_init 7 = .ok (.putfield 9, 3) := by decide +kernel
theorem dX0_init_10 : decode cX0_init 10 = .ok (.aload_n 0, 1) := by decide +kernel
theorem dX0_init_11 : decode cX0_init 11 = .ok (.bipush 61, 2) := by decide +kernel
theorem dX0_init_13 : decode cX0_init 13 = .ok (.putfield 15, 3) := by decide +kernel
theorem dX0_init_16 : decode cX0_init 16 = .ok (.return_, 1) := by decide +kernel
theorem dX0_copyFrom_0 : decode cX0_copyFrom 0 = .ok (.aload_n 0, 1) := by decide +kernel
theorem dX0_copyFrom_1 : decode cX0_copyFrom 1 = .ok (.aload_n 1, 1) := by decide +kernel
theorem dX0_copyFrom_2 : decode cX0_copyFrom 2 = .ok (.getfield 9, 3) := by decide +kernel
theorem dX0_copyFrom_5 : decode cX0_copyFrom 5 = .ok (.putfield 9, 3) := by decide +kernel
theorem dX0_copyFrom_8 : decode cX0_copyFrom 8 = .ok (.aload_n 0, 1) := by decide +kernel
theorem dX0_copyFrom_9 : decode cX0_copyFrom 9 = .ok (.aload_n 1, 1) := by decide +kernel
theorem dX0_copyFrom_10 : decode cX0_copyFrom 10 = .ok (.getfield 19, 3) := by decide +kernel
theorem dX0_copyFrom_13 : decode cX0_copyFrom 13 = .ok (.putfield 19, 3) := by decide +kernel
theorem dX0_copyFrom_16 : decode cX0_copyFrom 16 = .ok (.aload_n 0, 1) := by decide +kernel
theorem dX0_copyFrom_17 : decode cX0_copyFrom 17 = .ok (.aload_n 1, 1) := by decide +kernel
theorem dX0_copyFrom_18 : decode cX0_copyFrom 18 = .ok (.getfield 22, 3) := by decide +kernel
theorem dX0_copyFrom_21 : decode cX0_copyFrom 21 = .ok (.putfield 22, 3) := by decide +kernel
theorem dX0_copyFrom_24 : decode cX0_copyFrom 24 = .ok (.aload_n 0, 1) := by decide +kernel
theorem dX0_copyFrom_25 : decode cX0_copyFrom 25 = .ok (.aload_n 1, 1) := by decide +kernel
theorem dX0_copyFrom_26 : decode cX0_copyFrom 26 = .ok (.getfield 25, 3) := by decide +kernel
theorem dX0_copyFrom_29 : decode cX0_copyFrom 29 = .ok (.putfield 25, 3) := by decide +kernel
theorem dX0_copyFrom_32 : decode cX0_copyFrom 32 = .ok (.aload_n 0, 1) := by decide +kernel
theorem dX0_copyFrom_33 : decode cX0_copyFrom 33 = .ok (.aload_n 1, 1) := by decide +kernel
theorem dX0_copyFrom_34 : decode cX0_copyFrom 34 = .ok (.getfield 28, 3) := by decide +kernel
theorem dX0_copyFrom_37 : decode cX0_copyFrom 37 = .ok (.putfield 28, 3) := by decide +kernel
theorem dX0_copyFrom_40 : decode cX0_copyFrom 40 = .ok (.aload_n 0, 1) := by decide +kernel
theorem dX0_copyFrom_41 : decode cX0_copyFrom 41 = .ok (.aload_n 1, 1) := by decide +kernel
theorem dX0_copyFrom_42 : decode cX0_copyFrom 42 = .ok (.getfield 15, 3) := by decide +kernel
theorem dX0_copyFrom_45 : decode cX0_copyFrom 45 = .ok (.putfield 15, 3) := by decide +kernel
theorem dX0_copyFrom_48 : decode cX0_copyFrom 48 = .ok (.return_, 1) := by decide +kernel
theorem dX0_decide_0 : decode cX0_decide 0 = .ok (.aload_n 0, 1) := by decide +kernel
theorem dX0_decide_1 : decode cX0_decide 1 = .ok (.getfield 15, 3) := by decide +kernel
theorem dX0_decide_4 : decode cX0_decide 4 = .ok (.lookupswitch 50 #[(60, 28), (62, 39)], 28) := by decide +kernel
theorem dX0_decide_32 : decode cX0_decide 32 = .ok (.iload_n 1, 1) := by decide +kernel
theorem dX0_decide_33 : decode cX0_decide 33 = .ok (.iload_n 2, 1) := by decide +kernel
theorem dX0_decide_34 : decode cX0_decide 34 = .ok (.if_icmp .ge 7, 3) := by decide +kernel
theorem dX0_decide_37 : decode cX0_decide 37 = .ok (.iconst 1, 1) := by decide +kernel
theorem dX0_decide_38 : decode cX0_decide 38 = .ok (.goto 4, 3) := by decide +kernel
theorem dX0_decide_41 : decode cX0_decide 41 = .ok (.iconst 0, 1) := by decide +kernel
theorem dX0_decide_42 : decode cX0_decide 42 = .ok (.ireturn, 1) := by decide +kernel
theorem dX0_decide_43 : decode cX0_decide 43 = .ok (.iload_n 1, 1) := by decide +kernel
theorem dX0_decide_44 : decode cX0_decide 44 = .ok (.iload_n 2, 1) := by decide +kernel
theorem dX0_decide_45 : decode cX0_decide 45 = .ok (.if_icmp .le 7, 3) := by decide +kernel
theorem dX0_decide_48 : decode cX0_decide 48 = .ok (.iconst 1, 1) := by decide +kernel
theorem dX0_decide_49 : decode cX0_decide 49 = .ok (.goto 4, 3) := by decide +kernel
theorem dX0_decide_52 : decode cX0_decide 52 = .ok (.iconst 0, 1) := by decide +kernel
theorem dX0_decide_53 : decode cX0_decide 53 = .ok (.ireturn, 1) := by decide +kernel
theorem dX0_decide_54 : decode cX0_decide 54 = .ok (.iload_n 1, 1) := by decide +kernel
theorem dX0_decide_55 : decode cX0_decide 55 = .ok (.iload_n 2, 1) := by decide +kernel
theorem dX0_decide_56 : decode cX0_decide 56 = .ok (.if_icmp .ne 7, 3) := by decide +kernel
theorem dX0_decide_59 : decode cX0_decide 59 = .ok (.iconst 1, 1) := by decide +kernel
theorem dX0_decide_60 : decode cX0_decide 60 = .ok (.goto 4, 3) := by decide +kernel
theorem dX0_decide_63 : decode cX0_decide 63 = .ok (.iconst 0, 1) := by decide +kernel
theorem dX0_decide_64 : decode cX0_decide 64 = .ok (.ireturn, 1) := by decide +kernel
theorem dX0_cellBy_0 : decode cX0_cellBy 0 = .ok (.aload_n 1, 1) := by decide +kernel
theorem dX0_cellBy_1 : decode cX0_cellBy 1 = .ok (.aload_n 0, 1) := by decide +kernel
theorem dX0_cellBy_2 : decode cX0_cellBy 2 = .ok (.getfield 22, 3) := by decide +kernel
theorem dX0_cellBy_5 : decode cX0_cellBy 5 = .ok (.iaload, 1) := by decide +kernel
theorem dX0_cellBy_6 : decode cX0_cellBy 6 = .ok (.aload_n 0, 1) := by decide +kernel
theorem dX0_cellBy_7 : decode cX0_cellBy 7 = .ok (.getfield 28, 3) := by decide +kernel
theorem dX0_cellBy_10 : decode cX0_cellBy 10 = .ok (.iadd, 1) := by decide +kernel
theorem dX0_cellBy_11 : decode cX0_cellBy 11 = .ok (.bipush 32, 2) := by decide +kernel
theorem dX0_cellBy_13 : decode cX0_cellBy 13 = .ok (.irem, 1) := by decide +kernel
theorem dX0_cellBy_14 : decode cX0_cellBy 14 = .ok (.ireturn, 1) := by decide +kernel
theorem dX1_init_0 : decode cX1_init 0 = .ok (.aload_n 0, 1) := by decide +kernel
theorem dX1_init_1 : decode cX1_init 1 = .ok (.invokespecial 3, 3) := by decide +kernel
theorem dX1_init_4 : decode cX1_init 4 = .ok (.aload_n 0, 1) := by decide +kernel
theorem dX1_init_5 : decode cX1_init 5 = .ok (.new 9, 3) := by decide +kernel
theorem dX1_init_8 : decode cX1_init 8 = .ok (.dup, 1) := by decide +kernel
theorem dX1_init_9 : decode cX1_init 9 = .ok (.invokespecial 11, 3) := by decide +kernel
theorem dX1_init_12 : decode cX1_init 12 = .ok (.putfield 12, 3) := by decide +kernel
theorem dX1_init_15 : decode cX1_init 15 = .ok (.aload_n 0, 1) := by decide +kernel
theorem dX1_init_16 : decode cX1_init 16 = .ok (.bipush 8, 2) := by decide +kernel
theorem dX1_init_18 : decode cX1_init 18 = .ok (.newarray .int, 2) := by decide +kernel
theorem dX1_init_20 : decode cX1_init 20 = .ok (.putfield 18, 3) := by decide +kernel
theorem dX1_init_23 : decode cX1_init 23 = .ok (.aload_n 0, 1) := by decide +kernel
theorem dX1_init_24 : decode cX1_init 24 = .ok (.bipush 32, 2) := by decide +kernel
theorem dX1_init_26 : decode cX1_init 26 = .ok (.newarray .int, 2) := by decide +kernel
theorem dX1_init_28 : decode cX1_init 28 = .ok (.putfield 22, 3) := by decide +kernel
theorem dX1_init_31 : decode cX1_init 31 = .ok (.aload_n 0, 1) := by decide +kernel
theorem dX1_init_32 : decode cX1_init 32 = .ok (.bipush 6, 2) := by decide +kernel
theorem dX1_init_34 : decode cX1_init 34 = .ok (.anewarray 25, 3) := by decide +kernel
theorem dX1_init_37 : decode cX1_init 37 = .ok (.putfield 27, 3) := by decide +kernel
theorem dX1_init_40 : decode cX1_init 40 = .ok (.aload_n 0, 1) := by decide +kernel
theorem dX1_init_41 : decode cX1_init 41 = .ok (.iconst 2, 1) := by decide +kernel
theorem dX1_init_42 : decode cX1_init 42 = .ok (.anewarray 31, 3) := by decide +kernel
theorem dX1_init_45 : decode cX1_init 45 = .ok (.putfield 33, 3) := by decide +kernel
theorem dX1_init_48 : decode cX1_init 48 = .ok (.iconst 0, 1) := by decide +kernel
theorem dX1_init_49 : decode cX1_init 49 = .ok (.istore_n 1, 1) := by decide +kernel
theorem dX1_init_50 : decode cX1_init 50 = .ok (.iload_n 1, 1) := by decide +kernel
theorem dX1_init_51 : decode cX1_init 51 = .ok (.bipush 6, 2) := by decide +kernel
theorem dX1_init_53 : decode cX1_init 53 = .ok (.if_icmp .ge 22, 3) := by decide +kernel
theorem dX1_init_56 : decode cX1_init 56 = .ok (.aload_n 0, 1) := by decide +kernel
theorem dX1_init_57 : decode cX1_init 57 = .ok (.getfield 27, 3) := by decide +kernel
theorem dX1_init_60 : decode cX1_init 60 = .ok (.iload_n 1, 1) := by decide +kernel
theorem dX1_init_61 : decode cX1_init 61 = .ok (.new 25, 3) := by decide +kernel
theorem dX1_init_64 : decode cX1_init 64 = .ok (.dup, 1) := by decide +kernel
theorem dX1_init_65 : decode cX1_init 65 = .ok (.invokespecial 37, 3) := by decide +kernel
theorem dX1_init_68 : decode cX1_init 68 = .ok (.aastore, 1) := by decide +kernel
theorem dX1_init_69 : decode cX1_init 69 = .ok (.iinc 1 1, 3) := by decide +kernel
theorem dX1_init_72 : decode cX1_init 72 = .ok (.goto (-22), 3) := by decide +kernel
theorem dX1_init_75 : decode cX1_init 75 = .ok (.iconst 0, 1) := by decide +kernel
theorem dX1_init_76 : decode cX1_init 76 = .ok (.istore_n 1, 1) := by decide +kernel
theorem dX1_init_77 : decode cX1_init 77 = .ok (.iload_n 1, 1) := by decide +kernel
theorem dX1_init_78 : decode cX1_init 78 = .ok (.iconst 2, 1) := by decide +kernel
theorem dX1_init_79 : decode cX1_init 79 = .ok (.if_icmp .ge 23, 3) := by decide +kernel
theorem dX1_init_82 : decode cX1_init 82 = .ok (.aload_n 0, 1) := by decide +kernel
theorem dX1_init_83 : decode cX1_init 83 = .ok (.getfield 33, 3) := by decide +kernel
theorem dX1_init_86 : decode cX1_init 86 = .ok (.iload_n 1, 1) := by decide +kernel
theorem dX1_init_87 : decode cX1_init 87 = .ok (.new 31, 3) := by decide +kernel
theorem dX1_init_90 : decode cX1_init 90 = .ok (.dup, 1) := by decide +kernel
theorem dX1_init_91 : decode cX1_init 91 = .ok (.iload_n 1, 1) := by decide +kernel
theorem dX1_init_92 : decode cX1_init 92 = .ok (.invokespecial 38, 3) := by decide +kernel
theorem dX1_init_95 : decode cX1_init 95 = .ok (.aastore, 1) := by decide +kernel
theorem dX1_init_96 : decode cX1_init 96 = .ok (.iinc 1 1, 3) := by decide +kernel
theorem dX1_init_99 : decode cX1_init 99 = .ok (.goto (-22), 3) := by decide +kernel
theorem dX1_init_102 : decode cX1_init 102 = .ok (.aload_n 0, 1) := by decide +kernel
theorem dX1_init_103 : decode cX1_init 103 = .ok (.invokevirtual 41, 3) := by decide +kernel
theorem dX1_init_106 : decode cX1_init 106 = .ok (.return_, 1) := by decide +kernel
theorem dX1_toBeginning_0 : decode cX1_toBeginning 0 = .ok (.aload_n 0, 1) := by decide +kernel
theorem dX1_toBeginning_1 : decode cX1_toBeginning 1 = .ok (.getfield 12, 3) := by decide +kernel
theorem dX1_toBeginning_4 : decode cX1_toBeginning 4 = .ok (.getfield 44, 3) := by decide +kernel
theorem dX1_toBeginning_7 : decode cX1_toBeginning 7 = .ok (.iconst 0, 1) := by decide +kernel
theorem dX1_toBeginning_8 : decode cX1_toBeginning 8 = .ok (.aload_n 0, 1) := by decide +kernel
theorem dX1_toBeginning_9 : decode cX1_toBeginning 9 = .ok (.getfield 18, 3) := by decide +kernel
theorem dX1_toBeginning_12 : decode cX1_toBeginning 12 = .ok (.iconst 0, 1) := by decide +kernel
theorem dX1_toBeginning_13 : decode cX1_toBeginning 13 = .ok (.bipush 8, 2) := by decide +kernel
theorem dX1_toBeginning_15 : decode cX1_toBeginning 15 = .ok (.invokestatic 45, 3) := by decide +kernel
theorem dX1_toBeginning_18 : decode cX1_toBeginning 18 = .ok (.aload_n 0, 1) := by decide +kernel
theorem dX1_toBeginning_19 : decode cX1_toBeginning 19 = .ok (.getfield 12, 3) := by decide +kernel
theorem dX1_toBeginning_22 : decode cX1_toBeginning 22 = .ok (.getfield 51, 3) := by decide +kernel
theorem dX1_toBeginning_25 : decode cX1_toBeginning 25 = .ok (.iconst 0, 1) := by decide +kernel
theorem dX1_toBeginning_26 : decode cX1_toBeginning 26 = .ok (.aload_n 0, 1) := by decide +kernel
theorem dX1_toBeginning_27 : decode cX1_toBeginning 27 = .ok (.getfield 22, 3) := by decide +kernel
theorem dX1_toBeginning_30 : decode cX1_toBeginning 30 = .ok (.iconst 0, 1) := by decide +kernel
theorem dX1_toBeginning_31 : decode cX1_toBeginning 31 = .ok (.bipush 32, 2) := by decide +kernel
theorem dX1_toBeginning_33 : decode cX1_toBeginning 33 = .ok (.invokestatic 45, 3) := by decide +kernel
theorem dX1_toBeginning_36 : decode cX1_toBeginning 36 = .ok (.iconst 0, 1) := by decide +kernel
theorem dX1_toBeginning_37 : decode cX1_toBeginning 37 = .ok (.istore_n 1, 1) := by decide +kernel
theorem dX1_toBeginning_38 : decode cX1_toBeginning 38 = .ok (.iload_n 1, 1) := by decide +kernel
theorem dX1_toBeginning_39 : decode cX1_toBeginning 39 = .ok (.bipush 6, 2) := by decide +kernel
theorem dX1_toBeginning_41 : decode cX1_toBeginning 41 = .ok (.if_icmp .ge 27, 3) := by decide +kernel
theorem dX1_toBeginning_44 : decode cX1_toBeginning 44 = .ok (.aload_n 0, 1) := by decide +kernel
theorem dX1_toBeginning_45 : decode cX1_toBeginning 45 = .ok (.getfield 27, 3) := by decide +kernel
theorem dX1_toBeginning_48 : decode cX1_toBeginning 48 = .ok (.iload_n 1, 1) := by decide +kernel
theorem dX1_toBeginning_49 : decode cX1_toBeginning 49 = .ok (.aaload, 1) := by decide +kernel
theorem dX1_toBeginning_50 : decode cX1_toBeginning 50 = .ok (.aload_n 0, 1) := by decide +kernel
theorem dX1_toBeginning_51 : decode cX1_toBeginning 51 = .ok (.getfield 12, 3) := by decide +kernel
theorem dX1_toBeginning_54 : decode cX1_toBeginning 54 = .ok (.getfield 52, 3) := by decide +kernel
theorem dX1_toBeginning_57 : decode cX1_toBeginning 57 = .ok (.iload_n 1, 1) := by decide +kernel
theorem dX1_toBeginning_58 : decode cX1_toBeginning 58 = .ok (.iaload, 1) := by decide +kernel
theorem dX1_toBeginning_59 : decode cX1_toBeginning 59 = .ok (.invokevirtual 55, 3) := by decide +kernel
theorem dX1_toBeginning_62 : decode cX1_toBeginning 62 = .ok (.iinc 1 1, 3) := by decide +kernel
theorem dX1_toBeginning_65 : decode cX1_toBeginning 65 = .ok (.goto (-27), 3) := by decide +kernel
theorem dX1_toBeginning_68 : decode cX1_toBeginning 68 = .ok (.iconst 0, 1) := by decide +kernel
theorem dX1_toBeginning_69 : decode cX1_toBeginning 69 = .ok (.istore_n 1, 1) := by decide +kernel
theorem dX1_toBeginning_70 : decode cX1_toBeginning 70 = .ok (.iload_n 1, 1) := by decide +kernel
theorem dX1_toBeginning_71 : decode cX1_toBeginning 71 = .ok (.iconst 2, 1) := by decide +kernel
theorem dX1_toBeginning_72 : decode cX1_toBeginning 72 = .ok (.if_icmp .ge 18, 3) := by decide +kernel
theorem dX1_toBeginning_75 : decode cX1_toBeginning 75 = .ok (.aload_n 0, 1) := by decide +kernel
theorem dX1_toBeginning_76 : decode cX1_toBeginning 76 = .ok (.getfield 33, 3) := by decide +kernel
theorem dX1_toBeginning_79 : decode cX1_toBeginning 79 = .ok (.iload_n 1, 1) := by decide +kernel
theorem dX1_toBeginning_80 : decode cX1_toBeginning 80 = .ok (.aaload, 1) := by decide +kernel
theorem dX1_toBeginning_81 : decode cX1_toBeginning 81 = .ok (.invokevirtual 58, 3) := by decide +kernel
theorem dX1_toBeginning_84 : decode cX1_toBeginning 84 = .ok (.iinc 1 1, 3) := by decide +kernel
theorem dX1_toBeginning_87 : decode cX1_toBeginning 87 = .ok (.goto (-17), 3) := by decide +kernel
theorem dX1_toBeginning_90 : decode cX1_toBeginning 90 = .ok (.aload_n 0, 1) := by decide +kernel
theorem dX1_toBeginning_91 : decode cX1_toBeginning 91 = .ok (.iconst 0, 1) := by decide +kernel
theorem dX1_toBeginning_92 : decode cX1_toBeginning 92 = .ok (.putfield 59, 3) := by decide +kernel
theorem dX1_toBeginning_95 : decode cX1_toBeginning 95 = .ok (.aload_n 0, 1) := by decide +kernel
theorem dX1_toBeginning_96 : decode cX1_toBeginning 96 = .ok (.iconst 0, 1) := by decide +kernel
theorem dX1_toBeginning_97 : decode cX1_toBeginning 97 = .ok (.putfield 63, 3) := by decide +kernel
theorem dX1_toBeginning_100 : decode cX1_toBeginning 100 = .ok (.aload_n 0, 1) := by decide +kernel
theorem dX1_toBeginning_101 : decode cX1_toBeginning 101 = .ok (.aload_n 0, 1) := by decide +kernel
theorem dX1_toBeginning_102 : decode cX1_toBeginning 102 = .ok (.getfield 12, 3) := by decide +kernel
theorem dX1_toBeginning_105 : decode cX1_toBeginning 105 = .ok (.getfield 66, 3) := by decide +kernel
theorem dX1_toBeginning_108 : decode cX1_toBeginning 108 = .ok (.putfield 69, 3) := by decide +kernel
theorem dX1_toBeginning_111 : decode cX1_toBeginning 111 = .ok (.aload_n 0, 1) := by decide +kernel
theorem dX1_toBeginning_112 : decode cX1_toBeginning 112 = .ok (.iconst 0, 1) := by decide +kernel
theorem dX1_toBeginning_113 : decode cX1_toBeginning 113 = .ok (.putfield 70, 3) := by decide +kernel
theorem dX1_toBeginning_116 : decode cX1_toBeginning 116 = .ok (.aload_n 0, 1) := by decide +kernel
theorem dX1_toBeginning_117 : decode cX1_toBeginning 117 = .ok (.iconst 0, 1) := by decide +kernel
theorem dX1_toBeginning_118 : decode cX1_toBeginning 118 = .ok (.putfield 73, 3) := by decide +kernel
theorem dX1_toBeginning_121 : decode cX1_toBeginning 121 = .ok (.aload_n 0, 1) := by decide +kernel
theorem dX1_toBeginning_122 : decode cX1_toBeginning 122 = .ok (.iconst 0, 1) := by decide +kernel
theorem dX1_toBeginning_123 : decode cX1_toBeginning 123 = .ok (.putfield 76, 3) := by decide +kernel
theorem dX1_toBeginning_126 : decode cX1_toBeginning 126 = .ok (.aload_n 0, 1) := by decide +kernel
theorem dX1_toBeginning_127 : decode cX1_toBeginning 127 = .ok (.iconst 0, 1) := by decide +kernel
theorem dX1_toBeginning_128 : decode cX1_toBeginning 128 = .ok (.putfield 79, 3) := by decide +kernel
theorem dX1_toBeginning_131 : decode cX1_toBeginning 131 = .ok (.aload_n 0, 1) := by decide +kernel
theorem dX1_toBeginning_132 : decode cX1_toBeginning 132 = .ok (.iconst 0, 1) := by decide +kernel
theorem dX1_toBeginning_133 : decode cX1_toBeginning 133 = .ok (.putfield 82, 3) := by decide +kernel
theorem dX1_toBeginning_136 : decode cX1_toBeginning 136 = .ok (.aload_n 0, 1) := by decide +kernel
theorem dX1_toBeginning_137 : decode cX1_toBeginning 137 = .ok (.iconst (-1), 1) := by decide +kernel
theorem dX1_toBeginning_138 : decode cX1_toBeginning 138 = .ok (.putfield 85, 3) := by decide +kernel
theorem dX1_toBeginning_141 : decode cX1_toBeginning 141 = .ok (.aload_n 0, 1) := by decide +kernel
theorem dX1_toBeginning_142 : decode cX1_toBeginning 142 = .ok (.iconst 0, 1) := by decide +kernel
theorem dX1_toBeginning_143 : decode cX1_toBeginning 143 = .ok (.putfield 88, 3) := by decide +kernel
theorem dX1_toBeginning_146 : decode cX1_toBeginning 146 = .ok (.return_, 1) := by decide +kernel
theorem dX1_copyFrom_0 : decode cX1_copyFrom 0 = .ok (.aload_n 0, 1) := by decide +kernel
theorem dX1_copyFrom_1 : decode cX1_copyFrom 1 = .ok (.getfield 12, 3) := by decide +kernel
theorem dX1_copyFrom_4 : decode cX1_copyFrom 4 = .ok (.aload_n 1, 1) := by decide +kernel
theorem dX1_copyFrom_5 : decode cX1_copyFrom 5 = .ok (.getfield 12, 3) := by decide +kernel
theorem dX1_copyFrom_8 : decode cX1_copyFrom 8 = .ok (.invokevirtual 91, 3) := by decide +kernel
theorem dX1_copyFrom_11 : decode cX1_copyFrom 11 = .ok (.aload_n 1, 1) := by decide +kernel
theorem dX1_copyFrom_12 : decode cX1_copyFrom 12 = .ok (.getfield 18, 3) := by decide +kernel
theorem dX1_copyFrom_15 : decode cX1_copyFrom 15 = .ok (.iconst 0, 1) := by decide +kernel
theorem dX1_copyFrom_16 : decode cX1_copyFrom 16 = .ok (.aload_n 0, 1) := by decide +kernel
theorem dX1_copyFrom_17 : decode cX1_copyFrom 17 = .ok (.getfield 18, 3) := by decide +kernel
theorem dX1_copyFrom_20 : decode cX1_copyFrom 20 = .ok (.iconst 0, 1) := by decide +kernel
theorem dX1_copyFrom_21 : decode cX1_copyFrom 21 = .ok (.bipush 8, 2) := by decide +kernel
theorem dX1_copyFrom_23 : decode cX1_copyFrom 23 = .ok (.invokestatic 45, 3) := by decide +kernel
theorem dX1_copyFrom_26 : decode cX1_copyFrom 26 = .ok (.aload_n 1, 1) := by decide +kernel
theorem dX1_copyFrom_27 : decode cX1_copyFrom 27 = .ok (.getfield 22, 3) := by decide +kernel
theorem dX1_copyFrom_30 : decode cX1_copyFrom 30 = .ok (.iconst 0, 1) := by decide +kernel
theorem dX1_copyFrom_31 : decode cX1_copyFrom 31 = .ok (.aload_n 0, 1) := by decide +kernel
theorem dX1_copyFrom_32 : decode cX1_copyFrom 32 = .ok (.getfield 22, 3) := by decide +kernel
theorem dX1_copyFrom_35 : decode cX1_copyFrom 35 = .ok (.iconst 0, 1) := by decide +kernel
theorem dX1_copyFrom_36 : decode cX1_copyFrom 36 = .ok (.bipush 32, 2) := by decide +kernel
theorem dX1_copyFrom_38 : decode cX1_copyFrom 38 = .ok (.invokestatic 45, 3) := by decide +kernel
theorem dX1_copyFrom_41 : decode cX1_copyFrom 41 = .ok (.iconst 0, 1) := by decide +kernel
theorem dX1_copyFrom_42 : decode cX1_copyFrom 42 = .ok (.istore_n 2, 1) := by decide +kernel
theorem dX1_copyFrom_43 : decode cX1_copyFrom 43 = .ok (.iload_n 2, 1) := by decide +kernel
theorem dX1_copyFrom_44 : decode cX1_copyFrom 44 = .ok (.bipush 6, 2) := by decide +kernel
theorem dX1_copyFrom_46 : decode cX1_copyFrom 46 = .ok (.if_icmp .ge 24, 3) := by decide +kernel
theorem dX1_copyFrom_49 : decode cX1_copyFrom 49 = .ok (.aload_n 0, 1) := by decide +kernel
theorem dX1_copyFrom_50 : decode cX1_copyFrom 50 = .ok (.getfield 27, 3) := by decide +kernel
theorem dX1_copyFrom_53 : decode cX1_copyFrom 53 = .ok (.iload_n 2, 1) := by decide +kernel
theorem dX1_copyFrom_54 : decode cX1_copyFrom 54 = .ok (.aaload, 1) := by decide +kernel
theorem dX1_copyFrom_55 : decode cX1_copyFrom 55 = .ok (.aload_n 1, 1) := by decide +kernel
theorem dX1_copyFrom_56 : decode cX1_copyFrom 56 = .ok (.getfield 27, 3) := by decide +kernel
theorem dX1_copyFrom_59 : decode cX1_copyFrom 59 = .ok (.iload_n 2, 1) := by decide +kernel
theorem dX1_copyFrom_60 : decode cX1_copyFrom 60 = .ok (.aaload, 1) := by decide +kernel
theorem dX1_copyFrom_61 : decode cX1_copyFrom 61 = .ok (.invokevirtual 95, 3) := by decide +kernel
theorem dX1_copyFrom_64 : decode cX1_copyFrom 64 = .ok (.iinc 2 1, 3) := by decide +kernel
theorem dX1_copyFrom_67 : decode cX1_copyFrom 67 = .ok (.goto (-24), 3) := by decide +kernel
theorem dX1_copyFrom_70 : decode cX1_copyFrom 70 = .ok (.iconst 0, 1) := by decide +kernel
theorem dX1_copyFrom_71 : decode cX1_copyFrom 71 = .ok (.istore_n 2, 1) := by decide +kernel
theorem dX1_copyFrom_72 : decode cX1_copyFrom 72 = .ok (.iload_n 2, 1) := by decide +kernel
theorem dX1_copyFrom_73 : decode cX1_copyFrom 73 = .ok (.iconst 2, 1) := by decide +kernel
theorem dX1_copyFrom_74 : decode cX1_copyFrom 74 = .ok (.if_icmp .ge 24, 3) := by decide +kernel
theorem dX1_copyFrom_77 : decode cX1_copyFrom 77 = .ok (.aload_n 0, 1) := by decide +kernel
theorem dX1_copyFrom_78 : decode cX1_copyFrom 78 = .ok (.getfield 33, 3) := by decide +kernel
theorem dX1_copyFrom_81 : decode cX1_copyFrom 81 = .ok (.iload_n 2, 1) := by decide +kernel
theorem dX1_copyFrom_82 : decode cX1_copyFrom 82 = .ok (.aaload, 1) := by decide +kernel
theorem dX1_copyFrom_83 : decode cX1_copyFrom 83 = .ok (.aload_n 1, 1) := by decide +kernel
theorem dX1_copyFrom_84 : decode cX1_copyFrom 84 = .ok (.getfield 33, 3) := by decide +kernel
theorem dX1_copyFrom_87 : decode cX1_copyFrom 87 = .ok (.iload_n 2, 1) := by decide +kernel
theorem dX1_copyFrom_88 : decode cX1_copyFrom 88 = .ok (.aaload, 1) := by decide +kernel
theorem dX1_copyFrom_89 : decode cX1_copyFrom 89 = .ok (.invokevirtual 98, 3) := by decide +kernel
theorem dX1_copyFrom_92 : decode cX1_copyFrom 92 = .ok (.iinc 2 1, 3) := by decide +kernel
theorem dX1_copyFrom_95 : decode cX1_copyFrom 95 = .ok (.goto (-23), 3) := by decide +kernel
theorem dX1_copyFrom_98 : decode cX1_copyFrom 98 = .ok (.aload_n 0, 1) := by decide +kernel
theorem dX1_copyFrom_99 : decode cX1_copyFrom 99 = .ok (.aload_n 1, 1) := by decide +kernel
theorem dX1_copyFrom_100 : decode cX1_copyFrom 100 = .ok (.getfield 59, 3) := by decide +kernel
theorem dX1_copyFrom_103 : decode cX1_copyFrom 103 = .ok (.putfield 59, 3) := by decide +kernel
theorem dX1_copyFrom_106 : decode cX1_copyFrom 106 = .ok (.aload_n 0, 1) := by decide +kernel
theorem dX1_copyFrom_107 : decode cX1_copyFrom 107 = .ok (.aload_n 1, 1) := by decide +kernel
theorem dX1_copyFrom_108 : decode cX1_copyFrom 108 = .ok (.getfield 63, 3) := by decide +kernel
theorem dX1_copyFrom_111 : decode cX1_copyFrom 111 = .ok (.putfield 63, 3) := by decide +kernel
theorem dX1_copyFrom_114 : decode cX1_copyFrom 114 = .ok (.aload_n 0, 1) := by decide +kernel
theorem dX1_copyFrom_115 : decode cX1_copyFrom 115 = .ok (.aload_n 1, 1) := by decide +kernel
theorem dX1_copyFrom_116 : decode cX1_copyFrom 116 = .ok (.getfield 69, 3) := by decide +kernel
theorem dX1_copyFrom_119 : decode cX1_copyFrom 119 = .ok (.putfield 69, 3) := by decide +kernel
theorem dX1_copyFrom_122 : decode cX1_copyFrom 122 = .ok (.aload_n 0, 1) := by decide +kernel
theorem dX1_copyFrom_123 : decode cX1_copyFrom 123 = .ok (.aload_n 1, 1) := by decide +kernel
theorem dX1_copyFrom_124 : decode cX1_copyFrom 124 = .ok (.getfield 70, 3) := by decide +kernel
theorem dX1_copyFrom_127 : decode cX1_copyFrom 127 = .ok (.putfield 70, 3) := by decide +kernel
theorem dX1_copyFrom_130 : decode cX1_copyFrom 130 = .ok (.aload_n 0, 1) := by decide +kernel
theorem dX1_copyFrom_131 : decode cX1_copyFrom 131 = .ok (.aload_n 1, 1) := by decide +kernel
theorem dX1_copyFrom_132 : decode cX1_copyFrom 132 = .ok (.getfield 73, 3) := by decide +kernel
theorem dX1_copyFrom_135 : decode cX1_copyFrom 135 = .ok (.putfield 73, 3) := by decide +kernel
theorem dX1_copyFrom_138 : decode cX1_copyFrom 138 = .ok (.aload_n 0, 1) := by decide +kernel
theorem dX1_copyFrom_139 : decode cX1_copyFrom 139 = .ok (.aload_n 1, 1) := by decide +kernel
theorem dX1_copyFrom_140 : decode cX1_copyFrom 140 = .ok (.getfield 76, 3) := by decide +kernel
theorem dX1_copyFrom_143 : decode cX1_copyFrom 143 = .ok (.putfield 76, 3) := by decide +kernel
theorem dX1_copyFrom_146 : decode cX1_copyFrom 146 = .ok (.aload_n 0, 1) := by decide +kernel
theorem dX1_copyFrom_147 : decode cX1_copyFrom 147 = .ok (.aload_n 1, 1) := by decide +kernel
theorem dX1_copyFrom_148 : decode cX1_copyFrom 148 = .ok (.getfield 79, 3) := by decide +kernel
theorem dX1_copyFrom_151 : decode cX1_copyFrom 151 = .ok (.putfield 79, 3) := by decide +kernel
theorem dX1_copyFrom_154 : decode cX1_copyFrom 154 = .ok (.aload_n 0, 1) := by decide +kernel
theorem dX1_copyFrom_155 : decode cX1_copyFrom 155 = .ok (.aload_n 1, 1) := by decide +kernel
theorem dX1_copyFrom_156 : decode cX1_copyFrom 156 = .ok (.getfield 82, 3) := by decide +kernel
theorem dX1_copyFrom_159 : decode cX1_copyFrom 159 = .ok (.putfield 82, 3) := by decide +kernel
theorem dX1_copyFrom_162 : decode cX1_copyFrom 162 = .ok (.aload_n 0, 1) := by decide +kernel
theorem dX1_copyFrom_163 : decode cX1_copyFrom 163 = .ok (.aload_n 1, 1) := by decide +kernel
theorem dX1_copyFrom_164 : decode cX1_copyFrom 164 = .ok (.getfield 85, 3) := by decide +kernel
theorem dX1_copyFrom_167 : decode cX1_copyFrom 167 = .ok (.putfield 85, 3) := by decide +kernel
theorem dX1_copyFrom_170 : decode cX1_copyFrom 170 = .ok (.aload_n 0, 1) := by decide +kernel
theorem dX1_copyFrom_171 : decode cX1_copyFrom 171 = .ok (.aload_n 1, 1) := by decide +kernel
theorem dX1_copyFrom_172 : decode cX1_copyFrom 172 = .ok (.getfield 88, 3) := by decide +kernel
theorem dX1_copyFrom_175 : decode cX1_copyFrom 175 = .ok (.putfield 88, 3) := by decide +kernel
theorem dX1_copyFrom_178 : decode cX1_copyFrom 178 = .ok (.return_, 1) := by decide +kernel
theorem dX1_setRooms_0 : decode cX1_setRooms 0 = .ok (.iconst 0, 1) := by decide +kernel
theorem dX1_setRooms_1 : decode cX1_setRooms 1 = .ok (.iload_n 1, 1) := by decide +kernel
theorem dX1_setRooms_2 : decode cX1_setRooms 2 = .ok (.invokestatic 101, 3) := by decide +kernel
theorem dX1_setRooms_5 : decode cX1_setRooms 5 = .ok (.istore 4, 2) := by decide +kernel
theorem dX1_setRooms_7 : decode cX1_setRooms 7 = .ok (.iload 4, 2) := by decide +kernel
theorem dX1_setRooms_9 : decode cX1_setRooms 9 = .ok (.iload_n 2, 1) := by decide +kernel
theorem dX1_setRooms_10 : decode cX1_setRooms 10 = .ok (.if_icmp .gt 27, 3) := by decide +kernel
theorem dX1_setRooms_13 : decode cX1_setRooms 13 = .ok (.iload 4, 2) := by decide +kernel
theorem dX1_setRooms_15 : decode cX1_setRooms 15 = .ok (.bipush 6, 2) := by decide +kernel
theorem dX1_setRooms_17 : decode cX1_setRooms 17 = .ok (.if_icmp .ge 20, 3) := by decide +kernel
theorem dX1_setRooms_20 : decode cX1_setRooms 20 = .ok (.aload_n 0, 1) := by decide +kernel
theorem dX1_setRooms_21 : decode cX1_setRooms 21 = .ok (.getfield 27, 3) := by decide +kernel
theorem dX1_setRooms_24 : decode cX1_setRooms 24 = .ok (.iload 4, 2) := by decide +kernel
theorem dX1_setRooms_26 : decode cX1_setRooms 26 = .ok (.aaload, 1) := by decide +kernel
theorem dX1_setRooms_27 : decode cX1_setRooms 27 = .ok (.iload_n 3, 1) := by decide +kernel
theorem dX1_setRooms_28 : decode cX1_setRooms 28 = .ok (.putfield 107, 3) := by decide +kernel
theorem dX1_setRooms_31 : decode cX1_setRooms 31 = .ok (.iinc 4 1, 3) := by decide +kernel
theorem dX1_setRooms_34 : decode cX1_setRooms 34 = .ok (.goto (-27), 3) := by decide +kernel
theorem dX1_setRooms_37 : decode cX1_setRooms 37 = .ok (.return_, 1) := by decide +kernel
theorem dX1_timeIfDone_0 : decode cX1_timeIfDone 0 = .ok (.aload_n 0, 1) := by decide +kernel
theorem dX1_timeIfDone_1 : decode cX1_timeIfDone 1 = .ok (.getfield 63, 3) := by decide +kernel
theorem dX1_timeIfDone_4 : decode cX1_timeIfDone 4 = .ok (.iconst 1, 1) := by decide +kernel
theorem dX1_timeIfDone_5 : decode cX1_timeIfDone 5 = .ok (.if_icmp .ne 10, 3) := by decide +kernel
theorem dX1_timeIfDone_8 : decode cX1_timeIfDone 8 = .ok (.aload_n 0, 1) := by decide +kernel
theorem dX1_timeIfDone_9 : decode cX1_timeIfDone 9 = .ok (.getfield 59, 3) := by decide +kernel
theorem dX1_timeIfDone_12 : decode cX1_timeIfDone 12 = .ok (.goto 4, 3) := by decide +kernel
theorem dX1_timeIfDone_15 : decode cX1_timeIfDone 15 = .ok (.iconst (-1), 1) := by decide +kernel
theorem dX1_timeIfDone_16 : decode cX1_timeIfDone 16 = .ok (.ireturn, 1) := by decide +kernel
theorem dX1_goOn_0 : decode cX1_goOn 0 = .ok (.iconst 0, 1) := by decide +kernel
theorem dX1_goOn_1 : decode cX1_goOn 1 = .ok (.istore_n 2, 1) := by decide +kernel
theorem dX1_goOn_2 : decode cX1_goOn 2 = .ok (.iload_n 2, 1) := by decide +kernel
theorem dX1_goOn_3 : decode cX1_goOn 3 = .ok (.iload_n 1, 1) := by decide +kernel
theorem dX1_goOn_4 : decode cX1_goOn 4 = .ok (.if_icmp .ge 20, 3) := by decide +kernel
theorem dX1_goOn_7 : decode cX1_goOn 7 = .ok (.aload_n 0, 1) := by decide +kernel
theorem dX1_goOn_8 : decode cX1_goOn 8 = .ok (.getfield 63, 3) := by decide +kernel
theorem dX1_goOn_11 : decode cX1_goOn 11 = .ok (.ifCond .ne 13, 3) := by decide +kernel
theorem dX1_goOn_14 : decode cX1_goOn 14 = .ok (.aload_n 0, 1) := by decide +kernel
theorem dX1_goOn_15 : decode cX1_goOn 15 = .ok (.invokevirtual 110, 3) := by decide +kernel
theorem dX1_goOn_18 : decode cX1_goOn 18 = .ok (.iinc 2 1, 3) := by decide +kernel
theorem dX1_goOn_21 : decode cX1_goOn 21 = .ok (.goto (-19), 3) := by decide +kernel
theorem dX1_goOn_24 : decode cX1_goOn 24 = .ok (.iload_n 2, 1) := by decide +kernel
theorem dX1_goOn_25 : decode cX1_goOn 25 = .ok (.ireturn, 1) := by decide +kernel
theorem dX1_oneCycle_0 : decode cX1_oneCycle 0 = .ok (.aload_n 0, 1) := by decide +kernel
theorem dX1_oneCycle_1 : decode cX1_oneCycle 1 = .ok (.dup, 1) := by decide +kernel
theorem dX1_oneCycle_2 : decode cX1_oneCycle 2 = .ok (.getfield 59, 3) := by decide +kernel
theorem dX1_oneCycle_5 : decode cX1_oneCycle 5 = .ok (.iconst 1, 1) := by decide +kernel
theorem dX1_oneCycle_6 : decode cX1_oneCycle 6 = .ok (.iadd, 1) := by decide +kernel
theorem dX1_oneCycle_7 : decode cX1_oneCycle 7 = .ok (.putfield 59, 3) := by decide +kernel
theorem dX1_oneCycle_10 : decode cX1_oneCycle 10 = .ok (.aload_n 0, 1) := by decide +kernel
theorem dX1_oneCycle_11 : decode cX1_oneCycle 11 = .ok (.iconst 0, 1) := by decide +kernel
theorem dX1_oneCycle_12 : decode cX1_oneCycle 12 = .ok (.putfield 113, 3) := by decide +kernel
theorem dX1_oneCycle_15 : decode cX1_oneCycle 15 = .ok (.aload_n 0, 1) := by decide +kernel
theorem dX1_oneCycle_16 : decode cX1_oneCycle 16 = .ok (.invokevirtual 117, 3) := by decide +kernel
theorem dX1_oneCycle_19 : decode cX1_oneCycle 19 = .ok (.aload_n 0, 1) := by decide +kernel
theorem dX1_oneCycle_20 : decode cX1_oneCycle 20 = .ok (.invokevirtual 120, 3) := by decide +kernel
theorem dX1_oneCycle_23 : decode cX1_oneCycle 23 = .ok (.aload_n 0, 1) := by decide +kernel
theorem dX1_oneCycle_24 : decode cX1_oneCycle 24 = .ok (.invokevirtual 123, 3) := by decide +kernel
theorem dX1_oneCycle_27 : decode cX1_oneCycle 27 = .ok (.aload_n 0, 1) := by decide +kernel
theorem dX1_oneCycle_28 : decode cX1_oneCycle 28 = .ok (.invokevirtual 126, 3) := by decide +kernel
theorem dX1_oneCycle_31 : decode cX1_oneCycle 31 = .ok (.istore_n 1, 1) := by decide +kernel
theorem dX1_oneCycle_32 : decode cX1_oneCycle 32 = .ok (.aload_n 0, 1) := by decide +kernel
theorem dX1_oneCycle_33 : decode cX1_oneCycle 33 = .ok (.aload_n 0, 1) := by decide +kernel
theorem dX1_oneCycle_34 : decode cX1_oneCycle 34 = .ok (.getfield 70, 3) := by decide +kernel
theorem dX1_oneCycle_37 : decode cX1_oneCycle 37 = .ok (.iload_n 1, 1) := by decide +kernel
theorem dX1_oneCycle_38 : decode cX1_oneCycle 38 = .ok (.invokestatic 101, 3) := by decide +kernel
theorem dX1_oneCycle_41 : decode cX1_oneCycle 41 = .ok (.putfield 70, 3) := by decide +kernel
theorem dX1_oneCycle_44 : decode cX1_oneCycle 44 = .ok (.aload_n 0, 1) := by decide +kernel
theorem dX1_oneCycle_45 : decode cX1_oneCycle 45 = .ok (.aload_n 0, 1) := by decide +kernel
theorem dX1_oneCycle_46 : decode cX1_oneCycle 46 = .ok (.getfield 73, 3) := by decide +kernel
theorem dX1_oneCycle_49 : decode cX1_oneCycle 49 = .ok (.iload_n 1, 1) := by decide +kernel
theorem dX1_oneCycle_50 : decode cX1_oneCycle 50 = .ok (.invokestatic 130, 3) := by decide +kernel
theorem dX1_oneCycle_53 : decode cX1_oneCycle 53 = .ok (.putfield 73, 3) := by decide +kernel
theorem dX1_oneCycle_56 : decode cX1_oneCycle 56 = .ok (.aload_n 0, 1) := by decide +kernel
theorem dX1_oneCycle_57 : decode cX1_oneCycle 57 = .ok (.dup, 1) := by decide +kernel
theorem dX1_oneCycle_58 : decode cX1_oneCycle 58 = .ok (.getfield 76, 3) := by decide +kernel
theorem dX1_oneCycle_61 : decode cX1_oneCycle 61 = .ok (.iload_n 1, 1) := by decide +kernel
theorem dX1_oneCycle_62 : decode cX1_oneCycle 62 = .ok (.iadd, 1) := by decide +kernel
theorem dX1_oneCycle_63 : decode cX1_oneCycle 63 = .ok (.putfield 76, 3) := by decide +kernel
theorem dX1_oneCycle_66 : decode cX1_oneCycle 66 = .ok (.aload_n 0, 1) := by decide +kernel
theorem dX1_oneCycle_67 : decode cX1_oneCycle 67 = .ok (.aload_n 0, 1) := by decide +kernel
theorem dX1_oneCycle_68 : decode cX1_oneCycle 68 = .ok (.invokevirtual 133, 3) := by decide +kernel
theorem dX1_oneCycle_71 : decode cX1_oneCycle 71 = .ok (.putfield 63, 3) := by decide +kernel
theorem dX1_oneCycle_74 : decode cX1_oneCycle 74 = .ok (.return_, 1) := by decide +kernel
theorem dX1_slip_0 : decode cX1_slip 0 = .ok (.aload_n 0, 1) := by decide +kernel
theorem dX1_slip_1 : decode cX1_slip 1 = .ok (.getfield 33, 3) := by decide +kernel
theorem dX1_slip_4 : decode cX1_slip 4 = .ok (.iconst 0, 1) := by decide +kernel
theorem dX1_slip_5 : decode cX1_slip 5 = .ok (.aaload, 1) := by decide +kernel
theorem dX1_slip_6 : decode cX1_slip 6 = .ok (.getfield 136, 3) := by decide +kernel
theorem dX1_slip_9 : decode cX1_slip 9 = .ok (.aload_n 0, 1) := by decide +kernel
theorem dX1_slip_10 : decode cX1_slip 10 = .ok (.getfield 33, 3) := by decide +kernel
theorem dX1_slip_13 : decode cX1_slip 13 = .ok (.iconst 1, 1) := by decide +kernel
theorem dX1_slip_14 : decode cX1_slip 14 = .ok (.aaload, 1) := by decide +kernel
theorem dX1_slip_15 : decode cX1_slip 15 = .ok (.getfield 136, 3) := by decide +kernel
theorem dX1_slip_18 : decode cX1_slip 18 = .ok (.isub, 1) := by decide +kernel
theorem dX1_slip_19 : decode cX1_slip 19 = .ok (.ireturn, 1) := by decide +kernel
theorem dX1_outcomeNow_0 : decode cX1_outcomeNow 0 = .ok (.aload_n 0, 1) := by decide +kernel
theorem dX1_outcomeNow_1 : decode cX1_outcomeNow 1 = .ok (.getfield 33, 3) := by decide +kernel
theorem dX1_outcomeNow_4 : decode cX1_outcomeNow 4 = .ok (.iconst 0, 1) := by decide +kernel
theorem dX1_outcomeNow_5 : decode cX1_outcomeNow 5 = .ok (.aaload, 1) := by decide +kernel
theorem dX1_outcomeNow_6 : decode cX1_outcomeNow 6 = .ok (.getfield 139, 3) := by decide +kernel
theorem dX1_outcomeNow_9 : decode cX1_outcomeNow 9 = .ok (.ifCond .eq 29, 3) := by decide +kernel
theorem dX1_outcomeNow_12 : decode cX1_outcomeNow 12 = .ok (.aload_n 0, 1) := by decide +kernel
theorem dX1_outcomeNow_13 : decode cX1_outcomeNow 13 = .ok (.getfield 33, 3) := by decide +kernel
theorem dX1_outcomeNow_16 : decode cX1_outcomeNow 16 = .ok (.iconst 1, 1) := by decide +kernel
theorem dX1_outcomeNow_17 : decode cX1_outcomeNow 17 = .ok (.aaload, 1) := by decide +kernel
theorem dX1_outcomeNow_18 : decode cX1_outcomeNow 18 = .ok (.getfield 139, 3) := by decide +kernel
theorem dX1_outcomeNow_21 : decode cX1_outcomeNow 21 = .ok (.ifCond .eq 17, 3) := by decide +kernel
theorem dX1_outcomeNow_24 : decode cX1_outcomeNow 24 = .ok (.aload_n 0, 1) := by decide +kernel
theorem dX1_outcomeNow_25 : decode cX1_outcomeNow 25 = .ok (.getfield 27, 3) := by decide +kernel
theorem dX1_outcomeNow_28 : decode cX1_outcomeNow 28 = .ok (.iconst 1, 1) := by decide +kernel
theorem dX1_outcomeNow_29 : decode cX1_outcomeNow 29 = .ok (.aaload, 1) := by decide +kernel
theorem dX1_outcomeNow_30 : decode cX1_outcomeNow 30 = .ok (.getfield 142, 3) := by decide +kernel
theorem dX1_outcomeNow_33 : decode cX1_outcomeNow 33 = .ok (.ifCond .ne 5, 3) := by decide +kernel
theorem dX1_outcomeNow_36 : decode cX1_outcomeNow 36 = .ok (.iconst 1, 1) := by decide +kernel
theorem dX1_outcomeNow_37 : decode cX1_outcomeNow 37 = .ok (.ireturn, 1) := by decide +kernel
theorem dX1_outcomeNow_38 : decode cX1_outcomeNow 38 = .ok (.aload_n 0, 1) := by decide +kernel
theorem dX1_outcomeNow_39 : decode cX1_outcomeNow 39 = .ok (.getfield 113, 3) := by decide +kernel
theorem dX1_outcomeNow_42 : decode cX1_outcomeNow 42 = .ok (.ifCond .ne 12, 3) := by decide +kernel
theorem dX1_outcomeNow_45 : decode cX1_outcomeNow 45 = .ok (.aload_n 0, 1) := by decide +kernel
theorem dX1_outcomeNow_46 : decode cX1_outcomeNow 46 = .ok (.invokevirtual 145, 3) := by decide +kernel
theorem dX1_outcomeNow_49 : decode cX1_outcomeNow 49 = .ok (.ifCond .eq 5, 3) := by decide +kernel
theorem dX1_outcomeNow_52 : decode cX1_outcomeNow 52 = .ok (.iconst 2, 1) := by decide +kernel
theorem dX1_outcomeNow_53 : decode cX1_outcomeNow 53 = .ok (.ireturn, 1) := by decide +kernel
theorem dX1_outcomeNow_54 : decode cX1_outcomeNow 54 = .ok (.aload_n 0, 1) := by decide +kernel
theorem dX1_outcomeNow_55 : decode cX1_outcomeNow 55 = .ok (.getfield 59, 3) := by decide +kernel
theorem dX1_outcomeNow_58 : decode cX1_outcomeNow 58 = .ok (.sipush 999, 3) := by decide +kernel
theorem dX1_outcomeNow_61 : decode cX1_outcomeNow 61 = .ok (.if_icmp .lt 7, 3) := by decide +kernel
theorem dX1_outcomeNow_64 : decode cX1_outcomeNow 64 = .ok (.iconst 3, 1) := by decide +kernel
theorem dX1_outcomeNow_65 : decode cX1_outcomeNow 65 = .ok (.goto 4, 3) := by decide +kernel
theorem dX1_outcomeNow_68 : decode cX1_outcomeNow 68 = .ok (.iconst 0, 1) := by decide +kernel
theorem dX1_outcomeNow_69 : decode cX1_outcomeNow 69 = .ok (.ireturn, 1) := by decide +kernel
theorem dX1_allLoadsHaveCome_0 : decode cX1_allLoadsHaveCome 0 = .ok (.iconst 0, 1) := by decide +kernel
theorem dX1_allLoadsHaveCome_1 : decode cX1_allLoadsHaveCome 1 = .ok (.istore_n 1, 1) := by decide +kernel
theorem dX1_allLoadsHaveCome_2 : decode cX1_allLoadsHaveCome 2 = .ok (.iload_n 1, 1) := by decide +kernel
theorem dX1_allLoadsHaveCome_3 : decode cX1_allLoadsHaveCome 3 = .ok (.aload_n 0, 1) := by decide +kernel
theorem dX1_allLoadsHaveCome_4 : decode cX1_allLoadsHaveCome 4 = .ok (.getfield 27, 3) := by decide +kernel
theorem dX1_allLoadsHaveCome_7 : decode cX1_allLoadsHaveCome 7 = .ok (.iconst 0, 1) := by decide +kernel
theorem dX1_allLoadsHaveCome_8 : decode cX1_allLoadsHaveCome 8 = .ok (.aaload, 1) := by decide +kernel
theorem dX1_allLoadsHaveCome_9 : decode cX1_allLoadsHaveCome 9 = .ok (.getfield 142, 3) := by decide +kernel
theorem dX1_allLoadsHaveCome_12 : decode cX1_allLoadsHaveCome 12 = .ok (.if_icmp .ge 19, 3) := by decide +kernel
theorem dX1_allLoadsHaveCome_15 : decode cX1_allLoadsHaveCome 15 = .ok (.aload_n 0, 1) := by decide +kernel
theorem dX1_allLoadsHaveCome_16 : decode cX1_allLoadsHaveCome 16 = .ok (.iload_n 1, 1) := by decide +kernel
theorem dX1_allLoadsHaveCome_17 : decode cX1_allLoadsHaveCome 17 = .ok (.invokevirtual 149, 3) := by decide +kernel
theorem dX1_allLoadsHaveCome_20 : decode cX1_allLoadsHaveCome 20 = .ok (.ifCond .ne 5, 3) := by decide +kernel
theorem dX1_allLoadsHaveCome_23 : decode cX1_allLoadsHaveCome 23 = .ok (.iconst 0, 1) := by decide +kernel
theorem dX1_allLoadsHaveCome_24 : decode cX1_allLoadsHaveCome 24 = .ok (.ireturn, 1) := by decide +kernel
theorem dX1_allLoadsHaveCome_25 : decode cX1_allLoadsHaveCome 25 = .ok (.iinc 1 1, 3) := by decide +kernel
theorem dX1_allLoadsHaveCome_28 : decode cX1_allLoadsHaveCome 28 = .ok (.goto (-26), 3) := by decide +kernel
theorem dX1_allLoadsHaveCome_31 : decode cX1_allLoadsHaveCome 31 = .ok (.iconst 1, 1) := by decide +kernel
theorem dX1_allLoadsHaveCome_32 : decode cX1_allLoadsHaveCome 32 = .ok (.ireturn, 1) := by decide +kernel
theorem dX1_hasCome_0 : decode cX1_hasCome 0 = .ok (.iload_n 1, 1) := by decide +kernel
theorem dX1_hasCome_1 : decode cX1_hasCome 1 = .ok (.aload_n 0, 1) := by decide +kernel
theorem dX1_hasCome_2 : decode cX1_hasCome 2 = .ok (.getfield 27, 3) := by decide +kernel
theorem dX1_hasCome_5 : decode cX1_hasCome 5 = .ok (.iconst 0, 1) := by decide +kernel
theorem dX1_hasCome_6 : decode cX1_hasCome 6 = .ok (.aaload, 1) := by decide +kernel
theorem dX1_hasCome_7 : decode cX1_hasCome 7 = .ok (.getfield 142, 3) := by decide +kernel
theorem dX1_hasCome_10 : decode cX1_hasCome 10 = .ok (.if_icmp .ge 29, 3) := by decide +kernel
theorem dX1_hasCome_13 : decode cX1_hasCome 13 = .ok (.aload_n 0, 1) := by decide +kernel
theorem dX1_hasCome_14 : decode cX1_hasCome 14 = .ok (.getfield 59, 3) := by decide +kernel
theorem dX1_hasCome_17 : decode cX1_hasCome 17 = .ok (.aload_n 0, 1) := by decide +kernel
theorem dX1_hasCome_18 : decode cX1_hasCome 18 = .ok (.getfield 27, 3) := by decide +kernel
theorem dX1_hasCome_21 : decode cX1_hasCome 21 = .ok (.iconst 0, 1) := by decide +kernel
theorem dX1_hasCome_22 : decode cX1_hasCome 22 = .ok (.aaload, 1) := by decide +kernel
theorem dX1_hasCome_23 : decode cX1_hasCome 23 = .ok (.iload_n 1, 1) := by decide +kernel
theorem dX1_hasCome_24 : decode cX1_hasCome 24 = .ok (.invokevirtual 153, 3) := by decide +kernel
theorem dX1_hasCome_27 : decode cX1_hasCome 27 = .ok (.isub, 1) := by decide +kernel
theorem dX1_hasCome_28 : decode cX1_hasCome 28 = .ok (.aload_n 0, 1) := by decide +kernel
theorem dX1_hasCome_29 : decode cX1_hasCome 29 = .ok (.getfield 69, 3) := by decide +kernel
theorem dX1_hasCome_32 : decode cX1_hasCome 32 = .ok (.if_icmp .lt 7, 3) := by decide +kernel
theorem dX1_hasCome_35 : decode cX1_hasCome 35 = .ok (.iconst 1, 1) := by decide +kernel
theorem dX1_hasCome_36 : decode cX1_hasCome 36 = .ok (.goto 4, 3) := by decide +kernel
theorem dX1_hasCome_39 : decode cX1_hasCome 39 = .ok (.iconst 0, 1) := by decide +kernel
theorem dX1_hasCome_40 : decode cX1_hasCome 40 = .ok (.ireturn, 1) := by decide +kernel
theorem dX1_writeOne_0 : decode cX1_writeOne 0 = .ok (.aload_n 0, 1) := by decide +kernel
theorem dX1_writeOne_1 : decode cX1_writeOne 1 = .ok (.getfield 27, 3) := by decide +kernel
theorem dX1_writeOne_4 : decode cX1_writeOne 4 = .ok (.iconst 1, 1) := by decide +kernel
theorem dX1_writeOne_5 : decode cX1_writeOne 5 = .ok (.aaload, 1) := by decide +kernel
theorem dX1_writeOne_6 : decode cX1_writeOne 6 = .ok (.getfield 142, 3) := by decide +kernel
theorem dX1_writeOne_9 : decode cX1_writeOne 9 = .ok (.ifCond .ne 4, 3) := by decide +kernel
theorem dX1_writeOne_12 : decode cX1_writeOne 12 = .ok (.return_, 1) := by decide +kernel
theorem dX1_writeOne_13 : decode cX1_writeOne 13 = .ok (.aload_n 0, 1) := by decide +kernel
theorem dX1_writeOne_14 : decode cX1_writeOne 14 = .ok (.getfield 27, 3) := by decide +kernel
theorem dX1_writeOne_17 : decode cX1_writeOne 17 = .ok (.iconst 1, 1) := by decide +kernel
theorem dX1_writeOne_18 : decode cX1_writeOne 18 = .ok (.aaload, 1) := by decide +kernel
theorem dX1_writeOne_19 : decode cX1_writeOne 19 = .ok (.iconst 0, 1) := by decide +kernel
theorem dX1_writeOne_20 : decode cX1_writeOne 20 = .ok (.invokevirtual 153, 3) := by decide +kernel
theorem dX1_writeOne_23 : decode cX1_writeOne 23 = .ok (.istore_n 1, 1) := by decide +kernel
theorem dX1_writeOne_24 : decode cX1_writeOne 24 = .ok (.iload_n 1, 1) := by decide +kernel
theorem dX1_writeOne_25 : decode cX1_writeOne 25 = .ok (.iconst (-1), 1) := by decide +kernel
theorem dX1_writeOne_26 : decode cX1_writeOne 26 = .ok (.if_icmp .ne 26, 3) := by decide +kernel
theorem dX1_writeOne_29 : decode cX1_writeOne 29 = .ok (.aload_n 0, 1) := by decide +kernel
theorem dX1_writeOne_30 : decode cX1_writeOne 30 = .ok (.getfield 27, 3) := by decide +kernel
theorem dX1_writeOne_33 : decode cX1_writeOne 33 = .ok (.iconst 2, 1) := by decide +kernel
theorem dX1_writeOne_34 : decode cX1_writeOne 34 = .ok (.aaload, 1) := by decide +kernel
theorem dX1_writeOne_35 : decode cX1_writeOne 35 = .ok (.getfield 142, 3) := by decide +kernel
theorem dX1_writeOne_38 : decode cX1_writeOne 38 = .ok (.ifCond .ne 4, 3) := by decide +kernel
theorem dX1_writeOne_41 : decode cX1_writeOne 41 = .ok (.return_, 1) := by decide +kernel
theorem dX1_writeOne_42 : decode cX1_writeOne 42 = .ok (.aload_n 0, 1) := by decide +kernel
theorem dX1_writeOne_43 : decode cX1_writeOne 43 = .ok (.getfield 27, 3) := by decide +kernel
theorem dX1_writeOne_46 : decode cX1_writeOne 46 = .ok (.iconst 2, 1) := by decide +kernel
theorem dX1_writeOne_47 : decode cX1_writeOne 47 = .ok (.aaload, 1) := by decide +kernel
theorem dX1_writeOne_48 : decode cX1_writeOne 48 = .ok (.invokevirtual 157, 3) := by decide +kernel
theorem dX1_writeOne_51 : decode cX1_writeOne 51 = .ok (.istore_n 1, 1) := by decide +kernel
theorem dX1_writeOne_52 : decode cX1_writeOne 52 = .ok (.aload_n 0, 1) := by decide +kernel
theorem dX1_writeOne_53 : decode cX1_writeOne 53 = .ok (.getfield 22, 3) := by decide +kernel
theorem dX1_writeOne_56 : decode cX1_writeOne 56 = .ok (.aload_n 0, 1) := by decide +kernel
theorem dX1_writeOne_57 : decode cX1_writeOne 57 = .ok (.getfield 27, 3) := by decide +kernel
theorem dX1_writeOne_60 : decode cX1_writeOne 60 = .ok (.iconst 1, 1) := by decide +kernel
theorem dX1_writeOne_61 : decode cX1_writeOne 61 = .ok (.aaload, 1) := by decide +kernel
theorem dX1_writeOne_62 : decode cX1_writeOne 62 = .ok (.invokevirtual 157, 3) := by decide +kernel
theorem dX1_writeOne_65 : decode cX1_writeOne 65 = .ok (.iload_n 1, 1) := by decide +kernel
theorem dX1_writeOne_66 : decode cX1_writeOne 66 = .ok (.iastore, 1) := by decide +kernel
theorem dX1_writeOne_67 : decode cX1_writeOne 67 = .ok (.aload_n 0, 1) := by decide +kernel
theorem dX1_writeOne_68 : decode cX1_writeOne 68 = .ok (.dup, 1) := by decide +kernel
theorem dX1_writeOne_69 : decode cX1_writeOne 69 = .ok (.getfield 82, 3) := by decide +kernel
theorem dX1_writeOne_72 : decode cX1_writeOne 72 = .ok (.iconst 1, 1) := by decide +kernel
theorem dX1_writeOne_73 : decode cX1_writeOne 73 = .ok (.iadd, 1) := by decide +kernel
theorem dX1_writeOne_74 : decode cX1_writeOne 74 = .ok (.putfield 82, 3) := by decide +kernel
theorem dX1_writeOne_77 : decode cX1_writeOne 77 = .ok (.aload_n 0, 1) := by decide +kernel
theorem dX1_writeOne_78 : decode cX1_writeOne 78 = .ok (.iconst 1, 1) := by decide +kernel
theorem dX1_writeOne_79 : decode cX1_writeOne 79 = .ok (.putfield 113, 3) := by decide +kernel
theorem dX1_writeOne_82 : decode cX1_writeOne 82 = .ok (.return_, 1) := by decide +kernel
theorem dX1_runnerTries_0 : decode cX1_runnerTries 0 = .ok (.aload_n 0, 1) := by decide +kernel
theorem dX1_runnerTries_1 : decode cX1_runnerTries 1 = .ok (.getfield 33, 3) := by decide +kernel
theorem dX1_runnerTries_4 : decode cX1_runnerTries 4 = .ok (.iconst 0, 1) := by decide +kernel
theorem dX1_runnerTries_5 : decode cX1_runnerTries 5 = .ok (.aaload, 1) := by decide +kernel
theorem dX1_runnerTries_6 : decode cX1_runnerTries 6 = .ok (.astore_n 1, 1) := by decide +kernel
theorem dX1_runnerTries_7 : decode cX1_runnerTries 7 = .ok (.aload_n 1, 1) := by decide +kernel
theorem dX1_runnerTries_8 : decode cX1_runnerTries 8 = .ok (.iconst 0, 1) := by decide +kernel
theorem dX1_runnerTries_9 : decode cX1_runnerTries 9 = .ok (.invokevirtual 160, 3) := by decide +kernel
theorem dX1_runnerTries_12 : decode cX1_runnerTries 12 = .ok (.aload_n 1, 1) := by decide +kernel
theorem dX1_runnerTries_13 : decode cX1_runnerTries 13 = .ok (.getfield 139, 3) := by decide +kernel
theorem dX1_runnerTries_16 : decode cX1_runnerTries 16 = .ok (.ifCond .eq 4, 3) := by decide +kernel
theorem dX1_runnerTries_19 : decode cX1_runnerTries 19 = .ok (.return_, 1) := by decide +kernel
theorem dX1_runnerTries_20 : decode cX1_runnerTries 20 = .ok (.aload_n 1, 1) := by decide +kernel
theorem dX1_runnerTries_21 : decode cX1_runnerTries 21 = .ok (.aload_n 0, 1) := by decide +kernel
theorem dX1_runnerTries_22 : decode cX1_runnerTries 22 = .ok (.getfield 12, 3) := by decide +kernel
theorem dX1_runnerTries_25 : decode cX1_runnerTries 25 = .ok (.invokevirtual 163, 3) := by decide +kernel
theorem dX1_runnerTries_28 : decode cX1_runnerTries 28 = .ok (.aload_n 0, 1) := by decide +kernel
theorem dX1_runnerTries_29 : decode cX1_runnerTries 29 = .ok (.getfield 12, 3) := by decide +kernel
theorem dX1_runnerTries_32 : decode cX1_runnerTries 32 = .ok (.getfield 166, 3) := by decide +kernel
theorem dX1_runnerTries_35 : decode cX1_runnerTries 35 = .ok (.aload_n 1, 1) := by decide +kernel
theorem dX1_runnerTries_36 : decode cX1_runnerTries 36 = .ok (.getfield 170, 3) := by decide +kernel
theorem dX1_runnerTries_39 : decode cX1_runnerTries 39 = .ok (.aaload, 1) := by decide +kernel
theorem dX1_runnerTries_40 : decode cX1_runnerTries 40 = .ok (.astore_n 2, 1) := by decide +kernel
theorem dX1_runnerTries_41 : decode cX1_runnerTries 41 = .ok (.aload_n 1, 1) := by decide +kernel
theorem dX1_runnerTries_42 : decode cX1_runnerTries 42 = .ok (.aload_n 0, 1) := by decide +kernel
theorem dX1_runnerTries_43 : decode cX1_runnerTries 43 = .ok (.getfield 12, 3) := by decide +kernel
theorem dX1_runnerTries_46 : decode cX1_runnerTries 46 = .ok (.invokevirtual 173, 3) := by decide +kernel
theorem dX1_runnerTries_49 : decode cX1_runnerTries 49 = .ok (.istore_n 3, 1) := by decide +kernel
theorem dX1_runnerTries_50 : decode cX1_runnerTries 50 = .ok (.aload_n 0, 1) := by decide +kernel
theorem dX1_runnerTries_51 : decode cX1_runnerTries 51 = .ok (.iload_n 3, 1) := by decide +kernel
theorem dX1_runnerTries_52 : decode cX1_runnerTries 52 = .ok (.aload_n 2, 1) := by decide +kernel
theorem dX1_runnerTries_53 : decode cX1_runnerTries 53 = .ok (.invokevirtual 177, 3) := by decide +kernel
theorem dX1_runnerTries_56 : decode cX1_runnerTries 56 = .ok (.istore 4, 2) := by decide +kernel
theorem dX1_runnerTries_58 : decode cX1_runnerTries 58 = .ok (.aload_n 1, 1) := by decide +kernel
theorem dX1_runnerTries_59 : decode cX1_runnerTries 59 = .ok (.iload 4, 2) := by decide +kernel
theorem dX1_runnerTries_61 : decode cX1_runnerTries 61 = .ok (.invokevirtual 160, 3) := by decide +kernel
theorem dX1_runnerTries_64 : decode cX1_runnerTries 64 = .ok (.iload 4, 2) := by decide +kernel
theorem dX1_runnerTries_66 : decode cX1_runnerTries 66 = .ok (.iconst 5, 1) := by decide +kernel
theorem dX1_runnerTries_67 : decode cX1_runnerTries 67 = .ok (.if_icmp .lt 13, 3) := by decide +kernel
theorem dX1_runnerTries_70 : decode cX1_runnerTries 70 = .ok (.aload_n 0, 1) := by decide +kernel
theorem dX1_runnerTries_71 : decode cX1_runnerTries 71 = .ok (.dup, 1) := by decide +kernel
theorem dX1_runnerTries_72 : decode cX1_runnerTries 72 = .ok (.getfield 79, 3) := by decide +kernel
theorem dX1_runnerTries_75 : decode cX1_runnerTries 75 = .ok (.iconst 1, 1) := by decide +kernel
theorem dX1_runnerTries_76 : decode cX1_runnerTries 76 = .ok (.iadd, 1) := by decide +kernel
theorem dX1_runnerTries_77 : decode cX1_runnerTries 77 = .ok (.putfield 79, 3) := by decide +kernel
theorem dX1_runnerTries_80 : decode cX1_runnerTries 80 = .ok (.iload 4, 2) := by decide +kernel
theorem dX1_runnerTries_82 : decode cX1_runnerTries 82 = .ok (.ifCond .ne 17, 3) := by decide +kernel
theorem dX1_runnerTries_85 : decode cX1_runnerTries 85 = .ok (.aload_n 1, 1) := by decide +kernel
theorem dX1_runnerTries_86 : decode cX1_runnerTries 86 = .ok (.aload_n 0, 1) := by decide +kernel
theorem dX1_runnerTries_87 : decode cX1_runnerTries 87 = .ok (.getfield 12, 3) := by decide +kernel
theorem dX1_runnerTries_90 : decode cX1_runnerTries 90 = .ok (.aload_n 0, 1) := by decide +kernel
theorem dX1_runnerTries_91 : decode cX1_runnerTries 91 = .ok (.iload_n 3, 1) := by decide +kernel
theorem dX1_runnerTries_92 : decode cX1_runnerTries 92 = .ok (.aload_n 2, 1) := by decide +kernel
theorem dX1_runnerTries_93 : decode cX1_runnerTries 93 = .ok (.invokevirtual 181, 3) := by decide +kernel
theorem dX1_runnerTries_96 : decode cX1_runnerTries 96 = .ok (.invokevirtual 184, 3) := by decide +kernel
theorem dX1_runnerTries_99 : decode cX1_runnerTries 99 = .ok (.aload_n 0, 1) := by decide +kernel
theorem dX1_runnerTries_100 : decode cX1_runnerTries 100 = .ok (.dup, 1) := by decide +kernel
theorem dX1_runnerTries_101 : decode cX1_runnerTries 101 = .ok (.getfield 113, 3) := by decide +kernel
theorem dX1_runnerTries_104 : decode cX1_runnerTries 104 = .ok (.iload 4, 2) := by decide +kernel
theorem dX1_runnerTries_106 : decode cX1_runnerTries 106 = .ok (.ifCond .eq 10, 3) := by decide +kernel
theorem dX1_runnerTries_109 : decode cX1_runnerTries 109 = .ok (.iload 4, 2) := by decide +kernel
theorem dX1_runnerTries_111 : decode cX1_runnerTries 111 = .ok (.bipush 7, 2) := by decide +kernel
theorem dX1_runnerTries_113 : decode cX1_runnerTries 113 = .ok (.if_icmp .ne 7, 3) := by decide +kernel
theorem dX1_runnerTries_116 : decode cX1_runnerTries 116 = .ok (.iconst 1, 1) := by decide +kernel
theorem dX1_runnerTries_117 : decode cX1_runnerTries 117 = .ok (.goto 4, 3) := by decide +kernel
theorem dX1_runnerTries_120 : decode cX1_runnerTries 120 = .ok (.iconst 0, 1) := by decide +kernel
theorem dX1_runnerTries_121 : decode cX1_runnerTries 121 = .ok (.ior, 1) := by decide +kernel
theorem dX1_runnerTries_122 : decode cX1_runnerTries 122 = .ok (.putfield 113, 3) := by decide +kernel
theorem dX1_runnerTries_125 : decode cX1_runnerTries 125 = .ok (.return_, 1) := by decide +kernel
theorem dX1_runnerWaitsFor_0 : decode cX1_runnerWaitsFor 0 = .ok (.iload_n 1, 1) := by decide +kernel
theorem dX1_runnerWaitsFor_1 : decode cX1_runnerWaitsFor 1 = .ok (.tableswitch 174 9 18 #[120, 96, 55, 174, 102, 102, 174, 138, 174, 156], 55) := by decide +kernel
theorem dX1_runnerWaitsFor_56 : decode cX1_runnerWaitsFor 56 = .ok (.aload_n 0, 1) := by decide +kernel
theorem dX1_runnerWaitsFor_57 : decode cX1_runnerWaitsFor 57 = .ok (.getfield 27, 3) := by decide +kernel
theorem dX1_runnerWaitsFor_60 : decode cX1_runnerWaitsFor 60 = .ok (.iconst 1, 1) := by decide +kernel
theorem dX1_runnerWaitsFor_61 : decode cX1_runnerWaitsFor 61 = .ok (.aaload, 1) := by decide +kernel
theorem dX1_runnerWaitsFor_62 : decode cX1_runnerWaitsFor 62 = .ok (.aload_n 2, 1) := by decide +kernel
theorem dX1_runnerWaitsFor_63 : decode cX1_runnerWaitsFor 63 = .ok (.aload_n 0, 1) := by decide +kernel
theorem dX1_runnerWaitsFor_64 : decode cX1_runnerWaitsFor 64 = .ok (.getfield 18, 3) := by decide +kernel
theorem dX1_runnerWaitsFor_67 : decode cX1_runnerWaitsFor 67 = .ok (.invokevirtual 188, 3) := by decide +kernel
theorem dX1_runnerWaitsFor_70 : decode cX1_runnerWaitsFor 70 = .ok (.invokevirtual 194, 3) := by decide +kernel
theorem dX1_runnerWaitsFor_73 : decode cX1_runnerWaitsFor 73 = .ok (.ifCond .eq 6, 3) := by decide +kernel
theorem dX1_runnerWaitsFor_76 : decode cX1_runnerWaitsFor 76 = .ok (.bipush 6, 2) := by decide +kernel
theorem dX1_runnerWaitsFor_78 : decode cX1_runnerWaitsFor 78 = .ok (.ireturn, 1) := by decide +kernel
theorem dX1_runnerWaitsFor_79 : decode cX1_runnerWaitsFor 79 = .ok (.aload_n 0, 1) := by decide +kernel
theorem dX1_runnerWaitsFor_80 : decode cX1_runnerWaitsFor 80 = .ok (.getfield 27, 3) := by decide +kernel
theorem dX1_runnerWaitsFor_83 : decode cX1_runnerWaitsFor 83 = .ok (.iconst 0, 1) := by decide +kernel
theorem dX1_runnerWaitsFor_84 : decode cX1_runnerWaitsFor 84 = .ok (.aaload, 1) := by decide +kernel
theorem dX1_runnerWaitsFor_85 : decode cX1_runnerWaitsFor 85 = .ok (.invokevirtual 197, 3) := by decide +kernel
theorem dX1_runnerWaitsFor_88 : decode cX1_runnerWaitsFor 88 = .ok (.ifCond .eq 7, 3) := by decide +kernel
theorem dX1_runnerWaitsFor_91 : decode cX1_runnerWaitsFor 91 = .ok (.iconst 1, 1) := by decide +kernel
theorem dX1_runnerWaitsFor_92 : decode cX1_runnerWaitsFor 92 = .ok (.goto 4, 3) := by decide +kernel
theorem dX1_runnerWaitsFor_95 : decode cX1_runnerWaitsFor 95 = .ok (.iconst 0, 1) := by decide +kernel
theorem dX1_runnerWaitsFor_96 : decode cX1_runnerWaitsFor 96 = .ok (.ireturn, 1) := by decide +kernel
theorem dX1_runnerWaitsFor_97 : decode cX1_runnerWaitsFor 97 = .ok (.aload_n 0, 1) := by decide +kernel
theorem dX1_runnerWaitsFor_98 : decode cX1_runnerWaitsFor 98 = .ok (.aload_n 2, 1) := by decide +kernel
theorem dX1_runnerWaitsFor_99 : decode cX1_runnerWaitsFor 99 = .ok (.invokevirtual 200, 3) := by decide +kernel
theorem dX1_runnerWaitsFor_102 : decode cX1_runnerWaitsFor 102 = .ok (.ireturn, 1) := by decide +kernel
theorem dX1_runnerWaitsFor_103 : decode cX1_runnerWaitsFor 103 = .ok (.aload_n 0, 1) := by decide +kernel
theorem dX1_runnerWaitsFor_104 : decode cX1_runnerWaitsFor 104 = .ok (.getfield 27, 3) := by decide +kernel
theorem dX1_runnerWaitsFor_107 : decode cX1_runnerWaitsFor 107 = .ok (.iconst 1, 1) := by decide +kernel
theorem dX1_runnerWaitsFor_108 : decode cX1_runnerWaitsFor 108 = .ok (.aaload, 1) := by decide +kernel
theorem dX1_runnerWaitsFor_109 : decode cX1_runnerWaitsFor 109 = .ok (.invokevirtual 197, 3) := by decide +kernel
theorem dX1_runnerWaitsFor_112 : decode cX1_runnerWaitsFor 112 = .ok (.ifCond .eq 7, 3) := by decide +kernel
theorem dX1_runnerWaitsFor_115 : decode cX1_runnerWaitsFor 115 = .ok (.iconst 2, 1) := by decide +kernel
theorem dX1_runnerWaitsFor_116 : decode cX1_runnerWaitsFor 116 = .ok (.goto 4, 3) := by decide +kernel
theorem dX1_runnerWaitsFor_119 : decode cX1_runnerWaitsFor 119 = .ok (.iconst 0, 1) := by decide +kernel
theorem dX1_runnerWaitsFor_120 : decode cX1_runnerWaitsFor 120 = .ok (.ireturn, 1) := by decide +kernel
theorem dX1_runnerWaitsFor_121 : decode cX1_runnerWaitsFor 121 = .ok (.aload_n 0, 1) := by decide +kernel
theorem dX1_runnerWaitsFor_122 : decode cX1_runnerWaitsFor 122 = .ok (.getfield 27, 3) := by decide +kernel
theorem dX1_runnerWaitsFor_125 : decode cX1_runnerWaitsFor 125 = .ok (.iconst 3, 1) := by decide +kernel
theorem dX1_runnerWaitsFor_126 : decode cX1_runnerWaitsFor 126 = .ok (.aaload, 1) := by decide +kernel
theorem dX1_runnerWaitsFor_127 : decode cX1_runnerWaitsFor 127 = .ok (.invokevirtual 197, 3) := by decide +kernel
theorem dX1_runnerWaitsFor_130 : decode cX1_runnerWaitsFor 130 = .ok (.ifCond .eq 7, 3) := by decide +kernel
theorem dX1_runnerWaitsFor_133 : decode cX1_runnerWaitsFor 133 = .ok (.iconst 3, 1) := by decide +kernel
theorem dX1_runnerWaitsFor_134 : decode cX1_runnerWaitsFor 134 = .ok (.goto 4, 3) := by decide +kernel
theorem dX1_runnerWaitsFor_137 : decode cX1_runnerWaitsFor 137 = .ok (.iconst 0, 1) := by decide +kernel
theorem dX1_runnerWaitsFor_138 : decode cX1_runnerWaitsFor 138 = .ok (.ireturn, 1) := by decide +kernel
theorem dX1_runnerWaitsFor_139 : decode cX1_runnerWaitsFor 139 = .ok (.aload_n 0, 1) := by decide +kernel
theorem dX1_runnerWaitsFor_140 : decode cX1_runnerWaitsFor 140 = .ok (.getfield 27, 3) := by decide +kernel
theorem dX1_runnerWaitsFor_143 : decode cX1_runnerWaitsFor 143 = .ok (.iconst 4, 1) := by decide +kernel
theorem dX1_runnerWaitsFor_144 : decode cX1_runnerWaitsFor 144 = .ok (.aaload, 1) := by decide +kernel
theorem dX1_runnerWaitsFor_145 : decode cX1_runnerWaitsFor 145 = .ok (.invokevirtual 197, 3) := by decide +kernel
theorem dX1_runnerWaitsFor_148 : decode cX1_runnerWaitsFor 148 = .ok (.ifCond .eq 7, 3) := by decide +kernel
theorem dX1_runnerWaitsFor_151 : decode cX1_runnerWaitsFor 151 = .ok (.iconst 4, 1) := by decide +kernel
theorem dX1_runnerWaitsFor_152 : decode cX1_runnerWaitsFor 152 = .ok (.goto 4, 3) := by decide +kernel
theorem dX1_runnerWaitsFor_155 : decode cX1_runnerWaitsFor 155 = .ok (.iconst 0, 1) := by decide +kernel
theorem dX1_runnerWaitsFor_156 : decode cX1_runnerWaitsFor 156 = .ok (.ireturn, 1) := by decide +kernel
theorem dX1_runnerWaitsFor_157 : decode cX1_runnerWaitsFor 157 = .ok (.aload_n 0, 1) := by decide +kernel
theorem dX1_runnerWaitsFor_158 : decode cX1_runnerWaitsFor 158 = .ok (.getfield 27, 3) := by decide +kernel
theorem dX1_runnerWaitsFor_161 : decode cX1_runnerWaitsFor 161 = .ok (.iconst 5, 1) := by decide +kernel
theorem dX1_runnerWaitsFor_162 : decode cX1_runnerWaitsFor 162 = .ok (.aaload, 1) := by decide +kernel
theorem dX1_runnerWaitsFor_163 : decode cX1_runnerWaitsFor 163 = .ok (.getfield 142, 3) := by decide +kernel
theorem dX1_runnerWaitsFor_166 : decode cX1_runnerWaitsFor 166 = .ok (.ifCond .ne 7, 3) := by decide +kernel
theorem dX1_runnerWaitsFor_169 : decode cX1_runnerWaitsFor 169 = .ok (.iconst 5, 1) := by decide +kernel
theorem dX1_runnerWaitsFor_170 : decode cX1_runnerWaitsFor 170 = .ok (.goto 4, 3) := by decide +kernel
theorem dX1_runnerWaitsFor_173 : decode cX1_runnerWaitsFor 173 = .ok (.iconst 0, 1) := by decide +kernel
theorem dX1_runnerWaitsFor_174 : decode cX1_runnerWaitsFor 174 = .ok (.ireturn, 1) := by decide +kernel
theorem dX1_runnerWaitsFor_175 : decode cX1_runnerWaitsFor 175 = .ok (.iconst 0, 1) := by decide +kernel
theorem dX1_runnerWaitsFor_176 : decode cX1_runnerWaitsFor 176 = .ok (.ireturn, 1) := by decide +kernel
theorem dX1_fetchWaitsFor_0 : decode cX1_fetchWaitsFor 0 = .ok (.aload_n 0, 1) := by decide +kernel
theorem dX1_fetchWaitsFor_1 : decode cX1_fetchWaitsFor 1 = .ok (.getfield 85, 3) := by decide +kernel
theorem dX1_fetchWaitsFor_4 : decode cX1_fetchWaitsFor 4 = .ok (.iconst (-1), 1) := by decide +kernel
theorem dX1_fetchWaitsFor_5 : decode cX1_fetchWaitsFor 5 = .ok (.if_icmp .ne 46, 3) := by decide +kernel
theorem dX1_fetchWaitsFor_8 : decode cX1_fetchWaitsFor 8 = .ok (.aload_n 1, 1) := by decide +kernel
theorem dX1_fetchWaitsFor_9 : decode cX1_fetchWaitsFor 9 = .ok (.aload_n 0, 1) := by decide +kernel
theorem dX1_fetchWaitsFor_10 : decode cX1_fetchWaitsFor 10 = .ok (.getfield 18, 3) := by decide +kernel
theorem dX1_fetchWaitsFor_13 : decode cX1_fetchWaitsFor 13 = .ok (.invokevirtual 188, 3) := by decide +kernel
theorem dX1_fetchWaitsFor_16 : decode cX1_fetchWaitsFor 16 = .ok (.istore_n 2, 1) := by decide +kernel
theorem dX1_fetchWaitsFor_17 : decode cX1_fetchWaitsFor 17 = .ok (.aload_n 0, 1) := by decide +kernel
theorem dX1_fetchWaitsFor_18 : decode cX1_fetchWaitsFor 18 = .ok (.getfield 27, 3) := by decide +kernel
theorem dX1_fetchWaitsFor_21 : decode cX1_fetchWaitsFor 21 = .ok (.iconst 1, 1) := by decide +kernel
theorem dX1_fetchWaitsFor_22 : decode cX1_fetchWaitsFor 22 = .ok (.aaload, 1) := by decide +kernel
theorem dX1_fetchWaitsFor_23 : decode cX1_fetchWaitsFor 23 = .ok (.iload_n 2, 1) := by decide +kernel
theorem dX1_fetchWaitsFor_24 : decode cX1_fetchWaitsFor 24 = .ok (.invokevirtual 194, 3) := by decide +kernel
theorem dX1_fetchWaitsFor_27 : decode cX1_fetchWaitsFor 27 = .ok (.ifCond .eq 6, 3) := by decide +kernel
theorem dX1_fetchWaitsFor_30 : decode cX1_fetchWaitsFor 30 = .ok (.bipush 6, 2) := by decide +kernel
theorem dX1_fetchWaitsFor_32 : decode cX1_fetchWaitsFor 32 = .ok (.ireturn, 1) := by decide +kernel
theorem dX1_fetchWaitsFor_33 : decode cX1_fetchWaitsFor 33 = .ok (.aload_n 0, 1) := by decide +kernel
theorem dX1_fetchWaitsFor_34 : decode cX1_fetchWaitsFor 34 = .ok (.aload_n 0, 1) := by decide +kernel
theorem dX1_fetchWaitsFor_35 : decode cX1_fetchWaitsFor 35 = .ok (.getfield 59, 3) := by decide +kernel
theorem dX1_fetchWaitsFor_38 : decode cX1_fetchWaitsFor 38 = .ok (.putfield 85, 3) := by decide +kernel
theorem dX1_fetchWaitsFor_41 : decode cX1_fetchWaitsFor 41 = .ok (.aload_n 0, 1) := by decide +kernel
theorem dX1_fetchWaitsFor_42 : decode cX1_fetchWaitsFor 42 = .ok (.aload_n 0, 1) := by decide +kernel
theorem dX1_fetchWaitsFor_43 : decode cX1_fetchWaitsFor 43 = .ok (.getfield 22, 3) := by decide +kernel
theorem dX1_fetchWaitsFor_46 : decode cX1_fetchWaitsFor 46 = .ok (.iload_n 2, 1) := by decide +kernel
theorem dX1_fetchWaitsFor_47 : decode cX1_fetchWaitsFor 47 = .ok (.iaload, 1) := by decide +kernel
theorem dX1_fetchWaitsFor_48 : decode cX1_fetchWaitsFor 48 = .ok (.putfield 88, 3) := by decide +kernel
theorem dX1_fetchWaitsFor_51 : decode cX1_fetchWaitsFor 51 = .ok (.aload_n 0, 1) := by decide +kernel
theorem dX1_fetchWaitsFor_52 : decode cX1_fetchWaitsFor 52 = .ok (.getfield 59, 3) := by decide +kernel
theorem dX1_fetchWaitsFor_55 : decode cX1_fetchWaitsFor 55 = .ok (.aload_n 0, 1) := by decide +kernel
theorem dX1_fetchWaitsFor_56 : decode cX1_fetchWaitsFor 56 = .ok (.getfield 85, 3) := by decide +kernel
theorem dX1_fetchWaitsFor_59 : decode cX1_fetchWaitsFor 59 = .ok (.isub, 1) := by decide +kernel
theorem dX1_fetchWaitsFor_60 : decode cX1_fetchWaitsFor 60 = .ok (.aload_n 0, 1) := by decide +kernel
theorem dX1_fetchWaitsFor_61 : decode cX1_fetchWaitsFor 61 = .ok (.getfield 69, 3) := by decide +kernel
theorem dX1_fetchWaitsFor_64 : decode cX1_fetchWaitsFor 64 = .ok (.if_icmp .ge 8, 3) := by decide +kernel
theorem dX1_fetchWaitsFor_67 : decode cX1_fetchWaitsFor 67 = .ok (.bipush 7, 2) := by decide +kernel
theorem dX1_fetchWaitsFor_69 : decode cX1_fetchWaitsFor 69 = .ok (.goto 4, 3) := by decide +kernel
theorem dX1_fetchWaitsFor_72 : decode cX1_fetchWaitsFor 72 = .ok (.iconst 0, 1) := by decide +kernel
theorem dX1_fetchWaitsFor_73 : decode cX1_fetchWaitsFor 73 = .ok (.ireturn, 1) := by decide +kernel
theorem dX1_runnerDoes_0 : decode cX1_runnerDoes 0 = .ok (.aload_n 0, 1) := by decide +kernel
theorem dX1_runnerDoes_1 : decode cX1_runnerDoes 1 = .ok (.getfield 33, 3) := by decide +kernel
theorem dX1_runnerDoes_4 : decode cX1_runnerDoes 4 = .ok (.iconst 0, 1) := by decide +kernel
theorem dX1_runnerDoes_5 : decode cX1_runnerDoes 5 = .ok (.aaload, 1) := by decide +kernel
theorem dX1_runnerDoes_6 : decode cX1_runnerDoes 6 = .ok (.astore_n 3, 1) := by decide +kernel
theorem dX1_runnerDoes_7 : decode cX1_runnerDoes 7 = .ok (.iload_n 1, 1) := by decide +kernel
theorem dX1_runnerDoes_8 : decode cX1_runnerDoes 8 = .ok (.tableswitch 370 0 18 #[350, 370, 370, 370, 370, 370, 335, 370, 340, 92, 129, 154, 370, 187, 220, 370, 245, 370, 308], 92) := by decide +kernel
theorem dX1_runnerDoes_100 : decode cX1_runnerDoes 100 = .ok (.aload_n 0, 1) := by decide +kernel
theorem dX1_runnerDoes_101 : decode cX1_runnerDoes 101 = .ok (.getfield 27, 3) := by decide +kernel
theorem dX1_runnerDoes_104 : decode cX1_runnerDoes 104 = .ok (.iconst 3, 1) := by decide +kernel
theorem dX1_runnerDoes_105 : decode cX1_runnerDoes 105 = .ok (.aaload, 1) := by decide +kernel
theorem dX1_runnerDoes_106 : decode cX1_runnerDoes 106 = .ok (.aload_n 0, 1) := by decide +kernel
theorem dX1_runnerDoes_107 : decode cX1_runnerDoes 107 = .ok (.getfield 18, 3) := by decide +kernel
theorem dX1_runnerDoes_110 : decode cX1_runnerDoes 110 = .ok (.aload_n 0, 1) := by decide +kernel
theorem dX1_runnerDoes_111 : decode cX1_runnerDoes 111 = .ok (.getfield 12, 3) := by decide +kernel
theorem dX1_runnerDoes_114 : decode cX1_runnerDoes 114 = .ok (.aload_n 3, 1) := by decide +kernel
theorem dX1_runnerDoes_115 : decode cX1_runnerDoes 115 = .ok (.getfield 170, 3) := by decide +kernel
theorem dX1_runnerDoes_118 : decode cX1_runnerDoes 118 = .ok (.aload_n 3, 1) := by decide +kernel
theorem dX1_runnerDoes_119 : decode cX1_runnerDoes 119 = .ok (.getfield 204, 3) := by decide +kernel
theorem dX1_runnerDoes_122 : decode cX1_runnerDoes 122 = .ok (.invokevirtual 207, 3) := by decide +kernel
theorem dX1_runnerDoes_125 : decode cX1_runnerDoes 125 = .ok (.iaload, 1) := by decide +kernel
theorem dX1_runnerDoes_126 : decode cX1_runnerDoes 126 = .ok (.iconst (-1), 1) := by decide +kernel
theorem dX1_runnerDoes_127 : decode cX1_runnerDoes 127 = .ok (.invokevirtual 210, 3) := by decide +kernel
theorem dX1_runnerDoes_130 : decode cX1_runnerDoes 130 = .ok (.aload_n 3, 1) := by decide +kernel
theorem dX1_runnerDoes_131 : decode cX1_runnerDoes 131 = .ok (.getfield 170, 3) := by decide +kernel
theorem dX1_runnerDoes_134 : decode cX1_runnerDoes 134 = .ok (.iconst 1, 1) := by decide +kernel
theorem dX1_runnerDoes_135 : decode cX1_runnerDoes 135 = .ok (.iadd, 1) := by decide +kernel
theorem dX1_runnerDoes_136 : decode cX1_runnerDoes 136 = .ok (.ireturn, 1) := by decide +kernel
theorem dX1_runnerDoes_137 : decode cX1_runnerDoes 137 = .ok (.aload_n 0, 1) := by decide +kernel
theorem dX1_runnerDoes_138 : decode cX1_runnerDoes 138 = .ok (.getfield 18, 3) := by decide +kernel
theorem dX1_runnerDoes_141 : decode cX1_runnerDoes 141 = .ok (.aload_n 2, 1) := by decide +kernel
theorem dX1_runnerDoes_142 : decode cX1_runnerDoes 142 = .ok (.getfield 214, 3) := by decide +kernel
theorem dX1_runnerDoes_145 : decode cX1_runnerDoes 145 = .ok (.aload_n 0, 1) := by decide +kernel
theorem dX1_runnerDoes_146 : decode cX1_runnerDoes 146 = .ok (.getfield 88, 3) := by decide +kernel
theorem dX1_runnerDoes_149 : decode cX1_runnerDoes 149 = .ok (.iastore, 1) := by decide +kernel
theorem dX1_runnerDoes_150 : decode cX1_runnerDoes 150 = .ok (.aload_n 0, 1) := by decide +kernel
theorem dX1_runnerDoes_151 : decode cX1_runnerDoes 151 = .ok (.iconst (-1), 1) := by decide +kernel
theorem dX1_runnerDoes_152 : decode cX1_runnerDoes 152 = .ok (.putfield 85, 3) := by decide +kernel
theorem dX1_runnerDoes_155 : decode cX1_runnerDoes 155 = .ok (.aload_n 3, 1) := by decide +kernel
theorem dX1_runnerDoes_156 : decode cX1_runnerDoes 156 = .ok (.getfield 170, 3) := by decide +kernel
theorem dX1_runnerDoes_159 : decode cX1_runnerDoes 159 = .ok (.iconst 1, 1) := by decide +kernel
theorem dX1_runnerDoes_160 : decode cX1_runnerDoes 160 = .ok (.iadd, 1) := by decide +kernel
theorem dX1_runnerDoes_161 : decode cX1_runnerDoes 161 = .ok (.ireturn, 1) := by decide +kernel
theorem dX1_runnerDoes_162 : decode cX1_runnerDoes 162 = .ok (.aload_n 0, 1) := by decide +kernel
theorem dX1_runnerDoes_163 : decode cX1_runnerDoes 163 = .ok (.getfield 27, 3) := by decide +kernel
theorem dX1_runnerDoes_166 : decode cX1_runnerDoes 166 = .ok (.iconst 0, 1) := by decide +kernel
theorem dX1_runnerDoes_167 : decode cX1_runnerDoes 167 = .ok (.aaload, 1) := by decide +kernel
theorem dX1_runnerDoes_168 : decode cX1_runnerDoes 168 = .ok (.aload_n 0, 1) := by decide +kernel
theorem dX1_runnerDoes_169 : decode cX1_runnerDoes 169 = .ok (.getfield 22, 3) := by decide +kernel
theorem dX1_runnerDoes_172 : decode cX1_runnerDoes 172 = .ok (.aload_n 2, 1) := by decide +kernel
theorem dX1_runnerDoes_173 : decode cX1_runnerDoes 173 = .ok (.aload_n 0, 1) := by decide +kernel
theorem dX1_runnerDoes_174 : decode cX1_runnerDoes 174 = .ok (.getfield 18, 3) := by decide +kernel
theorem dX1_runnerDoes_177 : decode cX1_runnerDoes 177 = .ok (.invokevirtual 188, 3) := by decide +kernel
theorem dX1_runnerDoes_180 : decode cX1_runnerDoes 180 = .ok (.iaload, 1) := by decide +kernel
theorem dX1_runnerDoes_181 : decode cX1_runnerDoes 181 = .ok (.aload_n 0, 1) := by decide +kernel
theorem dX1_runnerDoes_182 : decode cX1_runnerDoes 182 = .ok (.getfield 59, 3) := by decide +kernel
theorem dX1_runnerDoes_185 : decode cX1_runnerDoes 185 = .ok (.invokevirtual 210, 3) := by decide +kernel
theorem dX1_runnerDoes_188 : decode cX1_runnerDoes 188 = .ok (.aload_n 3, 1) := by decide +kernel
theorem dX1_runnerDoes_189 : decode cX1_runnerDoes 189 = .ok (.getfield 170, 3) := by decide +kernel
theorem dX1_runnerDoes_192 : decode cX1_runnerDoes 192 = .ok (.iconst 1, 1) := by decide +kernel
theorem dX1_runnerDoes_193 : decode cX1_runnerDoes 193 = .ok (.iadd, 1) := by decide +kernel
theorem dX1_runnerDoes_194 : decode cX1_runnerDoes 194 = .ok (.ireturn, 1) := by decide +kernel
theorem dX1_runnerDoes_195 : decode cX1_runnerDoes 195 = .ok (.aload_n 0, 1) := by decide +kernel
theorem dX1_runnerDoes_196 : decode cX1_runnerDoes 196 = .ok (.getfield 27, 3) := by decide +kernel
theorem dX1_runnerDoes_199 : decode cX1_runnerDoes 199 = .ok (.iconst 1, 1) := by decide +kernel
theorem dX1_runnerDoes_200 : decode cX1_runnerDoes 200 = .ok (.aaload, 1) := by decide +kernel
theorem dX1_runnerDoes_201 : decode cX1_runnerDoes 201 = .ok (.aload_n 2, 1) := by decide +kernel
theorem dX1_runnerDoes_202 : decode cX1_runnerDoes 202 = .ok (.aload_n 0, 1) := by decide +kernel
theorem dX1_runnerDoes_203 : decode cX1_runnerDoes 203 = .ok (.getfield 18, 3) := by decide +kernel
theorem dX1_runnerDoes_206 : decode cX1_runnerDoes 206 = .ok (.invokevirtual 188, 3) := by decide +kernel
theorem dX1_runnerDoes_209 : decode cX1_runnerDoes 209 = .ok (.aload_n 0, 1) := by decide +kernel
theorem dX1_runnerDoes_210 : decode cX1_runnerDoes 210 = .ok (.getfield 18, 3) := by decide +kernel
theorem dX1_runnerDoes_213 : decode cX1_runnerDoes 213 = .ok (.aload_n 2, 1) := by decide +kernel
theorem dX1_runnerDoes_214 : decode cX1_runnerDoes 214 = .ok (.getfield 214, 3) := by decide +kernel
theorem dX1_runnerDoes_217 : decode cX1_runnerDoes 217 = .ok (.iaload, 1) := by decide +kernel
theorem dX1_runnerDoes_218 : decode cX1_runnerDoes 218 = .ok (.invokevirtual 210, 3) := by decide +kernel
theorem dX1_runnerDoes_221 : decode cX1_runnerDoes 221 = .ok (.aload_n 3, 1) := by decide +kernel
theorem dX1_runnerDoes_222 : decode cX1_runnerDoes 222 = .ok (.getfield 170, 3) := by decide +kernel
theorem dX1_runnerDoes_225 : decode cX1_runnerDoes 225 = .ok (.iconst 1, 1) := by decide +kernel
theorem dX1_runnerDoes_226 : decode cX1_runnerDoes 226 = .ok (.iadd, 1) := by decide +kernel
theorem dX1_runnerDoes_227 : decode cX1_runnerDoes 227 = .ok (.ireturn, 1) := by decide +kernel
theorem dX1_runnerDoes_228 : decode cX1_runnerDoes 228 = .ok (.aload_n 0, 1) := by decide +kernel
theorem dX1_runnerDoes_229 : decode cX1_runnerDoes 229 = .ok (.getfield 27, 3) := by decide +kernel
theorem dX1_runnerDoes_232 : decode cX1_runnerDoes 232 = .ok (.iconst 1, 1) := by decide +kernel
theorem dX1_runnerDoes_233 : decode cX1_runnerDoes 233 = .ok (.aaload, 1) := by decide +kernel
theorem dX1_runnerDoes_234 : decode cX1_runnerDoes 234 = .ok (.aload_n 2, 1) := by decide +kernel
theorem dX1_runnerDoes_235 : decode cX1_runnerDoes 235 = .ok (.aload_n 0, 1) := by decide +kernel
theorem dX1_runnerDoes_236 : decode cX1_runnerDoes 236 = .ok (.getfield 18, 3) := by decide +kernel
theorem dX1_runnerDoes_239 : decode cX1_runnerDoes 239 = .ok (.invokevirtual 188, 3) := by decide +kernel
theorem dX1_runnerDoes_242 : decode cX1_runnerDoes 242 = .ok (.iconst (-1), 1) := by decide +kernel
theorem dX1_runnerDoes_243 : decode cX1_runnerDoes 243 = .ok (.invokevirtual 210, 3) := by decide +kernel
theorem dX1_runnerDoes_246 : decode cX1_runnerDoes 246 = .ok (.aload_n 3, 1) := by decide +kernel
theorem dX1_runnerDoes_247 : decode cX1_runnerDoes 247 = .ok (.getfield 170, 3) := by decide +kernel
theorem dX1_runnerDoes_250 : decode cX1_runnerDoes 250 = .ok (.iconst 1, 1) := by decide +kernel
theorem dX1_runnerDoes_251 : decode cX1_runnerDoes 251 = .ok (.iadd, 1) := by decide +kernel
theorem dX1_runnerDoes_252 : decode cX1_runnerDoes 252 = .ok (.ireturn, 1) := by decide +kernel
theorem dX1_runnerDoes_253 : decode cX1_runnerDoes 253 = .ok (.aload_n 2, 1) := by decide +kernel
theorem dX1_runnerDoes_254 : decode cX1_runnerDoes 254 = .ok (.aload_n 0, 1) := by decide +kernel
theorem dX1_runnerDoes_255 : decode cX1_runnerDoes 255 = .ok (.getfield 18, 3) := by decide +kernel
theorem dX1_runnerDoes_258 : decode cX1_runnerDoes 258 = .ok (.aload_n 2, 1) := by decide +kernel
theorem dX1_runnerDoes_259 : decode cX1_runnerDoes 259 = .ok (.getfield 217, 3) := by decide +kernel
theorem dX1_runnerDoes_262 : decode cX1_runnerDoes 262 = .ok (.iaload, 1) := by decide +kernel
theorem dX1_runnerDoes_263 : decode cX1_runnerDoes 263 = .ok (.aload_n 0, 1) := by decide +kernel
theorem dX1_runnerDoes_264 : decode cX1_runnerDoes 264 = .ok (.getfield 18, 3) := by decide +kernel
theorem dX1_runnerDoes_267 : decode cX1_runnerDoes 267 = .ok (.aload_n 2, 1) := by decide +kernel
theorem dX1_runnerDoes_268 : decode cX1_runnerDoes 268 = .ok (.getfield 220, 3) := by decide +kernel
theorem dX1_runnerDoes_271 : decode cX1_runnerDoes 271 = .ok (.iaload, 1) := by decide +kernel
theorem dX1_runnerDoes_272 : decode cX1_runnerDoes 272 = .ok (.invokevirtual 223, 3) := by decide +kernel
theorem dX1_runnerDoes_275 : decode cX1_runnerDoes 275 = .ok (.istore 4, 2) := by decide +kernel
theorem dX1_runnerDoes_277 : decode cX1_runnerDoes 277 = .ok (.aload_n 0, 1) := by decide +kernel
theorem dX1_runnerDoes_278 : decode cX1_runnerDoes 278 = .ok (.getfield 27, 3) := by decide +kernel
theorem dX1_runnerDoes_281 : decode cX1_runnerDoes 281 = .ok (.iconst 4, 1) := by decide +kernel
theorem dX1_runnerDoes_282 : decode cX1_runnerDoes 282 = .ok (.aaload, 1) := by decide +kernel
theorem dX1_runnerDoes_283 : decode cX1_runnerDoes 283 = .ok (.iload 4, 2) := by decide +kernel
theorem dX1_runnerDoes_285 : decode cX1_runnerDoes 285 = .ok (.ifCond .eq 7, 3) := by decide +kernel
theorem dX1_runnerDoes_288 : decode cX1_runnerDoes 288 = .ok (.iconst 1, 1) := by decide +kernel
theorem dX1_runnerDoes_289 : decode cX1_runnerDoes 289 = .ok (.goto 4, 3) := by decide +kernel
theorem dX1_runnerDoes_292 : decode cX1_runnerDoes 292 = .ok (.iconst 0, 1) := by decide +kernel
theorem dX1_runnerDoes_293 : decode cX1_runnerDoes 293 = .ok (.iconst (-1), 1) := by decide +kernel
theorem dX1_runnerDoes_294 : decode cX1_runnerDoes 294 = .ok (.invokevirtual 210, 3) := by decide +kernel
theorem dX1_runnerDoes_297 : decode cX1_runnerDoes 297 = .ok (.iload 4, 2) := by decide +kernel
theorem dX1_runnerDoes_299 : decode cX1_runnerDoes 299 = .ok (.ifCond .eq 10, 3) := by decide +kernel
theorem dX1_runnerDoes_302 : decode cX1_runnerDoes 302 = .ok (.aload_n 2, 1) := by decide +kernel
theorem dX1_runnerDoes_303 : decode cX1_runnerDoes 303 = .ok (.getfield 227, 3) := by decide +kernel
theorem dX1_runnerDoes_306 : decode cX1_runnerDoes 306 = .ok (.goto 9, 3) := by decide +kernel
theorem dX1_runnerDoes_309 : decode cX1_runnerDoes 309 = .ok (.aload_n 3, 1) := by decide +kernel
theorem dX1_runnerDoes_310 : decode cX1_runnerDoes 310 = .ok (.getfield 170, 3) := by decide +kernel
theorem dX1_runnerDoes_313 : decode cX1_runnerDoes 313 = .ok (.iconst 1, 1) := by decide +kernel
theorem dX1_runnerDoes_314 : decode cX1_runnerDoes 314 = .ok (.iadd, 1) := by decide +kernel
theorem dX1_runnerDoes_315 : decode cX1_runnerDoes 315 = .ok (.ireturn, 1) := by decide +kernel
theorem dX1_runnerDoes_316 : decode cX1_runnerDoes 316 = .ok (.aload_n 0, 1) := by decide +kernel
theorem dX1_runnerDoes_317 : decode cX1_runnerDoes 317 = .ok (.getfield 27, 3) := by decide +kernel
theorem dX1_runnerDoes_320 : decode cX1_runnerDoes 320 = .ok (.iconst 5, 1) := by decide +kernel
theorem dX1_runnerDoes_321 : decode cX1_runnerDoes 321 = .ok (.aaload, 1) := by decide +kernel
theorem dX1_runnerDoes_322 : decode cX1_runnerDoes 322 = .ok (.invokevirtual 157, 3) := by decide +kernel
theorem dX1_runnerDoes_325 : decode cX1_runnerDoes 325 = .ok (.iconst 1, 1) := by decide +kernel
theorem dX1_runnerDoes_326 : decode cX1_runnerDoes 326 = .ok (.if_icmp .ne 10, 3) := by decide +kernel
theorem dX1_runnerDoes_329 : decode cX1_runnerDoes 329 = .ok (.aload_n 2, 1) := by decide +kernel
theorem dX1_runnerDoes_330 : decode cX1_runnerDoes 330 = .ok (.getfield 227, 3) := by decide +kernel
theorem dX1_runnerDoes_333 : decode cX1_runnerDoes 333 = .ok (.goto 9, 3) := by decide +kernel
theorem dX1_runnerDoes_336 : decode cX1_runnerDoes 336 = .ok (.aload_n 3, 1) := by decide +kernel
theorem dX1_runnerDoes_337 : decode cX1_runnerDoes 337 = .ok (.getfield 170, 3) := by decide +kernel
theorem dX1_runnerDoes_340 : decode cX1_runnerDoes 340 = .ok (.iconst 1, 1) := by decide +kernel
theorem dX1_runnerDoes_341 : decode cX1_runnerDoes 341 = .ok (.iadd, 1) := by decide +kernel
theorem dX1_runnerDoes_342 : decode cX1_runnerDoes 342 = .ok (.ireturn, 1) := by decide +kernel
theorem dX1_runnerDoes_343 : decode cX1_runnerDoes 343 = .ok (.aload_n 2, 1) := by decide +kernel
theorem dX1_runnerDoes_344 : decode cX1_runnerDoes 344 = .ok (.getfield 227, 3) := by decide +kernel
theorem dX1_runnerDoes_347 : decode cX1_runnerDoes 347 = .ok (.ireturn, 1) := by decide +kernel
theorem dX1_runnerDoes_348 : decode cX1_runnerDoes 348 = .ok (.aload_n 3, 1) := by decide +kernel
theorem dX1_runnerDoes_349 : decode cX1_runnerDoes 349 = .ok (.iconst 1, 1) := by decide +kernel
theorem dX1_runnerDoes_350 : decode cX1_runnerDoes 350 = .ok (.putfield 139, 3) := by decide +kernel
theorem dX1_runnerDoes_353 : decode cX1_runnerDoes 353 = .ok (.aload_n 3, 1) := by decide +kernel
theorem dX1_runnerDoes_354 : decode cX1_runnerDoes 354 = .ok (.getfield 170, 3) := by decide +kernel
theorem dX1_runnerDoes_357 : decode cX1_runnerDoes 357 = .ok (.ireturn, 1) := by decide +kernel
theorem dX1_runnerDoes_358 : decode cX1_runnerDoes 358 = .ok (.aload_n 0, 1) := by decide +kernel
theorem dX1_runnerDoes_359 : decode cX1_runnerDoes 359 = .ok (.getfield 18, 3) := by decide +kernel
theorem dX1_runnerDoes_362 : decode cX1_runnerDoes 362 = .ok (.aload_n 2, 1) := by decide +kernel
theorem dX1_runnerDoes_363 : decode cX1_runnerDoes 363 = .ok (.getfield 214, 3) := by decide +kernel
theorem dX1_runnerDoes_366 : decode cX1_runnerDoes 366 = .ok (.aload_n 2, 1) := by decide +kernel
theorem dX1_runnerDoes_367 : decode cX1_runnerDoes 367 = .ok (.getfield 227, 3) := by decide +kernel
theorem dX1_runnerDoes_370 : decode cX1_runnerDoes 370 = .ok (.iastore, 1) := by decide +kernel
theorem dX1_runnerDoes_371 : decode cX1_runnerDoes 371 = .ok (.aload_n 3, 1) := by decide +kernel
theorem dX1_runnerDoes_372 : decode cX1_runnerDoes 372 = .ok (.getfield 170, 3) := by decide +kernel
theorem dX1_runnerDoes_375 : decode cX1_runnerDoes 375 = .ok (.iconst 1, 1) := by decide +kernel
theorem dX1_runnerDoes_376 : decode cX1_runnerDoes 376 = .ok (.iadd, 1) := by decide +kernel
theorem dX1_runnerDoes_377 : decode cX1_runnerDoes 377 = .ok (.ireturn, 1) := by decide +kernel
theorem dX1_runnerDoes_378 : decode cX1_runnerDoes 378 = .ok (.aload_n 0, 1) := by decide +kernel
theorem dX1_runnerDoes_379 : decode cX1_runnerDoes 379 = .ok (.getfield 18, 3) := by decide +kernel
theorem dX1_runnerDoes_382 : decode cX1_runnerDoes 382 = .ok (.aload_n 2, 1) := by decide +kernel
theorem dX1_runnerDoes_383 : decode cX1_runnerDoes 383 = .ok (.getfield 214, 3) := by decide +kernel
theorem dX1_runnerDoes_386 : decode cX1_runnerDoes 386 = .ok (.iload_n 1, 1) := by decide +kernel
theorem dX1_runnerDoes_387 : decode cX1_runnerDoes 387 = .ok (.aload_n 0, 1) := by decide +kernel
theorem dX1_runnerDoes_388 : decode cX1_runnerDoes 388 = .ok (.getfield 18, 3) := by decide +kernel
theorem dX1_runnerDoes_391 : decode cX1_runnerDoes 391 = .ok (.aload_n 2, 1) := by decide +kernel
theorem dX1_runnerDoes_392 : decode cX1_runnerDoes 392 = .ok (.getfield 217, 3) := by decide +kernel
theorem dX1_runnerDoes_395 : decode cX1_runnerDoes 395 = .ok (.iaload, 1) := by decide +kernel
theorem dX1_runnerDoes_396 : decode cX1_runnerDoes 396 = .ok (.aload_n 0, 1) := by decide +kernel
theorem dX1_runnerDoes_397 : decode cX1_runnerDoes 397 = .ok (.getfield 18, 3) := by decide +kernel
theorem dX1_runnerDoes_400 : decode cX1_runnerDoes 400 = .ok (.aload_n 2, 1) := by decide +kernel
theorem dX1_runnerDoes_401 : decode cX1_runnerDoes 401 = .ok (.getfield 220, 3) := by decide +kernel
theorem dX1_runnerDoes_404 : decode cX1_runnerDoes 404 = .ok (.iaload, 1) := by decide +kernel
theorem dX1_runnerDoes_405 : decode cX1_runnerDoes 405 = .ok (.invokestatic 230, 3) := by decide +kernel
theorem dX1_runnerDoes_408 : decode cX1_runnerDoes 408 = .ok (.iastore, 1) := by decide +kernel
theorem dX1_runnerDoes_409 : decode cX1_runnerDoes 409 = .ok (.aload_n 3, 1) := by decide +kernel
theorem dX1_runnerDoes_410 : decode cX1_runnerDoes 410 = .ok (.getfield 170, 3) := by decide +kernel
theorem dX1_runnerDoes_413 : decode cX1_runnerDoes 413 = .ok (.iconst 1, 1) := by decide +kernel
theorem dX1_runnerDoes_414 : decode cX1_runnerDoes 414 = .ok (.iadd, 1) := by decide +kernel
theorem dX1_runnerDoes_415 : decode cX1_runnerDoes 415 = .ok (.ireturn, 1) := by decide +kernel
theorem dX1_workerTries_0 : decode cX1_workerTries 0 = .ok (.aload_n 0, 1) := by decide +kernel
theorem dX1_workerTries_1 : decode cX1_workerTries 1 = .ok (.getfield 33, 3) := by decide +kernel
theorem dX1_workerTries_4 : decode cX1_workerTries 4 = .ok (.iconst 1, 1) := by decide +kernel
theorem dX1_workerTries_5 : decode cX1_workerTries 5 = .ok (.aaload, 1) := by decide +kernel
theorem dX1_workerTries_6 : decode cX1_workerTries 6 = .ok (.astore_n 1, 1) := by decide +kernel
theorem dX1_workerTries_7 : decode cX1_workerTries 7 = .ok (.aload_n 1, 1) := by decide +kernel
theorem dX1_workerTries_8 : decode cX1_workerTries 8 = .ok (.iconst 0, 1) := by decide +kernel
theorem dX1_workerTries_9 : decode cX1_workerTries 9 = .ok (.invokevirtual 160, 3) := by decide +kernel
theorem dX1_workerTries_12 : decode cX1_workerTries 12 = .ok (.aload_n 1, 1) := by decide +kernel
theorem dX1_workerTries_13 : decode cX1_workerTries 13 = .ok (.getfield 139, 3) := by decide +kernel
theorem dX1_workerTries_16 : decode cX1_workerTries 16 = .ok (.ifCond .eq 4, 3) := by decide +kernel
theorem dX1_workerTries_19 : decode cX1_workerTries 19 = .ok (.return_, 1) := by decide +kernel
theorem dX1_workerTries_20 : decode cX1_workerTries 20 = .ok (.aload_n 1, 1) := by decide +kernel
theorem dX1_workerTries_21 : decode cX1_workerTries 21 = .ok (.aload_n 0, 1) := by decide +kernel
theorem dX1_workerTries_22 : decode cX1_workerTries 22 = .ok (.getfield 12, 3) := by decide +kernel
theorem dX1_workerTries_25 : decode cX1_workerTries 25 = .ok (.invokevirtual 163, 3) := by decide +kernel
theorem dX1_workerTries_28 : decode cX1_workerTries 28 = .ok (.aload_n 0, 1) := by decide +kernel
theorem dX1_workerTries_29 : decode cX1_workerTries 29 = .ok (.getfield 12, 3) := by decide +kernel
theorem dX1_workerTries_32 : decode cX1_workerTries 32 = .ok (.getfield 166, 3) := by decide +kernel
theorem dX1_workerTries_35 : decode cX1_workerTries 35 = .ok (.aload_n 1, 1) := by decide +kernel
theorem dX1_workerTries_36 : decode cX1_workerTries 36 = .ok (.getfield 170, 3) := by decide +kernel
theorem dX1_workerTries_39 : decode cX1_workerTries 39 = .ok (.aaload, 1) := by decide +kernel
theorem dX1_workerTries_40 : decode cX1_workerTries 40 = .ok (.astore_n 2, 1) := by decide +kernel
theorem dX1_workerTries_41 : decode cX1_workerTries 41 = .ok (.aload_n 1, 1) := by decide +kernel
theorem dX1_workerTries_42 : decode cX1_workerTries 42 = .ok (.aload_n 0, 1) := by decide +kernel
theorem dX1_workerTries_43 : decode cX1_workerTries 43 = .ok (.getfield 12, 3) := by decide +kernel
theorem dX1_workerTries_46 : decode cX1_workerTries 46 = .ok (.invokevirtual 173, 3) := by decide +kernel
theorem dX1_workerTries_49 : decode cX1_workerTries 49 = .ok (.istore_n 3, 1) := by decide +kernel
theorem dX1_workerTries_50 : decode cX1_workerTries 50 = .ok (.aload_n 0, 1) := by decide +kernel
theorem dX1_workerTries_51 : decode cX1_workerTries 51 = .ok (.iload_n 3, 1) := by decide +kernel
theorem dX1_workerTries_52 : decode cX1_workerTries 52 = .ok (.aload_n 2, 1) := by decide +kernel
theorem dX1_workerTries_53 : decode cX1_workerTries 53 = .ok (.invokevirtual 234, 3) := by decide +kernel
theorem dX1_workerTries_56 : decode cX1_workerTries 56 = .ok (.istore 4, 2) := by decide +kernel
theorem dX1_workerTries_58 : decode cX1_workerTries 58 = .ok (.aload_n 1, 1) := by decide +kernel
theorem dX1_workerTries_59 : decode cX1_workerTries 59 = .ok (.iload 4, 2) := by decide +kernel
theorem dX1_workerTries_61 : decode cX1_workerTries 61 = .ok (.invokevirtual 160, 3) := by decide +kernel
theorem dX1_workerTries_64 : decode cX1_workerTries 64 = .ok (.iload 4, 2) := by decide +kernel
theorem dX1_workerTries_66 : decode cX1_workerTries 66 = .ok (.ifCond .ne 22, 3) := by decide +kernel
theorem dX1_workerTries_69 : decode cX1_workerTries 69 = .ok (.aload_n 1, 1) := by decide +kernel
theorem dX1_workerTries_70 : decode cX1_workerTries 70 = .ok (.aload_n 0, 1) := by decide +kernel
theorem dX1_workerTries_71 : decode cX1_workerTries 71 = .ok (.getfield 12, 3) := by decide +kernel
theorem dX1_workerTries_74 : decode cX1_workerTries 74 = .ok (.aload_n 0, 1) := by decide +kernel
theorem dX1_workerTries_75 : decode cX1_workerTries 75 = .ok (.iload_n 3, 1) := by decide +kernel
theorem dX1_workerTries_76 : decode cX1_workerTries 76 = .ok (.aload_n 2, 1) := by decide +kernel
theorem dX1_workerTries_77 : decode cX1_workerTries 77 = .ok (.invokevirtual 237, 3) := by decide +kernel
theorem dX1_workerTries_80 : decode cX1_workerTries 80 = .ok (.invokevirtual 184, 3) := by decide +kernel
theorem dX1_workerTries_83 : decode cX1_workerTries 83 = .ok (.aload_n 0, 1) := by decide +kernel
theorem dX1_workerTries_84 : decode cX1_workerTries 84 = .ok (.iconst 1, 1) := by decide +kernel
theorem dX1_workerTries_85 : decode cX1_workerTries 85 = .ok (.putfield 113, 3) := by decide +kernel
theorem dX1_workerTries_88 : decode cX1_workerTries 88 = .ok (.return_, 1) := by decide +kernel
theorem dX1_workerWaitsFor_0 : decode cX1_workerWaitsFor 0 = .ok (.iload_n 1, 1) := by decide +kernel
theorem dX1_workerWaitsFor_1 : decode cX1_workerWaitsFor 1 = .ok (.tableswitch 183 1 19 #[141, 141, 141, 183, 183, 183, 183, 183, 183, 183, 183, 91, 183, 183, 123, 183, 105, 183, 155], 91) := by decide +kernel
theorem dX1_workerWaitsFor_92 : decode cX1_workerWaitsFor 92 = .ok (.aload_n 0, 1) := by decide +kernel
theorem dX1_workerWaitsFor_93 : decode cX1_workerWaitsFor 93 = .ok (.iconst 0, 1) := by decide +kernel
theorem dX1_workerWaitsFor_94 : decode cX1_workerWaitsFor 94 = .ok (.invokevirtual 149, 3) := by decide +kernel
theorem dX1_workerWaitsFor_97 : decode cX1_workerWaitsFor 97 = .ok (.ifCond .eq 7, 3) := by decide +kernel
theorem dX1_workerWaitsFor_100 : decode cX1_workerWaitsFor 100 = .ok (.iconst 0, 1) := by decide +kernel
theorem dX1_workerWaitsFor_101 : decode cX1_workerWaitsFor 101 = .ok (.goto 4, 3) := by decide +kernel
theorem dX1_workerWaitsFor_104 : decode cX1_workerWaitsFor 104 = .ok (.iconst 1, 1) := by decide +kernel
theorem dX1_workerWaitsFor_105 : decode cX1_workerWaitsFor 105 = .ok (.ireturn, 1) := by decide +kernel
theorem dX1_workerWaitsFor_106 : decode cX1_workerWaitsFor 106 = .ok (.aload_n 0, 1) := by decide +kernel
theorem dX1_workerWaitsFor_107 : decode cX1_workerWaitsFor 107 = .ok (.getfield 27, 3) := by decide +kernel
theorem dX1_workerWaitsFor_110 : decode cX1_workerWaitsFor 110 = .ok (.iconst 4, 1) := by decide +kernel
theorem dX1_workerWaitsFor_111 : decode cX1_workerWaitsFor 111 = .ok (.aaload, 1) := by decide +kernel
theorem dX1_workerWaitsFor_112 : decode cX1_workerWaitsFor 112 = .ok (.getfield 142, 3) := by decide +kernel
theorem dX1_workerWaitsFor_115 : decode cX1_workerWaitsFor 115 = .ok (.ifCond .ne 7, 3) := by decide +kernel
theorem dX1_workerWaitsFor_118 : decode cX1_workerWaitsFor 118 = .ok (.iconst 3, 1) := by decide +kernel
theorem dX1_workerWaitsFor_119 : decode cX1_workerWaitsFor 119 = .ok (.goto 4, 3) := by decide +kernel
theorem dX1_workerWaitsFor_122 : decode cX1_workerWaitsFor 122 = .ok (.iconst 0, 1) := by decide +kernel
theorem dX1_workerWaitsFor_123 : decode cX1_workerWaitsFor 123 = .ok (.ireturn, 1) := by decide +kernel
theorem dX1_workerWaitsFor_124 : decode cX1_workerWaitsFor 124 = .ok (.aload_n 0, 1) := by decide +kernel
theorem dX1_workerWaitsFor_125 : decode cX1_workerWaitsFor 125 = .ok (.getfield 27, 3) := by decide +kernel
theorem dX1_workerWaitsFor_128 : decode cX1_workerWaitsFor 128 = .ok (.iconst 2, 1) := by decide +kernel
theorem dX1_workerWaitsFor_129 : decode cX1_workerWaitsFor 129 = .ok (.aaload, 1) := by decide +kernel
theorem dX1_workerWaitsFor_130 : decode cX1_workerWaitsFor 130 = .ok (.invokevirtual 197, 3) := by decide +kernel
theorem dX1_workerWaitsFor_133 : decode cX1_workerWaitsFor 133 = .ok (.ifCond .eq 7, 3) := by decide +kernel
theorem dX1_workerWaitsFor_136 : decode cX1_workerWaitsFor 136 = .ok (.iconst 4, 1) := by decide +kernel
theorem dX1_workerWaitsFor_137 : decode cX1_workerWaitsFor 137 = .ok (.goto 4, 3) := by decide +kernel
theorem dX1_workerWaitsFor_140 : decode cX1_workerWaitsFor 140 = .ok (.iconst 0, 1) := by decide +kernel
theorem dX1_workerWaitsFor_141 : decode cX1_workerWaitsFor 141 = .ok (.ireturn, 1) := by decide +kernel
theorem dX1_workerWaitsFor_142 : decode cX1_workerWaitsFor 142 = .ok (.aload_n 0, 1) := by decide +kernel
theorem dX1_workerWaitsFor_143 : decode cX1_workerWaitsFor 143 = .ok (.aload_n 2, 1) := by decide +kernel
theorem dX1_workerWaitsFor_144 : decode cX1_workerWaitsFor 144 = .ok (.invokevirtual 240, 3) := by decide +kernel
theorem dX1_workerWaitsFor_147 : decode cX1_workerWaitsFor 147 = .ok (.ifCond .eq 7, 3) := by decide +kernel
theorem dX1_workerWaitsFor_150 : decode cX1_workerWaitsFor 150 = .ok (.iconst 2, 1) := by decide +kernel
theorem dX1_workerWaitsFor_151 : decode cX1_workerWaitsFor 151 = .ok (.goto 4, 3) := by decide +kernel
theorem dX1_workerWaitsFor_154 : decode cX1_workerWaitsFor 154 = .ok (.iconst 0, 1) := by decide +kernel
theorem dX1_workerWaitsFor_155 : decode cX1_workerWaitsFor 155 = .ok (.ireturn, 1) := by decide +kernel
theorem dX1_workerWaitsFor_156 : decode cX1_workerWaitsFor 156 = .ok (.aload_n 0, 1) := by decide +kernel
theorem dX1_workerWaitsFor_157 : decode cX1_workerWaitsFor 157 = .ok (.aload_n 2, 1) := by decide +kernel
theorem dX1_workerWaitsFor_158 : decode cX1_workerWaitsFor 158 = .ok (.invokevirtual 240, 3) := by decide +kernel
theorem dX1_workerWaitsFor_161 : decode cX1_workerWaitsFor 161 = .ok (.ifCond .eq 5, 3) := by decide +kernel
theorem dX1_workerWaitsFor_164 : decode cX1_workerWaitsFor 164 = .ok (.iconst 2, 1) := by decide +kernel
theorem dX1_workerWaitsFor_165 : decode cX1_workerWaitsFor 165 = .ok (.ireturn, 1) := by decide +kernel
theorem dX1_workerWaitsFor_166 : decode cX1_workerWaitsFor 166 = .ok (.aload_n 0, 1) := by decide +kernel
theorem dX1_workerWaitsFor_167 : decode cX1_workerWaitsFor 167 = .ok (.getfield 27, 3) := by decide +kernel
theorem dX1_workerWaitsFor_170 : decode cX1_workerWaitsFor 170 = .ok (.iconst 5, 1) := by decide +kernel
theorem dX1_workerWaitsFor_171 : decode cX1_workerWaitsFor 171 = .ok (.aaload, 1) := by decide +kernel
theorem dX1_workerWaitsFor_172 : decode cX1_workerWaitsFor 172 = .ok (.invokevirtual 197, 3) := by decide +kernel
theorem dX1_workerWaitsFor_175 : decode cX1_workerWaitsFor 175 = .ok (.ifCond .eq 7, 3) := by decide +kernel
theorem dX1_workerWaitsFor_178 : decode cX1_workerWaitsFor 178 = .ok (.iconst 5, 1) := by decide +kernel
theorem dX1_workerWaitsFor_179 : decode cX1_workerWaitsFor 179 = .ok (.goto 4, 3) := by decide +kernel
theorem dX1_workerWaitsFor_182 : decode cX1_workerWaitsFor 182 = .ok (.iconst 0, 1) := by decide +kernel
theorem dX1_workerWaitsFor_183 : decode cX1_workerWaitsFor 183 = .ok (.ireturn, 1) := by decide +kernel
theorem dX1_workerWaitsFor_184 : decode cX1_workerWaitsFor 184 = .ok (.iconst 0, 1) := by decide +kernel
theorem dX1_workerWaitsFor_185 : decode cX1_workerWaitsFor 185 = .ok (.ireturn, 1) := by decide +kernel
theorem dX1_lacksCopies_0 : decode cX1_lacksCopies 0 = .ok (.aload_n 0, 1) := by decide +kernel
theorem dX1_lacksCopies_1 : decode cX1_lacksCopies 1 = .ok (.getfield 12, 3) := by decide +kernel
theorem dX1_lacksCopies_4 : decode cX1_lacksCopies 4 = .ok (.getfield 244, 3) := by decide +kernel
theorem dX1_lacksCopies_7 : decode cX1_lacksCopies 7 = .ok (.aload_n 1, 1) := by decide +kernel
theorem dX1_lacksCopies_8 : decode cX1_lacksCopies 8 = .ok (.getfield 217, 3) := by decide +kernel
theorem dX1_lacksCopies_11 : decode cX1_lacksCopies 11 = .ok (.invokestatic 247, 3) := by decide +kernel
theorem dX1_lacksCopies_14 : decode cX1_lacksCopies 14 = .ok (.ifCond .eq 7, 3) := by decide +kernel
theorem dX1_lacksCopies_17 : decode cX1_lacksCopies 17 = .ok (.iconst 1, 1) := by decide +kernel
theorem dX1_lacksCopies_18 : decode cX1_lacksCopies 18 = .ok (.goto 4, 3) := by decide +kernel
theorem dX1_lacksCopies_21 : decode cX1_lacksCopies 21 = .ok (.iconst 0, 1) := by decide +kernel
theorem dX1_lacksCopies_22 : decode cX1_lacksCopies 22 = .ok (.aload_n 0, 1) := by decide +kernel
theorem dX1_lacksCopies_23 : decode cX1_lacksCopies 23 = .ok (.getfield 12, 3) := by decide +kernel
theorem dX1_lacksCopies_26 : decode cX1_lacksCopies 26 = .ok (.getfield 244, 3) := by decide +kernel
theorem dX1_lacksCopies_29 : decode cX1_lacksCopies 29 = .ok (.aload_n 1, 1) := by decide +kernel
theorem dX1_lacksCopies_30 : decode cX1_lacksCopies 30 = .ok (.getfield 220, 3) := by decide +kernel
theorem dX1_lacksCopies_33 : decode cX1_lacksCopies 33 = .ok (.invokestatic 247, 3) := by decide +kernel
theorem dX1_lacksCopies_36 : decode cX1_lacksCopies 36 = .ok (.ifCond .eq 7, 3) := by decide +kernel
theorem dX1_lacksCopies_39 : decode cX1_lacksCopies 39 = .ok (.iconst 1, 1) := by decide +kernel
theorem dX1_lacksCopies_40 : decode cX1_lacksCopies 40 = .ok (.goto 4, 3) := by decide +kernel
theorem dX1_lacksCopies_43 : decode cX1_lacksCopies 43 = .ok (.iconst 0, 1) := by decide +kernel
theorem dX1_lacksCopies_44 : decode cX1_lacksCopies 44 = .ok (.iadd, 1) := by decide +kernel
theorem dX1_lacksCopies_45 : decode cX1_lacksCopies 45 = .ok (.istore_n 2, 1) := by decide +kernel
theorem dX1_lacksCopies_46 : decode cX1_lacksCopies 46 = .ok (.aload_n 0, 1) := by decide +kernel
theorem dX1_lacksCopies_47 : decode cX1_lacksCopies 47 = .ok (.getfield 27, 3) := by decide +kernel
theorem dX1_lacksCopies_50 : decode cX1_lacksCopies 50 = .ok (.iconst 3, 1) := by decide +kernel
theorem dX1_lacksCopies_51 : decode cX1_lacksCopies 51 = .ok (.aaload, 1) := by decide +kernel
theorem dX1_lacksCopies_52 : decode cX1_lacksCopies 52 = .ok (.getfield 142, 3) := by decide +kernel
theorem dX1_lacksCopies_55 : decode cX1_lacksCopies 55 = .ok (.iload_n 2, 1) := by decide +kernel
theorem dX1_lacksCopies_56 : decode cX1_lacksCopies 56 = .ok (.if_icmp .ge 7, 3) := by decide +kernel
theorem dX1_lacksCopies_59 : decode cX1_lacksCopies 59 = .ok (.iconst 1, 1) := by decide +kernel
theorem dX1_lacksCopies_60 : decode cX1_lacksCopies 60 = .ok (.goto 4, 3) := by decide +kernel
theorem dX1_lacksCopies_63 : decode cX1_lacksCopies 63 = .ok (.iconst 0, 1) := by decide +kernel
theorem dX1_lacksCopies_64 : decode cX1_lacksCopies 64 = .ok (.ireturn, 1) := by decide +kernel
theorem dX1_workerDoes_0 : decode cX1_workerDoes 0 = .ok (.aload_n 0, 1) := by decide +kernel
theorem dX1_workerDoes_1 : decode cX1_workerDoes 1 = .ok (.getfield 33, 3) := by decide +kernel
theorem dX1_workerDoes_4 : decode cX1_workerDoes 4 = .ok (.iconst 1, 1) := by decide +kernel
theorem dX1_workerDoes_5 : decode cX1_workerDoes 5 = .ok (.aaload, 1) := by decide +kernel
theorem dX1_workerDoes_6 : decode cX1_workerDoes 6 = .ok (.astore_n 3, 1) := by decide +kernel
theorem dX1_workerDoes_7 : decode cX1_workerDoes 7 = .ok (.iload_n 1, 1) := by decide +kernel
theorem dX1_workerDoes_8 : decode cX1_workerDoes 8 = .ok (.tableswitch 274 0 19 #[254, 274, 274, 274, 274, 274, 239, 274, 244, 274, 274, 274, 96, 274, 274, 121, 274, 147, 274, 174], 96) := by decide +kernel
theorem dX1_workerDoes_104 : decode cX1_workerDoes 104 = .ok (.aload_n 0, 1) := by decide +kernel
theorem dX1_workerDoes_105 : decode cX1_workerDoes 105 = .ok (.getfield 18, 3) := by decide +kernel
theorem dX1_workerDoes_108 : decode cX1_workerDoes 108 = .ok (.aload_n 2, 1) := by decide +kernel
theorem dX1_workerDoes_109 : decode cX1_workerDoes 109 = .ok (.getfield 214, 3) := by decide +kernel
theorem dX1_workerDoes_112 : decode cX1_workerDoes 112 = .ok (.aload_n 0, 1) := by decide +kernel
theorem dX1_workerDoes_113 : decode cX1_workerDoes 113 = .ok (.getfield 27, 3) := by decide +kernel
theorem dX1_workerDoes_116 : decode cX1_workerDoes 116 = .ok (.iconst 0, 1) := by decide +kernel
theorem dX1_workerDoes_117 : decode cX1_workerDoes 117 = .ok (.aaload, 1) := by decide +kernel
theorem dX1_workerDoes_118 : decode cX1_workerDoes 118 = .ok (.invokevirtual 157, 3) := by decide +kernel
theorem dX1_workerDoes_121 : decode cX1_workerDoes 121 = .ok (.iastore, 1) := by decide +kernel
theorem dX1_workerDoes_122 : decode cX1_workerDoes 122 = .ok (.aload_n 3, 1) := by decide +kernel
theorem dX1_workerDoes_123 : decode cX1_workerDoes 123 = .ok (.getfield 170, 3) := by decide +kernel
theorem dX1_workerDoes_126 : decode cX1_workerDoes 126 = .ok (.iconst 1, 1) := by decide +kernel
theorem dX1_workerDoes_127 : decode cX1_workerDoes 127 = .ok (.iadd, 1) := by decide +kernel
theorem dX1_workerDoes_128 : decode cX1_workerDoes 128 = .ok (.ireturn, 1) := by decide +kernel
theorem dX1_workerDoes_129 : decode cX1_workerDoes 129 = .ok (.aload_n 0, 1) := by decide +kernel
theorem dX1_workerDoes_130 : decode cX1_workerDoes 130 = .ok (.getfield 27, 3) := by decide +kernel
theorem dX1_workerDoes_133 : decode cX1_workerDoes 133 = .ok (.iconst 2, 1) := by decide +kernel
theorem dX1_workerDoes_134 : decode cX1_workerDoes 134 = .ok (.aaload, 1) := by decide +kernel
theorem dX1_workerDoes_135 : decode cX1_workerDoes 135 = .ok (.aload_n 0, 1) := by decide +kernel
theorem dX1_workerDoes_136 : decode cX1_workerDoes 136 = .ok (.getfield 18, 3) := by decide +kernel
theorem dX1_workerDoes_139 : decode cX1_workerDoes 139 = .ok (.aload_n 2, 1) := by decide +kernel
theorem dX1_workerDoes_140 : decode cX1_workerDoes 140 = .ok (.getfield 214, 3) := by decide +kernel
theorem dX1_workerDoes_143 : decode cX1_workerDoes 143 = .ok (.iaload, 1) := by decide +kernel
theorem dX1_workerDoes_144 : decode cX1_workerDoes 144 = .ok (.iconst (-1), 1) := by decide +kernel
theorem dX1_workerDoes_145 : decode cX1_workerDoes 145 = .ok (.invokevirtual 210, 3) := by decide +kernel
theorem dX1_workerDoes_148 : decode cX1_workerDoes 148 = .ok (.aload_n 3, 1) := by decide +kernel
theorem dX1_workerDoes_149 : decode cX1_workerDoes 149 = .ok (.getfield 170, 3) := by decide +kernel
theorem dX1_workerDoes_152 : decode cX1_workerDoes 152 = .ok (.iconst 1, 1) := by decide +kernel
theorem dX1_workerDoes_153 : decode cX1_workerDoes 153 = .ok (.iadd, 1) := by decide +kernel
theorem dX1_workerDoes_154 : decode cX1_workerDoes 154 = .ok (.ireturn, 1) := by decide +kernel
theorem dX1_workerDoes_155 : decode cX1_workerDoes 155 = .ok (.aload_n 0, 1) := by decide +kernel
theorem dX1_workerDoes_156 : decode cX1_workerDoes 156 = .ok (.getfield 27, 3) := by decide +kernel
theorem dX1_workerDoes_159 : decode cX1_workerDoes 159 = .ok (.iconst 4, 1) := by decide +kernel
theorem dX1_workerDoes_160 : decode cX1_workerDoes 160 = .ok (.aaload, 1) := by decide +kernel
theorem dX1_workerDoes_161 : decode cX1_workerDoes 161 = .ok (.invokevirtual 157, 3) := by decide +kernel
theorem dX1_workerDoes_164 : decode cX1_workerDoes 164 = .ok (.iconst 1, 1) := by decide +kernel
theorem dX1_workerDoes_165 : decode cX1_workerDoes 165 = .ok (.if_icmp .ne 10, 3) := by decide +kernel
theorem dX1_workerDoes_168 : decode cX1_workerDoes 168 = .ok (.aload_n 2, 1) := by decide +kernel
theorem dX1_workerDoes_169 : decode cX1_workerDoes 169 = .ok (.getfield 227, 3) := by decide +kernel
theorem dX1_workerDoes_172 : decode cX1_workerDoes 172 = .ok (.goto 9, 3) := by decide +kernel
theorem dX1_workerDoes_175 : decode cX1_workerDoes 175 = .ok (.aload_n 3, 1) := by decide +kernel
theorem dX1_workerDoes_176 : decode cX1_workerDoes 176 = .ok (.getfield 170, 3) := by decide +kernel
theorem dX1_workerDoes_179 : decode cX1_workerDoes 179 = .ok (.iconst 1, 1) := by decide +kernel
theorem dX1_workerDoes_180 : decode cX1_workerDoes 180 = .ok (.iadd, 1) := by decide +kernel
theorem dX1_workerDoes_181 : decode cX1_workerDoes 181 = .ok (.ireturn, 1) := by decide +kernel
theorem dX1_workerDoes_182 : decode cX1_workerDoes 182 = .ok (.aload_n 0, 1) := by decide +kernel
theorem dX1_workerDoes_183 : decode cX1_workerDoes 183 = .ok (.aload_n 2, 1) := by decide +kernel
theorem dX1_workerDoes_184 : decode cX1_workerDoes 184 = .ok (.getfield 217, 3) := by decide +kernel
theorem dX1_workerDoes_187 : decode cX1_workerDoes 187 = .ok (.invokevirtual 250, 3) := by decide +kernel
theorem dX1_workerDoes_190 : decode cX1_workerDoes 190 = .ok (.istore 4, 2) := by decide +kernel
theorem dX1_workerDoes_192 : decode cX1_workerDoes 192 = .ok (.aload_n 2, 1) := by decide +kernel
theorem dX1_workerDoes_193 : decode cX1_workerDoes 193 = .ok (.iload 4, 2) := by decide +kernel
theorem dX1_workerDoes_195 : decode cX1_workerDoes 195 = .ok (.aload_n 0, 1) := by decide +kernel
theorem dX1_workerDoes_196 : decode cX1_workerDoes 196 = .ok (.aload_n 2, 1) := by decide +kernel
theorem dX1_workerDoes_197 : decode cX1_workerDoes 197 = .ok (.getfield 220, 3) := by decide +kernel
theorem dX1_workerDoes_200 : decode cX1_workerDoes 200 = .ok (.invokevirtual 250, 3) := by decide +kernel
theorem dX1_workerDoes_203 : decode cX1_workerDoes 203 = .ok (.invokevirtual 223, 3) := by decide +kernel
theorem dX1_workerDoes_206 : decode cX1_workerDoes 206 = .ok (.istore 5, 2) := by decide +kernel
theorem dX1_workerDoes_208 : decode cX1_workerDoes 208 = .ok (.aload_n 0, 1) := by decide +kernel
theorem dX1_workerDoes_209 : decode cX1_workerDoes 209 = .ok (.getfield 27, 3) := by decide +kernel
theorem dX1_workerDoes_212 : decode cX1_workerDoes 212 = .ok (.iconst 5, 1) := by decide +kernel
theorem dX1_workerDoes_213 : decode cX1_workerDoes 213 = .ok (.aaload, 1) := by decide +kernel
theorem dX1_workerDoes_214 : decode cX1_workerDoes 214 = .ok (.iload 5, 2) := by decide +kernel
theorem dX1_workerDoes_216 : decode cX1_workerDoes 216 = .ok (.ifCond .eq 7, 3) := by decide +kernel
theorem dX1_workerDoes_219 : decode cX1_workerDoes 219 = .ok (.iconst 1, 1) := by decide +kernel
theorem dX1_workerDoes_220 : decode cX1_workerDoes 220 = .ok (.goto 4, 3) := by decide +kernel
theorem dX1_workerDoes_223 : decode cX1_workerDoes 223 = .ok (.iconst 0, 1) := by decide +kernel
theorem dX1_workerDoes_224 : decode cX1_workerDoes 224 = .ok (.iconst (-1), 1) := by decide +kernel
theorem dX1_workerDoes_225 : decode cX1_workerDoes 225 = .ok (.invokevirtual 210, 3) := by decide +kernel
theorem dX1_workerDoes_228 : decode cX1_workerDoes 228 = .ok (.iload 5, 2) := by decide +kernel
theorem dX1_workerDoes_230 : decode cX1_workerDoes 230 = .ok (.ifCond .eq 10, 3) := by decide +kernel
theorem dX1_workerDoes_233 : decode cX1_workerDoes 233 = .ok (.aload_n 2, 1) := by decide +kernel
theorem dX1_workerDoes_234 : decode cX1_workerDoes 234 = .ok (.getfield 227, 3) := by decide +kernel
theorem dX1_workerDoes_237 : decode cX1_workerDoes 237 = .ok (.goto 9, 3) := by decide +kernel
theorem dX1_workerDoes_240 : decode cX1_workerDoes 240 = .ok (.aload_n 3, 1) := by decide +kernel
theorem dX1_workerDoes_241 : decode cX1_workerDoes 241 = .ok (.getfield 170, 3) := by decide +kernel
theorem dX1_workerDoes_244 : decode cX1_workerDoes 244 = .ok (.iconst 1, 1) := by decide +kernel
theorem dX1_workerDoes_245 : decode cX1_workerDoes 245 = .ok (.iadd, 1) := by decide +kernel
theorem dX1_workerDoes_246 : decode cX1_workerDoes 246 = .ok (.ireturn, 1) := by decide +kernel
theorem dX1_workerDoes_247 : decode cX1_workerDoes 247 = .ok (.aload_n 2, 1) := by decide +kernel
theorem dX1_workerDoes_248 : decode cX1_workerDoes 248 = .ok (.getfield 227, 3) := by decide +kernel
theorem dX1_workerDoes_251 : decode cX1_workerDoes 251 = .ok (.ireturn, 1) := by decide +kernel
theorem dX1_workerDoes_252 : decode cX1_workerDoes 252 = .ok (.aload_n 3, 1) := by decide +kernel
theorem dX1_workerDoes_253 : decode cX1_workerDoes 253 = .ok (.iconst 1, 1) := by decide +kernel
theorem dX1_workerDoes_254 : decode cX1_workerDoes 254 = .ok (.putfield 139, 3) := by decide +kernel
theorem dX1_workerDoes_257 : decode cX1_workerDoes 257 = .ok (.aload_n 3, 1) := by decide +kernel
theorem dX1_workerDoes_258 : decode cX1_workerDoes 258 = .ok (.getfield 170, 3) := by decide +kernel
theorem dX1_workerDoes_261 : decode cX1_workerDoes 261 = .ok (.ireturn, 1) := by decide +kernel
theorem dX1_workerDoes_262 : decode cX1_workerDoes 262 = .ok (.aload_n 0, 1) := by decide +kernel
theorem dX1_workerDoes_263 : decode cX1_workerDoes 263 = .ok (.getfield 18, 3) := by decide +kernel
theorem dX1_workerDoes_266 : decode cX1_workerDoes 266 = .ok (.aload_n 2, 1) := by decide +kernel
theorem dX1_workerDoes_267 : decode cX1_workerDoes 267 = .ok (.getfield 214, 3) := by decide +kernel
theorem dX1_workerDoes_270 : decode cX1_workerDoes 270 = .ok (.aload_n 2, 1) := by decide +kernel
theorem dX1_workerDoes_271 : decode cX1_workerDoes 271 = .ok (.getfield 227, 3) := by decide +kernel
theorem dX1_workerDoes_274 : decode cX1_workerDoes 274 = .ok (.iastore, 1) := by decide +kernel
theorem dX1_workerDoes_275 : decode cX1_workerDoes 275 = .ok (.aload_n 3, 1) := by decide +kernel
theorem dX1_workerDoes_276 : decode cX1_workerDoes 276 = .ok (.getfield 170, 3) := by decide +kernel
theorem dX1_workerDoes_279 : decode cX1_workerDoes 279 = .ok (.iconst 1, 1) := by decide +kernel
theorem dX1_workerDoes_280 : decode cX1_workerDoes 280 = .ok (.iadd, 1) := by decide +kernel
theorem dX1_workerDoes_281 : decode cX1_workerDoes 281 = .ok (.ireturn, 1) := by decide +kernel
theorem dX1_workerDoes_282 : decode cX1_workerDoes 282 = .ok (.aload_n 0, 1) := by decide +kernel
theorem dX1_workerDoes_283 : decode cX1_workerDoes 283 = .ok (.aload_n 2, 1) := by decide +kernel
theorem dX1_workerDoes_284 : decode cX1_workerDoes 284 = .ok (.getfield 217, 3) := by decide +kernel
theorem dX1_workerDoes_287 : decode cX1_workerDoes 287 = .ok (.invokevirtual 250, 3) := by decide +kernel
theorem dX1_workerDoes_290 : decode cX1_workerDoes 290 = .ok (.istore 6, 2) := by decide +kernel
theorem dX1_workerDoes_292 : decode cX1_workerDoes 292 = .ok (.aload_n 0, 1) := by decide +kernel
theorem dX1_workerDoes_293 : decode cX1_workerDoes 293 = .ok (.getfield 18, 3) := by decide +kernel
theorem dX1_workerDoes_296 : decode cX1_workerDoes 296 = .ok (.aload_n 2, 1) := by decide +kernel
theorem dX1_workerDoes_297 : decode cX1_workerDoes 297 = .ok (.getfield 214, 3) := by decide +kernel
theorem dX1_workerDoes_300 : decode cX1_workerDoes 300 = .ok (.iload_n 1, 1) := by decide +kernel
theorem dX1_workerDoes_301 : decode cX1_workerDoes 301 = .ok (.iload 6, 2) := by decide +kernel
theorem dX1_workerDoes_303 : decode cX1_workerDoes 303 = .ok (.aload_n 0, 1) := by decide +kernel
theorem dX1_workerDoes_304 : decode cX1_workerDoes 304 = .ok (.aload_n 2, 1) := by decide +kernel
theorem dX1_workerDoes_305 : decode cX1_workerDoes 305 = .ok (.getfield 220, 3) := by decide +kernel
theorem dX1_workerDoes_308 : decode cX1_workerDoes 308 = .ok (.invokevirtual 250, 3) := by decide +kernel
theorem dX1_workerDoes_311 : decode cX1_workerDoes 311 = .ok (.invokestatic 230, 3) := by decide +kernel
theorem dX1_workerDoes_314 : decode cX1_workerDoes 314 = .ok (.iastore, 1) := by decide +kernel
theorem dX1_workerDoes_315 : decode cX1_workerDoes 315 = .ok (.aload_n 3, 1) := by decide +kernel
theorem dX1_workerDoes_316 : decode cX1_workerDoes 316 = .ok (.getfield 170, 3) := by decide +kernel
theorem dX1_workerDoes_319 : decode cX1_workerDoes 319 = .ok (.iconst 1, 1) := by decide +kernel
theorem dX1_workerDoes_320 : decode cX1_workerDoes 320 = .ok (.iadd, 1) := by decide +kernel
theorem dX1_workerDoes_321 : decode cX1_workerDoes 321 = .ok (.ireturn, 1) := by decide +kernel
theorem dX1_ownOrCopy_0 : decode cX1_ownOrCopy 0 = .ok (.aload_n 0, 1) := by decide +kernel
theorem dX1_ownOrCopy_1 : decode cX1_ownOrCopy 1 = .ok (.getfield 12, 3) := by decide +kernel
theorem dX1_ownOrCopy_4 : decode cX1_ownOrCopy 4 = .ok (.getfield 244, 3) := by decide +kernel
theorem dX1_ownOrCopy_7 : decode cX1_ownOrCopy 7 = .ok (.iload_n 1, 1) := by decide +kernel
theorem dX1_ownOrCopy_8 : decode cX1_ownOrCopy 8 = .ok (.invokestatic 247, 3) := by decide +kernel
theorem dX1_ownOrCopy_11 : decode cX1_ownOrCopy 11 = .ok (.ifCond .eq 15, 3) := by decide +kernel
theorem dX1_ownOrCopy_14 : decode cX1_ownOrCopy 14 = .ok (.aload_n 0, 1) := by decide +kernel
theorem dX1_ownOrCopy_15 : decode cX1_ownOrCopy 15 = .ok (.getfield 27, 3) := by decide +kernel
theorem dX1_ownOrCopy_18 : decode cX1_ownOrCopy 18 = .ok (.iconst 3, 1) := by decide +kernel
theorem dX1_ownOrCopy_19 : decode cX1_ownOrCopy 19 = .ok (.aaload, 1) := by decide +kernel
theorem dX1_ownOrCopy_20 : decode cX1_ownOrCopy 20 = .ok (.invokevirtual 157, 3) := by decide +kernel
theorem dX1_ownOrCopy_23 : decode cX1_ownOrCopy 23 = .ok (.goto 9, 3) := by decide +kernel
theorem dX1_ownOrCopy_26 : decode cX1_ownOrCopy 26 = .ok (.aload_n 0, 1) := by decide +kernel
theorem dX1_ownOrCopy_27 : decode cX1_ownOrCopy 27 = .ok (.getfield 18, 3) := by decide +kernel
theorem dX1_ownOrCopy_30 : decode cX1_ownOrCopy 30 = .ok (.iload_n 1, 1) := by decide +kernel
theorem dX1_ownOrCopy_31 : decode cX1_ownOrCopy 31 = .ok (.iaload, 1) := by decide +kernel
theorem dX1_ownOrCopy_32 : decode cX1_ownOrCopy 32 = .ok (.ireturn, 1) := by decide +kernel
theorem dX1_figure_0 : decode cX1_figure 0 = .ok (.iload_n 1, 1) := by decide +kernel
theorem dX1_figure_1 : decode cX1_figure 1 = .ok (.tableswitch 124 0 11 #[63, 68, 73, 81, 89, 94, 99, 104, 109, 114, 124, 119], 63) := by decide +kernel
theorem dX1_figure_64 : decode cX1_figure 64 = .ok (.aload_n 0, 1) := by decide +kernel
theorem dX1_figure_65 : decode cX1_figure 65 = .ok (.getfield 59, 3) := by decide +kernel
theorem dX1_figure_68 : decode cX1_figure 68 = .ok (.ireturn, 1) := by decide +kernel
theorem dX1_figure_69 : decode cX1_figure 69 = .ok (.aload_n 0, 1) := by decide +kernel
theorem dX1_figure_70 : decode cX1_figure 70 = .ok (.getfield 63, 3) := by decide +kernel
theorem dX1_figure_73 : decode cX1_figure 73 = .ok (.ireturn, 1) := by decide +kernel
theorem dX1_figure_74 : decode cX1_figure 74 = .ok (.aload_n 0, 1) := by decide +kernel
theorem dX1_figure_75 : decode cX1_figure 75 = .ok (.getfield 12, 3) := by decide +kernel
theorem dX1_figure_78 : decode cX1_figure 78 = .ok (.getfield 253, 3) := by decide +kernel
theorem dX1_figure_81 : decode cX1_figure 81 = .ok (.ireturn, 1) := by decide +kernel
theorem dX1_figure_82 : decode cX1_figure 82 = .ok (.aload_n 0, 1) := by decide +kernel
theorem dX1_figure_83 : decode cX1_figure 83 = .ok (.getfield 12, 3) := by decide +kernel
theorem dX1_figure_86 : decode cX1_figure 86 = .ok (.getfield 244, 3) := by decide +kernel
theorem dX1_figure_89 : decode cX1_figure 89 = .ok (.ireturn, 1) := by decide +kernel
theorem dX1_figure_90 : decode cX1_figure 90 = .ok (.aload_n 0, 1) := by decide +kernel
theorem dX1_figure_91 : decode cX1_figure 91 = .ok (.getfield 69, 3) := by decide +kernel
theorem dX1_figure_94 : decode cX1_figure 94 = .ok (.ireturn, 1) := by decide +kernel
theorem dX1_figure_95 : decode cX1_figure 95 = .ok (.aload_n 0, 1) := by decide +kernel
theorem dX1_figure_96 : decode cX1_figure 96 = .ok (.invokevirtual 126, 3) := by decide +kernel
theorem dX1_figure_99 : decode cX1_figure 99 = .ok (.ireturn, 1) := by decide +kernel
theorem dX1_figure_100 : decode cX1_figure 100 = .ok (.aload_n 0, 1) := by decide +kernel
theorem dX1_figure_101 : decode cX1_figure 101 = .ok (.getfield 70, 3) := by decide +kernel
theorem dX1_figure_104 : decode cX1_figure 104 = .ok (.ireturn, 1) := by decide +kernel
theorem dX1_figure_105 : decode cX1_figure 105 = .ok (.aload_n 0, 1) := by decide +kernel
theorem dX1_figure_106 : decode cX1_figure 106 = .ok (.getfield 73, 3) := by decide +kernel
theorem dX1_figure_109 : decode cX1_figure 109 = .ok (.ireturn, 1) := by decide +kernel
theorem dX1_figure_110 : decode cX1_figure 110 = .ok (.aload_n 0, 1) := by decide +kernel
theorem dX1_figure_111 : decode cX1_figure 111 = .ok (.getfield 76, 3) := by decide +kernel
theorem dX1_figure_114 : decode cX1_figure 114 = .ok (.ireturn, 1) := by decide +kernel
theorem dX1_figure_115 : decode cX1_figure 115 = .ok (.aload_n 0, 1) := by decide +kernel
theorem dX1_figure_116 : decode cX1_figure 116 = .ok (.getfield 79, 3) := by decide +kernel
theorem dX1_figure_119 : decode cX1_figure 119 = .ok (.ireturn, 1) := by decide +kernel
theorem dX1_figure_120 : decode cX1_figure 120 = .ok (.aload_n 0, 1) := by decide +kernel
theorem dX1_figure_121 : decode cX1_figure 121 = .ok (.getfield 82, 3) := by decide +kernel
theorem dX1_figure_124 : decode cX1_figure 124 = .ok (.ireturn, 1) := by decide +kernel
theorem dX1_figure_125 : decode cX1_figure 125 = .ok (.iconst (-1), 1) := by decide +kernel
theorem dX1_figure_126 : decode cX1_figure 126 = .ok (.ireturn, 1) := by decide +kernel
theorem dX2_init_0 : decode cX2_init 0 = .ok (.aload_n 0, 1) := by decide +kernel
theorem dX2_init_1 : decode cX2_init 1 = .ok (.invokespecial 3, 3) := by decide +kernel
theorem dX2_init_4 : decode cX2_init 4 = .ok (.aload_n 0, 1) := by decide +kernel
theorem dX2_init_5 : decode cX2_init 5 = .ok (.bipush 25, 2) := by decide +kernel
theorem dX2_init_7 : decode cX2_init 7 = .ok (.anewarray 9, 3) := by decide +kernel
theorem dX2_init_10 : decode cX2_init 10 = .ok (.putfield 11, 3) := by decide +kernel
theorem dX2_init_13 : decode cX2_init 13 = .ok (.aload_n 0, 1) := by decide +kernel
theorem dX2_init_14 : decode cX2_init 14 = .ok (.bipush 6, 2) := by decide +kernel
theorem dX2_init_16 : decode cX2_init 16 = .ok (.newarray .int, 2) := by decide +kernel
theorem dX2_init_18 : decode cX2_init 18 = .ok (.putfield 17, 3) := by decide +kernel
theorem dX2_init_21 : decode cX2_init 21 = .ok (.aload_n 0, 1) := by decide +kernel
theorem dX2_init_22 : decode cX2_init 22 = .ok (.bipush 32, 2) := by decide +kernel
theorem dX2_init_24 : decode cX2_init 24 = .ok (.newarray .int, 2) := by decide +kernel
theorem dX2_init_26 : decode cX2_init 26 = .ok (.putfield 21, 3) := by decide +kernel
theorem dX2_init_29 : decode cX2_init 29 = .ok (.aload_n 0, 1) := by decide +kernel
theorem dX2_init_30 : decode cX2_init 30 = .ok (.bipush 8, 2) := by decide +kernel
theorem dX2_init_32 : decode cX2_init 32 = .ok (.newarray .int, 2) := by decide +kernel
theorem dX2_init_34 : decode cX2_init 34 = .ok (.putfield 24, 3) := by decide +kernel
theorem dX2_init_37 : decode cX2_init 37 = .ok (.aload_n 0, 1) := by decide +kernel
theorem dX2_init_38 : decode cX2_init 38 = .ok (.bipush 100, 2) := by decide +kernel
theorem dX2_init_40 : decode cX2_init 40 = .ok (.newarray .int, 2) := by decide +kernel
theorem dX2_init_42 : decode cX2_init 42 = .ok (.putfield 27, 3) := by decide +kernel
theorem dX2_init_45 : decode cX2_init 45 = .ok (.aload_n 0, 1) := by decide +kernel
theorem dX2_init_46 : decode cX2_init 46 = .ok (.bipush 50, 2) := by decide +kernel
theorem dX2_init_48 : decode cX2_init 48 = .ok (.newarray .int, 2) := by decide +kernel
theorem dX2_init_50 : decode cX2_init 50 = .ok (.putfield 30, 3) := by decide +kernel
theorem dX2_init_53 : decode cX2_init 53 = .ok (.aload_n 0, 1) := by decide +kernel
theorem dX2_init_54 : decode cX2_init 54 = .ok (.bipush 50, 2) := by decide +kernel
theorem dX2_init_56 : decode cX2_init 56 = .ok (.newarray .int, 2) := by decide +kernel
theorem dX2_init_58 : decode cX2_init 58 = .ok (.putfield 33, 3) := by decide +kernel
theorem dX2_init_61 : decode cX2_init 61 = .ok (.aload_n 0, 1) := by decide +kernel
theorem dX2_init_62 : decode cX2_init 62 = .ok (.bipush 24, 2) := by decide +kernel
theorem dX2_init_64 : decode cX2_init 64 = .ok (.newarray .int, 2) := by decide +kernel
theorem dX2_init_66 : decode cX2_init 66 = .ok (.putfield 36, 3) := by decide +kernel
theorem dX2_init_69 : decode cX2_init 69 = .ok (.iconst 0, 1) := by decide +kernel
theorem dX2_init_70 : decode cX2_init 70 = .ok (.istore_n 1, 1) := by decide +kernel
theorem dX2_init_71 : decode cX2_init 71 = .ok (.iload_n 1, 1) := by decide +kernel
theorem dX2_init_72 : decode cX2_init 72 = .ok (.bipush 25, 2) := by decide +kernel
theorem dX2_init_74 : decode cX2_init 74 = .ok (.if_icmp .ge 22, 3) := by decide +kernel
theorem dX2_init_77 : decode cX2_init 77 = .ok (.aload_n 0, 1) := by decide +kernel
theorem dX2_init_78 : decode cX2_init 78 = .ok (.getfield 11, 3) := by decide +kernel
theorem dX2_init_81 : decode cX2_init 81 = .ok (.iload_n 1, 1) := by decide +kernel
theorem dX2_init_82 : decode cX2_init 82 = .ok (.new 9, 3) := by decide +kernel
theorem dX2_init_85 : decode cX2_init 85 = .ok (.dup, 1) := by decide +kernel
theorem dX2_init_86 : decode cX2_init 86 = .ok (.invokespecial 39, 3) := by decide +kernel
theorem dX2_init_89 : decode cX2_init 89 = .ok (.aastore, 1) := by decide +kernel
theorem dX2_init_90 : decode cX2_init 90 = .ok (.iinc 1 1, 3) := by decide +kernel
theorem dX2_init_93 : decode cX2_init 93 = .ok (.goto (-22), 3) := by decide +kernel
theorem dX2_init_96 : decode cX2_init 96 = .ok (.aload_n 0, 1) := by decide +kernel
theorem dX2_init_97 : decode cX2_init 97 = .ok (.invokevirtual 40, 3) := by decide +kernel
theorem dX2_init_100 : decode cX2_init 100 = .ok (.return_, 1) := by decide +kernel
theorem dX2_clear_0 : decode cX2_clear 0 = .ok (.aload_n 0, 1) := by decide +kernel
theorem dX2_clear_1 : decode cX2_clear 1 = .ok (.iconst 0, 1) := by decide +kernel
theorem dX2_clear_2 : decode cX2_clear 2 = .ok (.putfield 43, 3) := by decide +kernel
theorem dX2_clear_5 : decode cX2_clear 5 = .ok (.aload_n 0, 1) := by decide +kernel
theorem dX2_clear_6 : decode cX2_clear 6 = .ok (.iconst 3, 1) := by decide +kernel
theorem dX2_clear_7 : decode cX2_clear 7 = .ok (.putfield 47, 3) := by decide +kernel
theorem dX2_clear_10 : decode cX2_clear 10 = .ok (.aload_n 0, 1) := by decide +kernel
theorem dX2_clear_11 : decode cX2_clear 11 = .ok (.iconst 0, 1) := by decide +kernel
theorem dX2_clear_12 : decode cX2_clear 12 = .ok (.putfield 50, 3) := by decide +kernel
theorem dX2_clear_15 : decode cX2_clear 15 = .ok (.aload_n 0, 1) := by decide +kernel
theorem dX2_clear_16 : decode cX2_clear 16 = .ok (.getfield 17, 3) := by decide +kernel
theorem dX2_clear_19 : decode cX2_clear 19 = .ok (.iconst 4, 1) := by decide +kernel
theorem dX2_clear_20 : decode cX2_clear 20 = .ok (.invokestatic 53, 3) := by decide +kernel
theorem dX2_clear_23 : decode cX2_clear 23 = .ok (.aload_n 0, 1) := by decide +kernel
theorem dX2_clear_24 : decode cX2_clear 24 = .ok (.getfield 21, 3) := by decide +kernel
theorem dX2_clear_27 : decode cX2_clear 27 = .ok (.iconst 0, 1) := by decide +kernel
theorem dX2_clear_28 : decode cX2_clear 28 = .ok (.invokestatic 53, 3) := by decide +kernel
theorem dX2_clear_31 : decode cX2_clear 31 = .ok (.aload_n 0, 1) := by decide +kernel
theorem dX2_clear_32 : decode cX2_clear 32 = .ok (.getfield 24, 3) := by decide +kernel
theorem dX2_clear_35 : decode cX2_clear 35 = .ok (.iconst 0, 1) := by decide +kernel
theorem dX2_clear_36 : decode cX2_clear 36 = .ok (.invokestatic 53, 3) := by decide +kernel
theorem dX2_clear_39 : decode cX2_clear 39 = .ok (.aload_n 0, 1) := by decide +kernel
theorem dX2_clear_40 : decode cX2_clear 40 = .ok (.getfield 11, 3) := by decide +kernel
theorem dX2_clear_43 : decode cX2_clear 43 = .ok (.iconst 0, 1) := by decide +kernel
theorem dX2_clear_44 : decode cX2_clear 44 = .ok (.aaload, 1) := by decide +kernel
theorem dX2_clear_45 : decode cX2_clear 45 = .ok (.bipush 8, 2) := by decide +kernel
theorem dX2_clear_47 : decode cX2_clear 47 = .ok (.putfield 59, 3) := by decide +kernel
theorem dX2_clear_50 : decode cX2_clear 50 = .ok (.return_, 1) := by decide +kernel
theorem dX2_copyFrom_0 : decode cX2_copyFrom 0 = .ok (.iconst 0, 1) := by decide +kernel
theorem dX2_copyFrom_1 : decode cX2_copyFrom 1 = .ok (.istore_n 2, 1) := by decide +kernel
theorem dX2_copyFrom_2 : decode cX2_copyFrom 2 = .ok (.iload_n 2, 1) := by decide +kernel
theorem dX2_copyFrom_3 : decode cX2_copyFrom 3 = .ok (.aload_n 1, 1) := by decide +kernel
theorem dX2_copyFrom_4 : decode cX2_copyFrom 4 = .ok (.getfield 43, 3) := by decide +kernel
theorem dX2_copyFrom_7 : decode cX2_copyFrom 7 = .ok (.if_icmp .gt 24, 3) := by decide +kernel
theorem dX2_copyFrom_10 : decode cX2_copyFrom 10 = .ok (.aload_n 0, 1) := by decide +kernel
theorem dX2_copyFrom_11 : decode cX2_copyFrom 11 = .ok (.getfield 11, 3) := by decide +kernel
theorem dX2_copyFrom_14 : decode cX2_copyFrom 14 = .ok (.iload_n 2, 1) := by decide +kernel
theorem dX2_copyFrom_15 : decode cX2_copyFrom 15 = .ok (.aaload, 1) := by decide +kernel
theorem dX2_copyFrom_16 : decode cX2_copyFrom 16 = .ok (.aload_n 1, 1) := by decide +kernel
theorem dX2_copyFrom_17 : decode cX2_copyFrom 17 = .ok (.getfield 11, 3) := by decide +kernel
theorem dX2_copyFrom_20 : decode cX2_copyFrom 20 = .ok (.iload_n 2, 1) := by decide +kernel
theorem dX2_copyFrom_21 : decode cX2_copyFrom 21 = .ok (.aaload, 1) := by decide +kernel
theorem dX2_copyFrom_22 : decode cX2_copyFrom 22 = .ok (.invokevirtual 62, 3) := by decide +kernel
theorem dX2_copyFrom_25 : decode cX2_copyFrom 25 = .ok (.iinc 2 1, 3) := by decide +kernel
theorem dX2_copyFrom_28 : decode cX2_copyFrom 28 = .ok (.goto (-26), 3) := by decide +kernel
theorem dX2_copyFrom_31 : decode cX2_copyFrom 31 = .ok (.aload_n 0, 1) := by decide +kernel
theorem dX2_copyFrom_32 : decode cX2_copyFrom 32 = .ok (.aload_n 1, 1) := by decide +kernel
theorem dX2_copyFrom_33 : decode cX2_copyFrom 33 = .ok (.getfield 43, 3) := by decide +kernel
theorem dX2_copyFrom_36 : decode cX2_copyFrom 36 = .ok (.putfield 43, 3) := by decide +kernel
theorem dX2_copyFrom_39 : decode cX2_copyFrom 39 = .ok (.aload_n 0, 1) := by decide +kernel
theorem dX2_copyFrom_40 : decode cX2_copyFrom 40 = .ok (.aload_n 1, 1) := by decide +kernel
theorem dX2_copyFrom_41 : decode cX2_copyFrom 41 = .ok (.getfield 47, 3) := by decide +kernel
theorem dX2_copyFrom_44 : decode cX2_copyFrom 44 = .ok (.putfield 47, 3) := by decide +kernel
theorem dX2_copyFrom_47 : decode cX2_copyFrom 47 = .ok (.aload_n 0, 1) := by decide +kernel
theorem dX2_copyFrom_48 : decode cX2_copyFrom 48 = .ok (.aload_n 1, 1) := by decide +kernel
theorem dX2_copyFrom_49 : decode cX2_copyFrom 49 = .ok (.getfield 50, 3) := by decide +kernel
theorem dX2_copyFrom_52 : decode cX2_copyFrom 52 = .ok (.putfield 50, 3) := by decide +kernel
theorem dX2_copyFrom_55 : decode cX2_copyFrom 55 = .ok (.aload_n 0, 1) := by decide +kernel
theorem dX2_copyFrom_56 : decode cX2_copyFrom 56 = .ok (.aload_n 1, 1) := by decide +kernel
theorem dX2_copyFrom_57 : decode cX2_copyFrom 57 = .ok (.getfield 66, 3) := by decide +kernel
theorem dX2_copyFrom_60 : decode cX2_copyFrom 60 = .ok (.putfield 66, 3) := by decide +kernel
theorem dX2_copyFrom_63 : decode cX2_copyFrom 63 = .ok (.aload_n 1, 1) := by decide +kernel
theorem dX2_copyFrom_64 : decode cX2_copyFrom 64 = .ok (.getfield 17, 3) := by decide +kernel
theorem dX2_copyFrom_67 : decode cX2_copyFrom 67 = .ok (.iconst 0, 1) := by decide +kernel
theorem dX2_copyFrom_68 : decode cX2_copyFrom 68 = .ok (.aload_n 0, 1) := by decide +kernel
theorem dX2_copyFrom_69 : decode cX2_copyFrom 69 = .ok (.getfield 17, 3) := by decide +kernel
theorem dX2_copyFrom_72 : decode cX2_copyFrom 72 = .ok (.iconst 0, 1) := by decide +kernel
theorem dX2_copyFrom_73 : decode cX2_copyFrom 73 = .ok (.bipush 6, 2) := by decide +kernel
theorem dX2_copyFrom_75 : decode cX2_copyFrom 75 = .ok (.invokestatic 69, 3) := by decide +kernel
theorem dX2_copyFrom_78 : decode cX2_copyFrom 78 = .ok (.aload_n 1, 1) := by decide +kernel
theorem dX2_copyFrom_79 : decode cX2_copyFrom 79 = .ok (.getfield 21, 3) := by decide +kernel
theorem dX2_copyFrom_82 : decode cX2_copyFrom 82 = .ok (.iconst 0, 1) := by decide +kernel
theorem dX2_copyFrom_83 : decode cX2_copyFrom 83 = .ok (.aload_n 0, 1) := by decide +kernel
theorem dX2_copyFrom_84 : decode cX2_copyFrom 84 = .ok (.getfield 21, 3) := by decide +kernel
theorem dX2_copyFrom_87 : decode cX2_copyFrom 87 = .ok (.iconst 0, 1) := by decide +kernel
theorem dX2_copyFrom_88 : decode cX2_copyFrom 88 = .ok (.bipush 32, 2) := by decide +kernel
theorem dX2_copyFrom_90 : decode cX2_copyFrom 90 = .ok (.invokestatic 69, 3) := by decide +kernel
theorem dX2_copyFrom_93 : decode cX2_copyFrom 93 = .ok (.aload_n 1, 1) := by decide +kernel
theorem dX2_copyFrom_94 : decode cX2_copyFrom 94 = .ok (.getfield 24, 3) := by decide +kernel
theorem dX2_copyFrom_97 : decode cX2_copyFrom 97 = .ok (.iconst 0, 1) := by decide +kernel
theorem dX2_copyFrom_98 : decode cX2_copyFrom 98 = .ok (.aload_n 0, 1) := by decide +kernel
theorem dX2_copyFrom_99 : decode cX2_copyFrom 99 = .ok (.getfield 24, 3) := by decide +kernel
theorem dX2_copyFrom_102 : decode cX2_copyFrom 102 = .ok (.iconst 0, 1) := by decide +kernel
theorem dX2_copyFrom_103 : decode cX2_copyFrom 103 = .ok (.bipush 8, 2) := by decide +kernel
theorem dX2_copyFrom_105 : decode cX2_copyFrom 105 = .ok (.invokestatic 69, 3) := by decide +kernel
theorem dX2_copyFrom_108 : decode cX2_copyFrom 108 = .ok (.aload_n 1, 1) := by decide +kernel
theorem dX2_copyFrom_109 : decode cX2_copyFrom 109 = .ok (.getfield 27, 3) := by decide +kernel
theorem dX2_copyFrom_112 : decode cX2_copyFrom 112 = .ok (.iconst 0, 1) := by decide +kernel
theorem dX2_copyFrom_113 : decode cX2_copyFrom 113 = .ok (.aload_n 0, 1) := by decide +kernel
theorem dX2_copyFrom_114 : decode cX2_copyFrom 114 = .ok (.getfield 27, 3) := by decide +kernel
theorem dX2_copyFrom_117 : decode cX2_copyFrom 117 = .ok (.iconst 0, 1) := by decide +kernel
theorem dX2_copyFrom_118 : decode cX2_copyFrom 118 = .ok (.aload_n 0, 1) := by decide +kernel
theorem dX2_copyFrom_119 : decode cX2_copyFrom 119 = .ok (.getfield 27, 3) := by decide +kernel
theorem dX2_copyFrom_122 : decode cX2_copyFrom 122 = .ok (.arraylength, 1) := by decide +kernel
theorem dX2_copyFrom_123 : decode cX2_copyFrom 123 = .ok (.invokestatic 69, 3) := by decide +kernel
theorem dX2_copyFrom_126 : decode cX2_copyFrom 126 = .ok (.aload_n 1, 1) := by decide +kernel
theorem dX2_copyFrom_127 : decode cX2_copyFrom 127 = .ok (.getfield 30, 3) := by decide +kernel
theorem dX2_copyFrom_130 : decode cX2_copyFrom 130 = .ok (.iconst 0, 1) := by decide +kernel
theorem dX2_copyFrom_131 : decode cX2_copyFrom 131 = .ok (.aload_n 0, 1) := by decide +kernel
theorem dX2_copyFrom_132 : decode cX2_copyFrom 132 = .ok (.getfield 30, 3) := by decide +kernel
theorem dX2_copyFrom_135 : decode cX2_copyFrom 135 = .ok (.iconst 0, 1) := by decide +kernel
theorem dX2_copyFrom_136 : decode cX2_copyFrom 136 = .ok (.aload_n 0, 1) := by decide +kernel
theorem dX2_copyFrom_137 : decode cX2_copyFrom 137 = .ok (.getfield 30, 3) := by decide +kernel
theorem dX2_copyFrom_140 : decode cX2_copyFrom 140 = .ok (.arraylength, 1) := by decide +kernel
theorem dX2_copyFrom_141 : decode cX2_copyFrom 141 = .ok (.invokestatic 69, 3) := by decide +kernel
theorem dX2_copyFrom_144 : decode cX2_copyFrom 144 = .ok (.aload_n 1, 1) := by decide +kernel
theorem dX2_copyFrom_145 : decode cX2_copyFrom 145 = .ok (.getfield 33, 3) := by decide +kernel
theorem dX2_copyFrom_148 : decode cX2_copyFrom 148 = .ok (.iconst 0, 1) := by decide +kernel
theorem dX2_copyFrom_149 : decode cX2_copyFrom 149 = .ok (.aload_n 0, 1) := by decide +kernel
theorem dX2_copyFrom_150 : decode cX2_copyFrom 150 = .ok (.getfield 33, 3) := by decide +kernel
theorem dX2_copyFrom_153 : decode cX2_copyFrom 153 = .ok (.iconst 0, 1) := by decide +kernel
theorem dX2_copyFrom_154 : decode cX2_copyFrom 154 = .ok (.aload_n 0, 1) := by decide +kernel
theorem dX2_copyFrom_155 : decode cX2_copyFrom 155 = .ok (.getfield 33, 3) := by decide +kernel
theorem dX2_copyFrom_158 : decode cX2_copyFrom 158 = .ok (.arraylength, 1) := by decide +kernel
theorem dX2_copyFrom_159 : decode cX2_copyFrom 159 = .ok (.invokestatic 69, 3) := by decide +kernel
theorem dX2_copyFrom_162 : decode cX2_copyFrom 162 = .ok (.return_, 1) := by decide +kernel
theorem dX2_split_0 : decode cX2_split 0 = .ok (.aload_n 0, 1) := by decide +kernel
theorem dX2_split_1 : decode cX2_split 1 = .ok (.aload_n 0, 1) := by decide +kernel
theorem dX2_split_2 : decode cX2_split 2 = .ok (.getfield 50, 3) := by decide +kernel
theorem dX2_split_5 : decode cX2_split 5 = .ok (.putfield 66, 3) := by decide +kernel
theorem dX2_split_8 : decode cX2_split 8 = .ok (.iconst 0, 1) := by decide +kernel
theorem dX2_split_9 : decode cX2_split 9 = .ok (.istore_n 1, 1) := by decide +kernel
theorem dX2_split_10 : decode cX2_split 10 = .ok (.iload_n 1, 1) := by decide +kernel
theorem dX2_split_11 : decode cX2_split 11 = .ok (.bipush 8, 2) := by decide +kernel
theorem dX2_split_13 : decode cX2_split 13 = .ok (.if_icmp .gt 13, 3) := by decide +kernel
theorem dX2_split_16 : decode cX2_split 16 = .ok (.aload_n 0, 1) := by decide +kernel
theorem dX2_split_17 : decode cX2_split 17 = .ok (.invokevirtual 75, 3) := by decide +kernel
theorem dX2_split_20 : decode cX2_split 20 = .ok (.iinc 1 1, 3) := by decide +kernel
theorem dX2_split_23 : decode cX2_split 23 = .ok (.goto (-13), 3) := by decide +kernel
theorem dX2_split_26 : decode cX2_split 26 = .ok (.aload_n 0, 1) := by decide +kernel
theorem dX2_split_27 : decode cX2_split 27 = .ok (.getfield 33, 3) := by decide +kernel
theorem dX2_split_30 : decode cX2_split 30 = .ok (.iconst 0, 1) := by decide +kernel
theorem dX2_split_31 : decode cX2_split 31 = .ok (.invokestatic 53, 3) := by decide +kernel
theorem dX2_split_34 : decode cX2_split 34 = .ok (.iconst 0, 1) := by decide +kernel
theorem dX2_split_35 : decode cX2_split 35 = .ok (.istore_n 1, 1) := by decide +kernel
theorem dX2_split_36 : decode cX2_split 36 = .ok (.iload_n 1, 1) := by decide +kernel
theorem dX2_split_37 : decode cX2_split 37 = .ok (.aload_n 0, 1) := by decide +kernel
theorem dX2_split_38 : decode cX2_split 38 = .ok (.getfield 43, 3) := by decide +kernel
theorem dX2_split_41 : decode cX2_split 41 = .ok (.if_icmp .gt 20, 3) := by decide +kernel
theorem dX2_split_44 : decode cX2_split 44 = .ok (.aload_n 0, 1) := by decide +kernel
theorem dX2_split_45 : decode cX2_split 45 = .ok (.iload_n 1, 1) := by decide +kernel
theorem dX2_split_46 : decode cX2_split 46 = .ok (.aload_n 0, 1) := by decide +kernel
theorem dX2_split_47 : decode cX2_split 47 = .ok (.getfield 11, 3) := by decide +kernel
theorem dX2_split_50 : decode cX2_split 50 = .ok (.iload_n 1, 1) := by decide +kernel
theorem dX2_split_51 : decode cX2_split 51 = .ok (.aaload, 1) := by decide +kernel
theorem dX2_split_52 : decode cX2_split 52 = .ok (.invokevirtual 78, 3) := by decide +kernel
theorem dX2_split_55 : decode cX2_split 55 = .ok (.iinc 1 1, 3) := by decide +kernel
theorem dX2_split_58 : decode cX2_split 58 = .ok (.goto (-22), 3) := by decide +kernel
theorem dX2_split_61 : decode cX2_split 61 = .ok (.return_, 1) := by decide +kernel
theorem dX2_widenAims_0 : decode cX2_widenAims 0 = .ok (.iconst 0, 1) := by decide +kernel
theorem dX2_widenAims_1 : decode cX2_widenAims 1 = .ok (.istore_n 1, 1) := by decide +kernel
theorem dX2_widenAims_2 : decode cX2_widenAims 2 = .ok (.iload_n 1, 1) := by decide +kernel
theorem dX2_widenAims_3 : decode cX2_widenAims 3 = .ok (.aload_n 0, 1) := by decide +kernel
theorem dX2_widenAims_4 : decode cX2_widenAims 4 = .ok (.getfield 43, 3) := by decide +kernel
theorem dX2_widenAims_7 : decode cX2_widenAims 7 = .ok (.if_icmp .ge 99, 3) := by decide +kernel
theorem dX2_widenAims_10 : decode cX2_widenAims 10 = .ok (.aload_n 0, 1) := by decide +kernel
theorem dX2_widenAims_11 : decode cX2_widenAims 11 = .ok (.getfield 11, 3) := by decide +kernel
theorem dX2_widenAims_14 : decode cX2_widenAims 14 = .ok (.iload_n 1, 1) := by decide +kernel
theorem dX2_widenAims_15 : decode cX2_widenAims 15 = .ok (.aaload, 1) := by decide +kernel
theorem dX2_widenAims_16 : decode cX2_widenAims 16 = .ok (.astore_n 2, 1) := by decide +kernel
theorem dX2_widenAims_17 : decode cX2_widenAims 17 = .ok (.aload_n 2, 1) := by decide +kernel
theorem dX2_widenAims_18 : decode cX2_widenAims 18 = .ok (.getfield 59, 3) := by decide +kernel
theorem dX2_widenAims_21 : decode cX2_widenAims 21 = .ok (.iconst 4, 1) := by decide +kernel
theorem dX2_widenAims_22 : decode cX2_widenAims 22 = .ok (.if_icmp .eq 11, 3) := by decide +kernel
theorem dX2_widenAims_25 : decode cX2_widenAims 25 = .ok (.aload_n 2, 1) := by decide +kernel
theorem dX2_widenAims_26 : decode cX2_widenAims 26 = .ok (.getfield 59, 3) := by decide +kernel
theorem dX2_widenAims_29 : decode cX2_widenAims 29 = .ok (.iconst 5, 1) := by decide +kernel
theorem dX2_widenAims_30 : decode cX2_widenAims 30 = .ok (.if_icmp .ne 22, 3) := by decide +kernel
theorem dX2_widenAims_33 : decode cX2_widenAims 33 = .ok (.aload_n 0, 1) := by decide +kernel
theorem dX2_widenAims_34 : decode cX2_widenAims 34 = .ok (.dup, 1) := by decide +kernel
theorem dX2_widenAims_35 : decode cX2_widenAims 35 = .ok (.getfield 66, 3) := by decide +kernel
theorem dX2_widenAims_38 : decode cX2_widenAims 38 = .ok (.aload_n 2, 1) := by decide +kernel
theorem dX2_widenAims_39 : decode cX2_widenAims 39 = .ok (.getfield 82, 3) := by decide +kernel
theorem dX2_widenAims_42 : decode cX2_widenAims 42 = .ok (.invokestatic 85, 3) := by decide +kernel
theorem dX2_widenAims_45 : decode cX2_widenAims 45 = .ok (.ior, 1) := by decide +kernel
theorem dX2_widenAims_46 : decode cX2_widenAims 46 = .ok (.putfield 66, 3) := by decide +kernel
theorem dX2_widenAims_49 : decode cX2_widenAims 49 = .ok (.goto 51, 3) := by decide +kernel
theorem dX2_widenAims_52 : decode cX2_widenAims 52 = .ok (.aload_n 2, 1) := by decide +kernel
theorem dX2_widenAims_53 : decode cX2_widenAims 53 = .ok (.getfield 59, 3) := by decide +kernel
theorem dX2_widenAims_56 : decode cX2_widenAims 56 = .ok (.invokestatic 89, 3) := by decide +kernel
theorem dX2_widenAims_59 : decode cX2_widenAims 59 = .ok (.ifCond .eq 41, 3) := by decide +kernel
theorem dX2_widenAims_62 : decode cX2_widenAims 62 = .ok (.aload_n 0, 1) := by decide +kernel
theorem dX2_widenAims_63 : decode cX2_widenAims 63 = .ok (.getfield 66, 3) := by decide +kernel
theorem dX2_widenAims_66 : decode cX2_widenAims 66 = .ok (.aload_n 2, 1) := by decide +kernel
theorem dX2_widenAims_67 : decode cX2_widenAims 67 = .ok (.getfield 93, 3) := by decide +kernel
theorem dX2_widenAims_70 : decode cX2_widenAims 70 = .ok (.invokestatic 96, 3) := by decide +kernel
theorem dX2_widenAims_73 : decode cX2_widenAims 73 = .ok (.ifCond .eq 27, 3) := by decide +kernel
theorem dX2_widenAims_76 : decode cX2_widenAims 76 = .ok (.aload_n 0, 1) := by decide +kernel
theorem dX2_widenAims_77 : decode cX2_widenAims 77 = .ok (.dup, 1) := by decide +kernel
theorem dX2_widenAims_78 : decode cX2_widenAims 78 = .ok (.getfield 66, 3) := by decide +kernel
theorem dX2_widenAims_81 : decode cX2_widenAims 81 = .ok (.aload_n 2, 1) := by decide +kernel
theorem dX2_widenAims_82 : decode cX2_widenAims 82 = .ok (.getfield 82, 3) := by decide +kernel
theorem dX2_widenAims_85 : decode cX2_widenAims 85 = .ok (.invokestatic 85, 3) := by decide +kernel
theorem dX2_widenAims_88 : decode cX2_widenAims 88 = .ok (.aload_n 2, 1) := by decide +kernel
theorem dX2_widenAims_89 : decode cX2_widenAims 89 = .ok (.getfield 100, 3) := by decide +kernel
theorem dX2_widenAims_92 : decode cX2_widenAims 92 = .ok (.invokestatic 85, 3) := by decide +kernel
theorem dX2_widenAims_95 : decode cX2_widenAims 95 = .ok (.ior, 1) := by decide +kernel
theorem dX2_widenAims_96 : decode cX2_widenAims 96 = .ok (.ior, 1) := by decide +kernel
theorem dX2_widenAims_97 : decode cX2_widenAims 97 = .ok (.putfield 66, 3) := by decide +kernel
theorem dX2_widenAims_100 : decode cX2_widenAims 100 = .ok (.iinc 1 1, 3) := by decide +kernel
theorem dX2_widenAims_103 : decode cX2_widenAims 103 = .ok (.goto (-101), 3) := by decide +kernel
theorem dX2_widenAims_106 : decode cX2_widenAims 106 = .ok (.return_, 1) := by decide +kernel
theorem dX2_splitOne_0 : decode cX2_splitOne 0 = .ok (.aload_n 2, 1) := by decide +kernel
theorem dX2_splitOne_1 : decode cX2_splitOne 1 = .ok (.getfield 59, 3) := by decide +kernel
theorem dX2_splitOne_4 : decode cX2_splitOne 4 = .ok (.tableswitch 124 0 7 #[48, 76, 76, 76, 85, 100, 124, 115], 48) := by decide +kernel
theorem dX2_splitOne_52 : decode cX2_splitOne 52 = .ok (.aload_n 0, 1) := by decide +kernel
theorem dX2_splitOne_53 : decode cX2_splitOne 53 = .ok (.aload_n 0, 1) := by decide +kernel
theorem dX2_splitOne_54 : decode cX2_splitOne 54 = .ok (.getfield 66, 3) := by decide +kernel
theorem dX2_splitOne_57 : decode cX2_splitOne 57 = .ok (.aload_n 2, 1) := by decide +kernel
theorem dX2_splitOne_58 : decode cX2_splitOne 58 = .ok (.getfield 93, 3) := by decide +kernel
theorem dX2_splitOne_61 : decode cX2_splitOne 61 = .ok (.invokestatic 96, 3) := by decide +kernel
theorem dX2_splitOne_64 : decode cX2_splitOne 64 = .ok (.ifCond .eq 7, 3) := by decide +kernel
theorem dX2_splitOne_67 : decode cX2_splitOne 67 = .ok (.iconst 0, 1) := by decide +kernel
theorem dX2_splitOne_68 : decode cX2_splitOne 68 = .ok (.goto 4, 3) := by decide +kernel
theorem dX2_splitOne_71 : decode cX2_splitOne 71 = .ok (.iconst 1, 1) := by decide +kernel
theorem dX2_splitOne_72 : decode cX2_splitOne 72 = .ok (.iload_n 1, 1) := by decide +kernel
theorem dX2_splitOne_73 : decode cX2_splitOne 73 = .ok (.iconst 0, 1) := by decide +kernel
theorem dX2_splitOne_74 : decode cX2_splitOne 74 = .ok (.invokevirtual 103, 3) := by decide +kernel
theorem dX2_splitOne_77 : decode cX2_splitOne 77 = .ok (.goto 71, 3) := by decide +kernel
theorem dX2_splitOne_80 : decode cX2_splitOne 80 = .ok (.aload_n 0, 1) := by decide +kernel
theorem dX2_splitOne_81 : decode cX2_splitOne 81 = .ok (.iload_n 1, 1) := by decide +kernel
theorem dX2_splitOne_82 : decode cX2_splitOne 82 = .ok (.aload_n 2, 1) := by decide +kernel
theorem dX2_splitOne_83 : decode cX2_splitOne 83 = .ok (.invokevirtual 107, 3) := by decide +kernel
theorem dX2_splitOne_86 : decode cX2_splitOne 86 = .ok (.goto 62, 3) := by decide +kernel
theorem dX2_splitOne_89 : decode cX2_splitOne 89 = .ok (.aload_n 0, 1) := by decide +kernel
theorem dX2_splitOne_90 : decode cX2_splitOne 90 = .ok (.iload_n 1, 1) := by decide +kernel
theorem dX2_splitOne_91 : decode cX2_splitOne 91 = .ok (.aload_n 2, 1) := by decide +kernel
theorem dX2_splitOne_92 : decode cX2_splitOne 92 = .ok (.bipush 10, 2) := by decide +kernel
theorem dX2_splitOne_94 : decode cX2_splitOne 94 = .ok (.bipush 11, 2) := by decide +kernel
theorem dX2_splitOne_96 : decode cX2_splitOne 96 = .ok (.bipush 12, 2) := by decide +kernel
theorem dX2_splitOne_98 : decode cX2_splitOne 98 = .ok (.invokevirtual 110, 3) := by decide +kernel
theorem dX2_splitOne_101 : decode cX2_splitOne 101 = .ok (.goto 47, 3) := by decide +kernel
theorem dX2_splitOne_104 : decode cX2_splitOne 104 = .ok (.aload_n 0, 1) := by decide +kernel
theorem dX2_splitOne_105 : decode cX2_splitOne 105 = .ok (.iload_n 1, 1) := by decide +kernel
theorem dX2_splitOne_106 : decode cX2_splitOne 106 = .ok (.aload_n 2, 1) := by decide +kernel
theorem dX2_splitOne_107 : decode cX2_splitOne 107 = .ok (.bipush 13, 2) := by decide +kernel
theorem dX2_splitOne_109 : decode cX2_splitOne 109 = .ok (.bipush 14, 2) := by decide +kernel
theorem dX2_splitOne_111 : decode cX2_splitOne 111 = .ok (.bipush 15, 2) := by decide +kernel
theorem dX2_splitOne_113 : decode cX2_splitOne 113 = .ok (.invokevirtual 110, 3) := by decide +kernel
theorem dX2_splitOne_116 : decode cX2_splitOne 116 = .ok (.goto 32, 3) := by decide +kernel
theorem dX2_splitOne_119 : decode cX2_splitOne 119 = .ok (.aload_n 0, 1) := by decide +kernel
theorem dX2_splitOne_120 : decode cX2_splitOne 120 = .ok (.iload_n 1, 1) := by decide +kernel
theorem dX2_splitOne_121 : decode cX2_splitOne 121 = .ok (.aload_n 2, 1) := by decide +kernel
theorem dX2_splitOne_122 : decode cX2_splitOne 122 = .ok (.invokevirtual 114, 3) := by decide +kernel
theorem dX2_splitOne_125 : decode cX2_splitOne 125 = .ok (.goto 23, 3) := by decide +kernel
theorem dX2_splitOne_128 : decode cX2_splitOne 128 = .ok (.aload_n 0, 1) := by decide +kernel
theorem dX2_splitOne_129 : decode cX2_splitOne 129 = .ok (.iconst 0, 1) := by decide +kernel
theorem dX2_splitOne_130 : decode cX2_splitOne 130 = .ok (.iload_n 1, 1) := by decide +kernel
theorem dX2_splitOne_131 : decode cX2_splitOne 131 = .ok (.aload_n 2, 1) := by decide +kernel
theorem dX2_splitOne_132 : decode cX2_splitOne 132 = .ok (.getfield 59, 3) := by decide +kernel
theorem dX2_splitOne_135 : decode cX2_splitOne 135 = .ok (.invokevirtual 103, 3) := by decide +kernel
theorem dX2_splitOne_138 : decode cX2_splitOne 138 = .ok (.aload_n 0, 1) := by decide +kernel
theorem dX2_splitOne_139 : decode cX2_splitOne 139 = .ok (.iconst 1, 1) := by decide +kernel
theorem dX2_splitOne_140 : decode cX2_splitOne 140 = .ok (.iload_n 1, 1) := by decide +kernel
theorem dX2_splitOne_141 : decode cX2_splitOne 141 = .ok (.aload_n 2, 1) := by decide +kernel
theorem dX2_splitOne_142 : decode cX2_splitOne 142 = .ok (.getfield 59, 3) := by decide +kernel
theorem dX2_splitOne_145 : decode cX2_splitOne 145 = .ok (.invokevirtual 103, 3) := by decide +kernel
theorem dX2_splitOne_148 : decode cX2_splitOne 148 = .ok (.return_, 1) := by decide +kernel
theorem dX2_splitReckoning_0 : decode cX2_splitReckoning 0 = .ok (.aload_n 0, 1) := by decide +kernel
theorem dX2_splitReckoning_1 : decode cX2_splitReckoning 1 = .ok (.getfield 66, 3) := by decide +kernel
theorem dX2_splitReckoning_4 : decode cX2_splitReckoning 4 = .ok (.aload_n 2, 1) := by decide +kernel
theorem dX2_splitReckoning_5 : decode cX2_splitReckoning 5 = .ok (.getfield 93, 3) := by decide +kernel
theorem dX2_splitReckoning_8 : decode cX2_splitReckoning 8 = .ok (.invokestatic 96, 3) := by decide +kernel
theorem dX2_splitReckoning_11 : decode cX2_splitReckoning 11 = .ok (.ifCond .eq 16, 3) := by decide +kernel
theorem dX2_splitReckoning_14 : decode cX2_splitReckoning 14 = .ok (.aload_n 0, 1) := by decide +kernel
theorem dX2_splitReckoning_15 : decode cX2_splitReckoning 15 = .ok (.iconst 0, 1) := by decide +kernel
theorem dX2_splitReckoning_16 : decode cX2_splitReckoning 16 = .ok (.iload_n 1, 1) := by decide +kernel
theorem dX2_splitReckoning_17 : decode cX2_splitReckoning 17 = .ok (.aload_n 2, 1) := by decide +kernel
theorem dX2_splitReckoning_18 : decode cX2_splitReckoning 18 = .ok (.getfield 59, 3) := by decide +kernel
theorem dX2_splitReckoning_21 : decode cX2_splitReckoning 21 = .ok (.invokevirtual 103, 3) := by decide +kernel
theorem dX2_splitReckoning_24 : decode cX2_splitReckoning 24 = .ok (.goto 31, 3) := by decide +kernel
theorem dX2_splitReckoning_27 : decode cX2_splitReckoning 27 = .ok (.aload_n 0, 1) := by decide +kernel
theorem dX2_splitReckoning_28 : decode cX2_splitReckoning 28 = .ok (.iload_n 1, 1) := by decide +kernel
theorem dX2_splitReckoning_29 : decode cX2_splitReckoning 29 = .ok (.aload_n 2, 1) := by decide +kernel
theorem dX2_splitReckoning_30 : decode cX2_splitReckoning 30 = .ok (.getfield 82, 3) := by decide +kernel
theorem dX2_splitReckoning_33 : decode cX2_splitReckoning 33 = .ok (.invokevirtual 117, 3) := by decide +kernel
theorem dX2_splitReckoning_36 : decode cX2_splitReckoning 36 = .ok (.aload_n 0, 1) := by decide +kernel
theorem dX2_splitReckoning_37 : decode cX2_splitReckoning 37 = .ok (.iload_n 1, 1) := by decide +kernel
theorem dX2_splitReckoning_38 : decode cX2_splitReckoning 38 = .ok (.aload_n 2, 1) := by decide +kernel
theorem dX2_splitReckoning_39 : decode cX2_splitReckoning 39 = .ok (.getfield 100, 3) := by decide +kernel
theorem dX2_splitReckoning_42 : decode cX2_splitReckoning 42 = .ok (.invokevirtual 117, 3) := by decide +kernel
theorem dX2_splitReckoning_45 : decode cX2_splitReckoning 45 = .ok (.aload_n 0, 1) := by decide +kernel
theorem dX2_splitReckoning_46 : decode cX2_splitReckoning 46 = .ok (.iconst 1, 1) := by decide +kernel
theorem dX2_splitReckoning_47 : decode cX2_splitReckoning 47 = .ok (.iload_n 1, 1) := by decide +kernel
theorem dX2_splitReckoning_48 : decode cX2_splitReckoning 48 = .ok (.aload_n 2, 1) := by decide +kernel
theorem dX2_splitReckoning_49 : decode cX2_splitReckoning 49 = .ok (.getfield 59, 3) := by decide +kernel
theorem dX2_splitReckoning_52 : decode cX2_splitReckoning 52 = .ok (.invokevirtual 103, 3) := by decide +kernel
theorem dX2_splitReckoning_55 : decode cX2_splitReckoning 55 = .ok (.return_, 1) := by decide +kernel
theorem dX2_splitMemory_0 : decode cX2_splitMemory 0 = .ok (.aload_n 0, 1) := by decide +kernel
theorem dX2_splitMemory_1 : decode cX2_splitMemory 1 = .ok (.getfield 66, 3) := by decide +kernel
theorem dX2_splitMemory_4 : decode cX2_splitMemory 4 = .ok (.aload_n 2, 1) := by decide +kernel
theorem dX2_splitMemory_5 : decode cX2_splitMemory 5 = .ok (.getfield 93, 3) := by decide +kernel
theorem dX2_splitMemory_8 : decode cX2_splitMemory 8 = .ok (.invokestatic 96, 3) := by decide +kernel
theorem dX2_splitMemory_11 : decode cX2_splitMemory 11 = .ok (.ifCond .eq 13, 3) := by decide +kernel
theorem dX2_splitMemory_14 : decode cX2_splitMemory 14 = .ok (.aload_n 0, 1) := by decide +kernel
theorem dX2_splitMemory_15 : decode cX2_splitMemory 15 = .ok (.iconst 0, 1) := by decide +kernel
theorem dX2_splitMemory_16 : decode cX2_splitMemory 16 = .ok (.iload_n 1, 1) := by decide +kernel
theorem dX2_splitMemory_17 : decode cX2_splitMemory 17 = .ok (.iload_n 3, 1) := by decide +kernel
theorem dX2_splitMemory_18 : decode cX2_splitMemory 18 = .ok (.invokevirtual 103, 3) := by decide +kernel
theorem dX2_splitMemory_21 : decode cX2_splitMemory 21 = .ok (.goto 19, 3) := by decide +kernel
theorem dX2_splitMemory_24 : decode cX2_splitMemory 24 = .ok (.aload_n 0, 1) := by decide +kernel
theorem dX2_splitMemory_25 : decode cX2_splitMemory 25 = .ok (.iconst 0, 1) := by decide +kernel
theorem dX2_splitMemory_26 : decode cX2_splitMemory 26 = .ok (.iload_n 1, 1) := by decide +kernel
theorem dX2_splitMemory_27 : decode cX2_splitMemory 27 = .ok (.iload 4, 2) := by decide +kernel
theorem dX2_splitMemory_29 : decode cX2_splitMemory 29 = .ok (.invokevirtual 103, 3) := by decide +kernel
theorem dX2_splitMemory_32 : decode cX2_splitMemory 32 = .ok (.aload_n 0, 1) := by decide +kernel
theorem dX2_splitMemory_33 : decode cX2_splitMemory 33 = .ok (.iconst 1, 1) := by decide +kernel
theorem dX2_splitMemory_34 : decode cX2_splitMemory 34 = .ok (.iload_n 1, 1) := by decide +kernel
theorem dX2_splitMemory_35 : decode cX2_splitMemory 35 = .ok (.iload 5, 2) := by decide +kernel
theorem dX2_splitMemory_37 : decode cX2_splitMemory 37 = .ok (.invokevirtual 103, 3) := by decide +kernel
theorem dX2_splitMemory_40 : decode cX2_splitMemory 40 = .ok (.return_, 1) := by decide +kernel
theorem dX2_splitIf_0 : decode cX2_splitIf 0 = .ok (.aload_n 0, 1) := by decide +kernel
theorem dX2_splitIf_1 : decode cX2_splitIf 1 = .ok (.getfield 66, 3) := by decide +kernel
theorem dX2_splitIf_4 : decode cX2_splitIf 4 = .ok (.aload_n 2, 1) := by decide +kernel
theorem dX2_splitIf_5 : decode cX2_splitIf 5 = .ok (.getfield 82, 3) := by decide +kernel
theorem dX2_splitIf_8 : decode cX2_splitIf 8 = .ok (.invokestatic 96, 3) := by decide +kernel
theorem dX2_splitIf_11 : decode cX2_splitIf 11 = .ok (.ifCond .eq 36, 3) := by decide +kernel
theorem dX2_splitIf_14 : decode cX2_splitIf 14 = .ok (.aload_n 0, 1) := by decide +kernel
theorem dX2_splitIf_15 : decode cX2_splitIf 15 = .ok (.getfield 66, 3) := by decide +kernel
theorem dX2_splitIf_18 : decode cX2_splitIf 18 = .ok (.aload_n 2, 1) := by decide +kernel
theorem dX2_splitIf_19 : decode cX2_splitIf 19 = .ok (.getfield 100, 3) := by decide +kernel
theorem dX2_splitIf_22 : decode cX2_splitIf 22 = .ok (.invokestatic 96, 3) := by decide +kernel
theorem dX2_splitIf_25 : decode cX2_splitIf 25 = .ok (.ifCond .eq 22, 3) := by decide +kernel
theorem dX2_splitIf_28 : decode cX2_splitIf 28 = .ok (.aload_n 0, 1) := by decide +kernel
theorem dX2_splitIf_29 : decode cX2_splitIf 29 = .ok (.iconst 0, 1) := by decide +kernel
theorem dX2_splitIf_30 : decode cX2_splitIf 30 = .ok (.iload_n 1, 1) := by decide +kernel
theorem dX2_splitIf_31 : decode cX2_splitIf 31 = .ok (.bipush 16, 2) := by decide +kernel
theorem dX2_splitIf_33 : decode cX2_splitIf 33 = .ok (.invokevirtual 103, 3) := by decide +kernel
theorem dX2_splitIf_36 : decode cX2_splitIf 36 = .ok (.aload_n 0, 1) := by decide +kernel
theorem dX2_splitIf_37 : decode cX2_splitIf 37 = .ok (.iconst 1, 1) := by decide +kernel
theorem dX2_splitIf_38 : decode cX2_splitIf 38 = .ok (.iload_n 1, 1) := by decide +kernel
theorem dX2_splitIf_39 : decode cX2_splitIf 39 = .ok (.bipush 17, 2) := by decide +kernel
theorem dX2_splitIf_41 : decode cX2_splitIf 41 = .ok (.invokevirtual 103, 3) := by decide +kernel
theorem dX2_splitIf_44 : decode cX2_splitIf 44 = .ok (.goto 37, 3) := by decide +kernel
theorem dX2_splitIf_47 : decode cX2_splitIf 47 = .ok (.aload_n 0, 1) := by decide +kernel
theorem dX2_splitIf_48 : decode cX2_splitIf 48 = .ok (.iload_n 1, 1) := by decide +kernel
theorem dX2_splitIf_49 : decode cX2_splitIf 49 = .ok (.aload_n 2, 1) := by decide +kernel
theorem dX2_splitIf_50 : decode cX2_splitIf 50 = .ok (.getfield 82, 3) := by decide +kernel
theorem dX2_splitIf_53 : decode cX2_splitIf 53 = .ok (.invokevirtual 117, 3) := by decide +kernel
theorem dX2_splitIf_56 : decode cX2_splitIf 56 = .ok (.aload_n 0, 1) := by decide +kernel
theorem dX2_splitIf_57 : decode cX2_splitIf 57 = .ok (.iload_n 1, 1) := by decide +kernel
theorem dX2_splitIf_58 : decode cX2_splitIf 58 = .ok (.aload_n 2, 1) := by decide +kernel
theorem dX2_splitIf_59 : decode cX2_splitIf 59 = .ok (.getfield 100, 3) := by decide +kernel
theorem dX2_splitIf_62 : decode cX2_splitIf 62 = .ok (.invokevirtual 117, 3) := by decide +kernel
theorem dX2_splitIf_65 : decode cX2_splitIf 65 = .ok (.aload_n 0, 1) := by decide +kernel
theorem dX2_splitIf_66 : decode cX2_splitIf 66 = .ok (.iconst 0, 1) := by decide +kernel
theorem dX2_splitIf_67 : decode cX2_splitIf 67 = .ok (.iload_n 1, 1) := by decide +kernel
theorem dX2_splitIf_68 : decode cX2_splitIf 68 = .ok (.bipush 18, 2) := by decide +kernel
theorem dX2_splitIf_70 : decode cX2_splitIf 70 = .ok (.invokevirtual 103, 3) := by decide +kernel
theorem dX2_splitIf_73 : decode cX2_splitIf 73 = .ok (.aload_n 0, 1) := by decide +kernel
theorem dX2_splitIf_74 : decode cX2_splitIf 74 = .ok (.iconst 1, 1) := by decide +kernel
theorem dX2_splitIf_75 : decode cX2_splitIf 75 = .ok (.iload_n 1, 1) := by decide +kernel
theorem dX2_splitIf_76 : decode cX2_splitIf 76 = .ok (.bipush 19, 2) := by decide +kernel
theorem dX2_splitIf_78 : decode cX2_splitIf 78 = .ok (.invokevirtual 103, 3) := by decide +kernel
theorem dX2_splitIf_81 : decode cX2_splitIf 81 = .ok (.return_, 1) := by decide +kernel
theorem dX2_addSend_0 : decode cX2_addSend 0 = .ok (.aload_n 0, 1) := by decide +kernel
theorem dX2_addSend_1 : decode cX2_addSend 1 = .ok (.getfield 33, 3) := by decide +kernel
theorem dX2_addSend_4 : decode cX2_addSend 4 = .ok (.iconst 0, 1) := by decide +kernel
theorem dX2_addSend_5 : decode cX2_addSend 5 = .ok (.iload_n 1, 1) := by decide +kernel
theorem dX2_addSend_6 : decode cX2_addSend 6 = .ok (.iadd, 1) := by decide +kernel
theorem dX2_addSend_7 : decode cX2_addSend 7 = .ok (.iaload, 1) := by decide +kernel
theorem dX2_addSend_8 : decode cX2_addSend 8 = .ok (.istore_n 3, 1) := by decide +kernel
theorem dX2_addSend_9 : decode cX2_addSend 9 = .ok (.aload_n 0, 1) := by decide +kernel
theorem dX2_addSend_10 : decode cX2_addSend 10 = .ok (.getfield 66, 3) := by decide +kernel
theorem dX2_addSend_13 : decode cX2_addSend 13 = .ok (.iload_n 2, 1) := by decide +kernel
theorem dX2_addSend_14 : decode cX2_addSend 14 = .ok (.invokestatic 96, 3) := by decide +kernel
theorem dX2_addSend_17 : decode cX2_addSend 17 = .ok (.ifCond .eq 27, 3) := by decide +kernel
theorem dX2_addSend_20 : decode cX2_addSend 20 = .ok (.iload_n 3, 1) := by decide +kernel
theorem dX2_addSend_21 : decode cX2_addSend 21 = .ok (.iconst 2, 1) := by decide +kernel
theorem dX2_addSend_22 : decode cX2_addSend 22 = .ok (.if_icmp .ge 22, 3) := by decide +kernel
theorem dX2_addSend_25 : decode cX2_addSend 25 = .ok (.aload_n 0, 1) := by decide +kernel
theorem dX2_addSend_26 : decode cX2_addSend 26 = .ok (.getfield 30, 3) := by decide +kernel
theorem dX2_addSend_29 : decode cX2_addSend 29 = .ok (.iload_n 1, 1) := by decide +kernel
theorem dX2_addSend_30 : decode cX2_addSend 30 = .ok (.iconst 2, 1) := by decide +kernel
theorem dX2_addSend_31 : decode cX2_addSend 31 = .ok (.imul, 1) := by decide +kernel
theorem dX2_addSend_32 : decode cX2_addSend 32 = .ok (.iload_n 3, 1) := by decide +kernel
theorem dX2_addSend_33 : decode cX2_addSend 33 = .ok (.iadd, 1) := by decide +kernel
theorem dX2_addSend_34 : decode cX2_addSend 34 = .ok (.iload_n 2, 1) := by decide +kernel
theorem dX2_addSend_35 : decode cX2_addSend 35 = .ok (.iastore, 1) := by decide +kernel
theorem dX2_addSend_36 : decode cX2_addSend 36 = .ok (.aload_n 0, 1) := by decide +kernel
theorem dX2_addSend_37 : decode cX2_addSend 37 = .ok (.iconst 0, 1) := by decide +kernel
theorem dX2_addSend_38 : decode cX2_addSend 38 = .ok (.iload_n 1, 1) := by decide +kernel
theorem dX2_addSend_39 : decode cX2_addSend 39 = .ok (.bipush 9, 2) := by decide +kernel
theorem dX2_addSend_41 : decode cX2_addSend 41 = .ok (.invokevirtual 103, 3) := by decide +kernel
theorem dX2_addSend_44 : decode cX2_addSend 44 = .ok (.return_, 1) := by decide +kernel
theorem dX2_addDeed_0 : decode cX2_addDeed 0 = .ok (.aload_n 0, 1) := by decide +kernel
theorem dX2_addDeed_1 : decode cX2_addDeed 1 = .ok (.getfield 33, 3) := by decide +kernel
theorem dX2_addDeed_4 : decode cX2_addDeed 4 = .ok (.iload_n 1, 1) := by decide +kernel
theorem dX2_addDeed_5 : decode cX2_addDeed 5 = .ok (.bipush 25, 2) := by decide +kernel
theorem dX2_addDeed_7 : decode cX2_addDeed 7 = .ok (.imul, 1) := by decide +kernel
theorem dX2_addDeed_8 : decode cX2_addDeed 8 = .ok (.iload_n 2, 1) := by decide +kernel
theorem dX2_addDeed_9 : decode cX2_addDeed 9 = .ok (.iadd, 1) := by decide +kernel
theorem dX2_addDeed_10 : decode cX2_addDeed 10 = .ok (.iaload, 1) := by decide +kernel
theorem dX2_addDeed_11 : decode cX2_addDeed 11 = .ok (.istore 4, 2) := by decide +kernel
theorem dX2_addDeed_13 : decode cX2_addDeed 13 = .ok (.iload 4, 2) := by decide +kernel
theorem dX2_addDeed_15 : decode cX2_addDeed 15 = .ok (.iconst 2, 1) := by decide +kernel
theorem dX2_addDeed_16 : decode cX2_addDeed 16 = .ok (.if_icmp .ge 31, 3) := by decide +kernel
theorem dX2_addDeed_19 : decode cX2_addDeed 19 = .ok (.aload_n 0, 1) := by decide +kernel
theorem dX2_addDeed_20 : decode cX2_addDeed 20 = .ok (.getfield 27, 3) := by decide +kernel
theorem dX2_addDeed_23 : decode cX2_addDeed 23 = .ok (.iload_n 1, 1) := by decide +kernel
theorem dX2_addDeed_24 : decode cX2_addDeed 24 = .ok (.iload_n 2, 1) := by decide +kernel
theorem dX2_addDeed_25 : decode cX2_addDeed 25 = .ok (.iload 4, 2) := by decide +kernel
theorem dX2_addDeed_27 : decode cX2_addDeed 27 = .ok (.invokestatic 121, 3) := by decide +kernel
theorem dX2_addDeed_30 : decode cX2_addDeed 30 = .ok (.iload_n 3, 1) := by decide +kernel
theorem dX2_addDeed_31 : decode cX2_addDeed 31 = .ok (.iastore, 1) := by decide +kernel
theorem dX2_addDeed_32 : decode cX2_addDeed 32 = .ok (.aload_n 0, 1) := by decide +kernel
theorem dX2_addDeed_33 : decode cX2_addDeed 33 = .ok (.getfield 33, 3) := by decide +kernel
theorem dX2_addDeed_36 : decode cX2_addDeed 36 = .ok (.iload_n 1, 1) := by decide +kernel
theorem dX2_addDeed_37 : decode cX2_addDeed 37 = .ok (.bipush 25, 2) := by decide +kernel
theorem dX2_addDeed_39 : decode cX2_addDeed 39 = .ok (.imul, 1) := by decide +kernel
theorem dX2_addDeed_40 : decode cX2_addDeed 40 = .ok (.iload_n 2, 1) := by decide +kernel
theorem dX2_addDeed_41 : decode cX2_addDeed 41 = .ok (.iadd, 1) := by decide +kernel
theorem dX2_addDeed_42 : decode cX2_addDeed 42 = .ok (.iload 4, 2) := by decide +kernel
theorem dX2_addDeed_44 : decode cX2_addDeed 44 = .ok (.iconst 1, 1) := by decide +kernel
theorem dX2_addDeed_45 : decode cX2_addDeed 45 = .ok (.iadd, 1) := by decide +kernel
theorem dX2_addDeed_46 : decode cX2_addDeed 46 = .ok (.iastore, 1) := by decide +kernel
theorem dX2_addDeed_47 : decode cX2_addDeed 47 = .ok (.return_, 1) := by decide +kernel
theorem dX2_deedsAt_0 : decode cX2_deedsAt 0 = .ok (.iload_n 1, 1) := by decide +kernel
theorem dX2_deedsAt_1 : decode cX2_deedsAt 1 = .ok (.invokestatic 125, 3) := by decide +kernel
theorem dX2_deedsAt_4 : decode cX2_deedsAt 4 = .ok (.ifCond .eq 29, 3) := by decide +kernel
theorem dX2_deedsAt_7 : decode cX2_deedsAt 7 = .ok (.iload_n 2, 1) := by decide +kernel
theorem dX2_deedsAt_8 : decode cX2_deedsAt 8 = .ok (.ifCond .lt 25, 3) := by decide +kernel
theorem dX2_deedsAt_11 : decode cX2_deedsAt 11 = .ok (.iload_n 2, 1) := by decide +kernel
theorem dX2_deedsAt_12 : decode cX2_deedsAt 12 = .ok (.aload_n 0, 1) := by decide +kernel
theorem dX2_deedsAt_13 : decode cX2_deedsAt 13 = .ok (.getfield 43, 3) := by decide +kernel
theorem dX2_deedsAt_16 : decode cX2_deedsAt 16 = .ok (.if_icmp .gt 17, 3) := by decide +kernel
theorem dX2_deedsAt_19 : decode cX2_deedsAt 19 = .ok (.aload_n 0, 1) := by decide +kernel
theorem dX2_deedsAt_20 : decode cX2_deedsAt 20 = .ok (.getfield 33, 3) := by decide +kernel
theorem dX2_deedsAt_23 : decode cX2_deedsAt 23 = .ok (.iload_n 1, 1) := by decide +kernel
theorem dX2_deedsAt_24 : decode cX2_deedsAt 24 = .ok (.bipush 25, 2) := by decide +kernel
theorem dX2_deedsAt_26 : decode cX2_deedsAt 26 = .ok (.imul, 1) := by decide +kernel
theorem dX2_deedsAt_27 : decode cX2_deedsAt 27 = .ok (.iload_n 2, 1) := by decide +kernel
theorem dX2_deedsAt_28 : decode cX2_deedsAt 28 = .ok (.iadd, 1) := by decide +kernel
theorem dX2_deedsAt_29 : decode cX2_deedsAt 29 = .ok (.iaload, 1) := by decide +kernel
theorem dX2_deedsAt_30 : decode cX2_deedsAt 30 = .ok (.goto 4, 3) := by decide +kernel
theorem dX2_deedsAt_33 : decode cX2_deedsAt 33 = .ok (.iconst (-1), 1) := by decide +kernel
theorem dX2_deedsAt_34 : decode cX2_deedsAt 34 = .ok (.ireturn, 1) := by decide +kernel
theorem dX2_deedsInAll_0 : decode cX2_deedsInAll 0 = .ok (.iconst 0, 1) := by decide +kernel
theorem dX2_deedsInAll_1 : decode cX2_deedsInAll 1 = .ok (.istore_n 2, 1) := by decide +kernel
theorem dX2_deedsInAll_2 : decode cX2_deedsInAll 2 = .ok (.iconst 0, 1) := by decide +kernel
theorem dX2_deedsInAll_3 : decode cX2_deedsInAll 3 = .ok (.istore_n 3, 1) := by decide +kernel
theorem dX2_deedsInAll_4 : decode cX2_deedsInAll 4 = .ok (.iload_n 3, 1) := by decide +kernel
theorem dX2_deedsInAll_5 : decode cX2_deedsInAll 5 = .ok (.aload_n 0, 1) := by decide +kernel
theorem dX2_deedsInAll_6 : decode cX2_deedsInAll 6 = .ok (.getfield 43, 3) := by decide +kernel
theorem dX2_deedsInAll_9 : decode cX2_deedsInAll 9 = .ok (.if_icmp .gt 18, 3) := by decide +kernel
theorem dX2_deedsInAll_12 : decode cX2_deedsInAll 12 = .ok (.iload_n 2, 1) := by decide +kernel
theorem dX2_deedsInAll_13 : decode cX2_deedsInAll 13 = .ok (.aload_n 0, 1) := by decide +kernel
theorem dX2_deedsInAll_14 : decode cX2_deedsInAll 14 = .ok (.iload_n 1, 1) := by decide +kernel
theorem dX2_deedsInAll_15 : decode cX2_deedsInAll 15 = .ok (.iload_n 3, 1) := by decide +kernel
theorem dX2_deedsInAll_16 : decode cX2_deedsInAll 16 = .ok (.invokevirtual 128, 3) := by decide +kernel
theorem dX2_deedsInAll_19 : decode cX2_deedsInAll 19 = .ok (.iadd, 1) := by decide +kernel
theorem dX2_deedsInAll_20 : decode cX2_deedsInAll 20 = .ok (.istore_n 2, 1) := by decide +kernel
theorem dX2_deedsInAll_21 : decode cX2_deedsInAll 21 = .ok (.iinc 3 1, 3) := by decide +kernel
theorem dX2_deedsInAll_24 : decode cX2_deedsInAll 24 = .ok (.goto (-20), 3) := by decide +kernel
theorem dX2_deedsInAll_27 : decode cX2_deedsInAll 27 = .ok (.iload_n 2, 1) := by decide +kernel
theorem dX2_deedsInAll_28 : decode cX2_deedsInAll 28 = .ok (.ireturn, 1) := by decide +kernel
theorem dX2_hasDeed_0 : decode cX2_hasDeed 0 = .ok (.iload_n 3, 1) := by decide +kernel
theorem dX2_hasDeed_1 : decode cX2_hasDeed 1 = .ok (.ifCond .lt 17, 3) := by decide +kernel
theorem dX2_hasDeed_4 : decode cX2_hasDeed 4 = .ok (.iload_n 3, 1) := by decide +kernel
theorem dX2_hasDeed_5 : decode cX2_hasDeed 5 = .ok (.aload_n 0, 1) := by decide +kernel
theorem dX2_hasDeed_6 : decode cX2_hasDeed 6 = .ok (.iload_n 1, 1) := by decide +kernel
theorem dX2_hasDeed_7 : decode cX2_hasDeed 7 = .ok (.iload_n 2, 1) := by decide +kernel
theorem dX2_hasDeed_8 : decode cX2_hasDeed 8 = .ok (.invokevirtual 128, 3) := by decide +kernel
theorem dX2_hasDeed_11 : decode cX2_hasDeed 11 = .ok (.if_icmp .ge 7, 3) := by decide +kernel
theorem dX2_hasDeed_14 : decode cX2_hasDeed 14 = .ok (.iconst 1, 1) := by decide +kernel
theorem dX2_hasDeed_15 : decode cX2_hasDeed 15 = .ok (.goto 4, 3) := by decide +kernel
theorem dX2_hasDeed_18 : decode cX2_hasDeed 18 = .ok (.iconst 0, 1) := by decide +kernel
theorem dX2_hasDeed_19 : decode cX2_hasDeed 19 = .ok (.ireturn, 1) := by decide +kernel
theorem dX2_kindOf_0 : decode cX2_kindOf 0 = .ok (.aload_n 0, 1) := by decide +kernel
theorem dX2_kindOf_1 : decode cX2_kindOf 1 = .ok (.getfield 27, 3) := by decide +kernel
theorem dX2_kindOf_4 : decode cX2_kindOf 4 = .ok (.iload_n 1, 1) := by decide +kernel
theorem dX2_kindOf_5 : decode cX2_kindOf 5 = .ok (.iload_n 2, 1) := by decide +kernel
theorem dX2_kindOf_6 : decode cX2_kindOf 6 = .ok (.iload_n 3, 1) := by decide +kernel
theorem dX2_kindOf_7 : decode cX2_kindOf 7 = .ok (.invokestatic 121, 3) := by decide +kernel
theorem dX2_kindOf_10 : decode cX2_kindOf 10 = .ok (.iaload, 1) := by decide +kernel
theorem dX2_kindOf_11 : decode cX2_kindOf 11 = .ok (.ireturn, 1) := by decide +kernel
theorem dX2_sentAt_0 : decode cX2_sentAt 0 = .ok (.aload_n 0, 1) := by decide +kernel
theorem dX2_sentAt_1 : decode cX2_sentAt 1 = .ok (.getfield 30, 3) := by decide +kernel
theorem dX2_sentAt_4 : decode cX2_sentAt 4 = .ok (.iload_n 1, 1) := by decide +kernel
theorem dX2_sentAt_5 : decode cX2_sentAt 5 = .ok (.iconst 2, 1) := by decide +kernel
theorem dX2_sentAt_6 : decode cX2_sentAt 6 = .ok (.imul, 1) := by decide +kernel
theorem dX2_sentAt_7 : decode cX2_sentAt 7 = .ok (.iload_n 2, 1) := by decide +kernel
theorem dX2_sentAt_8 : decode cX2_sentAt 8 = .ok (.iadd, 1) := by decide +kernel
theorem dX2_sentAt_9 : decode cX2_sentAt 9 = .ok (.iaload, 1) := by decide +kernel
theorem dX2_sentAt_10 : decode cX2_sentAt 10 = .ok (.ireturn, 1) := by decide +kernel
theorem dX2_write_0 : decode cX2_write 0 = .ok (.aload_n 0, 1) := by decide +kernel
theorem dX2_write_1 : decode cX2_write 1 = .ok (.getfield 11, 3) := by decide +kernel
theorem dX2_write_4 : decode cX2_write 4 = .ok (.iload_n 3, 1) := by decide +kernel
theorem dX2_write_5 : decode cX2_write 5 = .ok (.aaload, 1) := by decide +kernel
theorem dX2_write_6 : decode cX2_write 6 = .ok (.astore 5, 2) := by decide +kernel
theorem dX2_write_8 : decode cX2_write 8 = .ok (.aload_n 0, 1) := by decide +kernel
theorem dX2_write_9 : decode cX2_write 9 = .ok (.iload_n 2, 1) := by decide +kernel
theorem dX2_write_10 : decode cX2_write 10 = .ok (.iload_n 3, 1) := by decide +kernel
theorem dX2_write_11 : decode cX2_write 11 = .ok (.iload 4, 2) := by decide +kernel
theorem dX2_write_13 : decode cX2_write 13 = .ok (.invokevirtual 132, 3) := by decide +kernel
theorem dX2_write_16 : decode cX2_write 16 = .ok (.istore 6, 2) := by decide +kernel
theorem dX2_write_18 : decode cX2_write 18 = .ok (.aload_n 1, 1) := by decide +kernel
theorem dX2_write_19 : decode cX2_write 19 = .ok (.iload 6, 2) := by decide +kernel
theorem dX2_write_21 : decode cX2_write 21 = .ok (.invokestatic 135, 3) := by decide +kernel
theorem dX2_write_24 : decode cX2_write 24 = .ok (.invokevirtual 139, 3) := by decide +kernel
theorem dX2_write_27 : decode cX2_write 27 = .ok (.pop, 1) := by decide +kernel
theorem dX2_write_28 : decode cX2_write 28 = .ok (.iload 6, 2) := by decide +kernel
theorem dX2_write_30 : decode cX2_write 30 = .ok (.tableswitch 269 0 19 #[120, 141, 141, 141, 269, 269, 269, 269, 266, 94, 171, 201, 108, 171, 201, 108, 222, 269, 269, 222], 94) := by decide +kernel
theorem dX2_write_124 : decode cX2_write 124 = .ok (.aload_n 1, 1) := by decide +kernel
theorem dX2_write_125 : decode cX2_write 125 = .ok (.aload_n 0, 1) := by decide +kernel
theorem dX2_write_126 : decode cX2_write 126 = .ok (.iload_n 3, 1) := by decide +kernel
theorem dX2_write_127 : decode cX2_write 127 = .ok (.iload 4, 2) := by decide +kernel
theorem dX2_write_129 : decode cX2_write 129 = .ok (.invokevirtual 145, 3) := by decide +kernel
theorem dX2_write_132 : decode cX2_write 132 = .ok (.invokestatic 148, 3) := by decide +kernel
theorem dX2_write_135 : decode cX2_write 135 = .ok (.goto 173, 3) := by decide +kernel
theorem dX2_write_138 : decode cX2_write 138 = .ok (.aload_n 1, 1) := by decide +kernel
theorem dX2_write_139 : decode cX2_write 139 = .ok (.aload 5, 2) := by decide +kernel
theorem dX2_write_141 : decode cX2_write 141 = .ok (.getfield 93, 3) := by decide +kernel
theorem dX2_write_144 : decode cX2_write 144 = .ok (.invokestatic 148, 3) := by decide +kernel
theorem dX2_write_147 : decode cX2_write 147 = .ok (.goto 161, 3) := by decide +kernel
theorem dX2_write_150 : decode cX2_write 150 = .ok (.aload_n 1, 1) := by decide +kernel
theorem dX2_write_151 : decode cX2_write 151 = .ok (.aload 5, 2) := by decide +kernel
theorem dX2_write_153 : decode cX2_write 153 = .ok (.getfield 93, 3) := by decide +kernel
theorem dX2_write_156 : decode cX2_write 156 = .ok (.invokestatic 148, 3) := by decide +kernel
theorem dX2_write_159 : decode cX2_write 159 = .ok (.aload_n 1, 1) := by decide +kernel
theorem dX2_write_160 : decode cX2_write 160 = .ok (.aload 5, 2) := by decide +kernel
theorem dX2_write_162 : decode cX2_write 162 = .ok (.getfield 152, 3) := by decide +kernel
theorem dX2_write_165 : decode cX2_write 165 = .ok (.invokestatic 155, 3) := by decide +kernel
theorem dX2_write_168 : decode cX2_write 168 = .ok (.goto 140, 3) := by decide +kernel
theorem dX2_write_171 : decode cX2_write 171 = .ok (.aload_n 1, 1) := by decide +kernel
theorem dX2_write_172 : decode cX2_write 172 = .ok (.aload 5, 2) := by decide +kernel
theorem dX2_write_174 : decode cX2_write 174 = .ok (.getfield 93, 3) := by decide +kernel
theorem dX2_write_177 : decode cX2_write 177 = .ok (.invokestatic 148, 3) := by decide +kernel
theorem dX2_write_180 : decode cX2_write 180 = .ok (.aload_n 1, 1) := by decide +kernel
theorem dX2_write_181 : decode cX2_write 181 = .ok (.aload 5, 2) := by decide +kernel
theorem dX2_write_183 : decode cX2_write 183 = .ok (.getfield 82, 3) := by decide +kernel
theorem dX2_write_186 : decode cX2_write 186 = .ok (.invokestatic 148, 3) := by decide +kernel
theorem dX2_write_189 : decode cX2_write 189 = .ok (.aload_n 1, 1) := by decide +kernel
theorem dX2_write_190 : decode cX2_write 190 = .ok (.aload 5, 2) := by decide +kernel
theorem dX2_write_192 : decode cX2_write 192 = .ok (.getfield 100, 3) := by decide +kernel
theorem dX2_write_195 : decode cX2_write 195 = .ok (.invokestatic 148, 3) := by decide +kernel
theorem dX2_write_198 : decode cX2_write 198 = .ok (.goto 110, 3) := by decide +kernel
theorem dX2_write_201 : decode cX2_write 201 = .ok (.aload_n 1, 1) := by decide +kernel
theorem dX2_write_202 : decode cX2_write 202 = .ok (.aload 5, 2) := by decide +kernel
theorem dX2_write_204 : decode cX2_write 204 = .ok (.getfield 93, 3) := by decide +kernel
theorem dX2_write_207 : decode cX2_write 207 = .ok (.invokestatic 148, 3) := by decide +kernel
theorem dX2_write_210 : decode cX2_write 210 = .ok (.aload_n 1, 1) := by decide +kernel
theorem dX2_write_211 : decode cX2_write 211 = .ok (.aload 5, 2) := by decide +kernel
theorem dX2_write_213 : decode cX2_write 213 = .ok (.getfield 82, 3) := by decide +kernel
theorem dX2_write_216 : decode cX2_write 216 = .ok (.invokestatic 148, 3) := by decide +kernel
theorem dX2_write_219 : decode cX2_write 219 = .ok (.aload_n 1, 1) := by decide +kernel
theorem dX2_write_220 : decode cX2_write 220 = .ok (.aload 5, 2) := by decide +kernel
theorem dX2_write_222 : decode cX2_write 222 = .ok (.getfield 152, 3) := by decide +kernel
theorem dX2_write_225 : decode cX2_write 225 = .ok (.invokestatic 155, 3) := by decide +kernel
theorem dX2_write_228 : decode cX2_write 228 = .ok (.goto 80, 3) := by decide +kernel
theorem dX2_write_231 : decode cX2_write 231 = .ok (.aload_n 1, 1) := by decide +kernel
theorem dX2_write_232 : decode cX2_write 232 = .ok (.aload 5, 2) := by decide +kernel
theorem dX2_write_234 : decode cX2_write 234 = .ok (.getfield 82, 3) := by decide +kernel
theorem dX2_write_237 : decode cX2_write 237 = .ok (.invokestatic 148, 3) := by decide +kernel
theorem dX2_write_240 : decode cX2_write 240 = .ok (.aload_n 1, 1) := by decide +kernel
theorem dX2_write_241 : decode cX2_write 241 = .ok (.aload 5, 2) := by decide +kernel
theorem dX2_write_243 : decode cX2_write 243 = .ok (.getfield 152, 3) := by decide +kernel
theorem dX2_write_246 : decode cX2_write 246 = .ok (.invokestatic 155, 3) := by decide +kernel
theorem dX2_write_249 : decode cX2_write 249 = .ok (.goto 59, 3) := by decide +kernel
theorem dX2_write_252 : decode cX2_write 252 = .ok (.aload_n 1, 1) := by decide +kernel
theorem dX2_write_253 : decode cX2_write 253 = .ok (.aload 5, 2) := by decide +kernel
theorem dX2_write_255 : decode cX2_write 255 = .ok (.getfield 82, 3) := by decide +kernel
theorem dX2_write_258 : decode cX2_write 258 = .ok (.invokestatic 148, 3) := by decide +kernel
theorem dX2_write_261 : decode cX2_write 261 = .ok (.aload_n 1, 1) := by decide +kernel
theorem dX2_write_262 : decode cX2_write 262 = .ok (.aload 5, 2) := by decide +kernel
theorem dX2_write_264 : decode cX2_write 264 = .ok (.getfield 158, 3) := by decide +kernel
theorem dX2_write_267 : decode cX2_write 267 = .ok (.invokevirtual 162, 3) := by decide +kernel
theorem dX2_write_270 : decode cX2_write 270 = .ok (.pop, 1) := by decide +kernel
theorem dX2_write_271 : decode cX2_write 271 = .ok (.aload_n 1, 1) := by decide +kernel
theorem dX2_write_272 : decode cX2_write 272 = .ok (.aload 5, 2) := by decide +kernel
theorem dX2_write_274 : decode cX2_write 274 = .ok (.getfield 100, 3) := by decide +kernel
theorem dX2_write_277 : decode cX2_write 277 = .ok (.invokestatic 165, 3) := by decide +kernel
theorem dX2_write_280 : decode cX2_write 280 = .ok (.invokevirtual 162, 3) := by decide +kernel
theorem dX2_write_283 : decode cX2_write 283 = .ok (.pop, 1) := by decide +kernel
theorem dX2_write_284 : decode cX2_write 284 = .ok (.aload_n 1, 1) := by decide +kernel
theorem dX2_write_285 : decode cX2_write 285 = .ok (.aload 5, 2) := by decide +kernel
theorem dX2_write_287 : decode cX2_write 287 = .ok (.getfield 152, 3) := by decide +kernel
theorem dX2_write_290 : decode cX2_write 290 = .ok (.invokestatic 155, 3) := by decide +kernel
theorem dX2_write_293 : decode cX2_write 293 = .ok (.goto 15, 3) := by decide +kernel
theorem dX2_write_296 : decode cX2_write 296 = .ok (.goto 12, 3) := by decide +kernel
theorem dX2_write_299 : decode cX2_write 299 = .ok (.aload_n 1, 1) := by decide +kernel
theorem dX2_write_300 : decode cX2_write 300 = .ok (.aload 5, 2) := by decide +kernel
theorem dX2_write_302 : decode cX2_write 302 = .ok (.getfield 152, 3) := by decide +kernel
theorem dX2_write_305 : decode cX2_write 305 = .ok (.invokestatic 155, 3) := by decide +kernel
theorem dX2_write_308 : decode cX2_write 308 = .ok (.return_, 1) := by decide +kernel
theorem dX2_writeRegister_0 : decode cX2_writeRegister 0 = .ok (.aload_n 0, 1) := by decide +kernel
theorem dX2_writeRegister_1 : decode cX2_writeRegister 1 = .ok (.bipush 32, 2) := by decide +kernel
theorem dX2_writeRegister_3 : decode cX2_writeRegister 3 = .ok (.invokevirtual 162, 3) := by decide +kernel
theorem dX2_writeRegister_6 : decode cX2_writeRegister 6 = .ok (.pop, 1) := by decide +kernel
theorem dX2_writeRegister_7 : decode cX2_writeRegister 7 = .ok (.aload_n 0, 1) := by decide +kernel
theorem dX2_writeRegister_8 : decode cX2_writeRegister 8 = .ok (.iload_n 1, 1) := by decide +kernel
theorem dX2_writeRegister_9 : decode cX2_writeRegister 9 = .ok (.invokestatic 165, 3) := by decide +kernel
theorem dX2_writeRegister_12 : decode cX2_writeRegister 12 = .ok (.invokevirtual 162, 3) := by decide +kernel
theorem dX2_writeRegister_15 : decode cX2_writeRegister 15 = .ok (.pop, 1) := by decide +kernel
theorem dX2_writeRegister_16 : decode cX2_writeRegister 16 = .ok (.return_, 1) := by decide +kernel
theorem dX2_writeNumber_0 : decode cX2_writeNumber 0 = .ok (.aload_n 0, 1) := by decide +kernel
theorem dX2_writeNumber_1 : decode cX2_writeNumber 1 = .ok (.bipush 32, 2) := by decide +kernel
theorem dX2_writeNumber_3 : decode cX2_writeNumber 3 = .ok (.invokevirtual 162, 3) := by decide +kernel
theorem dX2_writeNumber_6 : decode cX2_writeNumber 6 = .ok (.pop, 1) := by decide +kernel
theorem dX2_writeNumber_7 : decode cX2_writeNumber 7 = .ok (.aload_n 0, 1) := by decide +kernel
theorem dX2_writeNumber_8 : decode cX2_writeNumber 8 = .ok (.iload_n 1, 1) := by decide +kernel
theorem dX2_writeNumber_9 : decode cX2_writeNumber 9 = .ok (.invokevirtual 169, 3) := by decide +kernel
theorem dX2_writeNumber_12 : decode cX2_writeNumber 12 = .ok (.pop, 1) := by decide +kernel
theorem dX2_writeNumber_13 : decode cX2_writeNumber 13 = .ok (.return_, 1) := by decide +kernel
theorem dX2_letterOf_0 : decode cX2_letterOf 0 = .ok (.bipush 97, 2) := by decide +kernel
theorem dX2_letterOf_2 : decode cX2_letterOf 2 = .ok (.iload_n 0, 1) := by decide +kernel
theorem dX2_letterOf_3 : decode cX2_letterOf 3 = .ok (.iadd, 1) := by decide +kernel
theorem dX2_letterOf_4 : decode cX2_letterOf 4 = .ok (.i2c, 1) := by decide +kernel
theorem dX2_letterOf_5 : decode cX2_letterOf 5 = .ok (.ireturn, 1) := by decide +kernel
theorem dX2_wordOf_0 : decode cX2_wordOf 0 = .ok (.iload_n 0, 1) := by decide +kernel
theorem dX2_wordOf_1 : decode cX2_wordOf 1 = .ok (.tableswitch 139 0 18 #[91, 94, 97, 100, 139, 139, 103, 139, 106, 109, 112, 115, 118, 121, 124, 127, 130, 133, 136], 91) := by decide +kernel
theorem dX2_wordOf_92 : decode cX2_wordOf 92 = .ok (.ldc 172, 2) := by decide +kernel
theorem dX2_wordOf_94 : decode cX2_wordOf 94 = .ok (.areturn, 1) := by decide +kernel
theorem dX2_wordOf_95 : decode cX2_wordOf 95 = .ok (.ldc 174, 2) := by decide +kernel
theorem dX2_wordOf_97 : decode cX2_wordOf 97 = .ok (.areturn, 1) := by decide +kernel
theorem dX2_wordOf_98 : decode cX2_wordOf 98 = .ok (.ldc 176, 2) := by decide +kernel
theorem dX2_wordOf_100 : decode cX2_wordOf 100 = .ok (.areturn, 1) := by decide +kernel
theorem dX2_wordOf_101 : decode cX2_wordOf 101 = .ok (.ldc 178, 2) := by decide +kernel
theorem dX2_wordOf_103 : decode cX2_wordOf 103 = .ok (.areturn, 1) := by decide +kernel
theorem dX2_wordOf_104 : decode cX2_wordOf 104 = .ok (.ldc 180, 2) := by decide +kernel
theorem dX2_wordOf_106 : decode cX2_wordOf 106 = .ok (.areturn, 1) := by decide +kernel
theorem dX2_wordOf_107 : decode cX2_wordOf 107 = .ok (.ldc 182, 2) := by decide +kernel
theorem dX2_wordOf_109 : decode cX2_wordOf 109 = .ok (.areturn, 1) := by decide +kernel
theorem dX2_wordOf_110 : decode cX2_wordOf 110 = .ok (.ldc 184, 2) := by decide +kernel
theorem dX2_wordOf_112 : decode cX2_wordOf 112 = .ok (.areturn, 1) := by decide +kernel
theorem dX2_wordOf_113 : decode cX2_wordOf 113 = .ok (.ldc 186, 2) := by decide +kernel
theorem dX2_wordOf_115 : decode cX2_wordOf 115 = .ok (.areturn, 1) := by decide +kernel
theorem dX2_wordOf_116 : decode cX2_wordOf 116 = .ok (.ldc 188, 2) := by decide +kernel
theorem dX2_wordOf_118 : decode cX2_wordOf 118 = .ok (.areturn, 1) := by decide +kernel
theorem dX2_wordOf_119 : decode cX2_wordOf 119 = .ok (.ldc 190, 2) := by decide +kernel
theorem dX2_wordOf_121 : decode cX2_wordOf 121 = .ok (.areturn, 1) := by decide +kernel
theorem dX2_wordOf_122 : decode cX2_wordOf 122 = .ok (.ldc 192, 2) := by decide +kernel
theorem dX2_wordOf_124 : decode cX2_wordOf 124 = .ok (.areturn, 1) := by decide +kernel
theorem dX2_wordOf_125 : decode cX2_wordOf 125 = .ok (.ldc 194, 2) := by decide +kernel
theorem dX2_wordOf_127 : decode cX2_wordOf 127 = .ok (.areturn, 1) := by decide +kernel
theorem dX2_wordOf_128 : decode cX2_wordOf 128 = .ok (.ldc 196, 2) := by decide +kernel
theorem dX2_wordOf_130 : decode cX2_wordOf 130 = .ok (.areturn, 1) := by decide +kernel
theorem dX2_wordOf_131 : decode cX2_wordOf 131 = .ok (.ldc 198, 2) := by decide +kernel
theorem dX2_wordOf_133 : decode cX2_wordOf 133 = .ok (.areturn, 1) := by decide +kernel
theorem dX2_wordOf_134 : decode cX2_wordOf 134 = .ok (.ldc 200, 2) := by decide +kernel
theorem dX2_wordOf_136 : decode cX2_wordOf 136 = .ok (.areturn, 1) := by decide +kernel
theorem dX2_wordOf_137 : decode cX2_wordOf 137 = .ok (.ldc 202, 2) := by decide +kernel
theorem dX2_wordOf_139 : decode cX2_wordOf 139 = .ok (.areturn, 1) := by decide +kernel
theorem dX2_wordOf_140 : decode cX2_wordOf 140 = .ok (.ldc 204, 2) := by decide +kernel
theorem dX2_wordOf_142 : decode cX2_wordOf 142 = .ok (.areturn, 1) := by decide +kernel
theorem dX2_roundBits_0 : decode cX2_roundBits 0 = .ok (.iload_n 1, 1) := by decide +kernel
theorem dX2_roundBits_1 : decode cX2_roundBits 1 = .ok (.ifCond .lt 8, 3) := by decide +kernel
theorem dX2_roundBits_4 : decode cX2_roundBits 4 = .ok (.iload_n 1, 1) := by decide +kernel
theorem dX2_roundBits_5 : decode cX2_roundBits 5 = .ok (.iconst 2, 1) := by decide +kernel
theorem dX2_roundBits_6 : decode cX2_roundBits 6 = .ok (.if_icmp .le 6, 3) := by decide +kernel
theorem dX2_roundBits_9 : decode cX2_roundBits 9 = .ok (.bipush (-2), 2) := by decide +kernel
theorem dX2_roundBits_11 : decode cX2_roundBits 11 = .ok (.ireturn, 1) := by decide +kernel
theorem dX2_roundBits_12 : decode cX2_roundBits 12 = .ok (.aload_n 0, 1) := by decide +kernel
theorem dX2_roundBits_13 : decode cX2_roundBits 13 = .ok (.invokevirtual 206, 3) := by decide +kernel
theorem dX2_roundBits_16 : decode cX2_roundBits 16 = .ok (.iconst 0, 1) := by decide +kernel
theorem dX2_roundBits_17 : decode cX2_roundBits 17 = .ok (.istore_n 2, 1) := by decide +kernel
theorem dX2_roundBits_18 : decode cX2_roundBits 18 = .ok (.iconst 0, 1) := by decide +kernel
theorem dX2_roundBits_19 : decode cX2_roundBits 19 = .ok (.istore_n 3, 1) := by decide +kernel
theorem dX2_roundBits_20 : decode cX2_roundBits 20 = .ok (.iload_n 3, 1) := by decide +kernel
theorem dX2_roundBits_21 : decode cX2_roundBits 21 = .ok (.aload_n 0, 1) := by decide +kernel
theorem dX2_roundBits_22 : decode cX2_roundBits 22 = .ok (.getfield 43, 3) := by decide +kernel
theorem dX2_roundBits_25 : decode cX2_roundBits 25 = .ok (.if_icmp .ge 56, 3) := by decide +kernel
theorem dX2_roundBits_28 : decode cX2_roundBits 28 = .ok (.aload_n 0, 1) := by decide +kernel
theorem dX2_roundBits_29 : decode cX2_roundBits 29 = .ok (.iload_n 3, 1) := by decide +kernel
theorem dX2_roundBits_30 : decode cX2_roundBits 30 = .ok (.invokevirtual 209, 3) := by decide +kernel
theorem dX2_roundBits_33 : decode cX2_roundBits 33 = .ok (.istore 4, 2) := by decide +kernel
theorem dX2_roundBits_35 : decode cX2_roundBits 35 = .ok (.iload_n 1, 1) := by decide +kernel
theorem dX2_roundBits_36 : decode cX2_roundBits 36 = .ok (.ifCond .ne 11, 3) := by decide +kernel
theorem dX2_roundBits_39 : decode cX2_roundBits 39 = .ok (.iload_n 2, 1) := by decide +kernel
theorem dX2_roundBits_40 : decode cX2_roundBits 40 = .ok (.iload 4, 2) := by decide +kernel
theorem dX2_roundBits_42 : decode cX2_roundBits 42 = .ok (.ior, 1) := by decide +kernel
theorem dX2_roundBits_43 : decode cX2_roundBits 43 = .ok (.istore_n 2, 1) := by decide +kernel
theorem dX2_roundBits_44 : decode cX2_roundBits 44 = .ok (.goto 31, 3) := by decide +kernel
theorem dX2_roundBits_47 : decode cX2_roundBits 47 = .ok (.aload_n 0, 1) := by decide +kernel
theorem dX2_roundBits_48 : decode cX2_roundBits 48 = .ok (.iload_n 3, 1) := by decide +kernel
theorem dX2_roundBits_49 : decode cX2_roundBits 49 = .ok (.invokevirtual 212, 3) := by decide +kernel
theorem dX2_roundBits_52 : decode cX2_roundBits 52 = .ok (.ifCond .eq 23, 3) := by decide +kernel
theorem dX2_roundBits_55 : decode cX2_roundBits 55 = .ok (.iload_n 2, 1) := by decide +kernel
theorem dX2_roundBits_56 : decode cX2_roundBits 56 = .ok (.iload_n 1, 1) := by decide +kernel
theorem dX2_roundBits_57 : decode cX2_roundBits 57 = .ok (.iconst 1, 1) := by decide +kernel
theorem dX2_roundBits_58 : decode cX2_roundBits 58 = .ok (.if_icmp .ne 8, 3) := by decide +kernel
theorem dX2_roundBits_61 : decode cX2_roundBits 61 = .ok (.iload 4, 2) := by decide +kernel
theorem dX2_roundBits_63 : decode cX2_roundBits 63 = .ok (.goto 10, 3) := by decide +kernel
theorem dX2_roundBits_66 : decode cX2_roundBits 66 = .ok (.iload 4, 2) := by decide +kernel
theorem dX2_roundBits_68 : decode cX2_roundBits 68 = .ok (.iload_n 3, 1) := by decide +kernel
theorem dX2_roundBits_69 : decode cX2_roundBits 69 = .ok (.invokestatic 85, 3) := by decide +kernel
theorem dX2_roundBits_72 : decode cX2_roundBits 72 = .ok (.iand, 1) := by decide +kernel
theorem dX2_roundBits_73 : decode cX2_roundBits 73 = .ok (.ior, 1) := by decide +kernel
theorem dX2_roundBits_74 : decode cX2_roundBits 74 = .ok (.istore_n 2, 1) := by decide +kernel
theorem dX2_roundBits_75 : decode cX2_roundBits 75 = .ok (.iinc 3 1, 3) := by decide +kernel
theorem dX2_roundBits_78 : decode cX2_roundBits 78 = .ok (.goto (-58), 3) := by decide +kernel
theorem dX2_roundBits_81 : decode cX2_roundBits 81 = .ok (.iload_n 2, 1) := by decide +kernel
theorem dX2_roundBits_82 : decode cX2_roundBits 82 = .ok (.ireturn, 1) := by decide +kernel
theorem dX2_findReach_0 : decode cX2_findReach 0 = .ok (.iconst 0, 1) := by decide +kernel
theorem dX2_findReach_1 : decode cX2_findReach 1 = .ok (.istore_n 1, 1) := by decide +kernel
theorem dX2_findReach_2 : decode cX2_findReach 2 = .ok (.iload_n 1, 1) := by decide +kernel
theorem dX2_findReach_3 : decode cX2_findReach 3 = .ok (.aload_n 0, 1) := by decide +kernel
theorem dX2_findReach_4 : decode cX2_findReach 4 = .ok (.getfield 43, 3) := by decide +kernel
theorem dX2_findReach_7 : decode cX2_findReach 7 = .ok (.if_icmp .ge 20, 3) := by decide +kernel
theorem dX2_findReach_10 : decode cX2_findReach 10 = .ok (.aload_n 0, 1) := by decide +kernel
theorem dX2_findReach_11 : decode cX2_findReach 11 = .ok (.getfield 36, 3) := by decide +kernel
theorem dX2_findReach_14 : decode cX2_findReach 14 = .ok (.iload_n 1, 1) := by decide +kernel
theorem dX2_findReach_15 : decode cX2_findReach 15 = .ok (.aload_n 0, 1) := by decide +kernel
theorem dX2_findReach_16 : decode cX2_findReach 16 = .ok (.iload_n 1, 1) := by decide +kernel
theorem dX2_findReach_17 : decode cX2_findReach 17 = .ok (.invokevirtual 215, 3) := by decide +kernel
theorem dX2_findReach_20 : decode cX2_findReach 20 = .ok (.iastore, 1) := by decide +kernel
theorem dX2_findReach_21 : decode cX2_findReach 21 = .ok (.iinc 1 1, 3) := by decide +kernel
theorem dX2_findReach_24 : decode cX2_findReach 24 = .ok (.goto (-22), 3) := by decide +kernel
theorem dX2_findReach_27 : decode cX2_findReach 27 = .ok (.iconst 0, 1) := by decide +kernel
theorem dX2_findReach_28 : decode cX2_findReach 28 = .ok (.istore_n 1, 1) := by decide +kernel
theorem dX2_findReach_29 : decode cX2_findReach 29 = .ok (.iload_n 1, 1) := by decide +kernel
theorem dX2_findReach_30 : decode cX2_findReach 30 = .ok (.aload_n 0, 1) := by decide +kernel
theorem dX2_findReach_31 : decode cX2_findReach 31 = .ok (.getfield 43, 3) := by decide +kernel
theorem dX2_findReach_34 : decode cX2_findReach 34 = .ok (.if_icmp .ge 53, 3) := by decide +kernel
theorem dX2_findReach_37 : decode cX2_findReach 37 = .ok (.iconst 0, 1) := by decide +kernel
theorem dX2_findReach_38 : decode cX2_findReach 38 = .ok (.istore_n 2, 1) := by decide +kernel
theorem dX2_findReach_39 : decode cX2_findReach 39 = .ok (.iload_n 2, 1) := by decide +kernel
theorem dX2_findReach_40 : decode cX2_findReach 40 = .ok (.aload_n 0, 1) := by decide +kernel
theorem dX2_findReach_41 : decode cX2_findReach 41 = .ok (.getfield 43, 3) := by decide +kernel
theorem dX2_findReach_44 : decode cX2_findReach 44 = .ok (.if_icmp .ge 37, 3) := by decide +kernel
theorem dX2_findReach_47 : decode cX2_findReach 47 = .ok (.aload_n 0, 1) := by decide +kernel
theorem dX2_findReach_48 : decode cX2_findReach 48 = .ok (.getfield 36, 3) := by decide +kernel
theorem dX2_findReach_51 : decode cX2_findReach 51 = .ok (.iload_n 2, 1) := by decide +kernel
theorem dX2_findReach_52 : decode cX2_findReach 52 = .ok (.iaload, 1) := by decide +kernel
theorem dX2_findReach_53 : decode cX2_findReach 53 = .ok (.iload_n 1, 1) := by decide +kernel
theorem dX2_findReach_54 : decode cX2_findReach 54 = .ok (.invokestatic 96, 3) := by decide +kernel
theorem dX2_findReach_57 : decode cX2_findReach 57 = .ok (.ifCond .eq 18, 3) := by decide +kernel
theorem dX2_findReach_60 : decode cX2_findReach 60 = .ok (.aload_n 0, 1) := by decide +kernel
theorem dX2_findReach_61 : decode cX2_findReach 61 = .ok (.getfield 36, 3) := by decide +kernel
theorem dX2_findReach_64 : decode cX2_findReach 64 = .ok (.iload_n 2, 1) := by decide +kernel
theorem dX2_findReach_65 : decode cX2_findReach 65 = .ok (.dup2, 1) := by decide +kernel
theorem dX2_findReach_66 : decode cX2_findReach 66 = .ok (.iaload, 1) := by decide +kernel
theorem dX2_findReach_67 : decode cX2_findReach 67 = .ok (.aload_n 0, 1) := by decide +kernel
theorem dX2_findReach_68 : decode cX2_findReach 68 = .ok (.getfield 36, 3) := by decide +kernel
theorem dX2_findReach_71 : decode cX2_findReach 71 = .ok (.iload_n 1, 1) := by decide +kernel
theorem dX2_findReach_72 : decode cX2_findReach 72 = .ok (.iaload, 1) := by decide +kernel
theorem dX2_findReach_73 : decode cX2_findReach 73 = .ok (.ior, 1) := by decide +kernel
theorem dX2_findReach_74 : decode cX2_findReach 74 = .ok (.iastore, 1) := by decide +kernel
theorem dX2_findReach_75 : decode cX2_findReach 75 = .ok (.iinc 2 1, 3) := by decide +kernel
theorem dX2_findReach_78 : decode cX2_findReach 78 = .ok (.goto (-39), 3) := by decide +kernel
theorem dX2_findReach_81 : decode cX2_findReach 81 = .ok (.iinc 1 1, 3) := by decide +kernel
theorem dX2_findReach_84 : decode cX2_findReach 84 = .ok (.goto (-55), 3) := by decide +kernel
theorem dX2_findReach_87 : decode cX2_findReach 87 = .ok (.return_, 1) := by decide +kernel
theorem dX2_followers_0 : decode cX2_followers 0 = .ok (.aload_n 0, 1) := by decide +kernel
theorem dX2_followers_1 : decode cX2_followers 1 = .ok (.getfield 11, 3) := by decide +kernel
theorem dX2_followers_4 : decode cX2_followers 4 = .ok (.iload_n 1, 1) := by decide +kernel
theorem dX2_followers_5 : decode cX2_followers 5 = .ok (.aaload, 1) := by decide +kernel
theorem dX2_followers_6 : decode cX2_followers 6 = .ok (.getfield 59, 3) := by decide +kernel
theorem dX2_followers_9 : decode cX2_followers 9 = .ok (.tableswitch 62 6 8 #[29, 42, 27], 27) := by decide +kernel
theorem dX2_followers_36 : decode cX2_followers 36 = .ok (.iconst 0, 1) := by decide +kernel
theorem dX2_followers_37 : decode cX2_followers 37 = .ok (.ireturn, 1) := by decide +kernel
theorem dX2_followers_38 : decode cX2_followers 38 = .ok (.aload_n 0, 1) := by decide +kernel
theorem dX2_followers_39 : decode cX2_followers 39 = .ok (.getfield 11, 3) := by decide +kernel
theorem dX2_followers_42 : decode cX2_followers 42 = .ok (.iload_n 1, 1) := by decide +kernel
theorem dX2_followers_43 : decode cX2_followers 43 = .ok (.aaload, 1) := by decide +kernel
theorem dX2_followers_44 : decode cX2_followers 44 = .ok (.getfield 152, 3) := by decide +kernel
theorem dX2_followers_47 : decode cX2_followers 47 = .ok (.invokestatic 85, 3) := by decide +kernel
theorem dX2_followers_50 : decode cX2_followers 50 = .ok (.ireturn, 1) := by decide +kernel
theorem dX2_followers_51 : decode cX2_followers 51 = .ok (.aload_n 0, 1) := by decide +kernel
theorem dX2_followers_52 : decode cX2_followers 52 = .ok (.getfield 11, 3) := by decide +kernel
theorem dX2_followers_55 : decode cX2_followers 55 = .ok (.iload_n 1, 1) := by decide +kernel
theorem dX2_followers_56 : decode cX2_followers 56 = .ok (.aaload, 1) := by decide +kernel
theorem dX2_followers_57 : decode cX2_followers 57 = .ok (.getfield 152, 3) := by decide +kernel
theorem dX2_followers_60 : decode cX2_followers 60 = .ok (.invokestatic 85, 3) := by decide +kernel
theorem dX2_followers_63 : decode cX2_followers 63 = .ok (.iload_n 1, 1) := by decide +kernel
theorem dX2_followers_64 : decode cX2_followers 64 = .ok (.iconst 1, 1) := by decide +kernel
theorem dX2_followers_65 : decode cX2_followers 65 = .ok (.iadd, 1) := by decide +kernel
theorem dX2_followers_66 : decode cX2_followers 66 = .ok (.invokestatic 85, 3) := by decide +kernel
theorem dX2_followers_69 : decode cX2_followers 69 = .ok (.ior, 1) := by decide +kernel
theorem dX2_followers_70 : decode cX2_followers 70 = .ok (.ireturn, 1) := by decide +kernel
theorem dX2_followers_71 : decode cX2_followers 71 = .ok (.iload_n 1, 1) := by decide +kernel
theorem dX2_followers_72 : decode cX2_followers 72 = .ok (.iconst 1, 1) := by decide +kernel
theorem dX2_followers_73 : decode cX2_followers 73 = .ok (.iadd, 1) := by decide +kernel
theorem dX2_followers_74 : decode cX2_followers 74 = .ok (.invokestatic 85, 3) := by decide +kernel
theorem dX2_followers_77 : decode cX2_followers 77 = .ok (.ireturn, 1) := by decide +kernel
theorem dX2_roundOf_0 : decode cX2_roundOf 0 = .ok (.iconst 0, 1) := by decide +kernel
theorem dX2_roundOf_1 : decode cX2_roundOf 1 = .ok (.istore_n 2, 1) := by decide +kernel
theorem dX2_roundOf_2 : decode cX2_roundOf 2 = .ok (.iconst 0, 1) := by decide +kernel
theorem dX2_roundOf_3 : decode cX2_roundOf 3 = .ok (.istore_n 3, 1) := by decide +kernel
theorem dX2_roundOf_4 : decode cX2_roundOf 4 = .ok (.iload_n 3, 1) := by decide +kernel
theorem dX2_roundOf_5 : decode cX2_roundOf 5 = .ok (.aload_n 0, 1) := by decide +kernel
theorem dX2_roundOf_6 : decode cX2_roundOf 6 = .ok (.getfield 43, 3) := by decide +kernel
theorem dX2_roundOf_9 : decode cX2_roundOf 9 = .ok (.if_icmp .ge 42, 3) := by decide +kernel
theorem dX2_roundOf_12 : decode cX2_roundOf 12 = .ok (.aload_n 0, 1) := by decide +kernel
theorem dX2_roundOf_13 : decode cX2_roundOf 13 = .ok (.getfield 36, 3) := by decide +kernel
theorem dX2_roundOf_16 : decode cX2_roundOf 16 = .ok (.iload_n 1, 1) := by decide +kernel
theorem dX2_roundOf_17 : decode cX2_roundOf 17 = .ok (.iaload, 1) := by decide +kernel
theorem dX2_roundOf_18 : decode cX2_roundOf 18 = .ok (.iload_n 3, 1) := by decide +kernel
theorem dX2_roundOf_19 : decode cX2_roundOf 19 = .ok (.invokestatic 96, 3) := by decide +kernel
theorem dX2_roundOf_22 : decode cX2_roundOf 22 = .ok (.ifCond .eq 23, 3) := by decide +kernel
theorem dX2_roundOf_25 : decode cX2_roundOf 25 = .ok (.aload_n 0, 1) := by decide +kernel
theorem dX2_roundOf_26 : decode cX2_roundOf 26 = .ok (.getfield 36, 3) := by decide +kernel
theorem dX2_roundOf_29 : decode cX2_roundOf 29 = .ok (.iload_n 3, 1) := by decide +kernel
theorem dX2_roundOf_30 : decode cX2_roundOf 30 = .ok (.iaload, 1) := by decide +kernel
theorem dX2_roundOf_31 : decode cX2_roundOf 31 = .ok (.iload_n 1, 1) := by decide +kernel
theorem dX2_roundOf_32 : decode cX2_roundOf 32 = .ok (.invokestatic 96, 3) := by decide +kernel
theorem dX2_roundOf_35 : decode cX2_roundOf 35 = .ok (.ifCond .eq 10, 3) := by decide +kernel
theorem dX2_roundOf_38 : decode cX2_roundOf 38 = .ok (.iload_n 2, 1) := by decide +kernel
theorem dX2_roundOf_39 : decode cX2_roundOf 39 = .ok (.iload_n 3, 1) := by decide +kernel
theorem dX2_roundOf_40 : decode cX2_roundOf 40 = .ok (.invokestatic 85, 3) := by decide +kernel
theorem dX2_roundOf_43 : decode cX2_roundOf 43 = .ok (.ior, 1) := by decide +kernel
theorem dX2_roundOf_44 : decode cX2_roundOf 44 = .ok (.istore_n 2, 1) := by decide +kernel
theorem dX2_roundOf_45 : decode cX2_roundOf 45 = .ok (.iinc 3 1, 3) := by decide +kernel
theorem dX2_roundOf_48 : decode cX2_roundOf 48 = .ok (.goto (-44), 3) := by decide +kernel
theorem dX2_roundOf_51 : decode cX2_roundOf 51 = .ok (.iload_n 2, 1) := by decide +kernel
theorem dX2_roundOf_52 : decode cX2_roundOf 52 = .ok (.ireturn, 1) := by decide +kernel
theorem dX2_loses_0 : decode cX2_loses 0 = .ok (.aload_n 0, 1) := by decide +kernel
theorem dX2_loses_1 : decode cX2_loses 1 = .ok (.iconst 0, 1) := by decide +kernel
theorem dX2_loses_2 : decode cX2_loses 2 = .ok (.iload_n 1, 1) := by decide +kernel
theorem dX2_loses_3 : decode cX2_loses 3 = .ok (.invokevirtual 128, 3) := by decide +kernel
theorem dX2_loses_6 : decode cX2_loses 6 = .ok (.iconst 1, 1) := by decide +kernel
theorem dX2_loses_7 : decode cX2_loses 7 = .ok (.isub, 1) := by decide +kernel
theorem dX2_loses_8 : decode cX2_loses 8 = .ok (.istore_n 2, 1) := by decide +kernel
theorem dX2_loses_9 : decode cX2_loses 9 = .ok (.iload_n 2, 1) := by decide +kernel
theorem dX2_loses_10 : decode cX2_loses 10 = .ok (.ifCond .ge 5, 3) := by decide +kernel
theorem dX2_loses_13 : decode cX2_loses 13 = .ok (.iconst 0, 1) := by decide +kernel
theorem dX2_loses_14 : decode cX2_loses 14 = .ok (.ireturn, 1) := by decide +kernel
theorem dX2_loses_15 : decode cX2_loses 15 = .ok (.aload_n 0, 1) := by decide +kernel
theorem dX2_loses_16 : decode cX2_loses 16 = .ok (.iconst 0, 1) := by decide +kernel
theorem dX2_loses_17 : decode cX2_loses 17 = .ok (.iload_n 1, 1) := by decide +kernel
theorem dX2_loses_18 : decode cX2_loses 18 = .ok (.iload_n 2, 1) := by decide +kernel
theorem dX2_loses_19 : decode cX2_loses 19 = .ok (.invokevirtual 132, 3) := by decide +kernel
theorem dX2_loses_22 : decode cX2_loses 22 = .ok (.istore_n 3, 1) := by decide +kernel
theorem dX2_loses_23 : decode cX2_loses 23 = .ok (.iload_n 3, 1) := by decide +kernel
theorem dX2_loses_24 : decode cX2_loses 24 = .ok (.bipush 18, 2) := by decide +kernel
theorem dX2_loses_26 : decode cX2_loses 26 = .ok (.if_icmp .eq 9, 3) := by decide +kernel
theorem dX2_loses_29 : decode cX2_loses 29 = .ok (.iload_n 3, 1) := by decide +kernel
theorem dX2_loses_30 : decode cX2_loses 30 = .ok (.bipush 10, 2) := by decide +kernel
theorem dX2_loses_32 : decode cX2_loses 32 = .ok (.if_icmp .ne 7, 3) := by decide +kernel
theorem dX2_loses_35 : decode cX2_loses 35 = .ok (.iconst 1, 1) := by decide +kernel
theorem dX2_loses_36 : decode cX2_loses 36 = .ok (.goto 4, 3) := by decide +kernel
theorem dX2_loses_39 : decode cX2_loses 39 = .ok (.iconst 0, 1) := by decide +kernel
theorem dX2_loses_40 : decode cX2_loses 40 = .ok (.ireturn, 1) := by decide +kernel
theorem dX3_init_0 : decode cX3_init 0 = .ok (.aload_n 0, 1) := by decide +kernel
theorem dX3_init_1 : decode cX3_init 1 = .ok (.invokespecial 3, 3) := by decide +kernel
theorem dX3_init_4 : decode cX3_init 4 = .ok (.aload_n 0, 1) := by decide +kernel
theorem dX3_init_5 : decode cX3_init 5 = .ok (.bipush 6, 2) := by decide +kernel
theorem dX3_init_7 : decode cX3_init 7 = .ok (.newarray .int, 2) := by decide +kernel
theorem dX3_init_9 : decode cX3_init 9 = .ok (.putfield 9, 3) := by decide +kernel
theorem dX3_init_12 : decode cX3_init 12 = .ok (.aload_n 0, 1) := by decide +kernel
theorem dX3_init_13 : decode cX3_init 13 = .ok (.bipush 6, 2) := by decide +kernel
theorem dX3_init_15 : decode cX3_init 15 = .ok (.newarray .int, 2) := by decide +kernel
theorem dX3_init_17 : decode cX3_init 17 = .ok (.putfield 15, 3) := by decide +kernel
theorem dX3_init_20 : decode cX3_init 20 = .ok (.return_, 1) := by decide +kernel
theorem dX3_clear_0 : decode cX3_clear 0 = .ok (.aload_n 0, 1) := by decide +kernel
theorem dX3_clear_1 : decode cX3_clear 1 = .ok (.iconst 0, 1) := by decide +kernel
theorem dX3_clear_2 : decode cX3_clear 2 = .ok (.putfield 18, 3) := by decide +kernel
theorem dX3_clear_5 : decode cX3_clear 5 = .ok (.aload_n 0, 1) := by decide +kernel
theorem dX3_clear_6 : decode cX3_clear 6 = .ok (.iconst 0, 1) := by decide +kernel
theorem dX3_clear_7 : decode cX3_clear 7 = .ok (.putfield 22, 3) := by decide +kernel
theorem dX3_clear_10 : decode cX3_clear 10 = .ok (.aload_n 0, 1) := by decide +kernel
theorem dX3_clear_11 : decode cX3_clear 11 = .ok (.iload_n 1, 1) := by decide +kernel
theorem dX3_clear_12 : decode cX3_clear 12 = .ok (.putfield 25, 3) := by decide +kernel
theorem dX3_clear_15 : decode cX3_clear 15 = .ok (.return_, 1) := by decide +kernel
theorem dX3_copyFrom_0 : decode cX3_copyFrom 0 = .ok (.aload_n 1, 1) := by decide +kernel
theorem dX3_copyFrom_1 : decode cX3_copyFrom 1 = .ok (.getfield 9, 3) := by decide +kernel
theorem dX3_copyFrom_4 : decode cX3_copyFrom 4 = .ok (.iconst 0, 1) := by decide +kernel
theorem dX3_copyFrom_5 : decode cX3_copyFrom 5 = .ok (.aload_n 0, 1) := by decide +kernel
theorem dX3_copyFrom_6 : decode cX3_copyFrom 6 = .ok (.getfield 9, 3) := by decide +kernel
theorem dX3_copyFrom_9 : decode cX3_copyFrom 9 = .ok (.iconst 0, 1) := by decide +kernel
theorem dX3_copyFrom_10 : decode cX3_copyFrom 10 = .ok (.bipush 6, 2) := by decide +kernel
theorem dX3_copyFrom_12 : decode cX3_copyFrom 12 = .ok (.invokestatic 28, 3) := by decide +kernel
theorem dX3_copyFrom_15 : decode cX3_copyFrom 15 = .ok (.aload_n 1, 1) := by decide +kernel
theorem dX3_copyFrom_16 : decode cX3_copyFrom 16 = .ok (.getfield 15, 3) := by decide +kernel
theorem dX3_copyFrom_19 : decode cX3_copyFrom 19 = .ok (.iconst 0, 1) := by decide +kernel
theorem dX3_copyFrom_20 : decode cX3_copyFrom 20 = .ok (.aload_n 0, 1) := by decide +kernel
theorem dX3_copyFrom_21 : decode cX3_copyFrom 21 = .ok (.getfield 15, 3) := by decide +kernel
theorem dX3_copyFrom_24 : decode cX3_copyFrom 24 = .ok (.iconst 0, 1) := by decide +kernel
theorem dX3_copyFrom_25 : decode cX3_copyFrom 25 = .ok (.bipush 6, 2) := by decide +kernel
theorem dX3_copyFrom_27 : decode cX3_copyFrom 27 = .ok (.invokestatic 28, 3) := by decide +kernel
theorem dX3_copyFrom_30 : decode cX3_copyFrom 30 = .ok (.aload_n 0, 1) := by decide +kernel
theorem dX3_copyFrom_31 : decode cX3_copyFrom 31 = .ok (.aload_n 1, 1) := by decide +kernel
theorem dX3_copyFrom_32 : decode cX3_copyFrom 32 = .ok (.getfield 18, 3) := by decide +kernel
theorem dX3_copyFrom_35 : decode cX3_copyFrom 35 = .ok (.putfield 18, 3) := by decide +kernel
theorem dX3_copyFrom_38 : decode cX3_copyFrom 38 = .ok (.aload_n 0, 1) := by decide +kernel
theorem dX3_copyFrom_39 : decode cX3_copyFrom 39 = .ok (.aload_n 1, 1) := by decide +kernel
theorem dX3_copyFrom_40 : decode cX3_copyFrom 40 = .ok (.getfield 22, 3) := by decide +kernel
theorem dX3_copyFrom_43 : decode cX3_copyFrom 43 = .ok (.putfield 22, 3) := by decide +kernel
theorem dX3_copyFrom_46 : decode cX3_copyFrom 46 = .ok (.aload_n 0, 1) := by decide +kernel
theorem dX3_copyFrom_47 : decode cX3_copyFrom 47 = .ok (.aload_n 1, 1) := by decide +kernel
theorem dX3_copyFrom_48 : decode cX3_copyFrom 48 = .ok (.getfield 25, 3) := by decide +kernel
theorem dX3_copyFrom_51 : decode cX3_copyFrom 51 = .ok (.putfield 25, 3) := by decide +kernel
theorem dX3_copyFrom_54 : decode cX3_copyFrom 54 = .ok (.return_, 1) := by decide +kernel
theorem dX3_isFull_0 : decode cX3_isFull 0 = .ok (.aload_n 0, 1) := by decide +kernel
theorem dX3_isFull_1 : decode cX3_isFull 1 = .ok (.getfield 22, 3) := by decide +kernel
theorem dX3_isFull_4 : decode cX3_isFull 4 = .ok (.aload_n 0, 1) := by decide +kernel
theorem dX3_isFull_5 : decode cX3_isFull 5 = .ok (.getfield 25, 3) := by decide +kernel
theorem dX3_isFull_8 : decode cX3_isFull 8 = .ok (.if_icmp .lt 7, 3) := by decide +kernel
theorem dX3_isFull_11 : decode cX3_isFull 11 = .ok (.iconst 1, 1) := by decide +kernel
theorem dX3_isFull_12 : decode cX3_isFull 12 = .ok (.goto 4, 3) := by decide +kernel
theorem dX3_isFull_15 : decode cX3_isFull 15 = .ok (.iconst 0, 1) := by decide +kernel
theorem dX3_isFull_16 : decode cX3_isFull 16 = .ok (.ireturn, 1) := by decide +kernel
theorem dX3_add_0 : decode cX3_add 0 = .ok (.aload_n 0, 1) := by decide +kernel
theorem dX3_add_1 : decode cX3_add 1 = .ok (.getfield 22, 3) := by decide +kernel
theorem dX3_add_4 : decode cX3_add 4 = .ok (.bipush 6, 2) := by decide +kernel
theorem dX3_add_6 : decode cX3_add 6 = .ok (.if_icmp .ge 40, 3) := by decide +kernel
theorem dX3_add_9 : decode cX3_add 9 = .ok (.aload_n 0, 1) := by decide +kernel
theorem dX3_add_10 : decode cX3_add 10 = .ok (.getfield 18, 3) := by decide +kernel
theorem dX3_add_13 : decode cX3_add 13 = .ok (.aload_n 0, 1) := by decide +kernel
theorem dX3_add_14 : decode cX3_add 14 = .ok (.getfield 22, 3) := by decide +kernel
theorem dX3_add_17 : decode cX3_add 17 = .ok (.iadd, 1) := by decide +kernel
theorem dX3_add_18 : decode cX3_add 18 = .ok (.bipush 6, 2) := by decide +kernel
theorem dX3_add_20 : decode cX3_add 20 = .ok (.irem, 1) := by decide +kernel
theorem dX3_add_21 : decode cX3_add 21 = .ok (.istore_n 3, 1) := by decide +kernel
theorem dX3_add_22 : decode cX3_add 22 = .ok (.aload_n 0, 1) := by decide +kernel
theorem dX3_add_23 : decode cX3_add 23 = .ok (.getfield 9, 3) := by decide +kernel
theorem dX3_add_26 : decode cX3_add 26 = .ok (.iload_n 3, 1) := by decide +kernel
theorem dX3_add_27 : decode cX3_add 27 = .ok (.iload_n 1, 1) := by decide +kernel
theorem dX3_add_28 : decode cX3_add 28 = .ok (.iastore, 1) := by decide +kernel
theorem dX3_add_29 : decode cX3_add 29 = .ok (.aload_n 0, 1) := by decide +kernel
theorem dX3_add_30 : decode cX3_add 30 = .ok (.getfield 15, 3) := by decide +kernel
theorem dX3_add_33 : decode cX3_add 33 = .ok (.iload_n 3, 1) := by decide +kernel
theorem dX3_add_34 : decode cX3_add 34 = .ok (.iload_n 2, 1) := by decide +kernel
theorem dX3_add_35 : decode cX3_add 35 = .ok (.iastore, 1) := by decide +kernel
theorem dX3_add_36 : decode cX3_add 36 = .ok (.aload_n 0, 1) := by decide +kernel
theorem dX3_add_37 : decode cX3_add 37 = .ok (.dup, 1) := by decide +kernel
theorem dX3_add_38 : decode cX3_add 38 = .ok (.getfield 22, 3) := by decide +kernel
theorem dX3_add_41 : decode cX3_add 41 = .ok (.iconst 1, 1) := by decide +kernel
theorem dX3_add_42 : decode cX3_add 42 = .ok (.iadd, 1) := by decide +kernel
theorem dX3_add_43 : decode cX3_add 43 = .ok (.putfield 22, 3) := by decide +kernel
theorem dX3_add_46 : decode cX3_add 46 = .ok (.return_, 1) := by decide +kernel
theorem dX3_heldAt_0 : decode cX3_heldAt 0 = .ok (.iload_n 1, 1) := by decide +kernel
theorem dX3_heldAt_1 : decode cX3_heldAt 1 = .ok (.ifCond .lt 11, 3) := by decide +kernel
theorem dX3_heldAt_4 : decode cX3_heldAt 4 = .ok (.iload_n 1, 1) := by decide +kernel
theorem dX3_heldAt_5 : decode cX3_heldAt 5 = .ok (.aload_n 0, 1) := by decide +kernel
theorem dX3_heldAt_6 : decode cX3_heldAt 6 = .ok (.getfield 22, 3) := by decide +kernel
theorem dX3_heldAt_9 : decode cX3_heldAt 9 = .ok (.if_icmp .lt 8, 3) := by decide +kernel
theorem dX3_heldAt_12 : decode cX3_heldAt 12 = .ok (.bipush (-2), 2) := by decide +kernel
theorem dX3_heldAt_14 : decode cX3_heldAt 14 = .ok (.goto 17, 3) := by decide +kernel
theorem dX3_heldAt_17 : decode cX3_heldAt 17 = .ok (.aload_n 0, 1) := by decide +kernel
theorem dX3_heldAt_18 : decode cX3_heldAt 18 = .ok (.getfield 9, 3) := by decide +kernel
theorem dX3_heldAt_21 : decode cX3_heldAt 21 = .ok (.aload_n 0, 1) := by decide +kernel
theorem dX3_heldAt_22 : decode cX3_heldAt 22 = .ok (.getfield 18, 3) := by decide +kernel
theorem dX3_heldAt_25 : decode cX3_heldAt 25 = .ok (.iload_n 1, 1) := by decide +kernel
theorem dX3_heldAt_26 : decode cX3_heldAt 26 = .ok (.iadd, 1) := by decide +kernel
theorem dX3_heldAt_27 : decode cX3_heldAt 27 = .ok (.bipush 6, 2) := by decide +kernel
theorem dX3_heldAt_29 : decode cX3_heldAt 29 = .ok (.irem, 1) := by decide +kernel
theorem dX3_heldAt_30 : decode cX3_heldAt 30 = .ok (.iaload, 1) := by decide +kernel
