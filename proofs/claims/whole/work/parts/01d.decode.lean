theorem dX3_heldAt_31 : decode cX3_heldAt 31 = .ok (.ireturn, 1) := by decide +kernel
theorem dX3_markAt_0 : decode cX3_markAt 0 = .ok (.iload_n 1, 1) := by decide +kernel
theorem dX3_markAt_1 : decode cX3_markAt 1 = .ok (.ifCond .lt 11, 3) := by decide +kernel
theorem dX3_markAt_4 : decode cX3_markAt 4 = .ok (.iload_n 1, 1) := by decide +kernel
theorem dX3_markAt_5 : decode cX3_markAt 5 = .ok (.aload_n 0, 1) := by decide +kernel
theorem dX3_markAt_6 : decode cX3_markAt 6 = .ok (.getfield 22, 3) := by decide +kernel
theorem dX3_markAt_9 : decode cX3_markAt 9 = .ok (.if_icmp .lt 7, 3) := by decide +kernel
theorem dX3_markAt_12 : decode cX3_markAt 12 = .ok (.iconst (-1), 1) := by decide +kernel
theorem dX3_markAt_13 : decode cX3_markAt 13 = .ok (.goto 17, 3) := by decide +kernel
theorem dX3_markAt_16 : decode cX3_markAt 16 = .ok (.aload_n 0, 1) := by decide +kernel
theorem dX3_markAt_17 : decode cX3_markAt 17 = .ok (.getfield 15, 3) := by decide +kernel
theorem dX3_markAt_20 : decode cX3_markAt 20 = .ok (.aload_n 0, 1) := by decide +kernel
theorem dX3_markAt_21 : decode cX3_markAt 21 = .ok (.getfield 18, 3) := by decide +kernel
theorem dX3_markAt_24 : decode cX3_markAt 24 = .ok (.iload_n 1, 1) := by decide +kernel
theorem dX3_markAt_25 : decode cX3_markAt 25 = .ok (.iadd, 1) := by decide +kernel
theorem dX3_markAt_26 : decode cX3_markAt 26 = .ok (.bipush 6, 2) := by decide +kernel
theorem dX3_markAt_28 : decode cX3_markAt 28 = .ok (.irem, 1) := by decide +kernel
theorem dX3_markAt_29 : decode cX3_markAt 29 = .ok (.iaload, 1) := by decide +kernel
theorem dX3_markAt_30 : decode cX3_markAt 30 = .ok (.ireturn, 1) := by decide +kernel
theorem dX3_take_0 : decode cX3_take 0 = .ok (.aload_n 0, 1) := by decide +kernel
theorem dX3_take_1 : decode cX3_take 1 = .ok (.getfield 22, 3) := by decide +kernel
theorem dX3_take_4 : decode cX3_take 4 = .ok (.ifCond .ne 5, 3) := by decide +kernel
theorem dX3_take_7 : decode cX3_take 7 = .ok (.iconst 0, 1) := by decide +kernel
theorem dX3_take_8 : decode cX3_take 8 = .ok (.ireturn, 1) := by decide +kernel
theorem dX3_take_9 : decode cX3_take 9 = .ok (.aload_n 0, 1) := by decide +kernel
theorem dX3_take_10 : decode cX3_take 10 = .ok (.getfield 9, 3) := by decide +kernel
theorem dX3_take_13 : decode cX3_take 13 = .ok (.aload_n 0, 1) := by decide +kernel
theorem dX3_take_14 : decode cX3_take 14 = .ok (.getfield 18, 3) := by decide +kernel
theorem dX3_take_17 : decode cX3_take 17 = .ok (.iaload, 1) := by decide +kernel
theorem dX3_take_18 : decode cX3_take 18 = .ok (.istore_n 1, 1) := by decide +kernel
theorem dX3_take_19 : decode cX3_take 19 = .ok (.aload_n 0, 1) := by decide +kernel
theorem dX3_take_20 : decode cX3_take 20 = .ok (.aload_n 0, 1) := by decide +kernel
theorem dX3_take_21 : decode cX3_take 21 = .ok (.getfield 18, 3) := by decide +kernel
theorem dX3_take_24 : decode cX3_take 24 = .ok (.iconst 1, 1) := by decide +kernel
theorem dX3_take_25 : decode cX3_take 25 = .ok (.iadd, 1) := by decide +kernel
theorem dX3_take_26 : decode cX3_take 26 = .ok (.bipush 6, 2) := by decide +kernel
theorem dX3_take_28 : decode cX3_take 28 = .ok (.irem, 1) := by decide +kernel
theorem dX3_take_29 : decode cX3_take 29 = .ok (.putfield 18, 3) := by decide +kernel
theorem dX3_take_32 : decode cX3_take 32 = .ok (.aload_n 0, 1) := by decide +kernel
theorem dX3_take_33 : decode cX3_take 33 = .ok (.dup, 1) := by decide +kernel
theorem dX3_take_34 : decode cX3_take 34 = .ok (.getfield 22, 3) := by decide +kernel
theorem dX3_take_37 : decode cX3_take 37 = .ok (.iconst 1, 1) := by decide +kernel
theorem dX3_take_38 : decode cX3_take 38 = .ok (.isub, 1) := by decide +kernel
theorem dX3_take_39 : decode cX3_take 39 = .ok (.putfield 22, 3) := by decide +kernel
theorem dX3_take_42 : decode cX3_take 42 = .ok (.iload_n 1, 1) := by decide +kernel
theorem dX3_take_43 : decode cX3_take 43 = .ok (.ireturn, 1) := by decide +kernel
theorem dX3_holds_0 : decode cX3_holds 0 = .ok (.iconst 0, 1) := by decide +kernel
theorem dX3_holds_1 : decode cX3_holds 1 = .ok (.istore_n 2, 1) := by decide +kernel
theorem dX3_holds_2 : decode cX3_holds 2 = .ok (.iload_n 2, 1) := by decide +kernel
theorem dX3_holds_3 : decode cX3_holds 3 = .ok (.aload_n 0, 1) := by decide +kernel
theorem dX3_holds_4 : decode cX3_holds 4 = .ok (.getfield 22, 3) := by decide +kernel
theorem dX3_holds_7 : decode cX3_holds 7 = .ok (.if_icmp .ge 29, 3) := by decide +kernel
theorem dX3_holds_10 : decode cX3_holds 10 = .ok (.aload_n 0, 1) := by decide +kernel
theorem dX3_holds_11 : decode cX3_holds 11 = .ok (.getfield 9, 3) := by decide +kernel
theorem dX3_holds_14 : decode cX3_holds 14 = .ok (.aload_n 0, 1) := by decide +kernel
theorem dX3_holds_15 : decode cX3_holds 15 = .ok (.getfield 18, 3) := by decide +kernel
theorem dX3_holds_18 : decode cX3_holds 18 = .ok (.iload_n 2, 1) := by decide +kernel
theorem dX3_holds_19 : decode cX3_holds 19 = .ok (.iadd, 1) := by decide +kernel
theorem dX3_holds_20 : decode cX3_holds 20 = .ok (.bipush 6, 2) := by decide +kernel
theorem dX3_holds_22 : decode cX3_holds 22 = .ok (.irem, 1) := by decide +kernel
theorem dX3_holds_23 : decode cX3_holds 23 = .ok (.iaload, 1) := by decide +kernel
theorem dX3_holds_24 : decode cX3_holds 24 = .ok (.iload_n 1, 1) := by decide +kernel
theorem dX3_holds_25 : decode cX3_holds 25 = .ok (.if_icmp .ne 5, 3) := by decide +kernel
theorem dX3_holds_28 : decode cX3_holds 28 = .ok (.iconst 1, 1) := by decide +kernel
theorem dX3_holds_29 : decode cX3_holds 29 = .ok (.ireturn, 1) := by decide +kernel
theorem dX3_holds_30 : decode cX3_holds 30 = .ok (.iinc 2 1, 3) := by decide +kernel
theorem dX3_holds_33 : decode cX3_holds 33 = .ok (.goto (-31), 3) := by decide +kernel
theorem dX3_holds_36 : decode cX3_holds 36 = .ok (.iconst 0, 1) := by decide +kernel
theorem dX3_holds_37 : decode cX3_holds 37 = .ok (.ireturn, 1) := by decide +kernel
theorem dX4_init_0 : decode cX4_init 0 = .ok (.aload_n 0, 1) := by decide +kernel
theorem dX4_init_1 : decode cX4_init 1 = .ok (.invokespecial 5, 3) := by decide +kernel
theorem dX4_init_4 : decode cX4_init 4 = .ok (.aload_n 0, 1) := by decide +kernel
theorem dX4_init_5 : decode cX4_init 5 = .ok (.new 11, 3) := by decide +kernel
theorem dX4_init_8 : decode cX4_init 8 = .ok (.dup, 1) := by decide +kernel
theorem dX4_init_9 : decode cX4_init 9 = .ok (.invokespecial 13, 3) := by decide +kernel
theorem dX4_init_12 : decode cX4_init 12 = .ok (.putfield 14, 3) := by decide +kernel
theorem dX4_init_15 : decode cX4_init 15 = .ok (.aload_n 0, 1) := by decide +kernel
theorem dX4_init_16 : decode cX4_init 16 = .ok (.new 18, 3) := by decide +kernel
theorem dX4_init_19 : decode cX4_init 19 = .ok (.dup, 1) := by decide +kernel
theorem dX4_init_20 : decode cX4_init 20 = .ok (.invokespecial 20, 3) := by decide +kernel
theorem dX4_init_23 : decode cX4_init 23 = .ok (.putfield 21, 3) := by decide +kernel
theorem dX4_init_26 : decode cX4_init 26 = .ok (.aload_n 0, 1) := by decide +kernel
theorem dX4_init_27 : decode cX4_init 27 = .ok (.sipush 150, 3) := by decide +kernel
theorem dX4_init_30 : decode cX4_init 30 = .ok (.newarray .int, 2) := by decide +kernel
theorem dX4_init_32 : decode cX4_init 32 = .ok (.putfield 25, 3) := by decide +kernel
theorem dX4_init_35 : decode cX4_init 35 = .ok (.aload_n 0, 1) := by decide +kernel
theorem dX4_init_36 : decode cX4_init 36 = .ok (.sipush 150, 3) := by decide +kernel
theorem dX4_init_39 : decode cX4_init 39 = .ok (.newarray .int, 2) := by decide +kernel
theorem dX4_init_41 : decode cX4_init 41 = .ok (.putfield 29, 3) := by decide +kernel
theorem dX4_init_44 : decode cX4_init 44 = .ok (.return_, 1) := by decide +kernel
theorem dX4_read_0 : decode cX4_read 0 = .ok (.aload_n 0, 1) := by decide +kernel
theorem dX4_read_1 : decode cX4_read 1 = .ok (.getfield 21, 3) := by decide +kernel
theorem dX4_read_4 : decode cX4_read 4 = .ok (.aload_n 1, 1) := by decide +kernel
theorem dX4_read_5 : decode cX4_read 5 = .ok (.iload_n 2, 1) := by decide +kernel
theorem dX4_read_6 : decode cX4_read 6 = .ok (.invokevirtual 32, 3) := by decide +kernel
theorem dX4_read_9 : decode cX4_read 9 = .ok (.aload_n 0, 1) := by decide +kernel
theorem dX4_read_10 : decode cX4_read 10 = .ok (.iconst 0, 1) := by decide +kernel
theorem dX4_read_11 : decode cX4_read 11 = .ok (.putfield 36, 3) := by decide +kernel
theorem dX4_read_14 : decode cX4_read 14 = .ok (.aload_n 0, 1) := by decide +kernel
theorem dX4_read_15 : decode cX4_read 15 = .ok (.iconst 0, 1) := by decide +kernel
theorem dX4_read_16 : decode cX4_read 16 = .ok (.putfield 40, 3) := by decide +kernel
theorem dX4_read_19 : decode cX4_read 19 = .ok (.aload_n 0, 1) := by decide +kernel
theorem dX4_read_20 : decode cX4_read 20 = .ok (.iconst 0, 1) := by decide +kernel
theorem dX4_read_21 : decode cX4_read 21 = .ok (.putfield 43, 3) := by decide +kernel
theorem dX4_read_24 : decode cX4_read 24 = .ok (.aload_n 0, 1) := by decide +kernel
theorem dX4_read_25 : decode cX4_read 25 = .ok (.iconst (-1), 1) := by decide +kernel
theorem dX4_read_26 : decode cX4_read 26 = .ok (.putfield 46, 3) := by decide +kernel
theorem dX4_read_29 : decode cX4_read 29 = .ok (.aload_n 0, 1) := by decide +kernel
theorem dX4_read_30 : decode cX4_read 30 = .ok (.getfield 25, 3) := by decide +kernel
theorem dX4_read_33 : decode cX4_read 33 = .ok (.iconst (-1), 1) := by decide +kernel
theorem dX4_read_34 : decode cX4_read 34 = .ok (.invokestatic 49, 3) := by decide +kernel
theorem dX4_read_37 : decode cX4_read 37 = .ok (.aload_n 0, 1) := by decide +kernel
theorem dX4_read_38 : decode cX4_read 38 = .ok (.getfield 29, 3) := by decide +kernel
theorem dX4_read_41 : decode cX4_read 41 = .ok (.iconst (-1), 1) := by decide +kernel
theorem dX4_read_42 : decode cX4_read 42 = .ok (.invokestatic 49, 3) := by decide +kernel
theorem dX4_read_45 : decode cX4_read 45 = .ok (.aload_n 0, 1) := by decide +kernel
theorem dX4_read_46 : decode cX4_read 46 = .ok (.getfield 14, 3) := by decide +kernel
theorem dX4_read_49 : decode cX4_read 49 = .ok (.invokevirtual 55, 3) := by decide +kernel
theorem dX4_read_52 : decode cX4_read 52 = .ok (.iconst 0, 1) := by decide +kernel
theorem dX4_read_53 : decode cX4_read 53 = .ok (.istore_n 3, 1) := by decide +kernel
theorem dX4_read_54 : decode cX4_read 54 = .ok (.iload_n 3, 1) := by decide +kernel
theorem dX4_read_55 : decode cX4_read 55 = .ok (.sipush 600, 3) := by decide +kernel
theorem dX4_read_58 : decode cX4_read 58 = .ok (.if_icmp .gt 29, 3) := by decide +kernel
theorem dX4_read_61 : decode cX4_read 61 = .ok (.aload_n 0, 1) := by decide +kernel
theorem dX4_read_62 : decode cX4_read 62 = .ok (.bipush 6, 2) := by decide +kernel
theorem dX4_read_64 : decode cX4_read 64 = .ok (.invokevirtual 58, 3) := by decide +kernel
theorem dX4_read_67 : decode cX4_read 67 = .ok (.ifCond .ne 20, 3) := by decide +kernel
theorem dX4_read_70 : decode cX4_read 70 = .ok (.aload_n 0, 1) := by decide +kernel
theorem dX4_read_71 : decode cX4_read 71 = .ok (.invokevirtual 62, 3) := by decide +kernel
theorem dX4_read_74 : decode cX4_read 74 = .ok (.ifCond .ne 13, 3) := by decide +kernel
theorem dX4_read_77 : decode cX4_read 77 = .ok (.aload_n 0, 1) := by decide +kernel
theorem dX4_read_78 : decode cX4_read 78 = .ok (.invokevirtual 66, 3) := by decide +kernel
theorem dX4_read_81 : decode cX4_read 81 = .ok (.iinc 3 1, 3) := by decide +kernel
theorem dX4_read_84 : decode cX4_read 84 = .ok (.goto (-30), 3) := by decide +kernel
theorem dX4_read_87 : decode cX4_read 87 = .ok (.aload_n 0, 1) := by decide +kernel
theorem dX4_read_88 : decode cX4_read 88 = .ok (.invokevirtual 62, 3) := by decide +kernel
theorem dX4_read_91 : decode cX4_read 91 = .ok (.ifCond .ne 7, 3) := by decide +kernel
theorem dX4_read_94 : decode cX4_read 94 = .ok (.aload_n 0, 1) := by decide +kernel
theorem dX4_read_95 : decode cX4_read 95 = .ok (.invokevirtual 69, 3) := by decide +kernel
theorem dX4_read_98 : decode cX4_read 98 = .ok (.aload_n 0, 1) := by decide +kernel
theorem dX4_read_99 : decode cX4_read 99 = .ok (.getfield 43, 3) := by decide +kernel
theorem dX4_read_102 : decode cX4_read 102 = .ok (.ifCond .ne 39, 3) := by decide +kernel
theorem dX4_read_105 : decode cX4_read 105 = .ok (.aload_n 0, 1) := by decide +kernel
theorem dX4_read_106 : decode cX4_read 106 = .ok (.getfield 14, 3) := by decide +kernel
theorem dX4_read_109 : decode cX4_read 109 = .ok (.aload_n 0, 1) := by decide +kernel
theorem dX4_read_110 : decode cX4_read 110 = .ok (.getfield 40, 3) := by decide +kernel
theorem dX4_read_113 : decode cX4_read 113 = .ok (.bipush 24, 2) := by decide +kernel
theorem dX4_read_115 : decode cX4_read 115 = .ok (.invokestatic 72, 3) := by decide +kernel
theorem dX4_read_118 : decode cX4_read 118 = .ok (.putfield 78, 3) := by decide +kernel
theorem dX4_read_121 : decode cX4_read 121 = .ok (.aload_n 0, 1) := by decide +kernel
theorem dX4_read_122 : decode cX4_read 122 = .ok (.getfield 14, 3) := by decide +kernel
theorem dX4_read_125 : decode cX4_read 125 = .ok (.getfield 81, 3) := by decide +kernel
theorem dX4_read_128 : decode cX4_read 128 = .ok (.aload_n 0, 1) := by decide +kernel
theorem dX4_read_129 : decode cX4_read 129 = .ok (.getfield 14, 3) := by decide +kernel
theorem dX4_read_132 : decode cX4_read 132 = .ok (.getfield 78, 3) := by decide +kernel
theorem dX4_read_135 : decode cX4_read 135 = .ok (.aaload, 1) := by decide +kernel
theorem dX4_read_136 : decode cX4_read 136 = .ok (.bipush 8, 2) := by decide +kernel
theorem dX4_read_138 : decode cX4_read 138 = .ok (.putfield 85, 3) := by decide +kernel
theorem dX4_read_141 : decode cX4_read 141 = .ok (.return_, 1) := by decide +kernel
theorem dX4_readLine_0 : decode cX4_readLine 0 = .ok (.aload_n 0, 1) := by decide +kernel
theorem dX4_readLine_1 : decode cX4_readLine 1 = .ok (.iconst 1, 1) := by decide +kernel
theorem dX4_readLine_2 : decode cX4_readLine 2 = .ok (.invokevirtual 58, 3) := by decide +kernel
theorem dX4_readLine_5 : decode cX4_readLine 5 = .ok (.ifCond .eq 26, 3) := by decide +kernel
theorem dX4_readLine_8 : decode cX4_readLine 8 = .ok (.aload_n 0, 1) := by decide +kernel
theorem dX4_readLine_9 : decode cX4_readLine 9 = .ok (.getfield 21, 3) := by decide +kernel
theorem dX4_readLine_12 : decode cX4_readLine 12 = .ok (.getfield 90, 3) := by decide +kernel
theorem dX4_readLine_15 : decode cX4_readLine 15 = .ok (.aload_n 0, 1) := by decide +kernel
theorem dX4_readLine_16 : decode cX4_readLine 16 = .ok (.getfield 36, 3) := by decide +kernel
theorem dX4_readLine_19 : decode cX4_readLine 19 = .ok (.iaload, 1) := by decide +kernel
theorem dX4_readLine_20 : decode cX4_readLine 20 = .ok (.iconst 5, 1) := by decide +kernel
theorem dX4_readLine_21 : decode cX4_readLine 21 = .ok (.if_icmp .ge 10, 3) := by decide +kernel
theorem dX4_readLine_24 : decode cX4_readLine 24 = .ok (.aload_n 0, 1) := by decide +kernel
theorem dX4_readLine_25 : decode cX4_readLine 25 = .ok (.invokevirtual 93, 3) := by decide +kernel
theorem dX4_readLine_28 : decode cX4_readLine 28 = .ok (.goto 19, 3) := by decide +kernel
theorem dX4_readLine_31 : decode cX4_readLine 31 = .ok (.aload_n 0, 1) := by decide +kernel
theorem dX4_readLine_32 : decode cX4_readLine 32 = .ok (.iconst 3, 1) := by decide +kernel
theorem dX4_readLine_33 : decode cX4_readLine 33 = .ok (.invokevirtual 58, 3) := by decide +kernel
theorem dX4_readLine_36 : decode cX4_readLine 36 = .ok (.ifCond .eq 7, 3) := by decide +kernel
theorem dX4_readLine_39 : decode cX4_readLine 39 = .ok (.aload_n 0, 1) := by decide +kernel
theorem dX4_readLine_40 : decode cX4_readLine 40 = .ok (.invokevirtual 96, 3) := by decide +kernel
theorem dX4_readLine_43 : decode cX4_readLine 43 = .ok (.aload_n 0, 1) := by decide +kernel
theorem dX4_readLine_44 : decode cX4_readLine 44 = .ok (.invokevirtual 99, 3) := by decide +kernel
theorem dX4_readLine_47 : decode cX4_readLine 47 = .ok (.aload_n 0, 1) := by decide +kernel
theorem dX4_readLine_48 : decode cX4_readLine 48 = .ok (.bipush 59, 2) := by decide +kernel
theorem dX4_readLine_50 : decode cX4_readLine 50 = .ok (.invokevirtual 102, 3) := by decide +kernel
theorem dX4_readLine_53 : decode cX4_readLine 53 = .ok (.return_, 1) := by decide +kernel
theorem dX4_readSetting_0 : decode cX4_readSetting 0 = .ok (.aload_n 0, 1) := by decide +kernel
theorem dX4_readSetting_1 : decode cX4_readSetting 1 = .ok (.iconst 1, 1) := by decide +kernel
theorem dX4_readSetting_2 : decode cX4_readSetting 2 = .ok (.invokevirtual 106, 3) := by decide +kernel
theorem dX4_readSetting_5 : decode cX4_readSetting 5 = .ok (.istore_n 1, 1) := by decide +kernel
theorem dX4_readSetting_6 : decode cX4_readSetting 6 = .ok (.iload_n 1, 1) := by decide +kernel
theorem dX4_readSetting_7 : decode cX4_readSetting 7 = .ok (.tableswitch 126 0 3 #[29, 46, 70, 98], 29) := by decide +kernel
theorem dX4_readSetting_36 : decode cX4_readSetting 36 = .ok (.aload_n 0, 1) := by decide +kernel
theorem dX4_readSetting_37 : decode cX4_readSetting 37 = .ok (.getfield 14, 3) := by decide +kernel
theorem dX4_readSetting_40 : decode cX4_readSetting 40 = .ok (.aload_n 0, 1) := by decide +kernel
theorem dX4_readSetting_41 : decode cX4_readSetting 41 = .ok (.iconst 1, 1) := by decide +kernel
theorem dX4_readSetting_42 : decode cX4_readSetting 42 = .ok (.bipush 9, 2) := by decide +kernel
theorem dX4_readSetting_44 : decode cX4_readSetting 44 = .ok (.invokevirtual 110, 3) := by decide +kernel
theorem dX4_readSetting_47 : decode cX4_readSetting 47 = .ok (.putfield 113, 3) := by decide +kernel
theorem dX4_readSetting_50 : decode cX4_readSetting 50 = .ok (.goto 103, 3) := by decide +kernel
theorem dX4_readSetting_53 : decode cX4_readSetting 53 = .ok (.aload_n 0, 1) := by decide +kernel
theorem dX4_readSetting_54 : decode cX4_readSetting 54 = .ok (.invokevirtual 116, 3) := by decide +kernel
theorem dX4_readSetting_57 : decode cX4_readSetting 57 = .ok (.istore_n 2, 1) := by decide +kernel
theorem dX4_readSetting_58 : decode cX4_readSetting 58 = .ok (.aload_n 0, 1) := by decide +kernel
theorem dX4_readSetting_59 : decode cX4_readSetting 59 = .ok (.getfield 14, 3) := by decide +kernel
theorem dX4_readSetting_62 : decode cX4_readSetting 62 = .ok (.getfield 120, 3) := by decide +kernel
theorem dX4_readSetting_65 : decode cX4_readSetting 65 = .ok (.iload_n 2, 1) := by decide +kernel
theorem dX4_readSetting_66 : decode cX4_readSetting 66 = .ok (.aload_n 0, 1) := by decide +kernel
theorem dX4_readSetting_67 : decode cX4_readSetting 67 = .ok (.iconst 1, 1) := by decide +kernel
theorem dX4_readSetting_68 : decode cX4_readSetting 68 = .ok (.bipush 6, 2) := by decide +kernel
theorem dX4_readSetting_70 : decode cX4_readSetting 70 = .ok (.invokevirtual 110, 3) := by decide +kernel
theorem dX4_readSetting_73 : decode cX4_readSetting 73 = .ok (.iastore, 1) := by decide +kernel
theorem dX4_readSetting_74 : decode cX4_readSetting 74 = .ok (.goto 79, 3) := by decide +kernel
theorem dX4_readSetting_77 : decode cX4_readSetting 77 = .ok (.aload_n 0, 1) := by decide +kernel
theorem dX4_readSetting_78 : decode cX4_readSetting 78 = .ok (.iconst 0, 1) := by decide +kernel
theorem dX4_readSetting_79 : decode cX4_readSetting 79 = .ok (.bipush 31, 2) := by decide +kernel
theorem dX4_readSetting_81 : decode cX4_readSetting 81 = .ok (.invokevirtual 110, 3) := by decide +kernel
theorem dX4_readSetting_84 : decode cX4_readSetting 84 = .ok (.istore_n 3, 1) := by decide +kernel
theorem dX4_readSetting_85 : decode cX4_readSetting 85 = .ok (.aload_n 0, 1) := by decide +kernel
theorem dX4_readSetting_86 : decode cX4_readSetting 86 = .ok (.getfield 14, 3) := by decide +kernel
theorem dX4_readSetting_89 : decode cX4_readSetting 89 = .ok (.getfield 123, 3) := by decide +kernel
theorem dX4_readSetting_92 : decode cX4_readSetting 92 = .ok (.iload_n 3, 1) := by decide +kernel
theorem dX4_readSetting_93 : decode cX4_readSetting 93 = .ok (.aload_n 0, 1) := by decide +kernel
theorem dX4_readSetting_94 : decode cX4_readSetting 94 = .ok (.iconst 0, 1) := by decide +kernel
theorem dX4_readSetting_95 : decode cX4_readSetting 95 = .ok (.sipush 999, 3) := by decide +kernel
theorem dX4_readSetting_98 : decode cX4_readSetting 98 = .ok (.invokevirtual 110, 3) := by decide +kernel
theorem dX4_readSetting_101 : decode cX4_readSetting 101 = .ok (.iastore, 1) := by decide +kernel
theorem dX4_readSetting_102 : decode cX4_readSetting 102 = .ok (.goto 51, 3) := by decide +kernel
theorem dX4_readSetting_105 : decode cX4_readSetting 105 = .ok (.aload_n 0, 1) := by decide +kernel
theorem dX4_readSetting_106 : decode cX4_readSetting 106 = .ok (.iconst 2, 1) := by decide +kernel
theorem dX4_readSetting_107 : decode cX4_readSetting 107 = .ok (.invokevirtual 106, 3) := by decide +kernel
theorem dX4_readSetting_110 : decode cX4_readSetting 110 = .ok (.istore 4, 2) := by decide +kernel
theorem dX4_readSetting_112 : decode cX4_readSetting 112 = .ok (.aload_n 0, 1) := by decide +kernel
theorem dX4_readSetting_113 : decode cX4_readSetting 113 = .ok (.getfield 14, 3) := by decide +kernel
theorem dX4_readSetting_116 : decode cX4_readSetting 116 = .ok (.getfield 126, 3) := by decide +kernel
theorem dX4_readSetting_119 : decode cX4_readSetting 119 = .ok (.iload 4, 2) := by decide +kernel
theorem dX4_readSetting_121 : decode cX4_readSetting 121 = .ok (.aload_n 0, 1) := by decide +kernel
theorem dX4_readSetting_122 : decode cX4_readSetting 122 = .ok (.iconst 0, 1) := by decide +kernel
theorem dX4_readSetting_123 : decode cX4_readSetting 123 = .ok (.sipush 999, 3) := by decide +kernel
theorem dX4_readSetting_126 : decode cX4_readSetting 126 = .ok (.invokevirtual 110, 3) := by decide +kernel
theorem dX4_readSetting_129 : decode cX4_readSetting 129 = .ok (.iastore, 1) := by decide +kernel
theorem dX4_readSetting_130 : decode cX4_readSetting 130 = .ok (.goto 23, 3) := by decide +kernel
theorem dX4_readSetting_133 : decode cX4_readSetting 133 = .ok (.aload_n 0, 1) := by decide +kernel
theorem dX4_readSetting_134 : decode cX4_readSetting 134 = .ok (.getfield 14, 3) := by decide +kernel
theorem dX4_readSetting_137 : decode cX4_readSetting 137 = .ok (.dup, 1) := by decide +kernel
theorem dX4_readSetting_138 : decode cX4_readSetting 138 = .ok (.getfield 129, 3) := by decide +kernel
theorem dX4_readSetting_141 : decode cX4_readSetting 141 = .ok (.aload_n 0, 1) := by decide +kernel
theorem dX4_readSetting_142 : decode cX4_readSetting 142 = .ok (.iconst 2, 1) := by decide +kernel
theorem dX4_readSetting_143 : decode cX4_readSetting 143 = .ok (.invokevirtual 106, 3) := by decide +kernel
theorem dX4_readSetting_146 : decode cX4_readSetting 146 = .ok (.invokestatic 132, 3) := by decide +kernel
theorem dX4_readSetting_149 : decode cX4_readSetting 149 = .ok (.ior, 1) := by decide +kernel
theorem dX4_readSetting_150 : decode cX4_readSetting 150 = .ok (.putfield 129, 3) := by decide +kernel
theorem dX4_readSetting_153 : decode cX4_readSetting 153 = .ok (.return_, 1) := by decide +kernel
theorem dX4_readNameAhead_0 : decode cX4_readNameAhead 0 = .ok (.aload_n 0, 1) := by decide +kernel
theorem dX4_readNameAhead_1 : decode cX4_readNameAhead 1 = .ok (.aload_n 0, 1) := by decide +kernel
theorem dX4_readNameAhead_2 : decode cX4_readNameAhead 2 = .ok (.getfield 36, 3) := by decide +kernel
theorem dX4_readNameAhead_5 : decode cX4_readNameAhead 5 = .ok (.invokevirtual 135, 3) := by decide +kernel
theorem dX4_readNameAhead_8 : decode cX4_readNameAhead 8 = .ok (.iconst (-1), 1) := by decide +kernel
theorem dX4_readNameAhead_9 : decode cX4_readNameAhead 9 = .ok (.if_icmp .eq 12, 3) := by decide +kernel
theorem dX4_readNameAhead_12 : decode cX4_readNameAhead 12 = .ok (.aload_n 0, 1) := by decide +kernel
theorem dX4_readNameAhead_13 : decode cX4_readNameAhead 13 = .ok (.iconst 3, 1) := by decide +kernel
theorem dX4_readNameAhead_14 : decode cX4_readNameAhead 14 = .ok (.aload_n 0, 1) := by decide +kernel
theorem dX4_readNameAhead_15 : decode cX4_readNameAhead 15 = .ok (.getfield 36, 3) := by decide +kernel
theorem dX4_readNameAhead_18 : decode cX4_readNameAhead 18 = .ok (.invokevirtual 138, 3) := by decide +kernel
theorem dX4_readNameAhead_21 : decode cX4_readNameAhead 21 = .ok (.aload_n 0, 1) := by decide +kernel
theorem dX4_readNameAhead_22 : decode cX4_readNameAhead 22 = .ok (.getfield 40, 3) := by decide +kernel
theorem dX4_readNameAhead_25 : decode cX4_readNameAhead 25 = .ok (.sipush 150, 3) := by decide +kernel
theorem dX4_readNameAhead_28 : decode cX4_readNameAhead 28 = .ok (.if_icmp .ge 16, 3) := by decide +kernel
theorem dX4_readNameAhead_31 : decode cX4_readNameAhead 31 = .ok (.aload_n 0, 1) := by decide +kernel
theorem dX4_readNameAhead_32 : decode cX4_readNameAhead 32 = .ok (.getfield 25, 3) := by decide +kernel
theorem dX4_readNameAhead_35 : decode cX4_readNameAhead 35 = .ok (.aload_n 0, 1) := by decide +kernel
theorem dX4_readNameAhead_36 : decode cX4_readNameAhead 36 = .ok (.getfield 40, 3) := by decide +kernel
theorem dX4_readNameAhead_39 : decode cX4_readNameAhead 39 = .ok (.aload_n 0, 1) := by decide +kernel
theorem dX4_readNameAhead_40 : decode cX4_readNameAhead 40 = .ok (.getfield 36, 3) := by decide +kernel
theorem dX4_readNameAhead_43 : decode cX4_readNameAhead 43 = .ok (.iastore, 1) := by decide +kernel
theorem dX4_readNameAhead_44 : decode cX4_readNameAhead 44 = .ok (.aload_n 0, 1) := by decide +kernel
theorem dX4_readNameAhead_45 : decode cX4_readNameAhead 45 = .ok (.iconst 3, 1) := by decide +kernel
theorem dX4_readNameAhead_46 : decode cX4_readNameAhead 46 = .ok (.invokevirtual 106, 3) := by decide +kernel
theorem dX4_readNameAhead_49 : decode cX4_readNameAhead 49 = .ok (.pop, 1) := by decide +kernel
theorem dX4_readNameAhead_50 : decode cX4_readNameAhead 50 = .ok (.aload_n 0, 1) := by decide +kernel
theorem dX4_readNameAhead_51 : decode cX4_readNameAhead 51 = .ok (.bipush 58, 2) := by decide +kernel
theorem dX4_readNameAhead_53 : decode cX4_readNameAhead 53 = .ok (.invokevirtual 102, 3) := by decide +kernel
theorem dX4_readNameAhead_56 : decode cX4_readNameAhead 56 = .ok (.return_, 1) := by decide +kernel
theorem dX4_readInstruction_0 : decode cX4_readInstruction 0 = .ok (.aload_n 0, 1) := by decide +kernel
theorem dX4_readInstruction_1 : decode cX4_readInstruction 1 = .ok (.iconst 1, 1) := by decide +kernel
theorem dX4_readInstruction_2 : decode cX4_readInstruction 2 = .ok (.invokevirtual 58, 3) := by decide +kernel
theorem dX4_readInstruction_5 : decode cX4_readInstruction 5 = .ok (.ifCond .ne 8, 3) := by decide +kernel
theorem dX4_readInstruction_8 : decode cX4_readInstruction 8 = .ok (.aload_n 0, 1) := by decide +kernel
theorem dX4_readInstruction_9 : decode cX4_readInstruction 9 = .ok (.invokevirtual 142, 3) := by decide +kernel
theorem dX4_readInstruction_12 : decode cX4_readInstruction 12 = .ok (.return_, 1) := by decide +kernel
theorem dX4_readInstruction_13 : decode cX4_readInstruction 13 = .ok (.aload_n 0, 1) := by decide +kernel
theorem dX4_readInstruction_14 : decode cX4_readInstruction 14 = .ok (.getfield 21, 3) := by decide +kernel
theorem dX4_readInstruction_17 : decode cX4_readInstruction 17 = .ok (.getfield 90, 3) := by decide +kernel
theorem dX4_readInstruction_20 : decode cX4_readInstruction 20 = .ok (.aload_n 0, 1) := by decide +kernel
theorem dX4_readInstruction_21 : decode cX4_readInstruction 21 = .ok (.getfield 36, 3) := by decide +kernel
theorem dX4_readInstruction_24 : decode cX4_readInstruction 24 = .ok (.iaload, 1) := by decide +kernel
theorem dX4_readInstruction_25 : decode cX4_readInstruction 25 = .ok (.iconst 5, 1) := by decide +kernel
theorem dX4_readInstruction_26 : decode cX4_readInstruction 26 = .ok (.isub, 1) := by decide +kernel
theorem dX4_readInstruction_27 : decode cX4_readInstruction 27 = .ok (.istore_n 1, 1) := by decide +kernel
theorem dX4_readInstruction_28 : decode cX4_readInstruction 28 = .ok (.iload_n 1, 1) := by decide +kernel
theorem dX4_readInstruction_29 : decode cX4_readInstruction 29 = .ok (.ifCond .lt 9, 3) := by decide +kernel
theorem dX4_readInstruction_32 : decode cX4_readInstruction 32 = .ok (.iload_n 1, 1) := by decide +kernel
theorem dX4_readInstruction_33 : decode cX4_readInstruction 33 = .ok (.bipush 8, 2) := by decide +kernel
theorem dX4_readInstruction_35 : decode cX4_readInstruction 35 = .ok (.if_icmp .le 8, 3) := by decide +kernel
theorem dX4_readInstruction_38 : decode cX4_readInstruction 38 = .ok (.aload_n 0, 1) := by decide +kernel
theorem dX4_readInstruction_39 : decode cX4_readInstruction 39 = .ok (.invokevirtual 142, 3) := by decide +kernel
theorem dX4_readInstruction_42 : decode cX4_readInstruction 42 = .ok (.return_, 1) := by decide +kernel
theorem dX4_readInstruction_43 : decode cX4_readInstruction 43 = .ok (.aload_n 0, 1) := by decide +kernel
theorem dX4_readInstruction_44 : decode cX4_readInstruction 44 = .ok (.getfield 40, 3) := by decide +kernel
theorem dX4_readInstruction_47 : decode cX4_readInstruction 47 = .ok (.bipush 24, 2) := by decide +kernel
theorem dX4_readInstruction_49 : decode cX4_readInstruction 49 = .ok (.if_icmp .lt 12, 3) := by decide +kernel
theorem dX4_readInstruction_52 : decode cX4_readInstruction 52 = .ok (.aload_n 0, 1) := by decide +kernel
theorem dX4_readInstruction_53 : decode cX4_readInstruction 53 = .ok (.iconst 4, 1) := by decide +kernel
theorem dX4_readInstruction_54 : decode cX4_readInstruction 54 = .ok (.aload_n 0, 1) := by decide +kernel
theorem dX4_readInstruction_55 : decode cX4_readInstruction 55 = .ok (.getfield 36, 3) := by decide +kernel
theorem dX4_readInstruction_58 : decode cX4_readInstruction 58 = .ok (.invokevirtual 138, 3) := by decide +kernel
theorem dX4_readInstruction_61 : decode cX4_readInstruction 61 = .ok (.aload_n 0, 1) := by decide +kernel
theorem dX4_readInstruction_62 : decode cX4_readInstruction 62 = .ok (.iconst 1, 1) := by decide +kernel
theorem dX4_readInstruction_63 : decode cX4_readInstruction 63 = .ok (.invokevirtual 106, 3) := by decide +kernel
theorem dX4_readInstruction_66 : decode cX4_readInstruction 66 = .ok (.pop, 1) := by decide +kernel
theorem dX4_readInstruction_67 : decode cX4_readInstruction 67 = .ok (.aload_n 0, 1) := by decide +kernel
theorem dX4_readInstruction_68 : decode cX4_readInstruction 68 = .ok (.getfield 14, 3) := by decide +kernel
theorem dX4_readInstruction_71 : decode cX4_readInstruction 71 = .ok (.getfield 81, 3) := by decide +kernel
theorem dX4_readInstruction_74 : decode cX4_readInstruction 74 = .ok (.aload_n 0, 1) := by decide +kernel
theorem dX4_readInstruction_75 : decode cX4_readInstruction 75 = .ok (.getfield 40, 3) := by decide +kernel
theorem dX4_readInstruction_78 : decode cX4_readInstruction 78 = .ok (.bipush 24, 2) := by decide +kernel
theorem dX4_readInstruction_80 : decode cX4_readInstruction 80 = .ok (.invokestatic 72, 3) := by decide +kernel
theorem dX4_readInstruction_83 : decode cX4_readInstruction 83 = .ok (.aaload, 1) := by decide +kernel
theorem dX4_readInstruction_84 : decode cX4_readInstruction 84 = .ok (.astore_n 2, 1) := by decide +kernel
theorem dX4_readInstruction_85 : decode cX4_readInstruction 85 = .ok (.aload_n 2, 1) := by decide +kernel
theorem dX4_readInstruction_86 : decode cX4_readInstruction 86 = .ok (.iload_n 1, 1) := by decide +kernel
theorem dX4_readInstruction_87 : decode cX4_readInstruction 87 = .ok (.putfield 85, 3) := by decide +kernel
theorem dX4_readInstruction_90 : decode cX4_readInstruction 90 = .ok (.aload_n 0, 1) := by decide +kernel
theorem dX4_readInstruction_91 : decode cX4_readInstruction 91 = .ok (.aload_n 2, 1) := by decide +kernel
theorem dX4_readInstruction_92 : decode cX4_readInstruction 92 = .ok (.invokevirtual 145, 3) := by decide +kernel
theorem dX4_readInstruction_95 : decode cX4_readInstruction 95 = .ok (.aload_n 0, 1) := by decide +kernel
theorem dX4_readInstruction_96 : decode cX4_readInstruction 96 = .ok (.dup, 1) := by decide +kernel
theorem dX4_readInstruction_97 : decode cX4_readInstruction 97 = .ok (.getfield 40, 3) := by decide +kernel
theorem dX4_readInstruction_100 : decode cX4_readInstruction 100 = .ok (.iconst 1, 1) := by decide +kernel
theorem dX4_readInstruction_101 : decode cX4_readInstruction 101 = .ok (.iadd, 1) := by decide +kernel
theorem dX4_readInstruction_102 : decode cX4_readInstruction 102 = .ok (.putfield 40, 3) := by decide +kernel
theorem dX4_readInstruction_105 : decode cX4_readInstruction 105 = .ok (.return_, 1) := by decide +kernel
theorem dX4_readRest_0 : decode cX4_readRest 0 = .ok (.aload_n 1, 1) := by decide +kernel
theorem dX4_readRest_1 : decode cX4_readRest 1 = .ok (.getfield 85, 3) := by decide +kernel
theorem dX4_readRest_4 : decode cX4_readRest 4 = .ok (.tableswitch 174 0 7 #[48, 72, 72, 72, 102, 102, 134, 141], 48) := by decide +kernel
theorem dX4_readRest_52 : decode cX4_readRest 52 = .ok (.aload_n 1, 1) := by decide +kernel
theorem dX4_readRest_53 : decode cX4_readRest 53 = .ok (.aload_n 0, 1) := by decide +kernel
theorem dX4_readRest_54 : decode cX4_readRest 54 = .ok (.iconst 2, 1) := by decide +kernel
theorem dX4_readRest_55 : decode cX4_readRest 55 = .ok (.invokevirtual 106, 3) := by decide +kernel
theorem dX4_readRest_58 : decode cX4_readRest 58 = .ok (.putfield 149, 3) := by decide +kernel
theorem dX4_readRest_61 : decode cX4_readRest 61 = .ok (.aload_n 1, 1) := by decide +kernel
theorem dX4_readRest_62 : decode cX4_readRest 62 = .ok (.aload_n 0, 1) := by decide +kernel
theorem dX4_readRest_63 : decode cX4_readRest 63 = .ok (.iconst 0, 1) := by decide +kernel
theorem dX4_readRest_64 : decode cX4_readRest 64 = .ok (.sipush 999, 3) := by decide +kernel
theorem dX4_readRest_67 : decode cX4_readRest 67 = .ok (.invokevirtual 110, 3) := by decide +kernel
theorem dX4_readRest_70 : decode cX4_readRest 70 = .ok (.putfield 152, 3) := by decide +kernel
theorem dX4_readRest_73 : decode cX4_readRest 73 = .ok (.goto 105, 3) := by decide +kernel
theorem dX4_readRest_76 : decode cX4_readRest 76 = .ok (.aload_n 1, 1) := by decide +kernel
theorem dX4_readRest_77 : decode cX4_readRest 77 = .ok (.aload_n 0, 1) := by decide +kernel
theorem dX4_readRest_78 : decode cX4_readRest 78 = .ok (.iconst 2, 1) := by decide +kernel
theorem dX4_readRest_79 : decode cX4_readRest 79 = .ok (.invokevirtual 106, 3) := by decide +kernel
theorem dX4_readRest_82 : decode cX4_readRest 82 = .ok (.putfield 149, 3) := by decide +kernel
theorem dX4_readRest_85 : decode cX4_readRest 85 = .ok (.aload_n 1, 1) := by decide +kernel
theorem dX4_readRest_86 : decode cX4_readRest 86 = .ok (.aload_n 0, 1) := by decide +kernel
theorem dX4_readRest_87 : decode cX4_readRest 87 = .ok (.iconst 2, 1) := by decide +kernel
theorem dX4_readRest_88 : decode cX4_readRest 88 = .ok (.invokevirtual 106, 3) := by decide +kernel
theorem dX4_readRest_91 : decode cX4_readRest 91 = .ok (.putfield 155, 3) := by decide +kernel
theorem dX4_readRest_94 : decode cX4_readRest 94 = .ok (.aload_n 1, 1) := by decide +kernel
theorem dX4_readRest_95 : decode cX4_readRest 95 = .ok (.aload_n 0, 1) := by decide +kernel
theorem dX4_readRest_96 : decode cX4_readRest 96 = .ok (.iconst 2, 1) := by decide +kernel
theorem dX4_readRest_97 : decode cX4_readRest 97 = .ok (.invokevirtual 106, 3) := by decide +kernel
theorem dX4_readRest_100 : decode cX4_readRest 100 = .ok (.putfield 158, 3) := by decide +kernel
theorem dX4_readRest_103 : decode cX4_readRest 103 = .ok (.goto 75, 3) := by decide +kernel
theorem dX4_readRest_106 : decode cX4_readRest 106 = .ok (.aload_n 1, 1) := by decide +kernel
theorem dX4_readRest_107 : decode cX4_readRest 107 = .ok (.aload_n 0, 1) := by decide +kernel
theorem dX4_readRest_108 : decode cX4_readRest 108 = .ok (.iconst 2, 1) := by decide +kernel
theorem dX4_readRest_109 : decode cX4_readRest 109 = .ok (.invokevirtual 106, 3) := by decide +kernel
theorem dX4_readRest_112 : decode cX4_readRest 112 = .ok (.putfield 149, 3) := by decide +kernel
theorem dX4_readRest_115 : decode cX4_readRest 115 = .ok (.aload_n 1, 1) := by decide +kernel
theorem dX4_readRest_116 : decode cX4_readRest 116 = .ok (.aload_n 0, 1) := by decide +kernel
theorem dX4_readRest_117 : decode cX4_readRest 117 = .ok (.iconst 2, 1) := by decide +kernel
theorem dX4_readRest_118 : decode cX4_readRest 118 = .ok (.invokevirtual 106, 3) := by decide +kernel
theorem dX4_readRest_121 : decode cX4_readRest 121 = .ok (.putfield 155, 3) := by decide +kernel
theorem dX4_readRest_124 : decode cX4_readRest 124 = .ok (.aload_n 1, 1) := by decide +kernel
theorem dX4_readRest_125 : decode cX4_readRest 125 = .ok (.aload_n 0, 1) := by decide +kernel
theorem dX4_readRest_126 : decode cX4_readRest 126 = .ok (.iconst 0, 1) := by decide +kernel
theorem dX4_readRest_127 : decode cX4_readRest 127 = .ok (.bipush 31, 2) := by decide +kernel
theorem dX4_readRest_129 : decode cX4_readRest 129 = .ok (.invokevirtual 110, 3) := by decide +kernel
theorem dX4_readRest_132 : decode cX4_readRest 132 = .ok (.putfield 152, 3) := by decide +kernel
theorem dX4_readRest_135 : decode cX4_readRest 135 = .ok (.goto 43, 3) := by decide +kernel
theorem dX4_readRest_138 : decode cX4_readRest 138 = .ok (.aload_n 0, 1) := by decide +kernel
theorem dX4_readRest_139 : decode cX4_readRest 139 = .ok (.invokevirtual 161, 3) := by decide +kernel
theorem dX4_readRest_142 : decode cX4_readRest 142 = .ok (.goto 36, 3) := by decide +kernel
theorem dX4_readRest_145 : decode cX4_readRest 145 = .ok (.aload_n 1, 1) := by decide +kernel
theorem dX4_readRest_146 : decode cX4_readRest 146 = .ok (.aload_n 0, 1) := by decide +kernel
theorem dX4_readRest_147 : decode cX4_readRest 147 = .ok (.iconst 2, 1) := by decide +kernel
theorem dX4_readRest_148 : decode cX4_readRest 148 = .ok (.invokevirtual 106, 3) := by decide +kernel
theorem dX4_readRest_151 : decode cX4_readRest 151 = .ok (.putfield 155, 3) := by decide +kernel
theorem dX4_readRest_154 : decode cX4_readRest 154 = .ok (.aload_n 1, 1) := by decide +kernel
theorem dX4_readRest_155 : decode cX4_readRest 155 = .ok (.aload_n 0, 1) := by decide +kernel
theorem dX4_readRest_156 : decode cX4_readRest 156 = .ok (.invokevirtual 164, 3) := by decide +kernel
theorem dX4_readRest_159 : decode cX4_readRest 159 = .ok (.putfield 168, 3) := by decide +kernel
theorem dX4_readRest_162 : decode cX4_readRest 162 = .ok (.aload_n 1, 1) := by decide +kernel
theorem dX4_readRest_163 : decode cX4_readRest 163 = .ok (.aload_n 0, 1) := by decide +kernel
theorem dX4_readRest_164 : decode cX4_readRest 164 = .ok (.iconst 2, 1) := by decide +kernel
theorem dX4_readRest_165 : decode cX4_readRest 165 = .ok (.invokevirtual 106, 3) := by decide +kernel
theorem dX4_readRest_168 : decode cX4_readRest 168 = .ok (.putfield 158, 3) := by decide +kernel
theorem dX4_readRest_171 : decode cX4_readRest 171 = .ok (.aload_n 0, 1) := by decide +kernel
theorem dX4_readRest_172 : decode cX4_readRest 172 = .ok (.invokevirtual 161, 3) := by decide +kernel
theorem dX4_readRest_175 : decode cX4_readRest 175 = .ok (.goto 3, 3) := by decide +kernel
theorem dX4_readRest_178 : decode cX4_readRest 178 = .ok (.return_, 1) := by decide +kernel
theorem dX4_findAims_0 : decode cX4_findAims 0 = .ok (.iconst 0, 1) := by decide +kernel
theorem dX4_findAims_1 : decode cX4_findAims 1 = .ok (.istore_n 1, 1) := by decide +kernel
theorem dX4_findAims_2 : decode cX4_findAims 2 = .ok (.iload_n 1, 1) := by decide +kernel
theorem dX4_findAims_3 : decode cX4_findAims 3 = .ok (.aload_n 0, 1) := by decide +kernel
theorem dX4_findAims_4 : decode cX4_findAims 4 = .ok (.getfield 40, 3) := by decide +kernel
theorem dX4_findAims_7 : decode cX4_findAims 7 = .ok (.if_icmp .ge 74, 3) := by decide +kernel
theorem dX4_findAims_10 : decode cX4_findAims 10 = .ok (.iload_n 1, 1) := by decide +kernel
theorem dX4_findAims_11 : decode cX4_findAims 11 = .ok (.sipush 150, 3) := by decide +kernel
theorem dX4_findAims_14 : decode cX4_findAims 14 = .ok (.if_icmp .ge 67, 3) := by decide +kernel
theorem dX4_findAims_17 : decode cX4_findAims 17 = .ok (.aload_n 0, 1) := by decide +kernel
theorem dX4_findAims_18 : decode cX4_findAims 18 = .ok (.getfield 29, 3) := by decide +kernel
theorem dX4_findAims_21 : decode cX4_findAims 21 = .ok (.iload_n 1, 1) := by decide +kernel
theorem dX4_findAims_22 : decode cX4_findAims 22 = .ok (.iaload, 1) := by decide +kernel
theorem dX4_findAims_23 : decode cX4_findAims 23 = .ok (.iconst (-1), 1) := by decide +kernel
theorem dX4_findAims_24 : decode cX4_findAims 24 = .ok (.if_icmp .eq 51, 3) := by decide +kernel
theorem dX4_findAims_27 : decode cX4_findAims 27 = .ok (.aload_n 0, 1) := by decide +kernel
theorem dX4_findAims_28 : decode cX4_findAims 28 = .ok (.aload_n 0, 1) := by decide +kernel
theorem dX4_findAims_29 : decode cX4_findAims 29 = .ok (.getfield 29, 3) := by decide +kernel
theorem dX4_findAims_32 : decode cX4_findAims 32 = .ok (.iload_n 1, 1) := by decide +kernel
theorem dX4_findAims_33 : decode cX4_findAims 33 = .ok (.iaload, 1) := by decide +kernel
theorem dX4_findAims_34 : decode cX4_findAims 34 = .ok (.invokevirtual 135, 3) := by decide +kernel
theorem dX4_findAims_37 : decode cX4_findAims 37 = .ok (.istore_n 2, 1) := by decide +kernel
theorem dX4_findAims_38 : decode cX4_findAims 38 = .ok (.iload_n 2, 1) := by decide +kernel
theorem dX4_findAims_39 : decode cX4_findAims 39 = .ok (.iconst (-1), 1) := by decide +kernel
theorem dX4_findAims_40 : decode cX4_findAims 40 = .ok (.if_icmp .ne 17, 3) := by decide +kernel
theorem dX4_findAims_43 : decode cX4_findAims 43 = .ok (.aload_n 0, 1) := by decide +kernel
theorem dX4_findAims_44 : decode cX4_findAims 44 = .ok (.iconst 5, 1) := by decide +kernel
theorem dX4_findAims_45 : decode cX4_findAims 45 = .ok (.aload_n 0, 1) := by decide +kernel
theorem dX4_findAims_46 : decode cX4_findAims 46 = .ok (.getfield 29, 3) := by decide +kernel
theorem dX4_findAims_49 : decode cX4_findAims 49 = .ok (.iload_n 1, 1) := by decide +kernel
theorem dX4_findAims_50 : decode cX4_findAims 50 = .ok (.iaload, 1) := by decide +kernel
theorem dX4_findAims_51 : decode cX4_findAims 51 = .ok (.invokevirtual 138, 3) := by decide +kernel
theorem dX4_findAims_54 : decode cX4_findAims 54 = .ok (.goto 21, 3) := by decide +kernel
theorem dX4_findAims_57 : decode cX4_findAims 57 = .ok (.aload_n 0, 1) := by decide +kernel
theorem dX4_findAims_58 : decode cX4_findAims 58 = .ok (.getfield 14, 3) := by decide +kernel
theorem dX4_findAims_61 : decode cX4_findAims 61 = .ok (.getfield 81, 3) := by decide +kernel
theorem dX4_findAims_64 : decode cX4_findAims 64 = .ok (.iload_n 1, 1) := by decide +kernel
theorem dX4_findAims_65 : decode cX4_findAims 65 = .ok (.bipush 24, 2) := by decide +kernel
theorem dX4_findAims_67 : decode cX4_findAims 67 = .ok (.invokestatic 72, 3) := by decide +kernel
theorem dX4_findAims_70 : decode cX4_findAims 70 = .ok (.aaload, 1) := by decide +kernel
theorem dX4_findAims_71 : decode cX4_findAims 71 = .ok (.iload_n 2, 1) := by decide +kernel
theorem dX4_findAims_72 : decode cX4_findAims 72 = .ok (.putfield 152, 3) := by decide +kernel
theorem dX4_findAims_75 : decode cX4_findAims 75 = .ok (.iinc 1 1, 3) := by decide +kernel
theorem dX4_findAims_78 : decode cX4_findAims 78 = .ok (.goto (-76), 3) := by decide +kernel
theorem dX4_findAims_81 : decode cX4_findAims 81 = .ok (.return_, 1) := by decide +kernel
theorem dX4_rowNamed_0 : decode cX4_rowNamed 0 = .ok (.iconst 0, 1) := by decide +kernel
theorem dX4_rowNamed_1 : decode cX4_rowNamed 1 = .ok (.istore_n 2, 1) := by decide +kernel
theorem dX4_rowNamed_2 : decode cX4_rowNamed 2 = .ok (.iload_n 2, 1) := by decide +kernel
theorem dX4_rowNamed_3 : decode cX4_rowNamed 3 = .ok (.aload_n 0, 1) := by decide +kernel
theorem dX4_rowNamed_4 : decode cX4_rowNamed 4 = .ok (.getfield 40, 3) := by decide +kernel
theorem dX4_rowNamed_7 : decode cX4_rowNamed 7 = .ok (.if_icmp .ge 45, 3) := by decide +kernel
theorem dX4_rowNamed_10 : decode cX4_rowNamed 10 = .ok (.iload_n 2, 1) := by decide +kernel
theorem dX4_rowNamed_11 : decode cX4_rowNamed 11 = .ok (.sipush 150, 3) := by decide +kernel
theorem dX4_rowNamed_14 : decode cX4_rowNamed 14 = .ok (.if_icmp .ge 38, 3) := by decide +kernel
theorem dX4_rowNamed_17 : decode cX4_rowNamed 17 = .ok (.aload_n 0, 1) := by decide +kernel
theorem dX4_rowNamed_18 : decode cX4_rowNamed 18 = .ok (.getfield 25, 3) := by decide +kernel
theorem dX4_rowNamed_21 : decode cX4_rowNamed 21 = .ok (.iload_n 2, 1) := by decide +kernel
theorem dX4_rowNamed_22 : decode cX4_rowNamed 22 = .ok (.iaload, 1) := by decide +kernel
theorem dX4_rowNamed_23 : decode cX4_rowNamed 23 = .ok (.iconst (-1), 1) := by decide +kernel
theorem dX4_rowNamed_24 : decode cX4_rowNamed 24 = .ok (.if_icmp .eq 22, 3) := by decide +kernel
theorem dX4_rowNamed_27 : decode cX4_rowNamed 27 = .ok (.aload_n 0, 1) := by decide +kernel
theorem dX4_rowNamed_28 : decode cX4_rowNamed 28 = .ok (.getfield 21, 3) := by decide +kernel
theorem dX4_rowNamed_31 : decode cX4_rowNamed 31 = .ok (.aload_n 0, 1) := by decide +kernel
theorem dX4_rowNamed_32 : decode cX4_rowNamed 32 = .ok (.getfield 25, 3) := by decide +kernel
theorem dX4_rowNamed_35 : decode cX4_rowNamed 35 = .ok (.iload_n 2, 1) := by decide +kernel
theorem dX4_rowNamed_36 : decode cX4_rowNamed 36 = .ok (.iaload, 1) := by decide +kernel
theorem dX4_rowNamed_37 : decode cX4_rowNamed 37 = .ok (.iload_n 1, 1) := by decide +kernel
theorem dX4_rowNamed_38 : decode cX4_rowNamed 38 = .ok (.invokevirtual 172, 3) := by decide +kernel
theorem dX4_rowNamed_41 : decode cX4_rowNamed 41 = .ok (.ifCond .eq 5, 3) := by decide +kernel
theorem dX4_rowNamed_44 : decode cX4_rowNamed 44 = .ok (.iload_n 2, 1) := by decide +kernel
theorem dX4_rowNamed_45 : decode cX4_rowNamed 45 = .ok (.ireturn, 1) := by decide +kernel
theorem dX4_rowNamed_46 : decode cX4_rowNamed 46 = .ok (.iinc 2 1, 3) := by decide +kernel
theorem dX4_rowNamed_49 : decode cX4_rowNamed 49 = .ok (.goto (-47), 3) := by decide +kernel
theorem dX4_rowNamed_52 : decode cX4_rowNamed 52 = .ok (.iconst (-1), 1) := by decide +kernel
theorem dX4_rowNamed_53 : decode cX4_rowNamed 53 = .ok (.ireturn, 1) := by decide +kernel
theorem dX4_take_0 : decode cX4_take 0 = .ok (.aload_n 0, 1) := by decide +kernel
theorem dX4_take_1 : decode cX4_take 1 = .ok (.iload_n 1, 1) := by decide +kernel
theorem dX4_take_2 : decode cX4_take 2 = .ok (.invokevirtual 58, 3) := by decide +kernel
theorem dX4_take_5 : decode cX4_take 5 = .ok (.ifCond .ne 9, 3) := by decide +kernel
theorem dX4_take_8 : decode cX4_take 8 = .ok (.aload_n 0, 1) := by decide +kernel
theorem dX4_take_9 : decode cX4_take 9 = .ok (.invokevirtual 142, 3) := by decide +kernel
theorem dX4_take_12 : decode cX4_take 12 = .ok (.iconst 0, 1) := by decide +kernel
theorem dX4_take_13 : decode cX4_take 13 = .ok (.ireturn, 1) := by decide +kernel
theorem dX4_take_14 : decode cX4_take 14 = .ok (.aload_n 0, 1) := by decide +kernel
theorem dX4_take_15 : decode cX4_take 15 = .ok (.getfield 21, 3) := by decide +kernel
theorem dX4_take_18 : decode cX4_take 18 = .ok (.getfield 90, 3) := by decide +kernel
theorem dX4_take_21 : decode cX4_take 21 = .ok (.aload_n 0, 1) := by decide +kernel
theorem dX4_take_22 : decode cX4_take 22 = .ok (.getfield 36, 3) := by decide +kernel
theorem dX4_take_25 : decode cX4_take 25 = .ok (.iaload, 1) := by decide +kernel
theorem dX4_take_26 : decode cX4_take 26 = .ok (.istore_n 2, 1) := by decide +kernel
theorem dX4_take_27 : decode cX4_take 27 = .ok (.aload_n 0, 1) := by decide +kernel
theorem dX4_take_28 : decode cX4_take 28 = .ok (.dup, 1) := by decide +kernel
theorem dX4_take_29 : decode cX4_take 29 = .ok (.getfield 36, 3) := by decide +kernel
theorem dX4_take_32 : decode cX4_take 32 = .ok (.iconst 1, 1) := by decide +kernel
theorem dX4_take_33 : decode cX4_take 33 = .ok (.iadd, 1) := by decide +kernel
theorem dX4_take_34 : decode cX4_take 34 = .ok (.putfield 36, 3) := by decide +kernel
theorem dX4_take_37 : decode cX4_take 37 = .ok (.iload_n 2, 1) := by decide +kernel
theorem dX4_take_38 : decode cX4_take 38 = .ok (.ireturn, 1) := by decide +kernel
theorem dX4_takeNumber_0 : decode cX4_takeNumber 0 = .ok (.aload_n 0, 1) := by decide +kernel
theorem dX4_takeNumber_1 : decode cX4_takeNumber 1 = .ok (.getfield 36, 3) := by decide +kernel
theorem dX4_takeNumber_4 : decode cX4_takeNumber 4 = .ok (.istore_n 3, 1) := by decide +kernel
theorem dX4_takeNumber_5 : decode cX4_takeNumber 5 = .ok (.aload_n 0, 1) := by decide +kernel
theorem dX4_takeNumber_6 : decode cX4_takeNumber 6 = .ok (.iconst 4, 1) := by decide +kernel
theorem dX4_takeNumber_7 : decode cX4_takeNumber 7 = .ok (.invokevirtual 106, 3) := by decide +kernel
theorem dX4_takeNumber_10 : decode cX4_takeNumber 10 = .ok (.istore 4, 2) := by decide +kernel
theorem dX4_takeNumber_12 : decode cX4_takeNumber 12 = .ok (.aload_n 0, 1) := by decide +kernel
theorem dX4_takeNumber_13 : decode cX4_takeNumber 13 = .ok (.invokevirtual 62, 3) := by decide +kernel
theorem dX4_takeNumber_16 : decode cX4_takeNumber 16 = .ok (.ifCond .ne 15, 3) := by decide +kernel
theorem dX4_takeNumber_19 : decode cX4_takeNumber 19 = .ok (.iload 4, 2) := by decide +kernel
theorem dX4_takeNumber_21 : decode cX4_takeNumber 21 = .ok (.iload_n 1, 1) := by decide +kernel
theorem dX4_takeNumber_22 : decode cX4_takeNumber 22 = .ok (.if_icmp .lt 16, 3) := by decide +kernel
theorem dX4_takeNumber_25 : decode cX4_takeNumber 25 = .ok (.iload 4, 2) := by decide +kernel
theorem dX4_takeNumber_27 : decode cX4_takeNumber 27 = .ok (.iload_n 2, 1) := by decide +kernel
theorem dX4_takeNumber_28 : decode cX4_takeNumber 28 = .ok (.if_icmp .gt 10, 3) := by decide +kernel
theorem dX4_takeNumber_31 : decode cX4_takeNumber 31 = .ok (.iload_n 1, 1) := by decide +kernel
theorem dX4_takeNumber_32 : decode cX4_takeNumber 32 = .ok (.iload 4, 2) := by decide +kernel
theorem dX4_takeNumber_34 : decode cX4_takeNumber 34 = .ok (.invokestatic 176, 3) := by decide +kernel
theorem dX4_takeNumber_37 : decode cX4_takeNumber 37 = .ok (.ireturn, 1) := by decide +kernel
theorem dX4_takeNumber_38 : decode cX4_takeNumber 38 = .ok (.aload_n 0, 1) := by decide +kernel
theorem dX4_takeNumber_39 : decode cX4_takeNumber 39 = .ok (.iconst 2, 1) := by decide +kernel
theorem dX4_takeNumber_40 : decode cX4_takeNumber 40 = .ok (.iload_n 3, 1) := by decide +kernel
theorem dX4_takeNumber_41 : decode cX4_takeNumber 41 = .ok (.invokevirtual 138, 3) := by decide +kernel
theorem dX4_takeNumber_44 : decode cX4_takeNumber 44 = .ok (.iload_n 1, 1) := by decide +kernel
theorem dX4_takeNumber_45 : decode cX4_takeNumber 45 = .ok (.ireturn, 1) := by decide +kernel
theorem dX4_takeQueue_0 : decode cX4_takeQueue 0 = .ok (.aload_n 0, 1) := by decide +kernel
theorem dX4_takeQueue_1 : decode cX4_takeQueue 1 = .ok (.iconst 1, 1) := by decide +kernel
theorem dX4_takeQueue_2 : decode cX4_takeQueue 2 = .ok (.invokevirtual 58, 3) := by decide +kernel
theorem dX4_takeQueue_5 : decode cX4_takeQueue 5 = .ok (.ifCond .eq 20, 3) := by decide +kernel
theorem dX4_takeQueue_8 : decode cX4_takeQueue 8 = .ok (.aload_n 0, 1) := by decide +kernel
theorem dX4_takeQueue_9 : decode cX4_takeQueue 9 = .ok (.getfield 21, 3) := by decide +kernel
theorem dX4_takeQueue_12 : decode cX4_takeQueue 12 = .ok (.getfield 90, 3) := by decide +kernel
theorem dX4_takeQueue_15 : decode cX4_takeQueue 15 = .ok (.aload_n 0, 1) := by decide +kernel
theorem dX4_takeQueue_16 : decode cX4_takeQueue 16 = .ok (.getfield 36, 3) := by decide +kernel
theorem dX4_takeQueue_19 : decode cX4_takeQueue 19 = .ok (.iaload, 1) := by decide +kernel
theorem dX4_takeQueue_20 : decode cX4_takeQueue 20 = .ok (.bipush 14, 2) := by decide +kernel
theorem dX4_takeQueue_22 : decode cX4_takeQueue 22 = .ok (.if_icmp .ge 9, 3) := by decide +kernel
theorem dX4_takeQueue_25 : decode cX4_takeQueue 25 = .ok (.aload_n 0, 1) := by decide +kernel
theorem dX4_takeQueue_26 : decode cX4_takeQueue 26 = .ok (.invokevirtual 142, 3) := by decide +kernel
theorem dX4_takeQueue_29 : decode cX4_takeQueue 29 = .ok (.iconst 0, 1) := by decide +kernel
theorem dX4_takeQueue_30 : decode cX4_takeQueue 30 = .ok (.ireturn, 1) := by decide +kernel
theorem dX4_takeQueue_31 : decode cX4_takeQueue 31 = .ok (.aload_n 0, 1) := by decide +kernel
theorem dX4_takeQueue_32 : decode cX4_takeQueue 32 = .ok (.iconst 1, 1) := by decide +kernel
theorem dX4_takeQueue_33 : decode cX4_takeQueue 33 = .ok (.invokevirtual 106, 3) := by decide +kernel
theorem dX4_takeQueue_36 : decode cX4_takeQueue 36 = .ok (.bipush 14, 2) := by decide +kernel
theorem dX4_takeQueue_38 : decode cX4_takeQueue 38 = .ok (.isub, 1) := by decide +kernel
theorem dX4_takeQueue_39 : decode cX4_takeQueue 39 = .ok (.ireturn, 1) := by decide +kernel
theorem dX4_takeAim_0 : decode cX4_takeAim 0 = .ok (.aload_n 0, 1) := by decide +kernel
theorem dX4_takeAim_1 : decode cX4_takeAim 1 = .ok (.iconst 3, 1) := by decide +kernel
theorem dX4_takeAim_2 : decode cX4_takeAim 2 = .ok (.invokevirtual 58, 3) := by decide +kernel
theorem dX4_takeAim_5 : decode cX4_takeAim 5 = .ok (.ifCond .eq 26, 3) := by decide +kernel
theorem dX4_takeAim_8 : decode cX4_takeAim 8 = .ok (.aload_n 0, 1) := by decide +kernel
theorem dX4_takeAim_9 : decode cX4_takeAim 9 = .ok (.getfield 40, 3) := by decide +kernel
theorem dX4_takeAim_12 : decode cX4_takeAim 12 = .ok (.sipush 150, 3) := by decide +kernel
theorem dX4_takeAim_15 : decode cX4_takeAim 15 = .ok (.if_icmp .ge 16, 3) := by decide +kernel
theorem dX4_takeAim_18 : decode cX4_takeAim 18 = .ok (.aload_n 0, 1) := by decide +kernel
theorem dX4_takeAim_19 : decode cX4_takeAim 19 = .ok (.getfield 29, 3) := by decide +kernel
theorem dX4_takeAim_22 : decode cX4_takeAim 22 = .ok (.aload_n 0, 1) := by decide +kernel
theorem dX4_takeAim_23 : decode cX4_takeAim 23 = .ok (.getfield 40, 3) := by decide +kernel
theorem dX4_takeAim_26 : decode cX4_takeAim 26 = .ok (.aload_n 0, 1) := by decide +kernel
theorem dX4_takeAim_27 : decode cX4_takeAim 27 = .ok (.getfield 36, 3) := by decide +kernel
theorem dX4_takeAim_30 : decode cX4_takeAim 30 = .ok (.iastore, 1) := by decide +kernel
theorem dX4_takeAim_31 : decode cX4_takeAim 31 = .ok (.aload_n 0, 1) := by decide +kernel
theorem dX4_takeAim_32 : decode cX4_takeAim 32 = .ok (.iconst 3, 1) := by decide +kernel
theorem dX4_takeAim_33 : decode cX4_takeAim 33 = .ok (.invokevirtual 106, 3) := by decide +kernel
theorem dX4_takeAim_36 : decode cX4_takeAim 36 = .ok (.pop, 1) := by decide +kernel
theorem dX4_takeAim_37 : decode cX4_takeAim 37 = .ok (.return_, 1) := by decide +kernel
theorem dX4_takeRelation_0 : decode cX4_takeRelation 0 = .ok (.aload_n 0, 1) := by decide +kernel
theorem dX4_takeRelation_1 : decode cX4_takeRelation 1 = .ok (.iconst 5, 1) := by decide +kernel
theorem dX4_takeRelation_2 : decode cX4_takeRelation 2 = .ok (.invokevirtual 58, 3) := by decide +kernel
theorem dX4_takeRelation_5 : decode cX4_takeRelation 5 = .ok (.ifCond .eq 44, 3) := by decide +kernel
theorem dX4_takeRelation_8 : decode cX4_takeRelation 8 = .ok (.aload_n 0, 1) := by decide +kernel
theorem dX4_takeRelation_9 : decode cX4_takeRelation 9 = .ok (.getfield 21, 3) := by decide +kernel
theorem dX4_takeRelation_12 : decode cX4_takeRelation 12 = .ok (.getfield 90, 3) := by decide +kernel
theorem dX4_takeRelation_15 : decode cX4_takeRelation 15 = .ok (.aload_n 0, 1) := by decide +kernel
theorem dX4_takeRelation_16 : decode cX4_takeRelation 16 = .ok (.getfield 36, 3) := by decide +kernel
theorem dX4_takeRelation_19 : decode cX4_takeRelation 19 = .ok (.iaload, 1) := by decide +kernel
theorem dX4_takeRelation_20 : decode cX4_takeRelation 20 = .ok (.bipush 59, 2) := by decide +kernel
theorem dX4_takeRelation_22 : decode cX4_takeRelation 22 = .ok (.if_icmp .eq 20, 3) := by decide +kernel
theorem dX4_takeRelation_25 : decode cX4_takeRelation 25 = .ok (.aload_n 0, 1) := by decide +kernel
theorem dX4_takeRelation_26 : decode cX4_takeRelation 26 = .ok (.getfield 21, 3) := by decide +kernel
theorem dX4_takeRelation_29 : decode cX4_takeRelation 29 = .ok (.getfield 90, 3) := by decide +kernel
theorem dX4_takeRelation_32 : decode cX4_takeRelation 32 = .ok (.aload_n 0, 1) := by decide +kernel
theorem dX4_takeRelation_33 : decode cX4_takeRelation 33 = .ok (.getfield 36, 3) := by decide +kernel
theorem dX4_takeRelation_36 : decode cX4_takeRelation 36 = .ok (.iaload, 1) := by decide +kernel
theorem dX4_takeRelation_37 : decode cX4_takeRelation 37 = .ok (.bipush 58, 2) := by decide +kernel
theorem dX4_takeRelation_39 : decode cX4_takeRelation 39 = .ok (.if_icmp .ne 10, 3) := by decide +kernel
theorem dX4_takeRelation_42 : decode cX4_takeRelation 42 = .ok (.aload_n 0, 1) := by decide +kernel
theorem dX4_takeRelation_43 : decode cX4_takeRelation 43 = .ok (.invokevirtual 142, 3) := by decide +kernel
theorem dX4_takeRelation_46 : decode cX4_takeRelation 46 = .ok (.bipush 61, 2) := by decide +kernel
theorem dX4_takeRelation_48 : decode cX4_takeRelation 48 = .ok (.ireturn, 1) := by decide +kernel
theorem dX4_takeRelation_49 : decode cX4_takeRelation 49 = .ok (.aload_n 0, 1) := by decide +kernel
theorem dX4_takeRelation_50 : decode cX4_takeRelation 50 = .ok (.iconst 5, 1) := by decide +kernel
theorem dX4_takeRelation_51 : decode cX4_takeRelation 51 = .ok (.invokevirtual 106, 3) := by decide +kernel
theorem dX4_takeRelation_54 : decode cX4_takeRelation 54 = .ok (.i2c, 1) := by decide +kernel
theorem dX4_takeRelation_55 : decode cX4_takeRelation 55 = .ok (.ireturn, 1) := by decide +kernel
theorem dX4_takeSign_0 : decode cX4_takeSign 0 = .ok (.aload_n 0, 1) := by decide +kernel
theorem dX4_takeSign_1 : decode cX4_takeSign 1 = .ok (.iconst 5, 1) := by decide +kernel
theorem dX4_takeSign_2 : decode cX4_takeSign 2 = .ok (.invokevirtual 58, 3) := by decide +kernel
theorem dX4_takeSign_5 : decode cX4_takeSign 5 = .ok (.ifCond .eq 23, 3) := by decide +kernel
theorem dX4_takeSign_8 : decode cX4_takeSign 8 = .ok (.aload_n 0, 1) := by decide +kernel
theorem dX4_takeSign_9 : decode cX4_takeSign 9 = .ok (.getfield 21, 3) := by decide +kernel
theorem dX4_takeSign_12 : decode cX4_takeSign 12 = .ok (.getfield 90, 3) := by decide +kernel
theorem dX4_takeSign_15 : decode cX4_takeSign 15 = .ok (.aload_n 0, 1) := by decide +kernel
theorem dX4_takeSign_16 : decode cX4_takeSign 16 = .ok (.getfield 36, 3) := by decide +kernel
theorem dX4_takeSign_19 : decode cX4_takeSign 19 = .ok (.iaload, 1) := by decide +kernel
theorem dX4_takeSign_20 : decode cX4_takeSign 20 = .ok (.iload_n 1, 1) := by decide +kernel
theorem dX4_takeSign_21 : decode cX4_takeSign 21 = .ok (.if_icmp .eq 7, 3) := by decide +kernel
theorem dX4_takeSign_24 : decode cX4_takeSign 24 = .ok (.aload_n 0, 1) := by decide +kernel
theorem dX4_takeSign_25 : decode cX4_takeSign 25 = .ok (.invokevirtual 142, 3) := by decide +kernel
theorem dX4_takeSign_28 : decode cX4_takeSign 28 = .ok (.aload_n 0, 1) := by decide +kernel
theorem dX4_takeSign_29 : decode cX4_takeSign 29 = .ok (.iconst 5, 1) := by decide +kernel
theorem dX4_takeSign_30 : decode cX4_takeSign 30 = .ok (.invokevirtual 106, 3) := by decide +kernel
theorem dX4_takeSign_33 : decode cX4_takeSign 33 = .ok (.pop, 1) := by decide +kernel
theorem dX4_takeSign_34 : decode cX4_takeSign 34 = .ok (.return_, 1) := by decide +kernel
theorem dX4_isNext_0 : decode cX4_isNext 0 = .ok (.aload_n 0, 1) := by decide +kernel
theorem dX4_isNext_1 : decode cX4_isNext 1 = .ok (.getfield 43, 3) := by decide +kernel
theorem dX4_isNext_4 : decode cX4_isNext 4 = .ok (.iconst 1, 1) := by decide +kernel
theorem dX4_isNext_5 : decode cX4_isNext 5 = .ok (.if_icmp .eq 33, 3) := by decide +kernel
theorem dX4_isNext_8 : decode cX4_isNext 8 = .ok (.aload_n 0, 1) := by decide +kernel
theorem dX4_isNext_9 : decode cX4_isNext 9 = .ok (.getfield 36, 3) := by decide +kernel
theorem dX4_isNext_12 : decode cX4_isNext 12 = .ok (.sipush 600, 3) := by decide +kernel
theorem dX4_isNext_15 : decode cX4_isNext 15 = .ok (.if_icmp .gt 23, 3) := by decide +kernel
theorem dX4_isNext_18 : decode cX4_isNext 18 = .ok (.aload_n 0, 1) := by decide +kernel
theorem dX4_isNext_19 : decode cX4_isNext 19 = .ok (.getfield 21, 3) := by decide +kernel
theorem dX4_isNext_22 : decode cX4_isNext 22 = .ok (.getfield 179, 3) := by decide +kernel
theorem dX4_isNext_25 : decode cX4_isNext 25 = .ok (.aload_n 0, 1) := by decide +kernel
theorem dX4_isNext_26 : decode cX4_isNext 26 = .ok (.getfield 36, 3) := by decide +kernel
theorem dX4_isNext_29 : decode cX4_isNext 29 = .ok (.iaload, 1) := by decide +kernel
theorem dX4_isNext_30 : decode cX4_isNext 30 = .ok (.iload_n 1, 1) := by decide +kernel
theorem dX4_isNext_31 : decode cX4_isNext 31 = .ok (.if_icmp .ne 7, 3) := by decide +kernel
theorem dX4_isNext_34 : decode cX4_isNext 34 = .ok (.iconst 1, 1) := by decide +kernel
theorem dX4_isNext_35 : decode cX4_isNext 35 = .ok (.goto 4, 3) := by decide +kernel
theorem dX4_isNext_38 : decode cX4_isNext 38 = .ok (.iconst 0, 1) := by decide +kernel
theorem dX4_isNext_39 : decode cX4_isNext 39 = .ok (.ireturn, 1) := by decide +kernel
theorem dX4_isBroken_0 : decode cX4_isBroken 0 = .ok (.aload_n 0, 1) := by decide +kernel
theorem dX4_isBroken_1 : decode cX4_isBroken 1 = .ok (.getfield 43, 3) := by decide +kernel
theorem dX4_isBroken_4 : decode cX4_isBroken 4 = .ok (.iconst 1, 1) := by decide +kernel
theorem dX4_isBroken_5 : decode cX4_isBroken 5 = .ok (.if_icmp .ne 7, 3) := by decide +kernel
theorem dX4_isBroken_8 : decode cX4_isBroken 8 = .ok (.iconst 1, 1) := by decide +kernel
theorem dX4_isBroken_9 : decode cX4_isBroken 9 = .ok (.goto 4, 3) := by decide +kernel
theorem dX4_isBroken_12 : decode cX4_isBroken 12 = .ok (.iconst 0, 1) := by decide +kernel
theorem dX4_isBroken_13 : decode cX4_isBroken 13 = .ok (.ireturn, 1) := by decide +kernel
theorem dX4_breakOff_0 : decode cX4_breakOff 0 = .ok (.aload_n 0, 1) := by decide +kernel
theorem dX4_breakOff_1 : decode cX4_breakOff 1 = .ok (.getfield 43, 3) := by decide +kernel
theorem dX4_breakOff_4 : decode cX4_breakOff 4 = .ok (.iconst 1, 1) := by decide +kernel
theorem dX4_breakOff_5 : decode cX4_breakOff 5 = .ok (.if_icmp .eq 34, 3) := by decide +kernel
theorem dX4_breakOff_8 : decode cX4_breakOff 8 = .ok (.aload_n 0, 1) := by decide +kernel
theorem dX4_breakOff_9 : decode cX4_breakOff 9 = .ok (.getfield 36, 3) := by decide +kernel
theorem dX4_breakOff_12 : decode cX4_breakOff 12 = .ok (.sipush 600, 3) := by decide +kernel
theorem dX4_breakOff_15 : decode cX4_breakOff 15 = .ok (.if_icmp .gt 24, 3) := by decide +kernel
theorem dX4_breakOff_18 : decode cX4_breakOff 18 = .ok (.aload_n 0, 1) := by decide +kernel
theorem dX4_breakOff_19 : decode cX4_breakOff 19 = .ok (.iconst 1, 1) := by decide +kernel
theorem dX4_breakOff_20 : decode cX4_breakOff 20 = .ok (.putfield 43, 3) := by decide +kernel
theorem dX4_breakOff_23 : decode cX4_breakOff 23 = .ok (.aload_n 0, 1) := by decide +kernel
theorem dX4_breakOff_24 : decode cX4_breakOff 24 = .ok (.aload_n 0, 1) := by decide +kernel
theorem dX4_breakOff_25 : decode cX4_breakOff 25 = .ok (.getfield 21, 3) := by decide +kernel
theorem dX4_breakOff_28 : decode cX4_breakOff 28 = .ok (.getfield 182, 3) := by decide +kernel
theorem dX4_breakOff_31 : decode cX4_breakOff 31 = .ok (.aload_n 0, 1) := by decide +kernel
theorem dX4_breakOff_32 : decode cX4_breakOff 32 = .ok (.getfield 36, 3) := by decide +kernel
theorem dX4_breakOff_35 : decode cX4_breakOff 35 = .ok (.iaload, 1) := by decide +kernel
theorem dX4_breakOff_36 : decode cX4_breakOff 36 = .ok (.putfield 46, 3) := by decide +kernel
theorem dX4_breakOff_39 : decode cX4_breakOff 39 = .ok (.return_, 1) := by decide +kernel
theorem dX4_note_0 : decode cX4_note 0 = .ok (.aload_n 0, 1) := by decide +kernel
theorem dX4_note_1 : decode cX4_note 1 = .ok (.getfield 43, 3) := by decide +kernel
theorem dX4_note_4 : decode cX4_note 4 = .ok (.ifCond .eq 19, 3) := by decide +kernel
theorem dX4_note_7 : decode cX4_note 7 = .ok (.aload_n 0, 1) := by decide +kernel
theorem dX4_note_8 : decode cX4_note 8 = .ok (.getfield 21, 3) := by decide +kernel
theorem dX4_note_11 : decode cX4_note 11 = .ok (.getfield 182, 3) := by decide +kernel
theorem dX4_note_14 : decode cX4_note 14 = .ok (.iload_n 2, 1) := by decide +kernel
theorem dX4_note_15 : decode cX4_note 15 = .ok (.iaload, 1) := by decide +kernel
theorem dX4_note_16 : decode cX4_note 16 = .ok (.aload_n 0, 1) := by decide +kernel
theorem dX4_note_17 : decode cX4_note 17 = .ok (.getfield 46, 3) := by decide +kernel
theorem dX4_note_20 : decode cX4_note 20 = .ok (.if_icmp .ge 21, 3) := by decide +kernel
theorem dX4_note_23 : decode cX4_note 23 = .ok (.aload_n 0, 1) := by decide +kernel
theorem dX4_note_24 : decode cX4_note 24 = .ok (.iload_n 1, 1) := by decide +kernel
theorem dX4_note_25 : decode cX4_note 25 = .ok (.putfield 43, 3) := by decide +kernel
theorem dX4_note_28 : decode cX4_note 28 = .ok (.aload_n 0, 1) := by decide +kernel
theorem dX4_note_29 : decode cX4_note 29 = .ok (.aload_n 0, 1) := by decide +kernel
theorem dX4_note_30 : decode cX4_note 30 = .ok (.getfield 21, 3) := by decide +kernel
theorem dX4_note_33 : decode cX4_note 33 = .ok (.getfield 182, 3) := by decide +kernel
theorem dX4_note_36 : decode cX4_note 36 = .ok (.iload_n 2, 1) := by decide +kernel
theorem dX4_note_37 : decode cX4_note 37 = .ok (.iaload, 1) := by decide +kernel
theorem dX4_note_38 : decode cX4_note 38 = .ok (.putfield 46, 3) := by decide +kernel
theorem dX4_note_41 : decode cX4_note 41 = .ok (.return_, 1) := by decide +kernel
theorem dX5_init_0 : decode cX5_init 0 = .ok (.aload_n 0, 1) := by decide +kernel
theorem dX5_init_1 : decode cX5_init 1 = .ok (.invokespecial 3, 3) := by decide +kernel
theorem dX5_init_4 : decode cX5_init 4 = .ok (.aload_n 0, 1) := by decide +kernel
theorem dX5_init_5 : decode cX5_init 5 = .ok (.bipush 8, 2) := by decide +kernel
theorem dX5_init_7 : decode cX5_init 7 = .ok (.newarray .int, 2) := by decide +kernel
theorem dX5_init_9 : decode cX5_init 9 = .ok (.putfield 9, 3) := by decide +kernel
theorem dX5_init_12 : decode cX5_init 12 = .ok (.aload_n 0, 1) := by decide +kernel
theorem dX5_init_13 : decode cX5_init 13 = .ok (.bipush 50, 2) := by decide +kernel
theorem dX5_init_15 : decode cX5_init 15 = .ok (.newarray .int, 2) := by decide +kernel
theorem dX5_init_17 : decode cX5_init 17 = .ok (.putfield 15, 3) := by decide +kernel
theorem dX5_init_20 : decode cX5_init 20 = .ok (.aload_n 0, 1) := by decide +kernel
theorem dX5_init_21 : decode cX5_init 21 = .ok (.iload_n 1, 1) := by decide +kernel
theorem dX5_init_22 : decode cX5_init 22 = .ok (.putfield 18, 3) := by decide +kernel
theorem dX5_init_25 : decode cX5_init 25 = .ok (.return_, 1) := by decide +kernel
theorem dX5_toBeginning_0 : decode cX5_toBeginning 0 = .ok (.aload_n 0, 1) := by decide +kernel
theorem dX5_toBeginning_1 : decode cX5_toBeginning 1 = .ok (.iconst 0, 1) := by decide +kernel
theorem dX5_toBeginning_2 : decode cX5_toBeginning 2 = .ok (.putfield 22, 3) := by decide +kernel
theorem dX5_toBeginning_5 : decode cX5_toBeginning 5 = .ok (.aload_n 0, 1) := by decide +kernel
theorem dX5_toBeginning_6 : decode cX5_toBeginning 6 = .ok (.iconst 0, 1) := by decide +kernel
theorem dX5_toBeginning_7 : decode cX5_toBeginning 7 = .ok (.putfield 25, 3) := by decide +kernel
theorem dX5_toBeginning_10 : decode cX5_toBeginning 10 = .ok (.aload_n 0, 1) := by decide +kernel
theorem dX5_toBeginning_11 : decode cX5_toBeginning 11 = .ok (.iconst 0, 1) := by decide +kernel
theorem dX5_toBeginning_12 : decode cX5_toBeginning 12 = .ok (.putfield 28, 3) := by decide +kernel
theorem dX5_toBeginning_15 : decode cX5_toBeginning 15 = .ok (.aload_n 0, 1) := by decide +kernel
theorem dX5_toBeginning_16 : decode cX5_toBeginning 16 = .ok (.iconst 0, 1) := by decide +kernel
theorem dX5_toBeginning_17 : decode cX5_toBeginning 17 = .ok (.putfield 31, 3) := by decide +kernel
theorem dX5_toBeginning_20 : decode cX5_toBeginning 20 = .ok (.aload_n 0, 1) := by decide +kernel
theorem dX5_toBeginning_21 : decode cX5_toBeginning 21 = .ok (.iconst 0, 1) := by decide +kernel
theorem dX5_toBeginning_22 : decode cX5_toBeginning 22 = .ok (.putfield 35, 3) := by decide +kernel
theorem dX5_toBeginning_25 : decode cX5_toBeginning 25 = .ok (.aload_n 0, 1) := by decide +kernel
theorem dX5_toBeginning_26 : decode cX5_toBeginning 26 = .ok (.iconst 0, 1) := by decide +kernel
theorem dX5_toBeginning_27 : decode cX5_toBeginning 27 = .ok (.putfield 38, 3) := by decide +kernel
theorem dX5_toBeginning_30 : decode cX5_toBeginning 30 = .ok (.aload_n 0, 1) := by decide +kernel
theorem dX5_toBeginning_31 : decode cX5_toBeginning 31 = .ok (.getfield 9, 3) := by decide +kernel
theorem dX5_toBeginning_34 : decode cX5_toBeginning 34 = .ok (.iconst 0, 1) := by decide +kernel
theorem dX5_toBeginning_35 : decode cX5_toBeginning 35 = .ok (.invokestatic 41, 3) := by decide +kernel
theorem dX5_toBeginning_38 : decode cX5_toBeginning 38 = .ok (.aload_n 0, 1) := by decide +kernel
theorem dX5_toBeginning_39 : decode cX5_toBeginning 39 = .ok (.getfield 15, 3) := by decide +kernel
theorem dX5_toBeginning_42 : decode cX5_toBeginning 42 = .ok (.iconst 0, 1) := by decide +kernel
theorem dX5_toBeginning_43 : decode cX5_toBeginning 43 = .ok (.invokestatic 41, 3) := by decide +kernel
theorem dX5_toBeginning_46 : decode cX5_toBeginning 46 = .ok (.return_, 1) := by decide +kernel
theorem dX5_copyFrom_0 : decode cX5_copyFrom 0 = .ok (.aload_n 0, 1) := by decide +kernel
theorem dX5_copyFrom_1 : decode cX5_copyFrom 1 = .ok (.aload_n 1, 1) := by decide +kernel
theorem dX5_copyFrom_2 : decode cX5_copyFrom 2 = .ok (.getfield 22, 3) := by decide +kernel
theorem dX5_copyFrom_5 : decode cX5_copyFrom 5 = .ok (.putfield 22, 3) := by decide +kernel
theorem dX5_copyFrom_8 : decode cX5_copyFrom 8 = .ok (.aload_n 0, 1) := by decide +kernel
theorem dX5_copyFrom_9 : decode cX5_copyFrom 9 = .ok (.aload_n 1, 1) := by decide +kernel
theorem dX5_copyFrom_10 : decode cX5_copyFrom 10 = .ok (.getfield 25, 3) := by decide +kernel
theorem dX5_copyFrom_13 : decode cX5_copyFrom 13 = .ok (.putfield 25, 3) := by decide +kernel
theorem dX5_copyFrom_16 : decode cX5_copyFrom 16 = .ok (.aload_n 0, 1) := by decide +kernel
theorem dX5_copyFrom_17 : decode cX5_copyFrom 17 = .ok (.aload_n 1, 1) := by decide +kernel
theorem dX5_copyFrom_18 : decode cX5_copyFrom 18 = .ok (.getfield 28, 3) := by decide +kernel
theorem dX5_copyFrom_21 : decode cX5_copyFrom 21 = .ok (.putfield 28, 3) := by decide +kernel
theorem dX5_copyFrom_24 : decode cX5_copyFrom 24 = .ok (.aload_n 0, 1) := by decide +kernel
theorem dX5_copyFrom_25 : decode cX5_copyFrom 25 = .ok (.aload_n 1, 1) := by decide +kernel
theorem dX5_copyFrom_26 : decode cX5_copyFrom 26 = .ok (.getfield 31, 3) := by decide +kernel
theorem dX5_copyFrom_29 : decode cX5_copyFrom 29 = .ok (.putfield 31, 3) := by decide +kernel
theorem dX5_copyFrom_32 : decode cX5_copyFrom 32 = .ok (.aload_n 0, 1) := by decide +kernel
theorem dX5_copyFrom_33 : decode cX5_copyFrom 33 = .ok (.aload_n 1, 1) := by decide +kernel
theorem dX5_copyFrom_34 : decode cX5_copyFrom 34 = .ok (.getfield 35, 3) := by decide +kernel
theorem dX5_copyFrom_37 : decode cX5_copyFrom 37 = .ok (.putfield 35, 3) := by decide +kernel
theorem dX5_copyFrom_40 : decode cX5_copyFrom 40 = .ok (.aload_n 0, 1) := by decide +kernel
theorem dX5_copyFrom_41 : decode cX5_copyFrom 41 = .ok (.aload_n 1, 1) := by decide +kernel
theorem dX5_copyFrom_42 : decode cX5_copyFrom 42 = .ok (.getfield 38, 3) := by decide +kernel
theorem dX5_copyFrom_45 : decode cX5_copyFrom 45 = .ok (.putfield 38, 3) := by decide +kernel
theorem dX5_copyFrom_48 : decode cX5_copyFrom 48 = .ok (.aload_n 1, 1) := by decide +kernel
theorem dX5_copyFrom_49 : decode cX5_copyFrom 49 = .ok (.getfield 9, 3) := by decide +kernel
theorem dX5_copyFrom_52 : decode cX5_copyFrom 52 = .ok (.iconst 0, 1) := by decide +kernel
theorem dX5_copyFrom_53 : decode cX5_copyFrom 53 = .ok (.aload_n 0, 1) := by decide +kernel
theorem dX5_copyFrom_54 : decode cX5_copyFrom 54 = .ok (.getfield 9, 3) := by decide +kernel
theorem dX5_copyFrom_57 : decode cX5_copyFrom 57 = .ok (.iconst 0, 1) := by decide +kernel
theorem dX5_copyFrom_58 : decode cX5_copyFrom 58 = .ok (.aload_n 0, 1) := by decide +kernel
theorem dX5_copyFrom_59 : decode cX5_copyFrom 59 = .ok (.getfield 9, 3) := by decide +kernel
theorem dX5_copyFrom_62 : decode cX5_copyFrom 62 = .ok (.arraylength, 1) := by decide +kernel
theorem dX5_copyFrom_63 : decode cX5_copyFrom 63 = .ok (.invokestatic 47, 3) := by decide +kernel
theorem dX5_copyFrom_66 : decode cX5_copyFrom 66 = .ok (.aload_n 1, 1) := by decide +kernel
theorem dX5_copyFrom_67 : decode cX5_copyFrom 67 = .ok (.getfield 15, 3) := by decide +kernel
theorem dX5_copyFrom_70 : decode cX5_copyFrom 70 = .ok (.iconst 0, 1) := by decide +kernel
theorem dX5_copyFrom_71 : decode cX5_copyFrom 71 = .ok (.aload_n 0, 1) := by decide +kernel
theorem dX5_copyFrom_72 : decode cX5_copyFrom 72 = .ok (.getfield 15, 3) := by decide +kernel
theorem dX5_copyFrom_75 : decode cX5_copyFrom 75 = .ok (.iconst 0, 1) := by decide +kernel
theorem dX5_copyFrom_76 : decode cX5_copyFrom 76 = .ok (.aload_n 0, 1) := by decide +kernel
theorem dX5_copyFrom_77 : decode cX5_copyFrom 77 = .ok (.getfield 15, 3) := by decide +kernel
theorem dX5_copyFrom_80 : decode cX5_copyFrom 80 = .ok (.arraylength, 1) := by decide +kernel
theorem dX5_copyFrom_81 : decode cX5_copyFrom 81 = .ok (.invokestatic 47, 3) := by decide +kernel
theorem dX5_copyFrom_84 : decode cX5_copyFrom 84 = .ok (.return_, 1) := by decide +kernel
theorem dX5_passWithoutDeeds_0 : decode cX5_passWithoutDeeds 0 = .ok (.aload_n 0, 1) := by decide +kernel
theorem dX5_passWithoutDeeds_1 : decode cX5_passWithoutDeeds 1 = .ok (.getfield 22, 3) := by decide +kernel
theorem dX5_passWithoutDeeds_4 : decode cX5_passWithoutDeeds 4 = .ok (.aload_n 1, 1) := by decide +kernel
theorem dX5_passWithoutDeeds_5 : decode cX5_passWithoutDeeds 5 = .ok (.getfield 53, 3) := by decide +kernel
theorem dX5_passWithoutDeeds_8 : decode cX5_passWithoutDeeds 8 = .ok (.if_icmp .ge 41, 3) := by decide +kernel
theorem dX5_passWithoutDeeds_11 : decode cX5_passWithoutDeeds 11 = .ok (.aload_n 1, 1) := by decide +kernel
theorem dX5_passWithoutDeeds_12 : decode cX5_passWithoutDeeds 12 = .ok (.aload_n 0, 1) := by decide +kernel
theorem dX5_passWithoutDeeds_13 : decode cX5_passWithoutDeeds 13 = .ok (.getfield 18, 3) := by decide +kernel
theorem dX5_passWithoutDeeds_16 : decode cX5_passWithoutDeeds 16 = .ok (.aload_n 0, 1) := by decide +kernel
theorem dX5_passWithoutDeeds_17 : decode cX5_passWithoutDeeds 17 = .ok (.getfield 22, 3) := by decide +kernel
theorem dX5_passWithoutDeeds_20 : decode cX5_passWithoutDeeds 20 = .ok (.invokevirtual 58, 3) := by decide +kernel
theorem dX5_passWithoutDeeds_23 : decode cX5_passWithoutDeeds 23 = .ok (.ifCond .ne 26, 3) := by decide +kernel
theorem dX5_passWithoutDeeds_26 : decode cX5_passWithoutDeeds 26 = .ok (.aload_n 0, 1) := by decide +kernel
theorem dX5_passWithoutDeeds_27 : decode cX5_passWithoutDeeds 27 = .ok (.dup, 1) := by decide +kernel
theorem dX5_passWithoutDeeds_28 : decode cX5_passWithoutDeeds 28 = .ok (.getfield 22, 3) := by decide +kernel
theorem dX5_passWithoutDeeds_31 : decode cX5_passWithoutDeeds 31 = .ok (.iconst 1, 1) := by decide +kernel
theorem dX5_passWithoutDeeds_32 : decode cX5_passWithoutDeeds 32 = .ok (.iadd, 1) := by decide +kernel
theorem dX5_passWithoutDeeds_33 : decode cX5_passWithoutDeeds 33 = .ok (.putfield 22, 3) := by decide +kernel
theorem dX5_passWithoutDeeds_36 : decode cX5_passWithoutDeeds 36 = .ok (.aload_n 0, 1) := by decide +kernel
theorem dX5_passWithoutDeeds_37 : decode cX5_passWithoutDeeds 37 = .ok (.dup, 1) := by decide +kernel
theorem dX5_passWithoutDeeds_38 : decode cX5_passWithoutDeeds 38 = .ok (.getfield 28, 3) := by decide +kernel
theorem dX5_passWithoutDeeds_41 : decode cX5_passWithoutDeeds 41 = .ok (.iconst 1, 1) := by decide +kernel
theorem dX5_passWithoutDeeds_42 : decode cX5_passWithoutDeeds 42 = .ok (.iadd, 1) := by decide +kernel
theorem dX5_passWithoutDeeds_43 : decode cX5_passWithoutDeeds 43 = .ok (.putfield 28, 3) := by decide +kernel
theorem dX5_passWithoutDeeds_46 : decode cX5_passWithoutDeeds 46 = .ok (.goto (-46), 3) := by decide +kernel
theorem dX5_passWithoutDeeds_49 : decode cX5_passWithoutDeeds 49 = .ok (.return_, 1) := by decide +kernel
theorem dX5_kindOfNext_0 : decode cX5_kindOfNext 0 = .ok (.aload_n 1, 1) := by decide +kernel
theorem dX5_kindOfNext_1 : decode cX5_kindOfNext 1 = .ok (.aload_n 0, 1) := by decide +kernel
theorem dX5_kindOfNext_2 : decode cX5_kindOfNext 2 = .ok (.getfield 18, 3) := by decide +kernel
theorem dX5_kindOfNext_5 : decode cX5_kindOfNext 5 = .ok (.aload_n 0, 1) := by decide +kernel
theorem dX5_kindOfNext_6 : decode cX5_kindOfNext 6 = .ok (.getfield 22, 3) := by decide +kernel
theorem dX5_kindOfNext_9 : decode cX5_kindOfNext 9 = .ok (.aload_n 0, 1) := by decide +kernel
theorem dX5_kindOfNext_10 : decode cX5_kindOfNext 10 = .ok (.getfield 25, 3) := by decide +kernel
theorem dX5_kindOfNext_13 : decode cX5_kindOfNext 13 = .ok (.invokevirtual 62, 3) := by decide +kernel
theorem dX5_kindOfNext_16 : decode cX5_kindOfNext 16 = .ok (.ireturn, 1) := by decide +kernel
theorem dX5_setReason_0 : decode cX5_setReason 0 = .ok (.aload_n 0, 1) := by decide +kernel
theorem dX5_setReason_1 : decode cX5_setReason 1 = .ok (.iload_n 1, 1) := by decide +kernel
theorem dX5_setReason_2 : decode cX5_setReason 2 = .ok (.putfield 38, 3) := by decide +kernel
theorem dX5_setReason_5 : decode cX5_setReason 5 = .ok (.iload_n 1, 1) := by decide +kernel
theorem dX5_setReason_6 : decode cX5_setReason 6 = .ok (.ifCond .le 19, 3) := by decide +kernel
theorem dX5_setReason_9 : decode cX5_setReason 9 = .ok (.iload_n 1, 1) := by decide +kernel
theorem dX5_setReason_10 : decode cX5_setReason 10 = .ok (.bipush 7, 2) := by decide +kernel
theorem dX5_setReason_12 : decode cX5_setReason 12 = .ok (.if_icmp .gt 13, 3) := by decide +kernel
theorem dX5_setReason_15 : decode cX5_setReason 15 = .ok (.aload_n 0, 1) := by decide +kernel
theorem dX5_setReason_16 : decode cX5_setReason 16 = .ok (.getfield 9, 3) := by decide +kernel
theorem dX5_setReason_19 : decode cX5_setReason 19 = .ok (.iload_n 1, 1) := by decide +kernel
theorem dX5_setReason_20 : decode cX5_setReason 20 = .ok (.dup2, 1) := by decide +kernel
theorem dX5_setReason_21 : decode cX5_setReason 21 = .ok (.iaload, 1) := by decide +kernel
theorem dX5_setReason_22 : decode cX5_setReason 22 = .ok (.iconst 1, 1) := by decide +kernel
theorem dX5_setReason_23 : decode cX5_setReason 23 = .ok (.iadd, 1) := by decide +kernel
theorem dX5_setReason_24 : decode cX5_setReason 24 = .ok (.iastore, 1) := by decide +kernel
theorem dX5_setReason_25 : decode cX5_setReason 25 = .ok (.return_, 1) := by decide +kernel
theorem dX5_finishDeed_0 : decode cX5_finishDeed 0 = .ok (.aload_n 0, 1) := by decide +kernel
theorem dX5_finishDeed_1 : decode cX5_finishDeed 1 = .ok (.getfield 15, 3) := by decide +kernel
theorem dX5_finishDeed_4 : decode cX5_finishDeed 4 = .ok (.aload_n 0, 1) := by decide +kernel
theorem dX5_finishDeed_5 : decode cX5_finishDeed 5 = .ok (.getfield 22, 3) := by decide +kernel
theorem dX5_finishDeed_8 : decode cX5_finishDeed 8 = .ok (.iconst 2, 1) := by decide +kernel
theorem dX5_finishDeed_9 : decode cX5_finishDeed 9 = .ok (.imul, 1) := by decide +kernel
theorem dX5_finishDeed_10 : decode cX5_finishDeed 10 = .ok (.aload_n 0, 1) := by decide +kernel
theorem dX5_finishDeed_11 : decode cX5_finishDeed 11 = .ok (.getfield 25, 3) := by decide +kernel
theorem dX5_finishDeed_14 : decode cX5_finishDeed 14 = .ok (.iadd, 1) := by decide +kernel
theorem dX5_finishDeed_15 : decode cX5_finishDeed 15 = .ok (.dup2, 1) := by decide +kernel
theorem dX5_finishDeed_16 : decode cX5_finishDeed 16 = .ok (.iaload, 1) := by decide +kernel
theorem dX5_finishDeed_17 : decode cX5_finishDeed 17 = .ok (.iconst 1, 1) := by decide +kernel
theorem dX5_finishDeed_18 : decode cX5_finishDeed 18 = .ok (.iadd, 1) := by decide +kernel
theorem dX5_finishDeed_19 : decode cX5_finishDeed 19 = .ok (.iastore, 1) := by decide +kernel
theorem dX5_finishDeed_20 : decode cX5_finishDeed 20 = .ok (.aload_n 0, 1) := by decide +kernel
theorem dX5_finishDeed_21 : decode cX5_finishDeed 21 = .ok (.dup, 1) := by decide +kernel
theorem dX5_finishDeed_22 : decode cX5_finishDeed 22 = .ok (.getfield 35, 3) := by decide +kernel
theorem dX5_finishDeed_25 : decode cX5_finishDeed 25 = .ok (.iconst 1, 1) := by decide +kernel
theorem dX5_finishDeed_26 : decode cX5_finishDeed 26 = .ok (.iadd, 1) := by decide +kernel
theorem dX5_finishDeed_27 : decode cX5_finishDeed 27 = .ok (.putfield 35, 3) := by decide +kernel
theorem dX5_finishDeed_30 : decode cX5_finishDeed 30 = .ok (.aload_n 0, 1) := by decide +kernel
theorem dX5_finishDeed_31 : decode cX5_finishDeed 31 = .ok (.dup, 1) := by decide +kernel
theorem dX5_finishDeed_32 : decode cX5_finishDeed 32 = .ok (.getfield 25, 3) := by decide +kernel
theorem dX5_finishDeed_35 : decode cX5_finishDeed 35 = .ok (.iconst 1, 1) := by decide +kernel
theorem dX5_finishDeed_36 : decode cX5_finishDeed 36 = .ok (.iadd, 1) := by decide +kernel
theorem dX5_finishDeed_37 : decode cX5_finishDeed 37 = .ok (.putfield 25, 3) := by decide +kernel
theorem dX5_finishDeed_40 : decode cX5_finishDeed 40 = .ok (.aload_n 0, 1) := by decide +kernel
theorem dX5_finishDeed_41 : decode cX5_finishDeed 41 = .ok (.getfield 25, 3) := by decide +kernel
theorem dX5_finishDeed_44 : decode cX5_finishDeed 44 = .ok (.aload_n 1, 1) := by decide +kernel
theorem dX5_finishDeed_45 : decode cX5_finishDeed 45 = .ok (.aload_n 0, 1) := by decide +kernel
theorem dX5_finishDeed_46 : decode cX5_finishDeed 46 = .ok (.getfield 18, 3) := by decide +kernel
theorem dX5_finishDeed_49 : decode cX5_finishDeed 49 = .ok (.aload_n 0, 1) := by decide +kernel
theorem dX5_finishDeed_50 : decode cX5_finishDeed 50 = .ok (.getfield 22, 3) := by decide +kernel
theorem dX5_finishDeed_53 : decode cX5_finishDeed 53 = .ok (.invokevirtual 58, 3) := by decide +kernel
theorem dX5_finishDeed_56 : decode cX5_finishDeed 56 = .ok (.if_icmp .lt 23, 3) := by decide +kernel
theorem dX5_finishDeed_59 : decode cX5_finishDeed 59 = .ok (.aload_n 0, 1) := by decide +kernel
theorem dX5_finishDeed_60 : decode cX5_finishDeed 60 = .ok (.iconst 0, 1) := by decide +kernel
theorem dX5_finishDeed_61 : decode cX5_finishDeed 61 = .ok (.putfield 25, 3) := by decide +kernel
theorem dX5_finishDeed_64 : decode cX5_finishDeed 64 = .ok (.aload_n 0, 1) := by decide +kernel
theorem dX5_finishDeed_65 : decode cX5_finishDeed 65 = .ok (.dup, 1) := by decide +kernel
theorem dX5_finishDeed_66 : decode cX5_finishDeed 66 = .ok (.getfield 28, 3) := by decide +kernel
theorem dX5_finishDeed_69 : decode cX5_finishDeed 69 = .ok (.iconst 1, 1) := by decide +kernel
theorem dX5_finishDeed_70 : decode cX5_finishDeed 70 = .ok (.iadd, 1) := by decide +kernel
theorem dX5_finishDeed_71 : decode cX5_finishDeed 71 = .ok (.putfield 28, 3) := by decide +kernel
theorem dX5_finishDeed_74 : decode cX5_finishDeed 74 = .ok (.aload_n 0, 1) := by decide +kernel
theorem dX5_finishDeed_75 : decode cX5_finishDeed 75 = .ok (.iload_n 2, 1) := by decide +kernel
theorem dX5_finishDeed_76 : decode cX5_finishDeed 76 = .ok (.putfield 22, 3) := by decide +kernel
theorem dX5_finishDeed_79 : decode cX5_finishDeed 79 = .ok (.return_, 1) := by decide +kernel
theorem dX5_figure_0 : decode cX5_figure 0 = .ok (.iload_n 1, 1) := by decide +kernel
theorem dX5_figure_1 : decode cX5_figure 1 = .ok (.tableswitch 77 1 6 #[39, 44, 49, 54, 59, 72], 39) := by decide +kernel
theorem dX5_figure_40 : decode cX5_figure 40 = .ok (.aload_n 0, 1) := by decide +kernel
theorem dX5_figure_41 : decode cX5_figure 41 = .ok (.getfield 22, 3) := by decide +kernel
theorem dX5_figure_44 : decode cX5_figure 44 = .ok (.ireturn, 1) := by decide +kernel
theorem dX5_figure_45 : decode cX5_figure 45 = .ok (.aload_n 0, 1) := by decide +kernel
theorem dX5_figure_46 : decode cX5_figure 46 = .ok (.getfield 25, 3) := by decide +kernel
theorem dX5_figure_49 : decode cX5_figure 49 = .ok (.ireturn, 1) := by decide +kernel
theorem dX5_figure_50 : decode cX5_figure 50 = .ok (.aload_n 0, 1) := by decide +kernel
theorem dX5_figure_51 : decode cX5_figure 51 = .ok (.getfield 35, 3) := by decide +kernel
theorem dX5_figure_54 : decode cX5_figure 54 = .ok (.ireturn, 1) := by decide +kernel
theorem dX5_figure_55 : decode cX5_figure 55 = .ok (.aload_n 0, 1) := by decide +kernel
theorem dX5_figure_56 : decode cX5_figure 56 = .ok (.getfield 28, 3) := by decide +kernel
theorem dX5_figure_59 : decode cX5_figure 59 = .ok (.ireturn, 1) := by decide +kernel
theorem dX5_figure_60 : decode cX5_figure 60 = .ok (.aload_n 0, 1) := by decide +kernel
theorem dX5_figure_61 : decode cX5_figure 61 = .ok (.getfield 31, 3) := by decide +kernel
theorem dX5_figure_64 : decode cX5_figure 64 = .ok (.ifCond .eq 7, 3) := by decide +kernel
theorem dX5_figure_67 : decode cX5_figure 67 = .ok (.iconst 1, 1) := by decide +kernel
theorem dX5_figure_68 : decode cX5_figure 68 = .ok (.goto 4, 3) := by decide +kernel
theorem dX5_figure_71 : decode cX5_figure 71 = .ok (.iconst 0, 1) := by decide +kernel
theorem dX5_figure_72 : decode cX5_figure 72 = .ok (.ireturn, 1) := by decide +kernel
theorem dX5_figure_73 : decode cX5_figure 73 = .ok (.aload_n 0, 1) := by decide +kernel
theorem dX5_figure_74 : decode cX5_figure 74 = .ok (.getfield 38, 3) := by decide +kernel
theorem dX5_figure_77 : decode cX5_figure 77 = .ok (.ireturn, 1) := by decide +kernel
theorem dX5_figure_78 : decode cX5_figure 78 = .ok (.iload_n 1, 1) := by decide +kernel
theorem dX5_figure_79 : decode cX5_figure 79 = .ok (.bipush 10, 2) := by decide +kernel
theorem dX5_figure_81 : decode cX5_figure 81 = .ok (.if_icmp .le 21, 3) := by decide +kernel
theorem dX5_figure_84 : decode cX5_figure 84 = .ok (.iload_n 1, 1) := by decide +kernel
theorem dX5_figure_85 : decode cX5_figure 85 = .ok (.bipush 17, 2) := by decide +kernel
theorem dX5_figure_87 : decode cX5_figure 87 = .ok (.if_icmp .gt 15, 3) := by decide +kernel
theorem dX5_figure_90 : decode cX5_figure 90 = .ok (.aload_n 0, 1) := by decide +kernel
theorem dX5_figure_91 : decode cX5_figure 91 = .ok (.getfield 9, 3) := by decide +kernel
theorem dX5_figure_94 : decode cX5_figure 94 = .ok (.iload_n 1, 1) := by decide +kernel
theorem dX5_figure_95 : decode cX5_figure 95 = .ok (.bipush 10, 2) := by decide +kernel
theorem dX5_figure_97 : decode cX5_figure 97 = .ok (.isub, 1) := by decide +kernel
theorem dX5_figure_98 : decode cX5_figure 98 = .ok (.iaload, 1) := by decide +kernel
theorem dX5_figure_99 : decode cX5_figure 99 = .ok (.goto 4, 3) := by decide +kernel
theorem dX5_figure_102 : decode cX5_figure 102 = .ok (.iconst (-1), 1) := by decide +kernel
theorem dX5_figure_103 : decode cX5_figure 103 = .ok (.ireturn, 1) := by decide +kernel
theorem dX6_init_0 : decode cX6_init 0 = .ok (.aload_n 0, 1) := by decide +kernel
theorem dX6_init_1 : decode cX6_init 1 = .ok (.invokespecial 3, 3) := by decide +kernel
theorem dX6_init_4 : decode cX6_init 4 = .ok (.aload_n 0, 1) := by decide +kernel
theorem dX6_init_5 : decode cX6_init 5 = .ok (.bipush 8, 2) := by decide +kernel
theorem dX6_init_7 : decode cX6_init 7 = .ok (.newarray .int, 2) := by decide +kernel
theorem dX6_init_9 : decode cX6_init 9 = .ok (.putfield 9, 3) := by decide +kernel
theorem dX6_init_12 : decode cX6_init 12 = .ok (.aload_n 0, 1) := by decide +kernel
theorem dX6_init_13 : decode cX6_init 13 = .ok (.bipush 32, 2) := by decide +kernel
theorem dX6_init_15 : decode cX6_init 15 = .ok (.newarray .int, 2) := by decide +kernel
theorem dX6_init_17 : decode cX6_init 17 = .ok (.putfield 15, 3) := by decide +kernel
theorem dX6_init_20 : decode cX6_init 20 = .ok (.return_, 1) := by decide +kernel
theorem dX6_startOf_0 : decode cX6_startOf 0 = .ok (.aload_n 1, 1) := by decide +kernel
theorem dX6_startOf_1 : decode cX6_startOf 1 = .ok (.getfield 18, 3) := by decide +kernel
theorem dX6_startOf_4 : decode cX6_startOf 4 = .ok (.iconst 0, 1) := by decide +kernel
theorem dX6_startOf_5 : decode cX6_startOf 5 = .ok (.aload_n 0, 1) := by decide +kernel
theorem dX6_startOf_6 : decode cX6_startOf 6 = .ok (.getfield 9, 3) := by decide +kernel
theorem dX6_startOf_9 : decode cX6_startOf 9 = .ok (.iconst 0, 1) := by decide +kernel
theorem dX6_startOf_10 : decode cX6_startOf 10 = .ok (.bipush 8, 2) := by decide +kernel
theorem dX6_startOf_12 : decode cX6_startOf 12 = .ok (.invokestatic 21, 3) := by decide +kernel
theorem dX6_startOf_15 : decode cX6_startOf 15 = .ok (.aload_n 1, 1) := by decide +kernel
theorem dX6_startOf_16 : decode cX6_startOf 16 = .ok (.getfield 27, 3) := by decide +kernel
theorem dX6_startOf_19 : decode cX6_startOf 19 = .ok (.iconst 0, 1) := by decide +kernel
theorem dX6_startOf_20 : decode cX6_startOf 20 = .ok (.aload_n 0, 1) := by decide +kernel
theorem dX6_startOf_21 : decode cX6_startOf 21 = .ok (.getfield 15, 3) := by decide +kernel
theorem dX6_startOf_24 : decode cX6_startOf 24 = .ok (.iconst 0, 1) := by decide +kernel
theorem dX6_startOf_25 : decode cX6_startOf 25 = .ok (.bipush 32, 2) := by decide +kernel
theorem dX6_startOf_27 : decode cX6_startOf 27 = .ok (.invokestatic 21, 3) := by decide +kernel
theorem dX6_startOf_30 : decode cX6_startOf 30 = .ok (.aload_n 0, 1) := by decide +kernel
theorem dX6_startOf_31 : decode cX6_startOf 31 = .ok (.iconst 0, 1) := by decide +kernel
theorem dX6_startOf_32 : decode cX6_startOf 32 = .ok (.putfield 28, 3) := by decide +kernel
theorem dX6_startOf_35 : decode cX6_startOf 35 = .ok (.aload_n 0, 1) := by decide +kernel
theorem dX6_startOf_36 : decode cX6_startOf 36 = .ok (.iconst 0, 1) := by decide +kernel
theorem dX6_startOf_37 : decode cX6_startOf 37 = .ok (.putfield 32, 3) := by decide +kernel
theorem dX6_startOf_40 : decode cX6_startOf 40 = .ok (.aload_n 0, 1) := by decide +kernel
theorem dX6_startOf_41 : decode cX6_startOf 41 = .ok (.iconst 0, 1) := by decide +kernel
theorem dX6_startOf_42 : decode cX6_startOf 42 = .ok (.putfield 35, 3) := by decide +kernel
theorem dX6_startOf_45 : decode cX6_startOf 45 = .ok (.return_, 1) := by decide +kernel
theorem dX6_step_0 : decode cX6_step 0 = .ok (.aload_n 1, 1) := by decide +kernel
theorem dX6_step_1 : decode cX6_step 1 = .ok (.getfield 39, 3) := by decide +kernel
theorem dX6_step_4 : decode cX6_step 4 = .ok (.aload_n 0, 1) := by decide +kernel
theorem dX6_step_5 : decode cX6_step 5 = .ok (.getfield 28, 3) := by decide +kernel
theorem dX6_step_8 : decode cX6_step 8 = .ok (.aaload, 1) := by decide +kernel
theorem dX6_step_9 : decode cX6_step 9 = .ok (.astore_n 2, 1) := by decide +kernel
theorem dX6_step_10 : decode cX6_step 10 = .ok (.aload_n 0, 1) := by decide +kernel
theorem dX6_step_11 : decode cX6_step 11 = .ok (.dup, 1) := by decide +kernel
theorem dX6_step_12 : decode cX6_step 12 = .ok (.getfield 32, 3) := by decide +kernel
theorem dX6_step_15 : decode cX6_step 15 = .ok (.iconst 1, 1) := by decide +kernel
theorem dX6_step_16 : decode cX6_step 16 = .ok (.iadd, 1) := by decide +kernel
theorem dX6_step_17 : decode cX6_step 17 = .ok (.putfield 32, 3) := by decide +kernel
theorem dX6_step_20 : decode cX6_step 20 = .ok (.aload_n 0, 1) := by decide +kernel
theorem dX6_step_21 : decode cX6_step 21 = .ok (.getfield 28, 3) := by decide +kernel
theorem dX6_step_24 : decode cX6_step 24 = .ok (.iconst 1, 1) := by decide +kernel
theorem dX6_step_25 : decode cX6_step 25 = .ok (.iadd, 1) := by decide +kernel
theorem dX6_step_26 : decode cX6_step 26 = .ok (.istore_n 3, 1) := by decide +kernel
theorem dX6_step_27 : decode cX6_step 27 = .ok (.aload_n 2, 1) := by decide +kernel
theorem dX6_step_28 : decode cX6_step 28 = .ok (.getfield 43, 3) := by decide +kernel
theorem dX6_step_31 : decode cX6_step 31 = .ok (.tableswitch 169 0 8 #[49, 169, 169, 169, 65, 90, 115, 123, 156], 49) := by decide +kernel
theorem dX6_step_80 : decode cX6_step 80 = .ok (.aload_n 0, 1) := by decide +kernel
theorem dX6_step_81 : decode cX6_step 81 = .ok (.getfield 9, 3) := by decide +kernel
theorem dX6_step_84 : decode cX6_step 84 = .ok (.aload_n 2, 1) := by decide +kernel
theorem dX6_step_85 : decode cX6_step 85 = .ok (.getfield 48, 3) := by decide +kernel
theorem dX6_step_88 : decode cX6_step 88 = .ok (.aload_n 2, 1) := by decide +kernel
theorem dX6_step_89 : decode cX6_step 89 = .ok (.getfield 51, 3) := by decide +kernel
theorem dX6_step_92 : decode cX6_step 92 = .ok (.iastore, 1) := by decide +kernel
theorem dX6_step_93 : decode cX6_step 93 = .ok (.goto 141, 3) := by decide +kernel
theorem dX6_step_96 : decode cX6_step 96 = .ok (.aload_n 0, 1) := by decide +kernel
theorem dX6_step_97 : decode cX6_step 97 = .ok (.getfield 9, 3) := by decide +kernel
theorem dX6_step_100 : decode cX6_step 100 = .ok (.aload_n 2, 1) := by decide +kernel
theorem dX6_step_101 : decode cX6_step 101 = .ok (.getfield 48, 3) := by decide +kernel
theorem dX6_step_104 : decode cX6_step 104 = .ok (.aload_n 0, 1) := by decide +kernel
theorem dX6_step_105 : decode cX6_step 105 = .ok (.getfield 15, 3) := by decide +kernel
theorem dX6_step_108 : decode cX6_step 108 = .ok (.aload_n 2, 1) := by decide +kernel
theorem dX6_step_109 : decode cX6_step 109 = .ok (.aload_n 0, 1) := by decide +kernel
theorem dX6_step_110 : decode cX6_step 110 = .ok (.getfield 9, 3) := by decide +kernel
theorem dX6_step_113 : decode cX6_step 113 = .ok (.invokevirtual 54, 3) := by decide +kernel
theorem dX6_step_116 : decode cX6_step 116 = .ok (.iaload, 1) := by decide +kernel
theorem dX6_step_117 : decode cX6_step 117 = .ok (.iastore, 1) := by decide +kernel
theorem dX6_step_118 : decode cX6_step 118 = .ok (.goto 116, 3) := by decide +kernel
theorem dX6_step_121 : decode cX6_step 121 = .ok (.aload_n 0, 1) := by decide +kernel
theorem dX6_step_122 : decode cX6_step 122 = .ok (.getfield 15, 3) := by decide +kernel
theorem dX6_step_125 : decode cX6_step 125 = .ok (.aload_n 2, 1) := by decide +kernel
theorem dX6_step_126 : decode cX6_step 126 = .ok (.aload_n 0, 1) := by decide +kernel
theorem dX6_step_127 : decode cX6_step 127 = .ok (.getfield 9, 3) := by decide +kernel
theorem dX6_step_130 : decode cX6_step 130 = .ok (.invokevirtual 54, 3) := by decide +kernel
theorem dX6_step_133 : decode cX6_step 133 = .ok (.aload_n 0, 1) := by decide +kernel
theorem dX6_step_134 : decode cX6_step 134 = .ok (.getfield 9, 3) := by decide +kernel
theorem dX6_step_137 : decode cX6_step 137 = .ok (.aload_n 2, 1) := by decide +kernel
theorem dX6_step_138 : decode cX6_step 138 = .ok (.getfield 48, 3) := by decide +kernel
theorem dX6_step_141 : decode cX6_step 141 = .ok (.iaload, 1) := by decide +kernel
theorem dX6_step_142 : decode cX6_step 142 = .ok (.iastore, 1) := by decide +kernel
theorem dX6_step_143 : decode cX6_step 143 = .ok (.goto 91, 3) := by decide +kernel
theorem dX6_step_146 : decode cX6_step 146 = .ok (.aload_n 2, 1) := by decide +kernel
theorem dX6_step_147 : decode cX6_step 147 = .ok (.getfield 51, 3) := by decide +kernel
theorem dX6_step_150 : decode cX6_step 150 = .ok (.istore_n 3, 1) := by decide +kernel
theorem dX6_step_151 : decode cX6_step 151 = .ok (.goto 83, 3) := by decide +kernel
theorem dX6_step_154 : decode cX6_step 154 = .ok (.aload_n 2, 1) := by decide +kernel
theorem dX6_step_155 : decode cX6_step 155 = .ok (.aload_n 0, 1) := by decide +kernel
theorem dX6_step_156 : decode cX6_step 156 = .ok (.getfield 9, 3) := by decide +kernel
theorem dX6_step_159 : decode cX6_step 159 = .ok (.aload_n 2, 1) := by decide +kernel
theorem dX6_step_160 : decode cX6_step 160 = .ok (.getfield 58, 3) := by decide +kernel
theorem dX6_step_163 : decode cX6_step 163 = .ok (.iaload, 1) := by decide +kernel
theorem dX6_step_164 : decode cX6_step 164 = .ok (.aload_n 0, 1) := by decide +kernel
theorem dX6_step_165 : decode cX6_step 165 = .ok (.getfield 9, 3) := by decide +kernel
theorem dX6_step_168 : decode cX6_step 168 = .ok (.aload_n 2, 1) := by decide +kernel
theorem dX6_step_169 : decode cX6_step 169 = .ok (.getfield 61, 3) := by decide +kernel
theorem dX6_step_172 : decode cX6_step 172 = .ok (.iaload, 1) := by decide +kernel
theorem dX6_step_173 : decode cX6_step 173 = .ok (.invokevirtual 64, 3) := by decide +kernel
theorem dX6_step_176 : decode cX6_step 176 = .ok (.ifCond .eq 58, 3) := by decide +kernel
theorem dX6_step_179 : decode cX6_step 179 = .ok (.aload_n 2, 1) := by decide +kernel
theorem dX6_step_180 : decode cX6_step 180 = .ok (.getfield 51, 3) := by decide +kernel
theorem dX6_step_183 : decode cX6_step 183 = .ok (.istore_n 3, 1) := by decide +kernel
theorem dX6_step_184 : decode cX6_step 184 = .ok (.goto 50, 3) := by decide +kernel
theorem dX6_step_187 : decode cX6_step 187 = .ok (.aload_n 0, 1) := by decide +kernel
theorem dX6_step_188 : decode cX6_step 188 = .ok (.iconst 1, 1) := by decide +kernel
theorem dX6_step_189 : decode cX6_step 189 = .ok (.putfield 35, 3) := by decide +kernel
theorem dX6_step_192 : decode cX6_step 192 = .ok (.aload_n 0, 1) := by decide +kernel
theorem dX6_step_193 : decode cX6_step 193 = .ok (.getfield 28, 3) := by decide +kernel
theorem dX6_step_196 : decode cX6_step 196 = .ok (.istore_n 3, 1) := by decide +kernel
theorem dX6_step_197 : decode cX6_step 197 = .ok (.goto 37, 3) := by decide +kernel
theorem dX6_step_200 : decode cX6_step 200 = .ok (.aload_n 0, 1) := by decide +kernel
theorem dX6_step_201 : decode cX6_step 201 = .ok (.getfield 9, 3) := by decide +kernel
theorem dX6_step_204 : decode cX6_step 204 = .ok (.aload_n 2, 1) := by decide +kernel
theorem dX6_step_205 : decode cX6_step 205 = .ok (.getfield 48, 3) := by decide +kernel
theorem dX6_step_208 : decode cX6_step 208 = .ok (.aload_n 2, 1) := by decide +kernel
theorem dX6_step_209 : decode cX6_step 209 = .ok (.getfield 43, 3) := by decide +kernel
theorem dX6_step_212 : decode cX6_step 212 = .ok (.aload_n 0, 1) := by decide +kernel
theorem dX6_step_213 : decode cX6_step 213 = .ok (.getfield 9, 3) := by decide +kernel
theorem dX6_step_216 : decode cX6_step 216 = .ok (.aload_n 2, 1) := by decide +kernel
theorem dX6_step_217 : decode cX6_step 217 = .ok (.getfield 58, 3) := by decide +kernel
theorem dX6_step_220 : decode cX6_step 220 = .ok (.iaload, 1) := by decide +kernel
theorem dX6_step_221 : decode cX6_step 221 = .ok (.aload_n 0, 1) := by decide +kernel
theorem dX6_step_222 : decode cX6_step 222 = .ok (.getfield 9, 3) := by decide +kernel
theorem dX6_step_225 : decode cX6_step 225 = .ok (.aload_n 2, 1) := by decide +kernel
theorem dX6_step_226 : decode cX6_step 226 = .ok (.getfield 61, 3) := by decide +kernel
theorem dX6_step_229 : decode cX6_step 229 = .ok (.iaload, 1) := by decide +kernel
theorem dX6_step_230 : decode cX6_step 230 = .ok (.invokestatic 68, 3) := by decide +kernel
theorem dX6_step_233 : decode cX6_step 233 = .ok (.iastore, 1) := by decide +kernel
theorem dX6_step_234 : decode cX6_step 234 = .ok (.aload_n 0, 1) := by decide +kernel
theorem dX6_step_235 : decode cX6_step 235 = .ok (.iload_n 3, 1) := by decide +kernel
theorem dX6_step_236 : decode cX6_step 236 = .ok (.putfield 28, 3) := by decide +kernel
theorem dX6_step_239 : decode cX6_step 239 = .ok (.return_, 1) := by decide +kernel
theorem dX6_figure_0 : decode cX6_figure 0 = .ok (.iload_n 1, 1) := by decide +kernel
theorem dX6_figure_1 : decode cX6_figure 1 = .ok (.tableswitch 61 0 2 #[27, 32, 45], 27) := by decide +kernel
theorem dX6_figure_28 : decode cX6_figure 28 = .ok (.aload_n 0, 1) := by decide +kernel
theorem dX6_figure_29 : decode cX6_figure 29 = .ok (.getfield 32, 3) := by decide +kernel
theorem dX6_figure_32 : decode cX6_figure 32 = .ok (.ireturn, 1) := by decide +kernel
theorem dX6_figure_33 : decode cX6_figure 33 = .ok (.aload_n 0, 1) := by decide +kernel
theorem dX6_figure_34 : decode cX6_figure 34 = .ok (.getfield 35, 3) := by decide +kernel
theorem dX6_figure_37 : decode cX6_figure 37 = .ok (.ifCond .eq 7, 3) := by decide +kernel
theorem dX6_figure_40 : decode cX6_figure 40 = .ok (.iconst 1, 1) := by decide +kernel
theorem dX6_figure_41 : decode cX6_figure 41 = .ok (.goto 4, 3) := by decide +kernel
theorem dX6_figure_44 : decode cX6_figure 44 = .ok (.iconst 0, 1) := by decide +kernel
theorem dX6_figure_45 : decode cX6_figure 45 = .ok (.ireturn, 1) := by decide +kernel
theorem dX6_figure_46 : decode cX6_figure 46 = .ok (.aload_n 0, 1) := by decide +kernel
theorem dX6_figure_47 : decode cX6_figure 47 = .ok (.getfield 35, 3) := by decide +kernel
theorem dX6_figure_50 : decode cX6_figure 50 = .ok (.ifCond .eq 7, 3) := by decide +kernel
theorem dX6_figure_53 : decode cX6_figure 53 = .ok (.iconst (-1), 1) := by decide +kernel
theorem dX6_figure_54 : decode cX6_figure 54 = .ok (.goto 7, 3) := by decide +kernel
theorem dX6_figure_57 : decode cX6_figure 57 = .ok (.aload_n 0, 1) := by decide +kernel
theorem dX6_figure_58 : decode cX6_figure 58 = .ok (.getfield 28, 3) := by decide +kernel
theorem dX6_figure_61 : decode cX6_figure 61 = .ok (.ireturn, 1) := by decide +kernel
theorem dX6_figure_62 : decode cX6_figure 62 = .ok (.iload_n 1, 1) := by decide +kernel
theorem dX6_figure_63 : decode cX6_figure 63 = .ok (.bipush 10, 2) := by decide +kernel
theorem dX6_figure_65 : decode cX6_figure 65 = .ok (.if_icmp .lt 19, 3) := by decide +kernel
theorem dX6_figure_68 : decode cX6_figure 68 = .ok (.iload_n 1, 1) := by decide +kernel
theorem dX6_figure_69 : decode cX6_figure 69 = .ok (.bipush 18, 2) := by decide +kernel
theorem dX6_figure_71 : decode cX6_figure 71 = .ok (.if_icmp .ge 13, 3) := by decide +kernel
theorem dX6_figure_74 : decode cX6_figure 74 = .ok (.aload_n 0, 1) := by decide +kernel
theorem dX6_figure_75 : decode cX6_figure 75 = .ok (.getfield 9, 3) := by decide +kernel
theorem dX6_figure_78 : decode cX6_figure 78 = .ok (.iload_n 1, 1) := by decide +kernel
theorem dX6_figure_79 : decode cX6_figure 79 = .ok (.bipush 10, 2) := by decide +kernel
theorem dX6_figure_81 : decode cX6_figure 81 = .ok (.isub, 1) := by decide +kernel
theorem dX6_figure_82 : decode cX6_figure 82 = .ok (.iaload, 1) := by decide +kernel
theorem dX6_figure_83 : decode cX6_figure 83 = .ok (.ireturn, 1) := by decide +kernel
theorem dX6_figure_84 : decode cX6_figure 84 = .ok (.iload_n 1, 1) := by decide +kernel
theorem dX6_figure_85 : decode cX6_figure 85 = .ok (.bipush 20, 2) := by decide +kernel
theorem dX6_figure_87 : decode cX6_figure 87 = .ok (.if_icmp .lt 21, 3) := by decide +kernel
theorem dX6_figure_90 : decode cX6_figure 90 = .ok (.iload_n 1, 1) := by decide +kernel
theorem dX6_figure_91 : decode cX6_figure 91 = .ok (.bipush 52, 2) := by decide +kernel
theorem dX6_figure_93 : decode cX6_figure 93 = .ok (.if_icmp .ge 15, 3) := by decide +kernel
theorem dX6_figure_96 : decode cX6_figure 96 = .ok (.aload_n 0, 1) := by decide +kernel
theorem dX6_figure_97 : decode cX6_figure 97 = .ok (.getfield 15, 3) := by decide +kernel
theorem dX6_figure_100 : decode cX6_figure 100 = .ok (.iload_n 1, 1) := by decide +kernel
theorem dX6_figure_101 : decode cX6_figure 101 = .ok (.bipush 20, 2) := by decide +kernel
theorem dX6_figure_103 : decode cX6_figure 103 = .ok (.isub, 1) := by decide +kernel
theorem dX6_figure_104 : decode cX6_figure 104 = .ok (.iaload, 1) := by decide +kernel
theorem dX6_figure_105 : decode cX6_figure 105 = .ok (.goto 4, 3) := by decide +kernel
theorem dX6_figure_108 : decode cX6_figure 108 = .ok (.iconst (-1), 1) := by decide +kernel
theorem dX6_figure_109 : decode cX6_figure 109 = .ok (.ireturn, 1) := by decide +kernel
theorem dX7_init_0 : decode cX7_init 0 = .ok (.aload_n 0, 1) := by decide +kernel
theorem dX7_init_1 : decode cX7_init 1 = .ok (.invokespecial 3, 3) := by decide +kernel
theorem dX7_init_4 : decode cX7_init 4 = .ok (.aload_n 0, 1) := by decide +kernel
theorem dX7_init_5 : decode cX7_init 5 = .ok (.sipush 601, 3) := by decide +kernel
theorem dX7_init_8 : decode cX7_init 8 = .ok (.newarray .int, 2) := by decide +kernel
theorem dX7_init_10 : decode cX7_init 10 = .ok (.putfield 9, 3) := by decide +kernel
theorem dX7_init_13 : decode cX7_init 13 = .ok (.aload_n 0, 1) := by decide +kernel
theorem dX7_init_14 : decode cX7_init 14 = .ok (.sipush 601, 3) := by decide +kernel
theorem dX7_init_17 : decode cX7_init 17 = .ok (.newarray .int, 2) := by decide +kernel
theorem dX7_init_19 : decode cX7_init 19 = .ok (.putfield 15, 3) := by decide +kernel
theorem dX7_init_22 : decode cX7_init 22 = .ok (.aload_n 0, 1) := by decide +kernel
theorem dX7_init_23 : decode cX7_init 23 = .ok (.sipush 601, 3) := by decide +kernel
theorem dX7_init_26 : decode cX7_init 26 = .ok (.newarray .int, 2) := by decide +kernel
theorem dX7_init_28 : decode cX7_init 28 = .ok (.putfield 18, 3) := by decide +kernel
theorem dX7_init_31 : decode cX7_init 31 = .ok (.aload_n 0, 1) := by decide +kernel
theorem dX7_init_32 : decode cX7_init 32 = .ok (.sipush 601, 3) := by decide +kernel
theorem dX7_init_35 : decode cX7_init 35 = .ok (.newarray .int, 2) := by decide +kernel
theorem dX7_init_37 : decode cX7_init 37 = .ok (.putfield 21, 3) := by decide +kernel
theorem dX7_init_40 : decode cX7_init 40 = .ok (.aload_n 0, 1) := by decide +kernel
theorem dX7_init_41 : decode cX7_init 41 = .ok (.iconst 0, 1) := by decide +kernel
theorem dX7_init_42 : decode cX7_init 42 = .ok (.newarray .byte, 2) := by decide +kernel
theorem dX7_init_44 : decode cX7_init 44 = .ok (.putfield 24, 3) := by decide +kernel
theorem dX7_init_47 : decode cX7_init 47 = .ok (.return_, 1) := by decide +kernel
theorem dX7_scan_0 : decode cX7_scan 0 = .ok (.aload_n 0, 1) := by decide +kernel
theorem dX7_scan_1 : decode cX7_scan 1 = .ok (.aload_n 1, 1) := by decide +kernel
theorem dX7_scan_2 : decode cX7_scan 2 = .ok (.putfield 24, 3) := by decide +kernel
theorem dX7_scan_5 : decode cX7_scan 5 = .ok (.aload_n 0, 1) := by decide +kernel
theorem dX7_scan_6 : decode cX7_scan 6 = .ok (.iconst 0, 1) := by decide +kernel
theorem dX7_scan_7 : decode cX7_scan 7 = .ok (.iload_n 2, 1) := by decide +kernel
theorem dX7_scan_8 : decode cX7_scan 8 = .ok (.aload_n 1, 1) := by decide +kernel
theorem dX7_scan_9 : decode cX7_scan 9 = .ok (.arraylength, 1) := by decide +kernel
theorem dX7_scan_10 : decode cX7_scan 10 = .ok (.sipush 600, 3) := by decide +kernel
theorem dX7_scan_13 : decode cX7_scan 13 = .ok (.invokestatic 28, 3) := by decide +kernel
theorem dX7_scan_16 : decode cX7_scan 16 = .ok (.invokestatic 28, 3) := by decide +kernel
theorem dX7_scan_19 : decode cX7_scan 19 = .ok (.invokestatic 34, 3) := by decide +kernel
theorem dX7_scan_22 : decode cX7_scan 22 = .ok (.putfield 37, 3) := by decide +kernel
theorem dX7_scan_25 : decode cX7_scan 25 = .ok (.aload_n 0, 1) := by decide +kernel
theorem dX7_scan_26 : decode cX7_scan 26 = .ok (.iconst 0, 1) := by decide +kernel
theorem dX7_scan_27 : decode cX7_scan 27 = .ok (.putfield 41, 3) := by decide +kernel
theorem dX7_scan_30 : decode cX7_scan 30 = .ok (.iconst 0, 1) := by decide +kernel
theorem dX7_scan_31 : decode cX7_scan 31 = .ok (.istore_n 3, 1) := by decide +kernel
theorem dX7_scan_32 : decode cX7_scan 32 = .ok (.iconst 0, 1) := by decide +kernel
theorem dX7_scan_33 : decode cX7_scan 33 = .ok (.istore 4, 2) := by decide +kernel
theorem dX7_scan_35 : decode cX7_scan 35 = .ok (.iload 4, 2) := by decide +kernel
theorem dX7_scan_37 : decode cX7_scan 37 = .ok (.aload_n 0, 1) := by decide +kernel
theorem dX7_scan_38 : decode cX7_scan 38 = .ok (.getfield 37, 3) := by decide +kernel
theorem dX7_scan_41 : decode cX7_scan 41 = .ok (.if_icmp .ge 41, 3) := by decide +kernel
theorem dX7_scan_44 : decode cX7_scan 44 = .ok (.iload_n 3, 1) := by decide +kernel
theorem dX7_scan_45 : decode cX7_scan 45 = .ok (.aload_n 0, 1) := by decide +kernel
theorem dX7_scan_46 : decode cX7_scan 46 = .ok (.getfield 37, 3) := by decide +kernel
theorem dX7_scan_49 : decode cX7_scan 49 = .ok (.if_icmp .ge 33, 3) := by decide +kernel
theorem dX7_scan_52 : decode cX7_scan 52 = .ok (.aload_n 0, 1) := by decide +kernel
theorem dX7_scan_53 : decode cX7_scan 53 = .ok (.getfield 24, 3) := by decide +kernel
theorem dX7_scan_56 : decode cX7_scan 56 = .ok (.iload_n 3, 1) := by decide +kernel
theorem dX7_scan_57 : decode cX7_scan 57 = .ok (.baload, 1) := by decide +kernel
theorem dX7_scan_58 : decode cX7_scan 58 = .ok (.invokestatic 44, 3) := by decide +kernel
theorem dX7_scan_61 : decode cX7_scan 61 = .ok (.ifCond .eq 9, 3) := by decide +kernel
theorem dX7_scan_64 : decode cX7_scan 64 = .ok (.iload_n 3, 1) := by decide +kernel
theorem dX7_scan_65 : decode cX7_scan 65 = .ok (.iconst 1, 1) := by decide +kernel
theorem dX7_scan_66 : decode cX7_scan 66 = .ok (.iadd, 1) := by decide +kernel
theorem dX7_scan_67 : decode cX7_scan 67 = .ok (.goto 8, 3) := by decide +kernel
theorem dX7_scan_70 : decode cX7_scan 70 = .ok (.aload_n 0, 1) := by decide +kernel
theorem dX7_scan_71 : decode cX7_scan 71 = .ok (.iload_n 3, 1) := by decide +kernel
theorem dX7_scan_72 : decode cX7_scan 72 = .ok (.invokevirtual 48, 3) := by decide +kernel
theorem dX7_scan_75 : decode cX7_scan 75 = .ok (.istore_n 3, 1) := by decide +kernel
theorem dX7_scan_76 : decode cX7_scan 76 = .ok (.iinc 4 1, 3) := by decide +kernel
theorem dX7_scan_79 : decode cX7_scan 79 = .ok (.goto (-44), 3) := by decide +kernel
theorem dX7_scan_82 : decode cX7_scan 82 = .ok (.aload_n 0, 1) := by decide +kernel
theorem dX7_scan_83 : decode cX7_scan 83 = .ok (.bipush 6, 2) := by decide +kernel
theorem dX7_scan_85 : decode cX7_scan 85 = .ok (.iconst (-1), 1) := by decide +kernel
theorem dX7_scan_86 : decode cX7_scan 86 = .ok (.aload_n 0, 1) := by decide +kernel
theorem dX7_scan_87 : decode cX7_scan 87 = .ok (.getfield 37, 3) := by decide +kernel
theorem dX7_scan_90 : decode cX7_scan 90 = .ok (.aload_n 0, 1) := by decide +kernel
theorem dX7_scan_91 : decode cX7_scan 91 = .ok (.getfield 37, 3) := by decide +kernel
theorem dX7_scan_94 : decode cX7_scan 94 = .ok (.invokevirtual 52, 3) := by decide +kernel
theorem dX7_scan_97 : decode cX7_scan 97 = .ok (.return_, 1) := by decide +kernel
theorem dX7_scanOne_0 : decode cX7_scanOne 0 = .ok (.aload_n 0, 1) := by decide +kernel
theorem dX7_scanOne_1 : decode cX7_scanOne 1 = .ok (.getfield 24, 3) := by decide +kernel
theorem dX7_scanOne_4 : decode cX7_scanOne 4 = .ok (.iload_n 1, 1) := by decide +kernel
theorem dX7_scanOne_5 : decode cX7_scanOne 5 = .ok (.baload, 1) := by decide +kernel
theorem dX7_scanOne_6 : decode cX7_scanOne 6 = .ok (.istore_n 2, 1) := by decide +kernel
theorem dX7_scanOne_7 : decode cX7_scanOne 7 = .ok (.iload_n 1, 1) := by decide +kernel
theorem dX7_scanOne_8 : decode cX7_scanOne 8 = .ok (.iconst 1, 1) := by decide +kernel
theorem dX7_scanOne_9 : decode cX7_scanOne 9 = .ok (.iadd, 1) := by decide +kernel
theorem dX7_scanOne_10 : decode cX7_scanOne 10 = .ok (.istore_n 3, 1) := by decide +kernel
theorem dX7_scanOne_11 : decode cX7_scanOne 11 = .ok (.iload_n 2, 1) := by decide +kernel
theorem dX7_scanOne_12 : decode cX7_scanOne 12 = .ok (.invokestatic 56, 3) := by decide +kernel
theorem dX7_scanOne_15 : decode cX7_scanOne 15 = .ok (.ifCond .eq 38, 3) := by decide +kernel
theorem dX7_scanOne_18 : decode cX7_scanOne 18 = .ok (.iload_n 3, 1) := by decide +kernel
theorem dX7_scanOne_19 : decode cX7_scanOne 19 = .ok (.aload_n 0, 1) := by decide +kernel
theorem dX7_scanOne_20 : decode cX7_scanOne 20 = .ok (.getfield 37, 3) := by decide +kernel
theorem dX7_scanOne_23 : decode cX7_scanOne 23 = .ok (.if_icmp .ge 21, 3) := by decide +kernel
theorem dX7_scanOne_26 : decode cX7_scanOne 26 = .ok (.aload_n 0, 1) := by decide +kernel
theorem dX7_scanOne_27 : decode cX7_scanOne 27 = .ok (.getfield 24, 3) := by decide +kernel
theorem dX7_scanOne_30 : decode cX7_scanOne 30 = .ok (.iload_n 3, 1) := by decide +kernel
theorem dX7_scanOne_31 : decode cX7_scanOne 31 = .ok (.baload, 1) := by decide +kernel
theorem dX7_scanOne_32 : decode cX7_scanOne 32 = .ok (.invokestatic 56, 3) := by decide +kernel
theorem dX7_scanOne_35 : decode cX7_scanOne 35 = .ok (.ifCond .eq 9, 3) := by decide +kernel
theorem dX7_scanOne_38 : decode cX7_scanOne 38 = .ok (.iinc 3 1, 3) := by decide +kernel
theorem dX7_scanOne_41 : decode cX7_scanOne 41 = .ok (.goto (-23), 3) := by decide +kernel
theorem dX7_scanOne_44 : decode cX7_scanOne 44 = .ok (.aload_n 0, 1) := by decide +kernel
theorem dX7_scanOne_45 : decode cX7_scanOne 45 = .ok (.iload_n 1, 1) := by decide +kernel
theorem dX7_scanOne_46 : decode cX7_scanOne 46 = .ok (.iload_n 3, 1) := by decide +kernel
theorem dX7_scanOne_47 : decode cX7_scanOne 47 = .ok (.invokevirtual 59, 3) := by decide +kernel
theorem dX7_scanOne_50 : decode cX7_scanOne 50 = .ok (.goto 64, 3) := by decide +kernel
theorem dX7_scanOne_53 : decode cX7_scanOne 53 = .ok (.iload_n 2, 1) := by decide +kernel
theorem dX7_scanOne_54 : decode cX7_scanOne 54 = .ok (.invokestatic 63, 3) := by decide +kernel
theorem dX7_scanOne_57 : decode cX7_scanOne 57 = .ok (.ifCond .eq 38, 3) := by decide +kernel
theorem dX7_scanOne_60 : decode cX7_scanOne 60 = .ok (.iload_n 3, 1) := by decide +kernel
theorem dX7_scanOne_61 : decode cX7_scanOne 61 = .ok (.aload_n 0, 1) := by decide +kernel
theorem dX7_scanOne_62 : decode cX7_scanOne 62 = .ok (.getfield 37, 3) := by decide +kernel
theorem dX7_scanOne_65 : decode cX7_scanOne 65 = .ok (.if_icmp .ge 21, 3) := by decide +kernel
theorem dX7_scanOne_68 : decode cX7_scanOne 68 = .ok (.aload_n 0, 1) := by decide +kernel
theorem dX7_scanOne_69 : decode cX7_scanOne 69 = .ok (.getfield 24, 3) := by decide +kernel
theorem dX7_scanOne_72 : decode cX7_scanOne 72 = .ok (.iload_n 3, 1) := by decide +kernel
theorem dX7_scanOne_73 : decode cX7_scanOne 73 = .ok (.baload, 1) := by decide +kernel
theorem dX7_scanOne_74 : decode cX7_scanOne 74 = .ok (.invokestatic 63, 3) := by decide +kernel
theorem dX7_scanOne_77 : decode cX7_scanOne 77 = .ok (.ifCond .eq 9, 3) := by decide +kernel
theorem dX7_scanOne_80 : decode cX7_scanOne 80 = .ok (.iinc 3 1, 3) := by decide +kernel
theorem dX7_scanOne_83 : decode cX7_scanOne 83 = .ok (.goto (-23), 3) := by decide +kernel
theorem dX7_scanOne_86 : decode cX7_scanOne 86 = .ok (.aload_n 0, 1) := by decide +kernel
theorem dX7_scanOne_87 : decode cX7_scanOne 87 = .ok (.iload_n 1, 1) := by decide +kernel
theorem dX7_scanOne_88 : decode cX7_scanOne 88 = .ok (.iload_n 3, 1) := by decide +kernel
theorem dX7_scanOne_89 : decode cX7_scanOne 89 = .ok (.invokevirtual 66, 3) := by decide +kernel
theorem dX7_scanOne_92 : decode cX7_scanOne 92 = .ok (.goto 22, 3) := by decide +kernel
theorem dX7_scanOne_95 : decode cX7_scanOne 95 = .ok (.aload_n 0, 1) := by decide +kernel
theorem dX7_scanOne_96 : decode cX7_scanOne 96 = .ok (.iload_n 2, 1) := by decide +kernel
theorem dX7_scanOne_97 : decode cX7_scanOne 97 = .ok (.invokestatic 69, 3) := by decide +kernel
theorem dX7_scanOne_100 : decode cX7_scanOne 100 = .ok (.ifCond .eq 7, 3) := by decide +kernel
theorem dX7_scanOne_103 : decode cX7_scanOne 103 = .ok (.iconst 5, 1) := by decide +kernel
theorem dX7_scanOne_104 : decode cX7_scanOne 104 = .ok (.goto 4, 3) := by decide +kernel
theorem dX7_scanOne_107 : decode cX7_scanOne 107 = .ok (.iconst 0, 1) := by decide +kernel
theorem dX7_scanOne_108 : decode cX7_scanOne 108 = .ok (.iload_n 2, 1) := by decide +kernel
theorem dX7_scanOne_109 : decode cX7_scanOne 109 = .ok (.iload_n 1, 1) := by decide +kernel
theorem dX7_scanOne_110 : decode cX7_scanOne 110 = .ok (.iload_n 3, 1) := by decide +kernel
theorem dX7_scanOne_111 : decode cX7_scanOne 111 = .ok (.invokevirtual 52, 3) := by decide +kernel
theorem dX7_scanOne_114 : decode cX7_scanOne 114 = .ok (.iload_n 3, 1) := by decide +kernel
theorem dX7_scanOne_115 : decode cX7_scanOne 115 = .ok (.ireturn, 1) := by decide +kernel
theorem dX7_addLetters_0 : decode cX7_addLetters 0 = .ok (.iload_n 2, 1) := by decide +kernel
theorem dX7_addLetters_1 : decode cX7_addLetters 1 = .ok (.iload_n 1, 1) := by decide +kernel
theorem dX7_addLetters_2 : decode cX7_addLetters 2 = .ok (.isub, 1) := by decide +kernel
theorem dX7_addLetters_3 : decode cX7_addLetters 3 = .ok (.bipush 8, 2) := by decide +kernel
theorem dX7_addLetters_5 : decode cX7_addLetters 5 = .ok (.if_icmp .le 14, 3) := by decide +kernel
theorem dX7_addLetters_8 : decode cX7_addLetters 8 = .ok (.aload_n 0, 1) := by decide +kernel
theorem dX7_addLetters_9 : decode cX7_addLetters 9 = .ok (.iconst 0, 1) := by decide +kernel
theorem dX7_addLetters_10 : decode cX7_addLetters 10 = .ok (.iconst (-1), 1) := by decide +kernel
theorem dX7_addLetters_11 : decode cX7_addLetters 11 = .ok (.iload_n 1, 1) := by decide +kernel
theorem dX7_addLetters_12 : decode cX7_addLetters 12 = .ok (.iload_n 2, 1) := by decide +kernel
theorem dX7_addLetters_13 : decode cX7_addLetters 13 = .ok (.invokevirtual 52, 3) := by decide +kernel
theorem dX7_addLetters_16 : decode cX7_addLetters 16 = .ok (.goto 66, 3) := by decide +kernel
theorem dX7_addLetters_19 : decode cX7_addLetters 19 = .ok (.iload_n 2, 1) := by decide +kernel
theorem dX7_addLetters_20 : decode cX7_addLetters 20 = .ok (.iload_n 1, 1) := by decide +kernel
theorem dX7_addLetters_21 : decode cX7_addLetters 21 = .ok (.isub, 1) := by decide +kernel
theorem dX7_addLetters_22 : decode cX7_addLetters 22 = .ok (.iconst 1, 1) := by decide +kernel
theorem dX7_addLetters_23 : decode cX7_addLetters 23 = .ok (.if_icmp .ne 35, 3) := by decide +kernel
theorem dX7_addLetters_26 : decode cX7_addLetters 26 = .ok (.aload_n 0, 1) := by decide +kernel
theorem dX7_addLetters_27 : decode cX7_addLetters 27 = .ok (.getfield 24, 3) := by decide +kernel
theorem dX7_addLetters_30 : decode cX7_addLetters 30 = .ok (.iload_n 1, 1) := by decide +kernel
theorem dX7_addLetters_31 : decode cX7_addLetters 31 = .ok (.baload, 1) := by decide +kernel
theorem dX7_addLetters_32 : decode cX7_addLetters 32 = .ok (.bipush 97, 2) := by decide +kernel
theorem dX7_addLetters_34 : decode cX7_addLetters 34 = .ok (.isub, 1) := by decide +kernel
theorem dX7_addLetters_35 : decode cX7_addLetters 35 = .ok (.istore_n 3, 1) := by decide +kernel
theorem dX7_addLetters_36 : decode cX7_addLetters 36 = .ok (.aload_n 0, 1) := by decide +kernel
theorem dX7_addLetters_37 : decode cX7_addLetters 37 = .ok (.iload_n 3, 1) := by decide +kernel
theorem dX7_addLetters_38 : decode cX7_addLetters 38 = .ok (.invokestatic 72, 3) := by decide +kernel
theorem dX7_addLetters_41 : decode cX7_addLetters 41 = .ok (.ifCond .eq 7, 3) := by decide +kernel
theorem dX7_addLetters_44 : decode cX7_addLetters 44 = .ok (.iconst 2, 1) := by decide +kernel
theorem dX7_addLetters_45 : decode cX7_addLetters 45 = .ok (.goto 4, 3) := by decide +kernel
theorem dX7_addLetters_48 : decode cX7_addLetters 48 = .ok (.iconst 0, 1) := by decide +kernel
theorem dX7_addLetters_49 : decode cX7_addLetters 49 = .ok (.iload_n 3, 1) := by decide +kernel
theorem dX7_addLetters_50 : decode cX7_addLetters 50 = .ok (.iload_n 1, 1) := by decide +kernel
theorem dX7_addLetters_51 : decode cX7_addLetters 51 = .ok (.iload_n 2, 1) := by decide +kernel
theorem dX7_addLetters_52 : decode cX7_addLetters 52 = .ok (.invokevirtual 52, 3) := by decide +kernel
theorem dX7_addLetters_55 : decode cX7_addLetters 55 = .ok (.goto 27, 3) := by decide +kernel
theorem dX7_addLetters_58 : decode cX7_addLetters 58 = .ok (.aload_n 0, 1) := by decide +kernel
theorem dX7_addLetters_59 : decode cX7_addLetters 59 = .ok (.iload_n 1, 1) := by decide +kernel
theorem dX7_addLetters_60 : decode cX7_addLetters 60 = .ok (.iload_n 2, 1) := by decide +kernel
theorem dX7_addLetters_61 : decode cX7_addLetters 61 = .ok (.invokevirtual 75, 3) := by decide +kernel
theorem dX7_addLetters_64 : decode cX7_addLetters 64 = .ok (.istore_n 3, 1) := by decide +kernel
theorem dX7_addLetters_65 : decode cX7_addLetters 65 = .ok (.aload_n 0, 1) := by decide +kernel
theorem dX7_addLetters_66 : decode cX7_addLetters 66 = .ok (.iload_n 3, 1) := by decide +kernel
theorem dX7_addLetters_67 : decode cX7_addLetters 67 = .ok (.iconst (-1), 1) := by decide +kernel
theorem dX7_addLetters_68 : decode cX7_addLetters 68 = .ok (.if_icmp .ne 7, 3) := by decide +kernel
theorem dX7_addLetters_71 : decode cX7_addLetters 71 = .ok (.iconst 3, 1) := by decide +kernel
theorem dX7_addLetters_72 : decode cX7_addLetters 72 = .ok (.goto 4, 3) := by decide +kernel
theorem dX7_addLetters_75 : decode cX7_addLetters 75 = .ok (.iconst 1, 1) := by decide +kernel
theorem dX7_addLetters_76 : decode cX7_addLetters 76 = .ok (.iload_n 3, 1) := by decide +kernel
theorem dX7_addLetters_77 : decode cX7_addLetters 77 = .ok (.iload_n 1, 1) := by decide +kernel
theorem dX7_addLetters_78 : decode cX7_addLetters 78 = .ok (.iload_n 2, 1) := by decide +kernel
theorem dX7_addLetters_79 : decode cX7_addLetters 79 = .ok (.invokevirtual 52, 3) := by decide +kernel
theorem dX7_addLetters_82 : decode cX7_addLetters 82 = .ok (.return_, 1) := by decide +kernel
theorem dX7_addDigits_0 : decode cX7_addDigits 0 = .ok (.iload_n 2, 1) := by decide +kernel
theorem dX7_addDigits_1 : decode cX7_addDigits 1 = .ok (.iload_n 1, 1) := by decide +kernel
theorem dX7_addDigits_2 : decode cX7_addDigits 2 = .ok (.isub, 1) := by decide +kernel
theorem dX7_addDigits_3 : decode cX7_addDigits 3 = .ok (.iconst 3, 1) := by decide +kernel
theorem dX7_addDigits_4 : decode cX7_addDigits 4 = .ok (.if_icmp .le 12, 3) := by decide +kernel
theorem dX7_addDigits_7 : decode cX7_addDigits 7 = .ok (.aload_n 0, 1) := by decide +kernel
theorem dX7_addDigits_8 : decode cX7_addDigits 8 = .ok (.iconst 0, 1) := by decide +kernel
theorem dX7_addDigits_9 : decode cX7_addDigits 9 = .ok (.iconst (-1), 1) := by decide +kernel
theorem dX7_addDigits_10 : decode cX7_addDigits 10 = .ok (.iload_n 1, 1) := by decide +kernel
theorem dX7_addDigits_11 : decode cX7_addDigits 11 = .ok (.iload_n 2, 1) := by decide +kernel
theorem dX7_addDigits_12 : decode cX7_addDigits 12 = .ok (.invokevirtual 52, 3) := by decide +kernel
theorem dX7_addDigits_15 : decode cX7_addDigits 15 = .ok (.return_, 1) := by decide +kernel
theorem dX7_addDigits_16 : decode cX7_addDigits 16 = .ok (.iconst 0, 1) := by decide +kernel
theorem dX7_addDigits_17 : decode cX7_addDigits 17 = .ok (.istore_n 3, 1) := by decide +kernel
theorem dX7_addDigits_18 : decode cX7_addDigits 18 = .ok (.iload_n 1, 1) := by decide +kernel
theorem dX7_addDigits_19 : decode cX7_addDigits 19 = .ok (.istore 4, 2) := by decide +kernel
theorem dX7_addDigits_21 : decode cX7_addDigits 21 = .ok (.iload 4, 2) := by decide +kernel
theorem dX7_addDigits_23 : decode cX7_addDigits 23 = .ok (.iload_n 2, 1) := by decide +kernel
theorem dX7_addDigits_24 : decode cX7_addDigits 24 = .ok (.if_icmp .ge 25, 3) := by decide +kernel
theorem dX7_addDigits_27 : decode cX7_addDigits 27 = .ok (.iload_n 3, 1) := by decide +kernel
theorem dX7_addDigits_28 : decode cX7_addDigits 28 = .ok (.bipush 10, 2) := by decide +kernel
theorem dX7_addDigits_30 : decode cX7_addDigits 30 = .ok (.imul, 1) := by decide +kernel
theorem dX7_addDigits_31 : decode cX7_addDigits 31 = .ok (.aload_n 0, 1) := by decide +kernel
theorem dX7_addDigits_32 : decode cX7_addDigits 32 = .ok (.getfield 24, 3) := by decide +kernel
theorem dX7_addDigits_35 : decode cX7_addDigits 35 = .ok (.iload 4, 2) := by decide +kernel
theorem dX7_addDigits_37 : decode cX7_addDigits 37 = .ok (.baload, 1) := by decide +kernel
theorem dX7_addDigits_38 : decode cX7_addDigits 38 = .ok (.iadd, 1) := by decide +kernel
theorem dX7_addDigits_39 : decode cX7_addDigits 39 = .ok (.bipush 48, 2) := by decide +kernel
theorem dX7_addDigits_41 : decode cX7_addDigits 41 = .ok (.isub, 1) := by decide +kernel
theorem dX7_addDigits_42 : decode cX7_addDigits 42 = .ok (.istore_n 3, 1) := by decide +kernel
theorem dX7_addDigits_43 : decode cX7_addDigits 43 = .ok (.iinc 4 1, 3) := by decide +kernel
theorem dX7_addDigits_46 : decode cX7_addDigits 46 = .ok (.goto (-25), 3) := by decide +kernel
theorem dX7_addDigits_49 : decode cX7_addDigits 49 = .ok (.aload_n 0, 1) := by decide +kernel
theorem dX7_addDigits_50 : decode cX7_addDigits 50 = .ok (.iconst 4, 1) := by decide +kernel
theorem dX7_addDigits_51 : decode cX7_addDigits 51 = .ok (.iload_n 3, 1) := by decide +kernel
theorem dX7_addDigits_52 : decode cX7_addDigits 52 = .ok (.iload_n 1, 1) := by decide +kernel
theorem dX7_addDigits_53 : decode cX7_addDigits 53 = .ok (.iload_n 2, 1) := by decide +kernel
theorem dX7_addDigits_54 : decode cX7_addDigits 54 = .ok (.invokevirtual 52, 3) := by decide +kernel
theorem dX7_addDigits_57 : decode cX7_addDigits 57 = .ok (.return_, 1) := by decide +kernel
theorem dX7_add_0 : decode cX7_add 0 = .ok (.aload_n 0, 1) := by decide +kernel
theorem dX7_add_1 : decode cX7_add 1 = .ok (.getfield 41, 3) := by decide +kernel
theorem dX7_add_4 : decode cX7_add 4 = .ok (.sipush 600, 3) := by decide +kernel
theorem dX7_add_7 : decode cX7_add 7 = .ok (.if_icmp .gt 54, 3) := by decide +kernel
theorem dX7_add_10 : decode cX7_add 10 = .ok (.aload_n 0, 1) := by decide +kernel
theorem dX7_add_11 : decode cX7_add 11 = .ok (.getfield 9, 3) := by decide +kernel
theorem dX7_add_14 : decode cX7_add 14 = .ok (.aload_n 0, 1) := by decide +kernel
theorem dX7_add_15 : decode cX7_add 15 = .ok (.getfield 41, 3) := by decide +kernel
theorem dX7_add_18 : decode cX7_add 18 = .ok (.iload_n 1, 1) := by decide +kernel
theorem dX7_add_19 : decode cX7_add 19 = .ok (.iastore, 1) := by decide +kernel
theorem dX7_add_20 : decode cX7_add 20 = .ok (.aload_n 0, 1) := by decide +kernel
theorem dX7_add_21 : decode cX7_add 21 = .ok (.getfield 15, 3) := by decide +kernel
theorem dX7_add_24 : decode cX7_add 24 = .ok (.aload_n 0, 1) := by decide +kernel
theorem dX7_add_25 : decode cX7_add 25 = .ok (.getfield 41, 3) := by decide +kernel
theorem dX7_add_28 : decode cX7_add 28 = .ok (.iload_n 2, 1) := by decide +kernel
theorem dX7_add_29 : decode cX7_add 29 = .ok (.iastore, 1) := by decide +kernel
theorem dX7_add_30 : decode cX7_add 30 = .ok (.aload_n 0, 1) := by decide +kernel
theorem dX7_add_31 : decode cX7_add 31 = .ok (.getfield 18, 3) := by decide +kernel
theorem dX7_add_34 : decode cX7_add 34 = .ok (.aload_n 0, 1) := by decide +kernel
theorem dX7_add_35 : decode cX7_add 35 = .ok (.getfield 41, 3) := by decide +kernel
theorem dX7_add_38 : decode cX7_add 38 = .ok (.iload_n 3, 1) := by decide +kernel
theorem dX7_add_39 : decode cX7_add 39 = .ok (.iastore, 1) := by decide +kernel
theorem dX7_add_40 : decode cX7_add 40 = .ok (.aload_n 0, 1) := by decide +kernel
theorem dX7_add_41 : decode cX7_add 41 = .ok (.getfield 21, 3) := by decide +kernel
theorem dX7_add_44 : decode cX7_add 44 = .ok (.aload_n 0, 1) := by decide +kernel
theorem dX7_add_45 : decode cX7_add 45 = .ok (.getfield 41, 3) := by decide +kernel
theorem dX7_add_48 : decode cX7_add 48 = .ok (.iload 4, 2) := by decide +kernel
theorem dX7_add_50 : decode cX7_add 50 = .ok (.iastore, 1) := by decide +kernel
theorem dX7_add_51 : decode cX7_add 51 = .ok (.aload_n 0, 1) := by decide +kernel
theorem dX7_add_52 : decode cX7_add 52 = .ok (.dup, 1) := by decide +kernel
theorem dX7_add_53 : decode cX7_add 53 = .ok (.getfield 41, 3) := by decide +kernel
theorem dX7_add_56 : decode cX7_add 56 = .ok (.iconst 1, 1) := by decide +kernel
theorem dX7_add_57 : decode cX7_add 57 = .ok (.iadd, 1) := by decide +kernel
theorem dX7_add_58 : decode cX7_add 58 = .ok (.putfield 41, 3) := by decide +kernel
theorem dX7_add_61 : decode cX7_add 61 = .ok (.return_, 1) := by decide +kernel
theorem dX7_wordNumber_0 : decode cX7_wordNumber 0 = .ok (.iconst 0, 1) := by decide +kernel
theorem dX7_wordNumber_1 : decode cX7_wordNumber 1 = .ok (.istore_n 3, 1) := by decide +kernel
theorem dX7_wordNumber_2 : decode cX7_wordNumber 2 = .ok (.iconst 0, 1) := by decide +kernel
theorem dX7_wordNumber_3 : decode cX7_wordNumber 3 = .ok (.istore 4, 2) := by decide +kernel
theorem dX7_wordNumber_5 : decode cX7_wordNumber 5 = .ok (.iconst 0, 1) := by decide +kernel
theorem dX7_wordNumber_6 : decode cX7_wordNumber 6 = .ok (.istore 5, 2) := by decide +kernel
theorem dX7_wordNumber_8 : decode cX7_wordNumber 8 = .ok (.iload 5, 2) := by decide +kernel
theorem dX7_wordNumber_10 : decode cX7_wordNumber 10 = .ok (.ldc 78, 2) := by decide +kernel
theorem dX7_wordNumber_12 : decode cX7_wordNumber 12 = .ok (.invokevirtual 80, 3) := by decide +kernel
theorem dX7_wordNumber_15 : decode cX7_wordNumber 15 = .ok (.if_icmp .ge 54, 3) := by decide +kernel
theorem dX7_wordNumber_18 : decode cX7_wordNumber 18 = .ok (.ldc 78, 2) := by decide +kernel
theorem dX7_wordNumber_20 : decode cX7_wordNumber 20 = .ok (.iload 5, 2) := by decide +kernel
theorem dX7_wordNumber_22 : decode cX7_wordNumber 22 = .ok (.invokevirtual 85, 3) := by decide +kernel
theorem dX7_wordNumber_25 : decode cX7_wordNumber 25 = .ok (.bipush 32, 2) := by decide +kernel
theorem dX7_wordNumber_27 : decode cX7_wordNumber 27 = .ok (.if_icmp .ne 36, 3) := by decide +kernel
theorem dX7_wordNumber_30 : decode cX7_wordNumber 30 = .ok (.iload 5, 2) := by decide +kernel
theorem dX7_wordNumber_32 : decode cX7_wordNumber 32 = .ok (.iload 4, 2) := by decide +kernel
theorem dX7_wordNumber_34 : decode cX7_wordNumber 34 = .ok (.isub, 1) := by decide +kernel
theorem dX7_wordNumber_35 : decode cX7_wordNumber 35 = .ok (.iload_n 2, 1) := by decide +kernel
theorem dX7_wordNumber_36 : decode cX7_wordNumber 36 = .ok (.iload_n 1, 1) := by decide +kernel
theorem dX7_wordNumber_37 : decode cX7_wordNumber 37 = .ok (.isub, 1) := by decide +kernel
theorem dX7_wordNumber_38 : decode cX7_wordNumber 38 = .ok (.if_icmp .ne 16, 3) := by decide +kernel
theorem dX7_wordNumber_41 : decode cX7_wordNumber 41 = .ok (.aload_n 0, 1) := by decide +kernel
theorem dX7_wordNumber_42 : decode cX7_wordNumber 42 = .ok (.iload 4, 2) := by decide +kernel
theorem dX7_wordNumber_44 : decode cX7_wordNumber 44 = .ok (.iload_n 1, 1) := by decide +kernel
theorem dX7_wordNumber_45 : decode cX7_wordNumber 45 = .ok (.iload_n 2, 1) := by decide +kernel
theorem dX7_wordNumber_46 : decode cX7_wordNumber 46 = .ok (.invokevirtual 89, 3) := by decide +kernel
theorem dX7_wordNumber_49 : decode cX7_wordNumber 49 = .ok (.ifCond .eq 5, 3) := by decide +kernel
theorem dX7_wordNumber_52 : decode cX7_wordNumber 52 = .ok (.iload_n 3, 1) := by decide +kernel
theorem dX7_wordNumber_53 : decode cX7_wordNumber 53 = .ok (.ireturn, 1) := by decide +kernel
theorem dX7_wordNumber_54 : decode cX7_wordNumber 54 = .ok (.iinc 3 1, 3) := by decide +kernel
theorem dX7_wordNumber_57 : decode cX7_wordNumber 57 = .ok (.iload 5, 2) := by decide +kernel
theorem dX7_wordNumber_59 : decode cX7_wordNumber 59 = .ok (.iconst 1, 1) := by decide +kernel
theorem dX7_wordNumber_60 : decode cX7_wordNumber 60 = .ok (.iadd, 1) := by decide +kernel
theorem dX7_wordNumber_61 : decode cX7_wordNumber 61 = .ok (.istore 4, 2) := by decide +kernel
theorem dX7_wordNumber_63 : decode cX7_wordNumber 63 = .ok (.iinc 5 1, 3) := by decide +kernel
theorem dX7_wordNumber_66 : decode cX7_wordNumber 66 = .ok (.goto (-58), 3) := by decide +kernel
theorem dX7_wordNumber_69 : decode cX7_wordNumber 69 = .ok (.iconst (-1), 1) := by decide +kernel
theorem dX7_wordNumber_70 : decode cX7_wordNumber 70 = .ok (.ireturn, 1) := by decide +kernel
theorem dX7_isWordAt_0 : decode cX7_isWordAt 0 = .ok (.iload_n 2, 1) := by decide +kernel
theorem dX7_isWordAt_1 : decode cX7_isWordAt 1 = .ok (.istore 4, 2) := by decide +kernel
theorem dX7_isWordAt_3 : decode cX7_isWordAt 3 = .ok (.iload 4, 2) := by decide +kernel
theorem dX7_isWordAt_5 : decode cX7_isWordAt 5 = .ok (.iload_n 3, 1) := by decide +kernel
theorem dX7_isWordAt_6 : decode cX7_isWordAt 6 = .ok (.if_icmp .ge 32, 3) := by decide +kernel
theorem dX7_isWordAt_9 : decode cX7_isWordAt 9 = .ok (.ldc 78, 2) := by decide +kernel
theorem dX7_isWordAt_11 : decode cX7_isWordAt 11 = .ok (.iload_n 1, 1) := by decide +kernel
theorem dX7_isWordAt_12 : decode cX7_isWordAt 12 = .ok (.iload 4, 2) := by decide +kernel
theorem dX7_isWordAt_14 : decode cX7_isWordAt 14 = .ok (.iadd, 1) := by decide +kernel
theorem dX7_isWordAt_15 : decode cX7_isWordAt 15 = .ok (.iload_n 2, 1) := by decide +kernel
theorem dX7_isWordAt_16 : decode cX7_isWordAt 16 = .ok (.isub, 1) := by decide +kernel
theorem dX7_isWordAt_17 : decode cX7_isWordAt 17 = .ok (.invokevirtual 85, 3) := by decide +kernel
theorem dX7_isWordAt_20 : decode cX7_isWordAt 20 = .ok (.aload_n 0, 1) := by decide +kernel
theorem dX7_isWordAt_21 : decode cX7_isWordAt 21 = .ok (.getfield 24, 3) := by decide +kernel
theorem dX7_isWordAt_24 : decode cX7_isWordAt 24 = .ok (.iload 4, 2) := by decide +kernel
theorem dX7_isWordAt_26 : decode cX7_isWordAt 26 = .ok (.baload, 1) := by decide +kernel
theorem dX7_isWordAt_27 : decode cX7_isWordAt 27 = .ok (.if_icmp .eq 5, 3) := by decide +kernel
theorem dX7_isWordAt_30 : decode cX7_isWordAt 30 = .ok (.iconst 0, 1) := by decide +kernel
theorem dX7_isWordAt_31 : decode cX7_isWordAt 31 = .ok (.ireturn, 1) := by decide +kernel
theorem dX7_isWordAt_32 : decode cX7_isWordAt 32 = .ok (.iinc 4 1, 3) := by decide +kernel
theorem dX7_isWordAt_35 : decode cX7_isWordAt 35 = .ok (.goto (-32), 3) := by decide +kernel
theorem dX7_isWordAt_38 : decode cX7_isWordAt 38 = .ok (.iconst 1, 1) := by decide +kernel
theorem dX7_isWordAt_39 : decode cX7_isWordAt 39 = .ok (.ireturn, 1) := by decide +kernel
theorem dX7_isSame_0 : decode cX7_isSame 0 = .ok (.aload_n 0, 1) := by decide +kernel
theorem dX7_isSame_1 : decode cX7_isSame 1 = .ok (.getfield 21, 3) := by decide +kernel
theorem dX7_isSame_4 : decode cX7_isSame 4 = .ok (.iload_n 1, 1) := by decide +kernel
theorem dX7_isSame_5 : decode cX7_isSame 5 = .ok (.iaload, 1) := by decide +kernel
theorem dX7_isSame_6 : decode cX7_isSame 6 = .ok (.aload_n 0, 1) := by decide +kernel
theorem dX7_isSame_7 : decode cX7_isSame 7 = .ok (.getfield 18, 3) := by decide +kernel
theorem dX7_isSame_10 : decode cX7_isSame 10 = .ok (.iload_n 1, 1) := by decide +kernel
theorem dX7_isSame_11 : decode cX7_isSame 11 = .ok (.iaload, 1) := by decide +kernel
theorem dX7_isSame_12 : decode cX7_isSame 12 = .ok (.isub, 1) := by decide +kernel
theorem dX7_isSame_13 : decode cX7_isSame 13 = .ok (.istore_n 3, 1) := by decide +kernel
theorem dX7_isSame_14 : decode cX7_isSame 14 = .ok (.iload_n 3, 1) := by decide +kernel
theorem dX7_isSame_15 : decode cX7_isSame 15 = .ok (.aload_n 0, 1) := by decide +kernel
theorem dX7_isSame_16 : decode cX7_isSame 16 = .ok (.getfield 21, 3) := by decide +kernel
theorem dX7_isSame_19 : decode cX7_isSame 19 = .ok (.iload_n 2, 1) := by decide +kernel
theorem dX7_isSame_20 : decode cX7_isSame 20 = .ok (.iaload, 1) := by decide +kernel
theorem dX7_isSame_21 : decode cX7_isSame 21 = .ok (.aload_n 0, 1) := by decide +kernel
theorem dX7_isSame_22 : decode cX7_isSame 22 = .ok (.getfield 18, 3) := by decide +kernel
theorem dX7_isSame_25 : decode cX7_isSame 25 = .ok (.iload_n 2, 1) := by decide +kernel
theorem dX7_isSame_26 : decode cX7_isSame 26 = .ok (.iaload, 1) := by decide +kernel
theorem dX7_isSame_27 : decode cX7_isSame 27 = .ok (.isub, 1) := by decide +kernel
theorem dX7_isSame_28 : decode cX7_isSame 28 = .ok (.if_icmp .eq 5, 3) := by decide +kernel
theorem dX7_isSame_31 : decode cX7_isSame 31 = .ok (.iconst 0, 1) := by decide +kernel
theorem dX7_isSame_32 : decode cX7_isSame 32 = .ok (.ireturn, 1) := by decide +kernel
theorem dX7_isSame_33 : decode cX7_isSame 33 = .ok (.iconst 0, 1) := by decide +kernel
theorem dX7_isSame_34 : decode cX7_isSame 34 = .ok (.istore 4, 2) := by decide +kernel
theorem dX7_isSame_36 : decode cX7_isSame 36 = .ok (.iload 4, 2) := by decide +kernel
theorem dX7_isSame_38 : decode cX7_isSame 38 = .ok (.iload_n 3, 1) := by decide +kernel
theorem dX7_isSame_39 : decode cX7_isSame 39 = .ok (.if_icmp .ge 42, 3) := by decide +kernel
theorem dX7_isSame_42 : decode cX7_isSame 42 = .ok (.aload_n 0, 1) := by decide +kernel
theorem dX7_isSame_43 : decode cX7_isSame 43 = .ok (.getfield 24, 3) := by decide +kernel
theorem dX7_isSame_46 : decode cX7_isSame 46 = .ok (.aload_n 0, 1) := by decide +kernel
theorem dX7_isSame_47 : decode cX7_isSame 47 = .ok (.getfield 18, 3) := by decide +kernel
theorem dX7_isSame_50 : decode cX7_isSame 50 = .ok (.iload_n 1, 1) := by decide +kernel
theorem dX7_isSame_51 : decode cX7_isSame 51 = .ok (.iaload, 1) := by decide +kernel
theorem dX7_isSame_52 : decode cX7_isSame 52 = .ok (.iload 4, 2) := by decide +kernel
theorem dX7_isSame_54 : decode cX7_isSame 54 = .ok (.iadd, 1) := by decide +kernel
theorem dX7_isSame_55 : decode cX7_isSame 55 = .ok (.baload, 1) := by decide +kernel
theorem dX7_isSame_56 : decode cX7_isSame 56 = .ok (.aload_n 0, 1) := by decide +kernel
theorem dX7_isSame_57 : decode cX7_isSame 57 = .ok (.getfield 24, 3) := by decide +kernel
theorem dX7_isSame_60 : decode cX7_isSame 60 = .ok (.aload_n 0, 1) := by decide +kernel
theorem dX7_isSame_61 : decode cX7_isSame 61 = .ok (.getfield 18, 3) := by decide +kernel
theorem dX7_isSame_64 : decode cX7_isSame 64 = .ok (.iload_n 2, 1) := by decide +kernel
theorem dX7_isSame_65 : decode cX7_isSame 65 = .ok (.iaload, 1) := by decide +kernel
theorem dX7_isSame_66 : decode cX7_isSame 66 = .ok (.iload 4, 2) := by decide +kernel
theorem dX7_isSame_68 : decode cX7_isSame 68 = .ok (.iadd, 1) := by decide +kernel
theorem dX7_isSame_69 : decode cX7_isSame 69 = .ok (.baload, 1) := by decide +kernel
theorem dX7_isSame_70 : decode cX7_isSame 70 = .ok (.if_icmp .eq 5, 3) := by decide +kernel
theorem dX7_isSame_73 : decode cX7_isSame 73 = .ok (.iconst 0, 1) := by decide +kernel
theorem dX7_isSame_74 : decode cX7_isSame 74 = .ok (.ireturn, 1) := by decide +kernel
theorem dX7_isSame_75 : decode cX7_isSame 75 = .ok (.iinc 4 1, 3) := by decide +kernel
theorem dX7_isSame_78 : decode cX7_isSame 78 = .ok (.goto (-42), 3) := by decide +kernel
theorem dX7_isSame_81 : decode cX7_isSame 81 = .ok (.iconst 1, 1) := by decide +kernel
theorem dX7_isSame_82 : decode cX7_isSame 82 = .ok (.ireturn, 1) := by decide +kernel
theorem dX7_isBlank_0 : decode cX7_isBlank 0 = .ok (.iload_n 0, 1) := by decide +kernel
theorem dX7_isBlank_1 : decode cX7_isBlank 1 = .ok (.bipush 10, 2) := by decide +kernel
theorem dX7_isBlank_3 : decode cX7_isBlank 3 = .ok (.if_icmp .eq 9, 3) := by decide +kernel
theorem dX7_isBlank_6 : decode cX7_isBlank 6 = .ok (.iload_n 0, 1) := by decide +kernel
theorem dX7_isBlank_7 : decode cX7_isBlank 7 = .ok (.bipush 32, 2) := by decide +kernel
theorem dX7_isBlank_9 : decode cX7_isBlank 9 = .ok (.if_icmp .ne 7, 3) := by decide +kernel
theorem dX7_isBlank_12 : decode cX7_isBlank 12 = .ok (.iconst 1, 1) := by decide +kernel
theorem dX7_isBlank_13 : decode cX7_isBlank 13 = .ok (.goto 4, 3) := by decide +kernel
theorem dX7_isBlank_16 : decode cX7_isBlank 16 = .ok (.iconst 0, 1) := by decide +kernel
theorem dX7_isBlank_17 : decode cX7_isBlank 17 = .ok (.ireturn, 1) := by decide +kernel
theorem dX7_isLetter_0 : decode cX7_isLetter 0 = .ok (.iload_n 0, 1) := by decide +kernel
theorem dX7_isLetter_1 : decode cX7_isLetter 1 = .ok (.bipush 97, 2) := by decide +kernel
theorem dX7_isLetter_3 : decode cX7_isLetter 3 = .ok (.if_icmp .lt 13, 3) := by decide +kernel
theorem dX7_isLetter_6 : decode cX7_isLetter 6 = .ok (.iload_n 0, 1) := by decide +kernel
theorem dX7_isLetter_7 : decode cX7_isLetter 7 = .ok (.bipush 122, 2) := by decide +kernel
theorem dX7_isLetter_9 : decode cX7_isLetter 9 = .ok (.if_icmp .gt 7, 3) := by decide +kernel
theorem dX7_isLetter_12 : decode cX7_isLetter 12 = .ok (.iconst 1, 1) := by decide +kernel
theorem dX7_isLetter_13 : decode cX7_isLetter 13 = .ok (.goto 4, 3) := by decide +kernel
theorem dX7_isLetter_16 : decode cX7_isLetter 16 = .ok (.iconst 0, 1) := by decide +kernel
theorem dX7_isLetter_17 : decode cX7_isLetter 17 = .ok (.ireturn, 1) := by decide +kernel
theorem dX7_isDigit_0 : decode cX7_isDigit 0 = .ok (.iload_n 0, 1) := by decide +kernel
theorem dX7_isDigit_1 : decode cX7_isDigit 1 = .ok (.bipush 48, 2) := by decide +kernel
theorem dX7_isDigit_3 : decode cX7_isDigit 3 = .ok (.if_icmp .lt 13, 3) := by decide +kernel
theorem dX7_isDigit_6 : decode cX7_isDigit 6 = .ok (.iload_n 0, 1) := by decide +kernel
theorem dX7_isDigit_7 : decode cX7_isDigit 7 = .ok (.bipush 57, 2) := by decide +kernel
theorem dX7_isDigit_9 : decode cX7_isDigit 9 = .ok (.if_icmp .gt 7, 3) := by decide +kernel
theorem dX7_isDigit_12 : decode cX7_isDigit 12 = .ok (.iconst 1, 1) := by decide +kernel
theorem dX7_isDigit_13 : decode cX7_isDigit 13 = .ok (.goto 4, 3) := by decide +kernel
theorem dX7_isDigit_16 : decode cX7_isDigit 16 = .ok (.iconst 0, 1) := by decide +kernel
theorem dX7_isDigit_17 : decode cX7_isDigit 17 = .ok (.ireturn, 1) := by decide +kernel
theorem dX7_isSign_0 : decode cX7_isSign 0 = .ok (.iload_n 0, 1) := by decide +kernel
theorem dX7_isSign_1 : decode cX7_isSign 1 = .ok (.bipush 59, 2) := by decide +kernel
theorem dX7_isSign_3 : decode cX7_isSign 3 = .ok (.if_icmp .eq 27, 3) := by decide +kernel
theorem dX7_isSign_6 : decode cX7_isSign 6 = .ok (.iload_n 0, 1) := by decide +kernel
theorem dX7_isSign_7 : decode cX7_isSign 7 = .ok (.bipush 58, 2) := by decide +kernel
theorem dX7_isSign_9 : decode cX7_isSign 9 = .ok (.if_icmp .eq 21, 3) := by decide +kernel
theorem dX7_isSign_12 : decode cX7_isSign 12 = .ok (.iload_n 0, 1) := by decide +kernel
theorem dX7_isSign_13 : decode cX7_isSign 13 = .ok (.bipush 60, 2) := by decide +kernel
theorem dX7_isSign_15 : decode cX7_isSign 15 = .ok (.if_icmp .eq 15, 3) := by decide +kernel
theorem dX7_isSign_18 : decode cX7_isSign 18 = .ok (.iload_n 0, 1) := by decide +kernel
theorem dX7_isSign_19 : decode cX7_isSign 19 = .ok (.bipush 61, 2) := by decide +kernel
theorem dX7_isSign_21 : decode cX7_isSign 21 = .ok (.if_icmp .eq 9, 3) := by decide +kernel
theorem dX7_isSign_24 : decode cX7_isSign 24 = .ok (.iload_n 0, 1) := by decide +kernel
theorem dX7_isSign_25 : decode cX7_isSign 25 = .ok (.bipush 62, 2) := by decide +kernel
theorem dX7_isSign_27 : decode cX7_isSign 27 = .ok (.if_icmp .ne 7, 3) := by decide +kernel
theorem dX7_isSign_30 : decode cX7_isSign 30 = .ok (.iconst 1, 1) := by decide +kernel
theorem dX7_isSign_31 : decode cX7_isSign 31 = .ok (.goto 4, 3) := by decide +kernel
theorem dX7_isSign_34 : decode cX7_isSign 34 = .ok (.iconst 0, 1) := by decide +kernel
theorem dX7_isSign_35 : decode cX7_isSign 35 = .ok (.ireturn, 1) := by decide +kernel
theorem dX8_init_0 : decode cX8_init 0 = .ok (.aload_n 0, 1) := by decide +kernel
theorem dX8_init_1 : decode cX8_init 1 = .ok (.invokespecial 3, 3) := by decide +kernel
theorem dX8_init_4 : decode cX8_init 4 = .ok (.aload_n 0, 1) := by decide +kernel
theorem dX8_init_5 : decode cX8_init 5 = .ok (.sipush 600, 3) := by decide +kernel
theorem dX8_init_8 : decode cX8_init 8 = .ok (.newarray .byte, 2) := by decide +kernel
theorem dX8_init_10 : decode cX8_init 10 = .ok (.putfield 9, 3) := by decide +kernel
theorem dX8_init_13 : decode cX8_init 13 = .ok (.aload_n 0, 1) := by decide +kernel
theorem dX8_init_14 : decode cX8_init 14 = .ok (.iconst (-1), 1) := by decide +kernel
theorem dX8_init_15 : decode cX8_init 15 = .ok (.putfield 15, 3) := by decide +kernel
theorem dX8_init_18 : decode cX8_init 18 = .ok (.aload_n 0, 1) := by decide +kernel
theorem dX8_init_19 : decode cX8_init 19 = .ok (.new 19, 3) := by decide +kernel
theorem dX8_init_22 : decode cX8_init 22 = .ok (.dup, 1) := by decide +kernel
theorem dX8_init_23 : decode cX8_init 23 = .ok (.invokespecial 21, 3) := by decide +kernel
theorem dX8_init_26 : decode cX8_init 26 = .ok (.putfield 22, 3) := by decide +kernel
theorem dX8_init_29 : decode cX8_init 29 = .ok (.return_, 1) := by decide +kernel
theorem dX8_append_0 : decode cX8_append 0 = .ok (.bipush 24, 2) := by decide +kernel
theorem dX8_append_2 : decode cX8_append 2 = .ok (.istore_n 2, 1) := by decide +kernel
theorem dX8_append_3 : decode cX8_append 3 = .ok (.iload_n 2, 1) := by decide +kernel
theorem dX8_append_4 : decode cX8_append 4 = .ok (.ifCond .lt 42, 3) := by decide +kernel
theorem dX8_append_7 : decode cX8_append 7 = .ok (.aload_n 0, 1) := by decide +kernel
theorem dX8_append_8 : decode cX8_append 8 = .ok (.getfield 26, 3) := by decide +kernel
theorem dX8_append_11 : decode cX8_append 11 = .ok (.sipush 600, 3) := by decide +kernel
theorem dX8_append_14 : decode cX8_append 14 = .ok (.if_icmp .ge 32, 3) := by decide +kernel
theorem dX8_append_17 : decode cX8_append 17 = .ok (.aload_n 0, 1) := by decide +kernel
theorem dX8_append_18 : decode cX8_append 18 = .ok (.getfield 9, 3) := by decide +kernel
theorem dX8_append_21 : decode cX8_append 21 = .ok (.aload_n 0, 1) := by decide +kernel
theorem dX8_append_22 : decode cX8_append 22 = .ok (.getfield 26, 3) := by decide +kernel
theorem dX8_append_25 : decode cX8_append 25 = .ok (.iload_n 1, 1) := by decide +kernel
theorem dX8_append_26 : decode cX8_append 26 = .ok (.iload_n 2, 1) := by decide +kernel
theorem dX8_append_27 : decode cX8_append 27 = .ok (.ishr, 1) := by decide +kernel
theorem dX8_append_28 : decode cX8_append 28 = .ok (.i2b, 1) := by decide +kernel
theorem dX8_append_29 : decode cX8_append 29 = .ok (.bastore, 1) := by decide +kernel
theorem dX8_append_30 : decode cX8_append 30 = .ok (.aload_n 0, 1) := by decide +kernel
theorem dX8_append_31 : decode cX8_append 31 = .ok (.dup, 1) := by decide +kernel
theorem dX8_append_32 : decode cX8_append 32 = .ok (.getfield 26, 3) := by decide +kernel
theorem dX8_append_35 : decode cX8_append 35 = .ok (.iconst 1, 1) := by decide +kernel
theorem dX8_append_36 : decode cX8_append 36 = .ok (.iadd, 1) := by decide +kernel
theorem dX8_append_37 : decode cX8_append 37 = .ok (.putfield 26, 3) := by decide +kernel
theorem dX8_append_40 : decode cX8_append 40 = .ok (.iinc 2 (-8), 3) := by decide +kernel
theorem dX8_append_43 : decode cX8_append 43 = .ok (.goto (-40), 3) := by decide +kernel
theorem dX8_append_46 : decode cX8_append 46 = .ok (.return_, 1) := by decide +kernel
theorem dX8_copyFrom_0 : decode cX8_copyFrom 0 = .ok (.aload_n 1, 1) := by decide +kernel
theorem dX8_copyFrom_1 : decode cX8_copyFrom 1 = .ok (.getfield 9, 3) := by decide +kernel
theorem dX8_copyFrom_4 : decode cX8_copyFrom 4 = .ok (.iconst 0, 1) := by decide +kernel
theorem dX8_copyFrom_5 : decode cX8_copyFrom 5 = .ok (.aload_n 0, 1) := by decide +kernel
theorem dX8_copyFrom_6 : decode cX8_copyFrom 6 = .ok (.getfield 9, 3) := by decide +kernel
theorem dX8_copyFrom_9 : decode cX8_copyFrom 9 = .ok (.iconst 0, 1) := by decide +kernel
theorem dX8_copyFrom_10 : decode cX8_copyFrom 10 = .ok (.sipush 600, 3) := by decide +kernel
theorem dX8_copyFrom_13 : decode cX8_copyFrom 13 = .ok (.invokestatic 29, 3) := by decide +kernel
theorem dX8_copyFrom_16 : decode cX8_copyFrom 16 = .ok (.aload_n 0, 1) := by decide +kernel
theorem dX8_copyFrom_17 : decode cX8_copyFrom 17 = .ok (.aload_n 1, 1) := by decide +kernel
theorem dX8_copyFrom_18 : decode cX8_copyFrom 18 = .ok (.getfield 26, 3) := by decide +kernel
theorem dX8_copyFrom_21 : decode cX8_copyFrom 21 = .ok (.putfield 26, 3) := by decide +kernel
theorem dX8_copyFrom_24 : decode cX8_copyFrom 24 = .ok (.aload_n 0, 1) := by decide +kernel
theorem dX8_copyFrom_25 : decode cX8_copyFrom 25 = .ok (.aload_n 1, 1) := by decide +kernel
theorem dX8_copyFrom_26 : decode cX8_copyFrom 26 = .ok (.getfield 35, 3) := by decide +kernel
theorem dX8_copyFrom_29 : decode cX8_copyFrom 29 = .ok (.putfield 35, 3) := by decide +kernel
theorem dX8_copyFrom_32 : decode cX8_copyFrom 32 = .ok (.aload_n 0, 1) := by decide +kernel
theorem dX8_copyFrom_33 : decode cX8_copyFrom 33 = .ok (.aload_n 1, 1) := by decide +kernel
theorem dX8_copyFrom_34 : decode cX8_copyFrom 34 = .ok (.getfield 15, 3) := by decide +kernel
theorem dX8_copyFrom_37 : decode cX8_copyFrom 37 = .ok (.putfield 15, 3) := by decide +kernel
theorem dX8_copyFrom_40 : decode cX8_copyFrom 40 = .ok (.aload_n 0, 1) := by decide +kernel
theorem dX8_copyFrom_41 : decode cX8_copyFrom 41 = .ok (.getfield 22, 3) := by decide +kernel
theorem dX8_copyFrom_44 : decode cX8_copyFrom 44 = .ok (.aload_n 1, 1) := by decide +kernel
theorem dX8_copyFrom_45 : decode cX8_copyFrom 45 = .ok (.getfield 22, 3) := by decide +kernel
theorem dX8_copyFrom_48 : decode cX8_copyFrom 48 = .ok (.invokevirtual 38, 3) := by decide +kernel
theorem dX8_copyFrom_51 : decode cX8_copyFrom 51 = .ok (.return_, 1) := by decide +kernel
theorem dX9_init_0 : decode cX9_init 0 = .ok (.aload_n 0, 1) := by decide +kernel
theorem dX9_init_1 : decode cX9_init 1 = .ok (.invokespecial 3, 3) := by decide +kernel
theorem dX9_init_4 : decode cX9_init 4 = .ok (.aload_n 0, 1) := by decide +kernel
theorem dX9_init_5 : decode cX9_init 5 = .ok (.new 9, 3) := by decide +kernel
theorem dX9_init_8 : decode cX9_init 8 = .ok (.dup, 1) := by decide +kernel
theorem dX9_init_9 : decode cX9_init 9 = .ok (.invokespecial 11, 3) := by decide +kernel
theorem dX9_init_12 : decode cX9_init 12 = .ok (.putfield 12, 3) := by decide +kernel
theorem dX9_init_15 : decode cX9_init 15 = .ok (.aload_n 0, 1) := by decide +kernel
theorem dX9_init_16 : decode cX9_init 16 = .ok (.iconst 3, 1) := by decide +kernel
theorem dX9_init_17 : decode cX9_init 17 = .ok (.anewarray 9, 3) := by decide +kernel
theorem dX9_init_20 : decode cX9_init 20 = .ok (.putfield 16, 3) := by decide +kernel
theorem dX9_init_23 : decode cX9_init 23 = .ok (.aload_n 0, 1) := by decide +kernel
theorem dX9_init_24 : decode cX9_init 24 = .ok (.iconst 3, 1) := by decide +kernel
theorem dX9_init_25 : decode cX9_init 25 = .ok (.newarray .boolean, 2) := by decide +kernel
theorem dX9_init_27 : decode cX9_init 27 = .ok (.putfield 20, 3) := by decide +kernel
theorem dX9_init_30 : decode cX9_init 30 = .ok (.aload_n 0, 1) := by decide +kernel
theorem dX9_init_31 : decode cX9_init 31 = .ok (.new 24, 3) := by decide +kernel
theorem dX9_init_34 : decode cX9_init 34 = .ok (.dup, 1) := by decide +kernel
theorem dX9_init_35 : decode cX9_init 35 = .ok (.invokespecial 26, 3) := by decide +kernel
theorem dX9_init_38 : decode cX9_init 38 = .ok (.putfield 27, 3) := by decide +kernel
theorem dX9_init_41 : decode cX9_init 41 = .ok (.aload_n 0, 1) := by decide +kernel
theorem dX9_init_42 : decode cX9_init 42 = .ok (.new 31, 3) := by decide +kernel
theorem dX9_init_45 : decode cX9_init 45 = .ok (.dup, 1) := by decide +kernel
theorem dX9_init_46 : decode cX9_init 46 = .ok (.invokespecial 33, 3) := by decide +kernel
theorem dX9_init_49 : decode cX9_init 49 = .ok (.putfield 34, 3) := by decide +kernel
theorem dX9_init_52 : decode cX9_init 52 = .ok (.aload_n 0, 1) := by decide +kernel
theorem dX9_init_53 : decode cX9_init 53 = .ok (.new 38, 3) := by decide +kernel
theorem dX9_init_56 : decode cX9_init 56 = .ok (.dup, 1) := by decide +kernel
theorem dX9_init_57 : decode cX9_init 57 = .ok (.invokespecial 40, 3) := by decide +kernel
theorem dX9_init_60 : decode cX9_init 60 = .ok (.putfield 41, 3) := by decide +kernel
theorem dX9_init_63 : decode cX9_init 63 = .ok (.aload_n 0, 1) := by decide +kernel
theorem dX9_init_64 : decode cX9_init 64 = .ok (.new 45, 3) := by decide +kernel
theorem dX9_init_67 : decode cX9_init 67 = .ok (.dup, 1) := by decide +kernel
theorem dX9_init_68 : decode cX9_init 68 = .ok (.invokespecial 47, 3) := by decide +kernel
theorem dX9_init_71 : decode cX9_init 71 = .ok (.putfield 48, 3) := by decide +kernel
theorem dX9_init_74 : decode cX9_init 74 = .ok (.iconst 0, 1) := by decide +kernel
theorem dX9_init_75 : decode cX9_init 75 = .ok (.istore_n 1, 1) := by decide +kernel
theorem dX9_init_76 : decode cX9_init 76 = .ok (.iload_n 1, 1) := by decide +kernel
theorem dX9_init_77 : decode cX9_init 77 = .ok (.iconst 3, 1) := by decide +kernel
theorem dX9_init_78 : decode cX9_init 78 = .ok (.if_icmp .ge 22, 3) := by decide +kernel
theorem dX9_init_81 : decode cX9_init 81 = .ok (.aload_n 0, 1) := by decide +kernel
theorem dX9_init_82 : decode cX9_init 82 = .ok (.getfield 16, 3) := by decide +kernel
theorem dX9_init_85 : decode cX9_init 85 = .ok (.iload_n 1, 1) := by decide +kernel
theorem dX9_init_86 : decode cX9_init 86 = .ok (.new 9, 3) := by decide +kernel
theorem dX9_init_89 : decode cX9_init 89 = .ok (.dup, 1) := by decide +kernel
theorem dX9_init_90 : decode cX9_init 90 = .ok (.invokespecial 11, 3) := by decide +kernel
theorem dX9_init_93 : decode cX9_init 93 = .ok (.aastore, 1) := by decide +kernel
theorem dX9_init_94 : decode cX9_init 94 = .ok (.iinc 1 1, 3) := by decide +kernel
theorem dX9_init_97 : decode cX9_init 97 = .ok (.goto (-21), 3) := by decide +kernel
theorem dX9_init_100 : decode cX9_init 100 = .ok (.aload_n 0, 1) := by decide +kernel
theorem dX9_init_101 : decode cX9_init 101 = .ok (.getfield 12, 3) := by decide +kernel
theorem dX9_init_104 : decode cX9_init 104 = .ok (.getfield 52, 3) := by decide +kernel
theorem dX9_init_107 : decode cX9_init 107 = .ok (.getfield 55, 3) := by decide +kernel
theorem dX9_init_110 : decode cX9_init 110 = .ok (.invokevirtual 59, 3) := by decide +kernel
theorem dX9_init_113 : decode cX9_init 113 = .ok (.return_, 1) := by decide +kernel
theorem dX9_feed_0 : decode cX9_feed 0 = .ok (.aload_n 0, 1) := by decide +kernel
theorem dX9_feed_1 : decode cX9_feed 1 = .ok (.getfield 12, 3) := by decide +kernel
theorem dX9_feed_4 : decode cX9_feed 4 = .ok (.getfield 64, 3) := by decide +kernel
theorem dX9_feed_7 : decode cX9_feed 7 = .ok (.bipush 20, 2) := by decide +kernel
theorem dX9_feed_9 : decode cX9_feed 9 = .ok (.iadd, 1) := by decide +kernel
theorem dX9_feed_10 : decode cX9_feed 10 = .ok (.sipush 600, 3) := by decide +kernel
theorem dX9_feed_13 : decode cX9_feed 13 = .ok (.if_icmp .le 5, 3) := by decide +kernel
theorem dX9_feed_16 : decode cX9_feed 16 = .ok (.iconst (-1), 1) := by decide +kernel
theorem dX9_feed_17 : decode cX9_feed 17 = .ok (.ireturn, 1) := by decide +kernel
theorem dX9_feed_18 : decode cX9_feed 18 = .ok (.aload_n 0, 1) := by decide +kernel
theorem dX9_feed_19 : decode cX9_feed 19 = .ok (.getfield 12, 3) := by decide +kernel
theorem dX9_feed_22 : decode cX9_feed 22 = .ok (.iload_n 1, 1) := by decide +kernel
theorem dX9_feed_23 : decode cX9_feed 23 = .ok (.invokevirtual 68, 3) := by decide +kernel
theorem dX9_feed_26 : decode cX9_feed 26 = .ok (.aload_n 0, 1) := by decide +kernel
theorem dX9_feed_27 : decode cX9_feed 27 = .ok (.getfield 12, 3) := by decide +kernel
theorem dX9_feed_30 : decode cX9_feed 30 = .ok (.iload_n 2, 1) := by decide +kernel
theorem dX9_feed_31 : decode cX9_feed 31 = .ok (.invokevirtual 68, 3) := by decide +kernel
theorem dX9_feed_34 : decode cX9_feed 34 = .ok (.aload_n 0, 1) := by decide +kernel
theorem dX9_feed_35 : decode cX9_feed 35 = .ok (.getfield 12, 3) := by decide +kernel
theorem dX9_feed_38 : decode cX9_feed 38 = .ok (.iload_n 3, 1) := by decide +kernel
theorem dX9_feed_39 : decode cX9_feed 39 = .ok (.invokevirtual 68, 3) := by decide +kernel
theorem dX9_feed_42 : decode cX9_feed 42 = .ok (.aload_n 0, 1) := by decide +kernel
theorem dX9_feed_43 : decode cX9_feed 43 = .ok (.getfield 12, 3) := by decide +kernel
theorem dX9_feed_46 : decode cX9_feed 46 = .ok (.iload 4, 2) := by decide +kernel
theorem dX9_feed_48 : decode cX9_feed 48 = .ok (.invokevirtual 68, 3) := by decide +kernel
theorem dX9_feed_51 : decode cX9_feed 51 = .ok (.aload_n 0, 1) := by decide +kernel
theorem dX9_feed_52 : decode cX9_feed 52 = .ok (.getfield 12, 3) := by decide +kernel
theorem dX9_feed_55 : decode cX9_feed 55 = .ok (.iload 5, 2) := by decide +kernel
theorem dX9_feed_57 : decode cX9_feed 57 = .ok (.invokevirtual 68, 3) := by decide +kernel
theorem dX9_feed_60 : decode cX9_feed 60 = .ok (.aload_n 0, 1) := by decide +kernel
theorem dX9_feed_61 : decode cX9_feed 61 = .ok (.getfield 12, 3) := by decide +kernel
theorem dX9_feed_64 : decode cX9_feed 64 = .ok (.getfield 64, 3) := by decide +kernel
theorem dX9_feed_67 : decode cX9_feed 67 = .ok (.ireturn, 1) := by decide +kernel
theorem dX9_end_0 : decode cX9_end 0 = .ok (.iload_n 1, 1) := by decide +kernel
theorem dX9_end_1 : decode cX9_end 1 = .ok (.ifCond .lt 14, 3) := by decide +kernel
theorem dX9_end_4 : decode cX9_end 4 = .ok (.iload_n 1, 1) := by decide +kernel
theorem dX9_end_5 : decode cX9_end 5 = .ok (.aload_n 0, 1) := by decide +kernel
theorem dX9_end_6 : decode cX9_end 6 = .ok (.getfield 12, 3) := by decide +kernel
theorem dX9_end_9 : decode cX9_end 9 = .ok (.getfield 64, 3) := by decide +kernel
theorem dX9_end_12 : decode cX9_end 12 = .ok (.if_icmp .le 5, 3) := by decide +kernel
theorem dX9_end_15 : decode cX9_end 15 = .ok (.iconst (-1), 1) := by decide +kernel
theorem dX9_end_16 : decode cX9_end 16 = .ok (.ireturn, 1) := by decide +kernel
theorem dX9_end_17 : decode cX9_end 17 = .ok (.aload_n 0, 1) := by decide +kernel
theorem dX9_end_18 : decode cX9_end 18 = .ok (.getfield 12, 3) := by decide +kernel
theorem dX9_end_21 : decode cX9_end 21 = .ok (.iload_n 1, 1) := by decide +kernel
theorem dX9_end_22 : decode cX9_end 22 = .ok (.putfield 64, 3) := by decide +kernel
theorem dX9_end_25 : decode cX9_end 25 = .ok (.iload_n 1, 1) := by decide +kernel
theorem dX9_end_26 : decode cX9_end 26 = .ok (.ireturn, 1) := by decide +kernel
theorem dX9_program_0 : decode cX9_program 0 = .ok (.aload_n 0, 1) := by decide +kernel
theorem dX9_program_1 : decode cX9_program 1 = .ok (.getfield 27, 3) := by decide +kernel
theorem dX9_program_4 : decode cX9_program 4 = .ok (.aload_n 0, 1) := by decide +kernel
theorem dX9_program_5 : decode cX9_program 5 = .ok (.getfield 12, 3) := by decide +kernel
theorem dX9_program_8 : decode cX9_program 8 = .ok (.getfield 72, 3) := by decide +kernel
theorem dX9_program_11 : decode cX9_program 11 = .ok (.aload_n 0, 1) := by decide +kernel
theorem dX9_program_12 : decode cX9_program 12 = .ok (.getfield 12, 3) := by decide +kernel
theorem dX9_program_15 : decode cX9_program 15 = .ok (.getfield 64, 3) := by decide +kernel
theorem dX9_program_18 : decode cX9_program 18 = .ok (.invokevirtual 76, 3) := by decide +kernel
theorem dX9_program_21 : decode cX9_program 21 = .ok (.aload_n 0, 1) := by decide +kernel
theorem dX9_program_22 : decode cX9_program 22 = .ok (.getfield 12, 3) := by decide +kernel
theorem dX9_program_25 : decode cX9_program 25 = .ok (.iconst 0, 1) := by decide +kernel
theorem dX9_program_26 : decode cX9_program 26 = .ok (.putfield 64, 3) := by decide +kernel
theorem dX9_program_29 : decode cX9_program 29 = .ok (.aload_n 0, 1) := by decide +kernel
theorem dX9_program_30 : decode cX9_program 30 = .ok (.getfield 12, 3) := by decide +kernel
theorem dX9_program_33 : decode cX9_program 33 = .ok (.aload_n 0, 1) := by decide +kernel
theorem dX9_program_34 : decode cX9_program 34 = .ok (.getfield 27, 3) := by decide +kernel
theorem dX9_program_37 : decode cX9_program 37 = .ok (.getfield 80, 3) := by decide +kernel
theorem dX9_program_40 : decode cX9_program 40 = .ok (.putfield 83, 3) := by decide +kernel
theorem dX9_program_43 : decode cX9_program 43 = .ok (.aload_n 0, 1) := by decide +kernel
theorem dX9_program_44 : decode cX9_program 44 = .ok (.getfield 12, 3) := by decide +kernel
theorem dX9_program_47 : decode cX9_program 47 = .ok (.aload_n 0, 1) := by decide +kernel
theorem dX9_program_48 : decode cX9_program 48 = .ok (.getfield 27, 3) := by decide +kernel
theorem dX9_program_51 : decode cX9_program 51 = .ok (.getfield 84, 3) := by decide +kernel
theorem dX9_program_54 : decode cX9_program 54 = .ok (.putfield 87, 3) := by decide +kernel
theorem dX9_program_57 : decode cX9_program 57 = .ok (.aload_n 0, 1) := by decide +kernel
theorem dX9_program_58 : decode cX9_program 58 = .ok (.getfield 27, 3) := by decide +kernel
theorem dX9_program_61 : decode cX9_program 61 = .ok (.getfield 80, 3) := by decide +kernel
theorem dX9_program_64 : decode cX9_program 64 = .ok (.ifCond .eq 5, 3) := by decide +kernel
theorem dX9_program_67 : decode cX9_program 67 = .ok (.iconst (-1), 1) := by decide +kernel
theorem dX9_program_68 : decode cX9_program 68 = .ok (.ireturn, 1) := by decide +kernel
theorem dX9_program_69 : decode cX9_program 69 = .ok (.aload_n 0, 1) := by decide +kernel
theorem dX9_program_70 : decode cX9_program 70 = .ok (.getfield 12, 3) := by decide +kernel
theorem dX9_program_73 : decode cX9_program 73 = .ok (.getfield 52, 3) := by decide +kernel
theorem dX9_program_76 : decode cX9_program 76 = .ok (.getfield 55, 3) := by decide +kernel
theorem dX9_program_79 : decode cX9_program 79 = .ok (.aload_n 0, 1) := by decide +kernel
theorem dX9_program_80 : decode cX9_program 80 = .ok (.getfield 27, 3) := by decide +kernel
theorem dX9_program_83 : decode cX9_program 83 = .ok (.getfield 88, 3) := by decide +kernel
theorem dX9_program_86 : decode cX9_program 86 = .ok (.invokevirtual 91, 3) := by decide +kernel
theorem dX9_program_89 : decode cX9_program 89 = .ok (.aload_n 0, 1) := by decide +kernel
theorem dX9_program_90 : decode cX9_program 90 = .ok (.getfield 12, 3) := by decide +kernel
theorem dX9_program_93 : decode cX9_program 93 = .ok (.getfield 52, 3) := by decide +kernel
theorem dX9_program_96 : decode cX9_program 96 = .ok (.getfield 55, 3) := by decide +kernel
theorem dX9_program_99 : decode cX9_program 99 = .ok (.invokevirtual 59, 3) := by decide +kernel
theorem dX9_program_102 : decode cX9_program 102 = .ok (.aload_n 0, 1) := by decide +kernel
theorem dX9_program_103 : decode cX9_program 103 = .ok (.getfield 12, 3) := by decide +kernel
theorem dX9_program_106 : decode cX9_program 106 = .ok (.getfield 52, 3) := by decide +kernel
theorem dX9_program_109 : decode cX9_program 109 = .ok (.invokevirtual 95, 3) := by decide +kernel
theorem dX9_program_112 : decode cX9_program 112 = .ok (.aload_n 0, 1) := by decide +kernel
theorem dX9_program_113 : decode cX9_program 113 = .ok (.getfield 12, 3) := by decide +kernel
theorem dX9_program_116 : decode cX9_program 116 = .ok (.getfield 52, 3) := by decide +kernel
theorem dX9_program_119 : decode cX9_program 119 = .ok (.getfield 55, 3) := by decide +kernel
theorem dX9_program_122 : decode cX9_program 122 = .ok (.getfield 98, 3) := by decide +kernel
theorem dX9_program_125 : decode cX9_program 125 = .ok (.ireturn, 1) := by decide +kernel
theorem dX9_fault_0 : decode cX9_fault 0 = .ok (.iload_n 1, 1) := by decide +kernel
theorem dX9_fault_1 : decode cX9_fault 1 = .ok (.lookupswitch 43 #[(0, 27), (1, 35)], 27) := by decide +kernel
theorem dX9_fault_28 : decode cX9_fault 28 = .ok (.aload_n 0, 1) := by decide +kernel
theorem dX9_fault_29 : decode cX9_fault 29 = .ok (.getfield 12, 3) := by decide +kernel
theorem dX9_fault_32 : decode cX9_fault 32 = .ok (.getfield 83, 3) := by decide +kernel
theorem dX9_fault_35 : decode cX9_fault 35 = .ok (.ireturn, 1) := by decide +kernel
theorem dX9_fault_36 : decode cX9_fault 36 = .ok (.aload_n 0, 1) := by decide +kernel
theorem dX9_fault_37 : decode cX9_fault 37 = .ok (.getfield 12, 3) := by decide +kernel
theorem dX9_fault_40 : decode cX9_fault 40 = .ok (.getfield 87, 3) := by decide +kernel
theorem dX9_fault_43 : decode cX9_fault 43 = .ok (.ireturn, 1) := by decide +kernel
theorem dX9_fault_44 : decode cX9_fault 44 = .ok (.iconst (-1), 1) := by decide +kernel
theorem dX9_fault_45 : decode cX9_fault 45 = .ok (.ireturn, 1) := by decide +kernel
theorem dX9_cycles_0 : decode cX9_cycles 0 = .ok (.iload_n 1, 1) := by decide +kernel
theorem dX9_cycles_1 : decode cX9_cycles 1 = .ok (.iconst 1, 1) := by decide +kernel
theorem dX9_cycles_2 : decode cX9_cycles 2 = .ok (.if_icmp .lt 9, 3) := by decide +kernel
theorem dX9_cycles_5 : decode cX9_cycles 5 = .ok (.iload_n 1, 1) := by decide +kernel
theorem dX9_cycles_6 : decode cX9_cycles 6 = .ok (.bipush 50, 2) := by decide +kernel
theorem dX9_cycles_8 : decode cX9_cycles 8 = .ok (.if_icmp .le 5, 3) := by decide +kernel
theorem dX9_cycles_11 : decode cX9_cycles 11 = .ok (.iconst (-1), 1) := by decide +kernel
theorem dX9_cycles_12 : decode cX9_cycles 12 = .ok (.ireturn, 1) := by decide +kernel
theorem dX9_cycles_13 : decode cX9_cycles 13 = .ok (.aload_n 0, 1) := by decide +kernel
theorem dX9_cycles_14 : decode cX9_cycles 14 = .ok (.getfield 12, 3) := by decide +kernel
theorem dX9_cycles_17 : decode cX9_cycles 17 = .ok (.getfield 52, 3) := by decide +kernel
theorem dX9_cycles_20 : decode cX9_cycles 20 = .ok (.iload_n 1, 1) := by decide +kernel
theorem dX9_cycles_21 : decode cX9_cycles 21 = .ok (.invokevirtual 101, 3) := by decide +kernel
theorem dX9_cycles_24 : decode cX9_cycles 24 = .ok (.ireturn, 1) := by decide +kernel
theorem dX9_begin_0 : decode cX9_begin 0 = .ok (.aload_n 0, 1) := by decide +kernel
theorem dX9_begin_1 : decode cX9_begin 1 = .ok (.getfield 12, 3) := by decide +kernel
theorem dX9_begin_4 : decode cX9_begin 4 = .ok (.getfield 52, 3) := by decide +kernel
theorem dX9_begin_7 : decode cX9_begin 7 = .ok (.invokevirtual 95, 3) := by decide +kernel
theorem dX9_begin_10 : decode cX9_begin 10 = .ok (.return_, 1) := by decide +kernel
theorem dX9_room_0 : decode cX9_room 0 = .ok (.iload_n 1, 1) := by decide +kernel
theorem dX9_room_1 : decode cX9_room 1 = .ok (.invokestatic 105, 3) := by decide +kernel
theorem dX9_room_4 : decode cX9_room 4 = .ok (.ifCond .eq 14, 3) := by decide +kernel
theorem dX9_room_7 : decode cX9_room 7 = .ok (.iload_n 2, 1) := by decide +kernel
theorem dX9_room_8 : decode cX9_room 8 = .ok (.iconst 1, 1) := by decide +kernel
theorem dX9_room_9 : decode cX9_room 9 = .ok (.if_icmp .lt 9, 3) := by decide +kernel
theorem dX9_room_12 : decode cX9_room 12 = .ok (.iload_n 2, 1) := by decide +kernel
theorem dX9_room_13 : decode cX9_room 13 = .ok (.bipush 6, 2) := by decide +kernel
theorem dX9_room_15 : decode cX9_room 15 = .ok (.if_icmp .le 5, 3) := by decide +kernel
theorem dX9_room_18 : decode cX9_room 18 = .ok (.iconst 0, 1) := by decide +kernel
theorem dX9_room_19 : decode cX9_room 19 = .ok (.ireturn, 1) := by decide +kernel
theorem dX9_room_20 : decode cX9_room 20 = .ok (.aload_n 0, 1) := by decide +kernel
theorem dX9_room_21 : decode cX9_room 21 = .ok (.getfield 12, 3) := by decide +kernel
theorem dX9_room_24 : decode cX9_room 24 = .ok (.getfield 52, 3) := by decide +kernel
theorem dX9_room_27 : decode cX9_room 27 = .ok (.getfield 109, 3) := by decide +kernel
theorem dX9_room_30 : decode cX9_room 30 = .ok (.iload_n 1, 1) := by decide +kernel
theorem dX9_room_31 : decode cX9_room 31 = .ok (.aaload, 1) := by decide +kernel
theorem dX9_room_32 : decode cX9_room 32 = .ok (.iload_n 2, 1) := by decide +kernel
theorem dX9_room_33 : decode cX9_room 33 = .ok (.putfield 113, 3) := by decide +kernel
theorem dX9_room_36 : decode cX9_room 36 = .ok (.iconst 1, 1) := by decide +kernel
theorem dX9_room_37 : decode cX9_room 37 = .ok (.ireturn, 1) := by decide +kernel
theorem dX9_count_0 : decode cX9_count 0 = .ok (.aload_n 0, 1) := by decide +kernel
theorem dX9_count_1 : decode cX9_count 1 = .ok (.aload_n 0, 1) := by decide +kernel
theorem dX9_count_2 : decode cX9_count 2 = .ok (.getfield 12, 3) := by decide +kernel
theorem dX9_count_5 : decode cX9_count 5 = .ok (.getfield 52, 3) := by decide +kernel
theorem dX9_count_8 : decode cX9_count 8 = .ok (.iload_n 1, 1) := by decide +kernel
theorem dX9_count_9 : decode cX9_count 9 = .ok (.invokevirtual 118, 3) := by decide +kernel
theorem dX9_count_12 : decode cX9_count 12 = .ok (.ireturn, 1) := by decide +kernel
theorem dX9_side_0 : decode cX9_side 0 = .ok (.iload_n 1, 1) := by decide +kernel
theorem dX9_side_1 : decode cX9_side 1 = .ok (.invokestatic 122, 3) := by decide +kernel
theorem dX9_side_4 : decode cX9_side 4 = .ok (.ifCond .ne 5, 3) := by decide +kernel
theorem dX9_side_7 : decode cX9_side 7 = .ok (.iconst (-1), 1) := by decide +kernel
theorem dX9_side_8 : decode cX9_side 8 = .ok (.ireturn, 1) := by decide +kernel
theorem dX9_side_9 : decode cX9_side 9 = .ok (.iload_n 2, 1) := by decide +kernel
theorem dX9_side_10 : decode cX9_side 10 = .ok (.ifCond .ne 18, 3) := by decide +kernel
theorem dX9_side_13 : decode cX9_side 13 = .ok (.aload_n 0, 1) := by decide +kernel
theorem dX9_side_14 : decode cX9_side 14 = .ok (.getfield 12, 3) := by decide +kernel
theorem dX9_side_17 : decode cX9_side 17 = .ok (.getfield 52, 3) := by decide +kernel
theorem dX9_side_20 : decode cX9_side 20 = .ok (.getfield 55, 3) := by decide +kernel
theorem dX9_side_23 : decode cX9_side 23 = .ok (.iload_n 1, 1) := by decide +kernel
theorem dX9_side_24 : decode cX9_side 24 = .ok (.invokevirtual 125, 3) := by decide +kernel
theorem dX9_side_27 : decode cX9_side 27 = .ok (.ireturn, 1) := by decide +kernel
theorem dX9_side_28 : decode cX9_side 28 = .ok (.aload_n 0, 1) := by decide +kernel
theorem dX9_side_29 : decode cX9_side 29 = .ok (.getfield 12, 3) := by decide +kernel
theorem dX9_side_32 : decode cX9_side 32 = .ok (.getfield 52, 3) := by decide +kernel
theorem dX9_side_35 : decode cX9_side 35 = .ok (.getfield 128, 3) := by decide +kernel
theorem dX9_side_38 : decode cX9_side 38 = .ok (.iload_n 1, 1) := by decide +kernel
theorem dX9_side_39 : decode cX9_side 39 = .ok (.aaload, 1) := by decide +kernel
theorem dX9_side_40 : decode cX9_side 40 = .ok (.iload_n 2, 1) := by decide +kernel
theorem dX9_side_41 : decode cX9_side 41 = .ok (.invokevirtual 132, 3) := by decide +kernel
theorem dX9_side_44 : decode cX9_side 44 = .ok (.ireturn, 1) := by decide +kernel
theorem dX9_deeds_0 : decode cX9_deeds 0 = .ok (.aload_n 0, 1) := by decide +kernel
theorem dX9_deeds_1 : decode cX9_deeds 1 = .ok (.getfield 12, 3) := by decide +kernel
theorem dX9_deeds_4 : decode cX9_deeds 4 = .ok (.getfield 52, 3) := by decide +kernel
theorem dX9_deeds_7 : decode cX9_deeds 7 = .ok (.getfield 55, 3) := by decide +kernel
theorem dX9_deeds_10 : decode cX9_deeds 10 = .ok (.iload_n 1, 1) := by decide +kernel
theorem dX9_deeds_11 : decode cX9_deeds 11 = .ok (.iload_n 2, 1) := by decide +kernel
theorem dX9_deeds_12 : decode cX9_deeds 12 = .ok (.invokevirtual 137, 3) := by decide +kernel
theorem dX9_deeds_15 : decode cX9_deeds 15 = .ok (.ireturn, 1) := by decide +kernel
theorem dX9_text_0 : decode cX9_text 0 = .ok (.aload_n 0, 1) := by decide +kernel
theorem dX9_text_1 : decode cX9_text 1 = .ok (.getfield 12, 3) := by decide +kernel
theorem dX9_text_4 : decode cX9_text 4 = .ok (.getfield 52, 3) := by decide +kernel
theorem dX9_text_7 : decode cX9_text 7 = .ok (.getfield 55, 3) := by decide +kernel
theorem dX9_text_10 : decode cX9_text 10 = .ok (.astore 5, 2) := by decide +kernel
theorem dX9_text_12 : decode cX9_text 12 = .ok (.aload 5, 2) := by decide +kernel
theorem dX9_text_14 : decode cX9_text 14 = .ok (.iload_n 1, 1) := by decide +kernel
theorem dX9_text_15 : decode cX9_text 15 = .ok (.iload_n 2, 1) := by decide +kernel
theorem dX9_text_16 : decode cX9_text 16 = .ok (.iload_n 3, 1) := by decide +kernel
theorem dX9_text_17 : decode cX9_text 17 = .ok (.invokevirtual 141, 3) := by decide +kernel
theorem dX9_text_20 : decode cX9_text 20 = .ok (.ifCond .ne 5, 3) := by decide +kernel
theorem dX9_text_23 : decode cX9_text 23 = .ok (.iconst (-1), 1) := by decide +kernel
theorem dX9_text_24 : decode cX9_text 24 = .ok (.ireturn, 1) := by decide +kernel
theorem dX9_text_25 : decode cX9_text 25 = .ok (.aload_n 0, 1) := by decide +kernel
theorem dX9_text_26 : decode cX9_text 26 = .ok (.getfield 48, 3) := by decide +kernel
theorem dX9_text_29 : decode cX9_text 29 = .ok (.iconst 0, 1) := by decide +kernel
theorem dX9_text_30 : decode cX9_text 30 = .ok (.invokevirtual 145, 3) := by decide +kernel
theorem dX9_text_33 : decode cX9_text 33 = .ok (.aload 5, 2) := by decide +kernel
theorem dX9_text_35 : decode cX9_text 35 = .ok (.aload_n 0, 1) := by decide +kernel
theorem dX9_text_36 : decode cX9_text 36 = .ok (.getfield 48, 3) := by decide +kernel
theorem dX9_text_39 : decode cX9_text 39 = .ok (.iload_n 1, 1) := by decide +kernel
theorem dX9_text_40 : decode cX9_text 40 = .ok (.iload_n 2, 1) := by decide +kernel
theorem dX9_text_41 : decode cX9_text 41 = .ok (.iload_n 3, 1) := by decide +kernel
theorem dX9_text_42 : decode cX9_text 42 = .ok (.invokevirtual 148, 3) := by decide +kernel
theorem dX9_text_45 : decode cX9_text 45 = .ok (.iload 4, 2) := by decide +kernel
theorem dX9_text_47 : decode cX9_text 47 = .ok (.ifCond .lt 15, 3) := by decide +kernel
theorem dX9_text_50 : decode cX9_text 50 = .ok (.iload 4, 2) := by decide +kernel
theorem dX9_text_52 : decode cX9_text 52 = .ok (.aload_n 0, 1) := by decide +kernel
theorem dX9_text_53 : decode cX9_text 53 = .ok (.getfield 48, 3) := by decide +kernel
theorem dX9_text_56 : decode cX9_text 56 = .ok (.invokevirtual 152, 3) := by decide +kernel
theorem dX9_text_59 : decode cX9_text 59 = .ok (.if_icmp .lt 7, 3) := by decide +kernel
theorem dX9_text_62 : decode cX9_text 62 = .ok (.iconst (-1), 1) := by decide +kernel
theorem dX9_text_63 : decode cX9_text 63 = .ok (.goto 12, 3) := by decide +kernel
theorem dX9_text_66 : decode cX9_text 66 = .ok (.aload_n 0, 1) := by decide +kernel
theorem dX9_text_67 : decode cX9_text 67 = .ok (.getfield 48, 3) := by decide +kernel
theorem dX9_text_70 : decode cX9_text 70 = .ok (.iload 4, 2) := by decide +kernel
theorem dX9_text_72 : decode cX9_text 72 = .ok (.invokevirtual 155, 3) := by decide +kernel
theorem dX9_text_75 : decode cX9_text 75 = .ok (.ireturn, 1) := by decide +kernel
theorem dX9_did_0 : decode cX9_did 0 = .ok (.aload_n 0, 1) := by decide +kernel
theorem dX9_did_1 : decode cX9_did 1 = .ok (.getfield 12, 3) := by decide +kernel
theorem dX9_did_4 : decode cX9_did 4 = .ok (.getfield 52, 3) := by decide +kernel
theorem dX9_did_7 : decode cX9_did 7 = .ok (.getfield 55, 3) := by decide +kernel
theorem dX9_did_10 : decode cX9_did 10 = .ok (.iload_n 1, 1) := by decide +kernel
theorem dX9_did_11 : decode cX9_did 11 = .ok (.iload_n 2, 1) := by decide +kernel
theorem dX9_did_12 : decode cX9_did 12 = .ok (.iload_n 3, 1) := by decide +kernel
theorem dX9_did_13 : decode cX9_did 13 = .ok (.invokevirtual 141, 3) := by decide +kernel
theorem dX9_did_16 : decode cX9_did 16 = .ok (.ifCond .ne 5, 3) := by decide +kernel
theorem dX9_did_19 : decode cX9_did 19 = .ok (.iconst (-1), 1) := by decide +kernel
theorem dX9_did_20 : decode cX9_did 20 = .ok (.ireturn, 1) := by decide +kernel
theorem dX9_did_21 : decode cX9_did 21 = .ok (.aload_n 0, 1) := by decide +kernel
theorem dX9_did_22 : decode cX9_did 22 = .ok (.getfield 12, 3) := by decide +kernel
theorem dX9_did_25 : decode cX9_did 25 = .ok (.getfield 52, 3) := by decide +kernel
theorem dX9_did_28 : decode cX9_did 28 = .ok (.getfield 128, 3) := by decide +kernel
theorem dX9_did_31 : decode cX9_did 31 = .ok (.iload_n 1, 1) := by decide +kernel
theorem dX9_did_32 : decode cX9_did 32 = .ok (.aaload, 1) := by decide +kernel
theorem dX9_did_33 : decode cX9_did 33 = .ok (.getfield 159, 3) := by decide +kernel
theorem dX9_did_36 : decode cX9_did 36 = .ok (.iload_n 2, 1) := by decide +kernel
theorem dX9_did_37 : decode cX9_did 37 = .ok (.iconst 2, 1) := by decide +kernel
theorem dX9_did_38 : decode cX9_did 38 = .ok (.imul, 1) := by decide +kernel
theorem dX9_did_39 : decode cX9_did 39 = .ok (.iload_n 3, 1) := by decide +kernel
theorem dX9_did_40 : decode cX9_did 40 = .ok (.iadd, 1) := by decide +kernel
theorem dX9_did_41 : decode cX9_did 41 = .ok (.iaload, 1) := by decide +kernel
theorem dX9_did_42 : decode cX9_did 42 = .ok (.ireturn, 1) := by decide +kernel
theorem dX9_queue_0 : decode cX9_queue 0 = .ok (.iload_n 1, 1) := by decide +kernel
theorem dX9_queue_1 : decode cX9_queue 1 = .ok (.invokestatic 105, 3) := by decide +kernel
theorem dX9_queue_4 : decode cX9_queue 4 = .ok (.ifCond .ne 6, 3) := by decide +kernel
theorem dX9_queue_7 : decode cX9_queue 7 = .ok (.bipush (-2), 2) := by decide +kernel
theorem dX9_queue_9 : decode cX9_queue 9 = .ok (.ireturn, 1) := by decide +kernel
theorem dX9_queue_10 : decode cX9_queue 10 = .ok (.aload_n 0, 1) := by decide +kernel
theorem dX9_queue_11 : decode cX9_queue 11 = .ok (.getfield 12, 3) := by decide +kernel
theorem dX9_queue_14 : decode cX9_queue 14 = .ok (.getfield 52, 3) := by decide +kernel
theorem dX9_queue_17 : decode cX9_queue 17 = .ok (.getfield 109, 3) := by decide +kernel
theorem dX9_queue_20 : decode cX9_queue 20 = .ok (.iload_n 1, 1) := by decide +kernel
theorem dX9_queue_21 : decode cX9_queue 21 = .ok (.aaload, 1) := by decide +kernel
theorem dX9_queue_22 : decode cX9_queue 22 = .ok (.astore_n 3, 1) := by decide +kernel
theorem dX9_queue_23 : decode cX9_queue 23 = .ok (.iload_n 2, 1) := by decide +kernel
theorem dX9_queue_24 : decode cX9_queue 24 = .ok (.iconst (-1), 1) := by decide +kernel
theorem dX9_queue_25 : decode cX9_queue 25 = .ok (.if_icmp .ne 10, 3) := by decide +kernel
theorem dX9_queue_28 : decode cX9_queue 28 = .ok (.aload_n 3, 1) := by decide +kernel
theorem dX9_queue_29 : decode cX9_queue 29 = .ok (.getfield 163, 3) := by decide +kernel
theorem dX9_queue_32 : decode cX9_queue 32 = .ok (.goto 8, 3) := by decide +kernel
theorem dX9_queue_35 : decode cX9_queue 35 = .ok (.aload_n 3, 1) := by decide +kernel
theorem dX9_queue_36 : decode cX9_queue 36 = .ok (.iload_n 2, 1) := by decide +kernel
theorem dX9_queue_37 : decode cX9_queue 37 = .ok (.invokevirtual 164, 3) := by decide +kernel
theorem dX9_queue_40 : decode cX9_queue 40 = .ok (.ireturn, 1) := by decide +kernel
theorem dX9_roomOf_0 : decode cX9_roomOf 0 = .ok (.iload_n 1, 1) := by decide +kernel
theorem dX9_roomOf_1 : decode cX9_roomOf 1 = .ok (.invokestatic 105, 3) := by decide +kernel
theorem dX9_roomOf_4 : decode cX9_roomOf 4 = .ok (.ifCond .eq 21, 3) := by decide +kernel
theorem dX9_roomOf_7 : decode cX9_roomOf 7 = .ok (.aload_n 0, 1) := by decide +kernel
theorem dX9_roomOf_8 : decode cX9_roomOf 8 = .ok (.getfield 12, 3) := by decide +kernel
theorem dX9_roomOf_11 : decode cX9_roomOf 11 = .ok (.getfield 52, 3) := by decide +kernel
theorem dX9_roomOf_14 : decode cX9_roomOf 14 = .ok (.getfield 109, 3) := by decide +kernel
theorem dX9_roomOf_17 : decode cX9_roomOf 17 = .ok (.iload_n 1, 1) := by decide +kernel
theorem dX9_roomOf_18 : decode cX9_roomOf 18 = .ok (.aaload, 1) := by decide +kernel
theorem dX9_roomOf_19 : decode cX9_roomOf 19 = .ok (.getfield 113, 3) := by decide +kernel
theorem dX9_roomOf_22 : decode cX9_roomOf 22 = .ok (.goto 4, 3) := by decide +kernel
theorem dX9_roomOf_25 : decode cX9_roomOf 25 = .ok (.iconst (-1), 1) := by decide +kernel
theorem dX9_roomOf_26 : decode cX9_roomOf 26 = .ok (.ireturn, 1) := by decide +kernel
theorem dX9_cell_0 : decode cX9_cell 0 = .ok (.iload_n 1, 1) := by decide +kernel
theorem dX9_cell_1 : decode cX9_cell 1 = .ok (.invokestatic 167, 3) := by decide +kernel
theorem dX9_cell_4 : decode cX9_cell 4 = .ok (.ifCond .eq 18, 3) := by decide +kernel
theorem dX9_cell_7 : decode cX9_cell 7 = .ok (.aload_n 0, 1) := by decide +kernel
theorem dX9_cell_8 : decode cX9_cell 8 = .ok (.getfield 12, 3) := by decide +kernel
theorem dX9_cell_11 : decode cX9_cell 11 = .ok (.getfield 52, 3) := by decide +kernel
theorem dX9_cell_14 : decode cX9_cell 14 = .ok (.getfield 170, 3) := by decide +kernel
theorem dX9_cell_17 : decode cX9_cell 17 = .ok (.iload_n 1, 1) := by decide +kernel
theorem dX9_cell_18 : decode cX9_cell 18 = .ok (.iaload, 1) := by decide +kernel
theorem dX9_cell_19 : decode cX9_cell 19 = .ok (.goto 4, 3) := by decide +kernel
theorem dX9_cell_22 : decode cX9_cell 22 = .ok (.iconst (-1), 1) := by decide +kernel
theorem dX9_cell_23 : decode cX9_cell 23 = .ok (.ireturn, 1) := by decide +kernel
theorem dX9_register_0 : decode cX9_register 0 = .ok (.iload_n 1, 1) := by decide +kernel
theorem dX9_register_1 : decode cX9_register 1 = .ok (.invokestatic 173, 3) := by decide +kernel
theorem dX9_register_4 : decode cX9_register 4 = .ok (.ifCond .eq 18, 3) := by decide +kernel
theorem dX9_register_7 : decode cX9_register 7 = .ok (.aload_n 0, 1) := by decide +kernel
theorem dX9_register_8 : decode cX9_register 8 = .ok (.getfield 12, 3) := by decide +kernel
theorem dX9_register_11 : decode cX9_register 11 = .ok (.getfield 52, 3) := by decide +kernel
theorem dX9_register_14 : decode cX9_register 14 = .ok (.getfield 176, 3) := by decide +kernel
theorem dX9_register_17 : decode cX9_register 17 = .ok (.iload_n 1, 1) := by decide +kernel
theorem dX9_register_18 : decode cX9_register 18 = .ok (.iaload, 1) := by decide +kernel
theorem dX9_register_19 : decode cX9_register 19 = .ok (.goto 4, 3) := by decide +kernel
theorem dX9_register_22 : decode cX9_register 22 = .ok (.iconst (-1), 1) := by decide +kernel
theorem dX9_register_23 : decode cX9_register 23 = .ok (.ireturn, 1) := by decide +kernel
theorem dX9_alone_0 : decode cX9_alone 0 = .ok (.iload_n 1, 1) := by decide +kernel
theorem dX9_alone_1 : decode cX9_alone 1 = .ok (.ifCond .lt 10, 3) := by decide +kernel
theorem dX9_alone_4 : decode cX9_alone 4 = .ok (.iload_n 1, 1) := by decide +kernel
theorem dX9_alone_5 : decode cX9_alone 5 = .ok (.sipush 400, 3) := by decide +kernel
theorem dX9_alone_8 : decode cX9_alone 8 = .ok (.if_icmp .le 5, 3) := by decide +kernel
theorem dX9_alone_11 : decode cX9_alone 11 = .ok (.iconst (-1), 1) := by decide +kernel
theorem dX9_alone_12 : decode cX9_alone 12 = .ok (.ireturn, 1) := by decide +kernel
theorem dX9_alone_13 : decode cX9_alone 13 = .ok (.aload_n 0, 1) := by decide +kernel
theorem dX9_alone_14 : decode cX9_alone 14 = .ok (.getfield 12, 3) := by decide +kernel
theorem dX9_alone_17 : decode cX9_alone 17 = .ok (.getfield 52, 3) := by decide +kernel
theorem dX9_alone_20 : decode cX9_alone 20 = .ok (.getfield 55, 3) := by decide +kernel
theorem dX9_alone_23 : decode cX9_alone 23 = .ok (.astore_n 3, 1) := by decide +kernel
theorem dX9_alone_24 : decode cX9_alone 24 = .ok (.aload_n 0, 1) := by decide +kernel
theorem dX9_alone_25 : decode cX9_alone 25 = .ok (.getfield 41, 3) := by decide +kernel
theorem dX9_alone_28 : decode cX9_alone 28 = .ok (.aload_n 3, 1) := by decide +kernel
theorem dX9_alone_29 : decode cX9_alone 29 = .ok (.invokevirtual 179, 3) := by decide +kernel
theorem dX9_alone_32 : decode cX9_alone 32 = .ok (.iconst 0, 1) := by decide +kernel
theorem dX9_alone_33 : decode cX9_alone 33 = .ok (.istore 4, 2) := by decide +kernel
theorem dX9_alone_35 : decode cX9_alone 35 = .ok (.iload 4, 2) := by decide +kernel
theorem dX9_alone_37 : decode cX9_alone 37 = .ok (.iload_n 1, 1) := by decide +kernel
theorem dX9_alone_38 : decode cX9_alone 38 = .ok (.if_icmp .ge 27, 3) := by decide +kernel
theorem dX9_alone_41 : decode cX9_alone 41 = .ok (.aload_n 0, 1) := by decide +kernel
theorem dX9_alone_42 : decode cX9_alone 42 = .ok (.getfield 41, 3) := by decide +kernel
theorem dX9_alone_45 : decode cX9_alone 45 = .ok (.getfield 182, 3) := by decide +kernel
theorem dX9_alone_48 : decode cX9_alone 48 = .ok (.ifCond .ne 17, 3) := by decide +kernel
theorem dX9_alone_51 : decode cX9_alone 51 = .ok (.aload_n 0, 1) := by decide +kernel
theorem dX9_alone_52 : decode cX9_alone 52 = .ok (.getfield 41, 3) := by decide +kernel
theorem dX9_alone_55 : decode cX9_alone 55 = .ok (.aload_n 3, 1) := by decide +kernel
theorem dX9_alone_56 : decode cX9_alone 56 = .ok (.invokevirtual 186, 3) := by decide +kernel
theorem dX9_alone_59 : decode cX9_alone 59 = .ok (.iinc 4 1, 3) := by decide +kernel
theorem dX9_alone_62 : decode cX9_alone 62 = .ok (.goto (-27), 3) := by decide +kernel
theorem dX9_alone_65 : decode cX9_alone 65 = .ok (.aload_n 0, 1) := by decide +kernel
theorem dX9_alone_66 : decode cX9_alone 66 = .ok (.getfield 41, 3) := by decide +kernel
theorem dX9_alone_69 : decode cX9_alone 69 = .ok (.iload_n 2, 1) := by decide +kernel
theorem dX9_alone_70 : decode cX9_alone 70 = .ok (.invokevirtual 189, 3) := by decide +kernel
theorem dX9_alone_73 : decode cX9_alone 73 = .ok (.ireturn, 1) := by decide +kernel
theorem dX9_ahead_0 : decode cX9_ahead 0 = .ok (.iload_n 1, 1) := by decide +kernel
theorem dX9_ahead_1 : decode cX9_ahead 1 = .ok (.ifCond .lt 9, 3) := by decide +kernel
theorem dX9_ahead_4 : decode cX9_ahead 4 = .ok (.iload_n 1, 1) := by decide +kernel
theorem dX9_ahead_5 : decode cX9_ahead 5 = .ok (.bipush 60, 2) := by decide +kernel
theorem dX9_ahead_7 : decode cX9_ahead 7 = .ok (.if_icmp .le 5, 3) := by decide +kernel
theorem dX9_ahead_10 : decode cX9_ahead 10 = .ok (.iconst (-1), 1) := by decide +kernel
theorem dX9_ahead_11 : decode cX9_ahead 11 = .ok (.ireturn, 1) := by decide +kernel
theorem dX9_ahead_12 : decode cX9_ahead 12 = .ok (.aload_n 0, 1) := by decide +kernel
theorem dX9_ahead_13 : decode cX9_ahead 13 = .ok (.getfield 34, 3) := by decide +kernel
theorem dX9_ahead_16 : decode cX9_ahead 16 = .ok (.aload_n 0, 1) := by decide +kernel
theorem dX9_ahead_17 : decode cX9_ahead 17 = .ok (.getfield 12, 3) := by decide +kernel
theorem dX9_ahead_20 : decode cX9_ahead 20 = .ok (.getfield 52, 3) := by decide +kernel
theorem dX9_ahead_23 : decode cX9_ahead 23 = .ok (.invokevirtual 190, 3) := by decide +kernel
theorem dX9_ahead_26 : decode cX9_ahead 26 = .ok (.aload_n 0, 1) := by decide +kernel
theorem dX9_ahead_27 : decode cX9_ahead 27 = .ok (.getfield 34, 3) := by decide +kernel
theorem dX9_ahead_30 : decode cX9_ahead 30 = .ok (.iload_n 1, 1) := by decide +kernel
theorem dX9_ahead_31 : decode cX9_ahead 31 = .ok (.invokevirtual 101, 3) := by decide +kernel
theorem dX9_ahead_34 : decode cX9_ahead 34 = .ok (.pop, 1) := by decide +kernel
theorem dX9_ahead_35 : decode cX9_ahead 35 = .ok (.aload_n 0, 1) := by decide +kernel
theorem dX9_ahead_36 : decode cX9_ahead 36 = .ok (.aload_n 0, 1) := by decide +kernel
theorem dX9_ahead_37 : decode cX9_ahead 37 = .ok (.getfield 34, 3) := by decide +kernel
theorem dX9_ahead_40 : decode cX9_ahead 40 = .ok (.iload_n 2, 1) := by decide +kernel
theorem dX9_ahead_41 : decode cX9_ahead 41 = .ok (.invokevirtual 118, 3) := by decide +kernel
theorem dX9_ahead_44 : decode cX9_ahead 44 = .ok (.ireturn, 1) := by decide +kernel
theorem dX9_time_0 : decode cX9_time 0 = .ok (.aload_n 0, 1) := by decide +kernel
theorem dX9_time_1 : decode cX9_time 1 = .ok (.invokevirtual 193, 3) := by decide +kernel
theorem dX9_time_4 : decode cX9_time 4 = .ok (.aload_n 0, 1) := by decide +kernel
theorem dX9_time_5 : decode cX9_time 5 = .ok (.getfield 34, 3) := by decide +kernel
theorem dX9_time_8 : decode cX9_time 8 = .ok (.sipush 999, 3) := by decide +kernel
theorem dX9_time_11 : decode cX9_time 11 = .ok (.invokevirtual 101, 3) := by decide +kernel
theorem dX9_time_14 : decode cX9_time 14 = .ok (.pop, 1) := by decide +kernel
theorem dX9_time_15 : decode cX9_time 15 = .ok (.aload_n 0, 1) := by decide +kernel
theorem dX9_time_16 : decode cX9_time 16 = .ok (.getfield 34, 3) := by decide +kernel
theorem dX9_time_19 : decode cX9_time 19 = .ok (.invokevirtual 196, 3) := by decide +kernel
theorem dX9_time_22 : decode cX9_time 22 = .ok (.ireturn, 1) := by decide +kernel
theorem dX9_late_0 : decode cX9_late 0 = .ok (.iload_n 1, 1) := by decide +kernel
theorem dX9_late_1 : decode cX9_late 1 = .ok (.iconst 1, 1) := by decide +kernel
theorem dX9_late_2 : decode cX9_late 2 = .ok (.if_icmp .lt 9, 3) := by decide +kernel
theorem dX9_late_5 : decode cX9_late 5 = .ok (.iload_n 1, 1) := by decide +kernel
theorem dX9_late_6 : decode cX9_late 6 = .ok (.bipush 9, 2) := by decide +kernel
theorem dX9_late_8 : decode cX9_late 8 = .ok (.if_icmp .le 5, 3) := by decide +kernel
theorem dX9_late_11 : decode cX9_late 11 = .ok (.iconst (-1), 1) := by decide +kernel
theorem dX9_late_12 : decode cX9_late 12 = .ok (.ireturn, 1) := by decide +kernel
theorem dX9_late_13 : decode cX9_late 13 = .ok (.aload_n 0, 1) := by decide +kernel
theorem dX9_late_14 : decode cX9_late 14 = .ok (.invokevirtual 193, 3) := by decide +kernel
theorem dX9_late_17 : decode cX9_late 17 = .ok (.aload_n 0, 1) := by decide +kernel
theorem dX9_late_18 : decode cX9_late 18 = .ok (.getfield 34, 3) := by decide +kernel
theorem dX9_late_21 : decode cX9_late 21 = .ok (.iload_n 1, 1) := by decide +kernel
theorem dX9_late_22 : decode cX9_late 22 = .ok (.putfield 199, 3) := by decide +kernel
theorem dX9_late_25 : decode cX9_late 25 = .ok (.aload_n 0, 1) := by decide +kernel
theorem dX9_late_26 : decode cX9_late 26 = .ok (.getfield 34, 3) := by decide +kernel
theorem dX9_late_29 : decode cX9_late 29 = .ok (.sipush 999, 3) := by decide +kernel
theorem dX9_late_32 : decode cX9_late 32 = .ok (.invokevirtual 101, 3) := by decide +kernel
theorem dX9_late_35 : decode cX9_late 35 = .ok (.pop, 1) := by decide +kernel
theorem dX9_late_36 : decode cX9_late 36 = .ok (.aload_n 0, 1) := by decide +kernel
theorem dX9_late_37 : decode cX9_late 37 = .ok (.getfield 34, 3) := by decide +kernel
theorem dX9_late_40 : decode cX9_late 40 = .ok (.invokevirtual 196, 3) := by decide +kernel
theorem dX9_late_43 : decode cX9_late 43 = .ok (.ireturn, 1) := by decide +kernel
theorem dX9_keeping_0 : decode cX9_keeping 0 = .ok (.iload_n 1, 1) := by decide +kernel
theorem dX9_keeping_1 : decode cX9_keeping 1 = .ok (.invokestatic 173, 3) := by decide +kernel
theorem dX9_keeping_4 : decode cX9_keeping 4 = .ok (.ifCond .eq 11, 3) := by decide +kernel
theorem dX9_keeping_7 : decode cX9_keeping 7 = .ok (.aload_n 0, 1) := by decide +kernel
theorem dX9_keeping_8 : decode cX9_keeping 8 = .ok (.iload_n 1, 1) := by decide +kernel
theorem dX9_keeping_9 : decode cX9_keeping 9 = .ok (.invokevirtual 202, 3) := by decide +kernel
theorem dX9_keeping_12 : decode cX9_keeping 12 = .ok (.goto 4, 3) := by decide +kernel
theorem dX9_keeping_15 : decode cX9_keeping 15 = .ok (.iconst (-1), 1) := by decide +kernel
theorem dX9_keeping_16 : decode cX9_keeping 16 = .ok (.ireturn, 1) := by decide +kernel
theorem dX9_best_0 : decode cX9_best 0 = .ok (.iconst (-1), 1) := by decide +kernel
theorem dX9_best_1 : decode cX9_best 1 = .ok (.istore_n 1, 1) := by decide +kernel
theorem dX9_best_2 : decode cX9_best 2 = .ok (.aload_n 0, 1) := by decide +kernel
theorem dX9_best_3 : decode cX9_best 3 = .ok (.invokevirtual 205, 3) := by decide +kernel
theorem dX9_best_6 : decode cX9_best 6 = .ok (.invokestatic 208, 3) := by decide +kernel
theorem dX9_best_9 : decode cX9_best 9 = .ok (.istore_n 2, 1) := by decide +kernel
theorem dX9_best_10 : decode cX9_best 10 = .ok (.iconst 0, 1) := by decide +kernel
theorem dX9_best_11 : decode cX9_best 11 = .ok (.istore_n 3, 1) := by decide +kernel
theorem dX9_best_12 : decode cX9_best 12 = .ok (.iload_n 3, 1) := by decide +kernel
theorem dX9_best_13 : decode cX9_best 13 = .ok (.bipush 8, 2) := by decide +kernel
theorem dX9_best_15 : decode cX9_best 15 = .ok (.if_icmp .ge 50, 3) := by decide +kernel
theorem dX9_best_18 : decode cX9_best 18 = .ok (.aload_n 0, 1) := by decide +kernel
theorem dX9_best_19 : decode cX9_best 19 = .ok (.getfield 12, 3) := by decide +kernel
theorem dX9_best_22 : decode cX9_best 22 = .ok (.getfield 52, 3) := by decide +kernel
theorem dX9_best_25 : decode cX9_best 25 = .ok (.getfield 55, 3) := by decide +kernel
theorem dX9_best_28 : decode cX9_best 28 = .ok (.getfield 211, 3) := by decide +kernel
theorem dX9_best_31 : decode cX9_best 31 = .ok (.iload_n 3, 1) := by decide +kernel
theorem dX9_best_32 : decode cX9_best 32 = .ok (.invokestatic 214, 3) := by decide +kernel
theorem dX9_best_35 : decode cX9_best 35 = .ok (.ifCond .ne 24, 3) := by decide +kernel
theorem dX9_best_38 : decode cX9_best 38 = .ok (.aload_n 0, 1) := by decide +kernel
theorem dX9_best_39 : decode cX9_best 39 = .ok (.iload_n 3, 1) := by decide +kernel
theorem dX9_best_40 : decode cX9_best 40 = .ok (.invokevirtual 202, 3) := by decide +kernel
theorem dX9_best_43 : decode cX9_best 43 = .ok (.invokestatic 208, 3) := by decide +kernel
theorem dX9_best_46 : decode cX9_best 46 = .ok (.istore 4, 2) := by decide +kernel
theorem dX9_best_48 : decode cX9_best 48 = .ok (.iload 4, 2) := by decide +kernel
theorem dX9_best_50 : decode cX9_best 50 = .ok (.iload_n 2, 1) := by decide +kernel
theorem dX9_best_51 : decode cX9_best 51 = .ok (.if_icmp .ge 8, 3) := by decide +kernel
theorem dX9_best_54 : decode cX9_best 54 = .ok (.iload 4, 2) := by decide +kernel
theorem dX9_best_56 : decode cX9_best 56 = .ok (.istore_n 2, 1) := by decide +kernel
theorem dX9_best_57 : decode cX9_best 57 = .ok (.iload_n 3, 1) := by decide +kernel
theorem dX9_best_58 : decode cX9_best 58 = .ok (.istore_n 1, 1) := by decide +kernel
theorem dX9_best_59 : decode cX9_best 59 = .ok (.iinc 3 1, 3) := by decide +kernel
theorem dX9_best_62 : decode cX9_best 62 = .ok (.goto (-50), 3) := by decide +kernel
theorem dX9_best_65 : decode cX9_best 65 = .ok (.iload_n 1, 1) := by decide +kernel
theorem dX9_best_66 : decode cX9_best 66 = .ok (.ireturn, 1) := by decide +kernel
theorem dX9_least_0 : decode cX9_least 0 = .ok (.iload_n 1, 1) := by decide +kernel
theorem dX9_least_1 : decode cX9_least 1 = .ok (.invokestatic 105, 3) := by decide +kernel
theorem dX9_least_4 : decode cX9_least 4 = .ok (.ifCond .ne 5, 3) := by decide +kernel
theorem dX9_least_7 : decode cX9_least 7 = .ok (.iconst (-1), 1) := by decide +kernel
theorem dX9_least_8 : decode cX9_least 8 = .ok (.ireturn, 1) := by decide +kernel
theorem dX9_least_9 : decode cX9_least 9 = .ok (.iload_n 2, 1) := by decide +kernel
theorem dX9_least_10 : decode cX9_least 10 = .ok (.ifCond .ne 10, 3) := by decide +kernel
theorem dX9_least_13 : decode cX9_least 13 = .ok (.aload_n 0, 1) := by decide +kernel
theorem dX9_least_14 : decode cX9_least 14 = .ok (.iload_n 1, 1) := by decide +kernel
theorem dX9_least_15 : decode cX9_least 15 = .ok (.iload_n 1, 1) := by decide +kernel
theorem dX9_least_16 : decode cX9_least 16 = .ok (.invokevirtual 218, 3) := by decide +kernel
theorem dX9_least_19 : decode cX9_least 19 = .ok (.ireturn, 1) := by decide +kernel
theorem dX9_least_20 : decode cX9_least 20 = .ok (.aload_n 0, 1) := by decide +kernel
theorem dX9_least_21 : decode cX9_least 21 = .ok (.iload_n 1, 1) := by decide +kernel
theorem dX9_least_22 : decode cX9_least 22 = .ok (.bipush 6, 2) := by decide +kernel
theorem dX9_least_24 : decode cX9_least 24 = .ok (.invokevirtual 221, 3) := by decide +kernel
theorem dX9_least_27 : decode cX9_least 27 = .ok (.istore_n 3, 1) := by decide +kernel
theorem dX9_least_28 : decode cX9_least 28 = .ok (.iload_n 3, 1) := by decide +kernel
theorem dX9_least_29 : decode cX9_least 29 = .ok (.iconst (-1), 1) := by decide +kernel
theorem dX9_least_30 : decode cX9_least 30 = .ok (.if_icmp .ne 5, 3) := by decide +kernel
theorem dX9_least_33 : decode cX9_least 33 = .ok (.iconst (-1), 1) := by decide +kernel
theorem dX9_least_34 : decode cX9_least 34 = .ok (.ireturn, 1) := by decide +kernel
theorem dX9_least_35 : decode cX9_least 35 = .ok (.iconst 1, 1) := by decide +kernel
theorem dX9_least_36 : decode cX9_least 36 = .ok (.istore 4, 2) := by decide +kernel
theorem dX9_least_38 : decode cX9_least 38 = .ok (.iload 4, 2) := by decide +kernel
theorem dX9_least_40 : decode cX9_least 40 = .ok (.bipush 6, 2) := by decide +kernel
theorem dX9_least_42 : decode cX9_least 42 = .ok (.if_icmp .ge 23, 3) := by decide +kernel
theorem dX9_least_45 : decode cX9_least 45 = .ok (.aload_n 0, 1) := by decide +kernel
theorem dX9_least_46 : decode cX9_least 46 = .ok (.iload_n 1, 1) := by decide +kernel
theorem dX9_least_47 : decode cX9_least 47 = .ok (.iload 4, 2) := by decide +kernel
theorem dX9_least_49 : decode cX9_least 49 = .ok (.invokevirtual 221, 3) := by decide +kernel
theorem dX9_least_52 : decode cX9_least 52 = .ok (.iload_n 3, 1) := by decide +kernel
theorem dX9_least_53 : decode cX9_least 53 = .ok (.if_icmp .ne 6, 3) := by decide +kernel
theorem dX9_least_56 : decode cX9_least 56 = .ok (.iload 4, 2) := by decide +kernel
theorem dX9_least_58 : decode cX9_least 58 = .ok (.ireturn, 1) := by decide +kernel
theorem dX9_least_59 : decode cX9_least 59 = .ok (.iinc 4 1, 3) := by decide +kernel
theorem dX9_least_62 : decode cX9_least 62 = .ok (.goto (-24), 3) := by decide +kernel
theorem dX9_least_65 : decode cX9_least 65 = .ok (.bipush 6, 2) := by decide +kernel
theorem dX9_least_67 : decode cX9_least 67 = .ok (.ireturn, 1) := by decide +kernel
theorem dX9_safe_0 : decode cX9_safe 0 = .ok (.aload_n 0, 1) := by decide +kernel
theorem dX9_safe_1 : decode cX9_safe 1 = .ok (.iconst 0, 1) := by decide +kernel
theorem dX9_safe_2 : decode cX9_safe 2 = .ok (.iconst 5, 1) := by decide +kernel
theorem dX9_safe_3 : decode cX9_safe 3 = .ok (.invokevirtual 218, 3) := by decide +kernel
theorem dX9_safe_6 : decode cX9_safe 6 = .ok (.ireturn, 1) := by decide +kernel
theorem dX9_rounds_0 : decode cX9_rounds 0 = .ok (.aload_n 0, 1) := by decide +kernel
theorem dX9_rounds_1 : decode cX9_rounds 1 = .ok (.getfield 12, 3) := by decide +kernel
theorem dX9_rounds_4 : decode cX9_rounds 4 = .ok (.getfield 52, 3) := by decide +kernel
theorem dX9_rounds_7 : decode cX9_rounds 7 = .ok (.getfield 55, 3) := by decide +kernel
theorem dX9_rounds_10 : decode cX9_rounds 10 = .ok (.iload_n 1, 1) := by decide +kernel
theorem dX9_rounds_11 : decode cX9_rounds 11 = .ok (.invokevirtual 224, 3) := by decide +kernel
theorem dX9_rounds_14 : decode cX9_rounds 14 = .ok (.ireturn, 1) := by decide +kernel
theorem dX9_changed_0 : decode cX9_changed 0 = .ok (.iload_n 1, 1) := by decide +kernel
theorem dX9_changed_1 : decode cX9_changed 1 = .ok (.invokestatic 167, 3) := by decide +kernel
theorem dX9_changed_4 : decode cX9_changed 4 = .ok (.ifCond .ne 5, 3) := by decide +kernel
theorem dX9_changed_7 : decode cX9_changed 7 = .ok (.iconst (-1), 1) := by decide +kernel
theorem dX9_changed_8 : decode cX9_changed 8 = .ok (.ireturn, 1) := by decide +kernel
theorem dX9_changed_9 : decode cX9_changed 9 = .ok (.aload_n 0, 1) := by decide +kernel
theorem dX9_changed_10 : decode cX9_changed 10 = .ok (.invokevirtual 193, 3) := by decide +kernel
theorem dX9_changed_13 : decode cX9_changed 13 = .ok (.aload_n 0, 1) := by decide +kernel
theorem dX9_changed_14 : decode cX9_changed 14 = .ok (.getfield 34, 3) := by decide +kernel
theorem dX9_changed_17 : decode cX9_changed 17 = .ok (.getfield 170, 3) := by decide +kernel
theorem dX9_changed_20 : decode cX9_changed 20 = .ok (.iload_n 1, 1) := by decide +kernel
theorem dX9_changed_21 : decode cX9_changed 21 = .ok (.iaload, 1) := by decide +kernel
theorem dX9_changed_22 : decode cX9_changed 22 = .ok (.istore_n 2, 1) := by decide +kernel
theorem dX9_changed_23 : decode cX9_changed 23 = .ok (.iconst 0, 1) := by decide +kernel
theorem dX9_changed_24 : decode cX9_changed 24 = .ok (.istore_n 3, 1) := by decide +kernel
theorem dX9_changed_25 : decode cX9_changed 25 = .ok (.iload_n 3, 1) := by decide +kernel
theorem dX9_changed_26 : decode cX9_changed 26 = .ok (.sipush 999, 3) := by decide +kernel
theorem dX9_changed_29 : decode cX9_changed 29 = .ok (.if_icmp .ge 47, 3) := by decide +kernel
theorem dX9_changed_32 : decode cX9_changed 32 = .ok (.aload_n 0, 1) := by decide +kernel
theorem dX9_changed_33 : decode cX9_changed 33 = .ok (.getfield 34, 3) := by decide +kernel
theorem dX9_changed_36 : decode cX9_changed 36 = .ok (.getfield 227, 3) := by decide +kernel
theorem dX9_changed_39 : decode cX9_changed 39 = .ok (.ifCond .ne 37, 3) := by decide +kernel
theorem dX9_changed_42 : decode cX9_changed 42 = .ok (.aload_n 0, 1) := by decide +kernel
theorem dX9_changed_43 : decode cX9_changed 43 = .ok (.getfield 34, 3) := by decide +kernel
theorem dX9_changed_46 : decode cX9_changed 46 = .ok (.invokevirtual 230, 3) := by decide +kernel
theorem dX9_changed_49 : decode cX9_changed 49 = .ok (.aload_n 0, 1) := by decide +kernel
theorem dX9_changed_50 : decode cX9_changed 50 = .ok (.getfield 34, 3) := by decide +kernel
theorem dX9_changed_53 : decode cX9_changed 53 = .ok (.getfield 170, 3) := by decide +kernel
theorem dX9_changed_56 : decode cX9_changed 56 = .ok (.iload_n 1, 1) := by decide +kernel
theorem dX9_changed_57 : decode cX9_changed 57 = .ok (.iaload, 1) := by decide +kernel
theorem dX9_changed_58 : decode cX9_changed 58 = .ok (.iload_n 2, 1) := by decide +kernel
theorem dX9_changed_59 : decode cX9_changed 59 = .ok (.if_icmp .eq 11, 3) := by decide +kernel
theorem dX9_changed_62 : decode cX9_changed 62 = .ok (.aload_n 0, 1) := by decide +kernel
theorem dX9_changed_63 : decode cX9_changed 63 = .ok (.getfield 34, 3) := by decide +kernel
theorem dX9_changed_66 : decode cX9_changed 66 = .ok (.getfield 233, 3) := by decide +kernel
theorem dX9_changed_69 : decode cX9_changed 69 = .ok (.ireturn, 1) := by decide +kernel
theorem dX9_changed_70 : decode cX9_changed 70 = .ok (.iinc 3 1, 3) := by decide +kernel
