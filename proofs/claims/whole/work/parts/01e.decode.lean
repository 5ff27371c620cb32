theorem dX9_changed_73 : decode cX9_changed 73 = .ok (.goto (-48), 3) := by decide +kernel
theorem dX9_changed_76 : decode cX9_changed 76 = .ok (.iconst (-1), 1) := by decide +kernel
theorem dX9_changed_77 : decode cX9_changed 77 = .ok (.ireturn, 1) := by decide +kernel
theorem dX9_slipped_0 : decode cX9_slipped 0 = .ok (.aload_n 0, 1) := by decide +kernel
theorem dX9_slipped_1 : decode cX9_slipped 1 = .ok (.invokevirtual 193, 3) := by decide +kernel
theorem dX9_slipped_4 : decode cX9_slipped 4 = .ok (.iconst 0, 1) := by decide +kernel
theorem dX9_slipped_5 : decode cX9_slipped 5 = .ok (.istore_n 2, 1) := by decide +kernel
theorem dX9_slipped_6 : decode cX9_slipped 6 = .ok (.iload_n 2, 1) := by decide +kernel
theorem dX9_slipped_7 : decode cX9_slipped 7 = .ok (.sipush 999, 3) := by decide +kernel
theorem dX9_slipped_10 : decode cX9_slipped 10 = .ok (.if_icmp .ge 45, 3) := by decide +kernel
theorem dX9_slipped_13 : decode cX9_slipped 13 = .ok (.aload_n 0, 1) := by decide +kernel
theorem dX9_slipped_14 : decode cX9_slipped 14 = .ok (.getfield 34, 3) := by decide +kernel
theorem dX9_slipped_17 : decode cX9_slipped 17 = .ok (.getfield 227, 3) := by decide +kernel
theorem dX9_slipped_20 : decode cX9_slipped 20 = .ok (.ifCond .ne 35, 3) := by decide +kernel
theorem dX9_slipped_23 : decode cX9_slipped 23 = .ok (.aload_n 0, 1) := by decide +kernel
theorem dX9_slipped_24 : decode cX9_slipped 24 = .ok (.getfield 34, 3) := by decide +kernel
theorem dX9_slipped_27 : decode cX9_slipped 27 = .ok (.invokevirtual 236, 3) := by decide +kernel
theorem dX9_slipped_30 : decode cX9_slipped 30 = .ok (.iload_n 1, 1) := by decide +kernel
theorem dX9_slipped_31 : decode cX9_slipped 31 = .ok (.if_icmp .ne 11, 3) := by decide +kernel
theorem dX9_slipped_34 : decode cX9_slipped 34 = .ok (.aload_n 0, 1) := by decide +kernel
theorem dX9_slipped_35 : decode cX9_slipped 35 = .ok (.getfield 34, 3) := by decide +kernel
theorem dX9_slipped_38 : decode cX9_slipped 38 = .ok (.getfield 233, 3) := by decide +kernel
theorem dX9_slipped_41 : decode cX9_slipped 41 = .ok (.ireturn, 1) := by decide +kernel
theorem dX9_slipped_42 : decode cX9_slipped 42 = .ok (.aload_n 0, 1) := by decide +kernel
theorem dX9_slipped_43 : decode cX9_slipped 43 = .ok (.getfield 34, 3) := by decide +kernel
theorem dX9_slipped_46 : decode cX9_slipped 46 = .ok (.invokevirtual 230, 3) := by decide +kernel
theorem dX9_slipped_49 : decode cX9_slipped 49 = .ok (.iinc 2 1, 3) := by decide +kernel
theorem dX9_slipped_52 : decode cX9_slipped 52 = .ok (.goto (-46), 3) := by decide +kernel
theorem dX9_slipped_55 : decode cX9_slipped 55 = .ok (.aload_n 0, 1) := by decide +kernel
theorem dX9_slipped_56 : decode cX9_slipped 56 = .ok (.getfield 34, 3) := by decide +kernel
theorem dX9_slipped_59 : decode cX9_slipped 59 = .ok (.invokevirtual 236, 3) := by decide +kernel
theorem dX9_slipped_62 : decode cX9_slipped 62 = .ok (.iload_n 1, 1) := by decide +kernel
theorem dX9_slipped_63 : decode cX9_slipped 63 = .ok (.if_icmp .ne 13, 3) := by decide +kernel
theorem dX9_slipped_66 : decode cX9_slipped 66 = .ok (.aload_n 0, 1) := by decide +kernel
theorem dX9_slipped_67 : decode cX9_slipped 67 = .ok (.getfield 34, 3) := by decide +kernel
theorem dX9_slipped_70 : decode cX9_slipped 70 = .ok (.getfield 233, 3) := by decide +kernel
theorem dX9_slipped_73 : decode cX9_slipped 73 = .ok (.goto 4, 3) := by decide +kernel
theorem dX9_slipped_76 : decode cX9_slipped 76 = .ok (.iconst (-1), 1) := by decide +kernel
theorem dX9_slipped_77 : decode cX9_slipped 77 = .ok (.ireturn, 1) := by decide +kernel
theorem dX9_image_0 : decode cX9_image 0 = .ok (.iload_n 1, 1) := by decide +kernel
theorem dX9_image_1 : decode cX9_image 1 = .ok (.ifCond .lt 8, 3) := by decide +kernel
theorem dX9_image_4 : decode cX9_image 4 = .ok (.iload_n 1, 1) := by decide +kernel
theorem dX9_image_5 : decode cX9_image 5 = .ok (.iconst 3, 1) := by decide +kernel
theorem dX9_image_6 : decode cX9_image 6 = .ok (.if_icmp .lt 5, 3) := by decide +kernel
theorem dX9_image_9 : decode cX9_image 9 = .ok (.iconst 0, 1) := by decide +kernel
theorem dX9_image_10 : decode cX9_image 10 = .ok (.ireturn, 1) := by decide +kernel
theorem dX9_image_11 : decode cX9_image 11 = .ok (.aload_n 0, 1) := by decide +kernel
theorem dX9_image_12 : decode cX9_image 12 = .ok (.getfield 16, 3) := by decide +kernel
theorem dX9_image_15 : decode cX9_image 15 = .ok (.iload_n 1, 1) := by decide +kernel
theorem dX9_image_16 : decode cX9_image 16 = .ok (.aaload, 1) := by decide +kernel
theorem dX9_image_17 : decode cX9_image 17 = .ok (.aload_n 0, 1) := by decide +kernel
theorem dX9_image_18 : decode cX9_image 18 = .ok (.getfield 12, 3) := by decide +kernel
theorem dX9_image_21 : decode cX9_image 21 = .ok (.invokevirtual 239, 3) := by decide +kernel
theorem dX9_image_24 : decode cX9_image 24 = .ok (.aload_n 0, 1) := by decide +kernel
theorem dX9_image_25 : decode cX9_image 25 = .ok (.getfield 20, 3) := by decide +kernel
theorem dX9_image_28 : decode cX9_image 28 = .ok (.iload_n 1, 1) := by decide +kernel
theorem dX9_image_29 : decode cX9_image 29 = .ok (.iconst 1, 1) := by decide +kernel
theorem dX9_image_30 : decode cX9_image 30 = .ok (.bastore, 1) := by decide +kernel
theorem dX9_image_31 : decode cX9_image 31 = .ok (.iconst 1, 1) := by decide +kernel
theorem dX9_image_32 : decode cX9_image 32 = .ok (.ireturn, 1) := by decide +kernel
theorem dX9_again_0 : decode cX9_again 0 = .ok (.iload_n 1, 1) := by decide +kernel
theorem dX9_again_1 : decode cX9_again 1 = .ok (.ifCond .lt 17, 3) := by decide +kernel
theorem dX9_again_4 : decode cX9_again 4 = .ok (.iload_n 1, 1) := by decide +kernel
theorem dX9_again_5 : decode cX9_again 5 = .ok (.iconst 3, 1) := by decide +kernel
theorem dX9_again_6 : decode cX9_again 6 = .ok (.if_icmp .ge 12, 3) := by decide +kernel
theorem dX9_again_9 : decode cX9_again 9 = .ok (.aload_n 0, 1) := by decide +kernel
theorem dX9_again_10 : decode cX9_again 10 = .ok (.getfield 20, 3) := by decide +kernel
theorem dX9_again_13 : decode cX9_again 13 = .ok (.iload_n 1, 1) := by decide +kernel
theorem dX9_again_14 : decode cX9_again 14 = .ok (.baload, 1) := by decide +kernel
theorem dX9_again_15 : decode cX9_again 15 = .ok (.ifCond .ne 5, 3) := by decide +kernel
theorem dX9_again_18 : decode cX9_again 18 = .ok (.iconst 0, 1) := by decide +kernel
theorem dX9_again_19 : decode cX9_again 19 = .ok (.ireturn, 1) := by decide +kernel
theorem dX9_again_20 : decode cX9_again 20 = .ok (.aload_n 0, 1) := by decide +kernel
theorem dX9_again_21 : decode cX9_again 21 = .ok (.getfield 12, 3) := by decide +kernel
theorem dX9_again_24 : decode cX9_again 24 = .ok (.aload_n 0, 1) := by decide +kernel
theorem dX9_again_25 : decode cX9_again 25 = .ok (.getfield 16, 3) := by decide +kernel
theorem dX9_again_28 : decode cX9_again 28 = .ok (.iload_n 1, 1) := by decide +kernel
theorem dX9_again_29 : decode cX9_again 29 = .ok (.aaload, 1) := by decide +kernel
theorem dX9_again_30 : decode cX9_again 30 = .ok (.invokevirtual 239, 3) := by decide +kernel
theorem dX9_again_33 : decode cX9_again 33 = .ok (.iconst 1, 1) := by decide +kernel
theorem dX9_again_34 : decode cX9_again 34 = .ok (.ireturn, 1) := by decide +kernel
theorem dX9_figureOf_0 : decode cX9_figureOf 0 = .ok (.iload_n 2, 1) := by decide +kernel
theorem dX9_figureOf_1 : decode cX9_figureOf 1 = .ok (.bipush 10, 2) := by decide +kernel
theorem dX9_figureOf_3 : decode cX9_figureOf 3 = .ok (.if_icmp .ne 13, 3) := by decide +kernel
theorem dX9_figureOf_6 : decode cX9_figureOf 6 = .ok (.aload_n 0, 1) := by decide +kernel
theorem dX9_figureOf_7 : decode cX9_figureOf 7 = .ok (.getfield 12, 3) := by decide +kernel
theorem dX9_figureOf_10 : decode cX9_figureOf 10 = .ok (.getfield 64, 3) := by decide +kernel
theorem dX9_figureOf_13 : decode cX9_figureOf 13 = .ok (.goto 8, 3) := by decide +kernel
theorem dX9_figureOf_16 : decode cX9_figureOf 16 = .ok (.aload_n 1, 1) := by decide +kernel
theorem dX9_figureOf_17 : decode cX9_figureOf 17 = .ok (.iload_n 2, 1) := by decide +kernel
theorem dX9_figureOf_18 : decode cX9_figureOf 18 = .ok (.invokevirtual 242, 3) := by decide +kernel
theorem dX9_figureOf_21 : decode cX9_figureOf 21 = .ok (.ireturn, 1) := by decide +kernel
theorem dX9_tryFromBeginning_0 : decode cX9_tryFromBeginning 0 = .ok (.aload_n 0, 1) := by decide +kernel
theorem dX9_tryFromBeginning_1 : decode cX9_tryFromBeginning 1 = .ok (.getfield 34, 3) := by decide +kernel
theorem dX9_tryFromBeginning_4 : decode cX9_tryFromBeginning 4 = .ok (.getfield 55, 3) := by decide +kernel
theorem dX9_tryFromBeginning_7 : decode cX9_tryFromBeginning 7 = .ok (.aload_n 0, 1) := by decide +kernel
theorem dX9_tryFromBeginning_8 : decode cX9_tryFromBeginning 8 = .ok (.getfield 12, 3) := by decide +kernel
theorem dX9_tryFromBeginning_11 : decode cX9_tryFromBeginning 11 = .ok (.getfield 52, 3) := by decide +kernel
theorem dX9_tryFromBeginning_14 : decode cX9_tryFromBeginning 14 = .ok (.getfield 55, 3) := by decide +kernel
theorem dX9_tryFromBeginning_17 : decode cX9_tryFromBeginning 17 = .ok (.invokevirtual 91, 3) := by decide +kernel
theorem dX9_tryFromBeginning_20 : decode cX9_tryFromBeginning 20 = .ok (.aload_n 0, 1) := by decide +kernel
theorem dX9_tryFromBeginning_21 : decode cX9_tryFromBeginning 21 = .ok (.getfield 34, 3) := by decide +kernel
theorem dX9_tryFromBeginning_24 : decode cX9_tryFromBeginning 24 = .ok (.invokevirtual 95, 3) := by decide +kernel
theorem dX9_tryFromBeginning_27 : decode cX9_tryFromBeginning 27 = .ok (.return_, 1) := by decide +kernel
theorem dX9_timeKeeping_0 : decode cX9_timeKeeping 0 = .ok (.aload_n 0, 1) := by decide +kernel
theorem dX9_timeKeeping_1 : decode cX9_timeKeeping 1 = .ok (.getfield 34, 3) := by decide +kernel
theorem dX9_timeKeeping_4 : decode cX9_timeKeeping 4 = .ok (.getfield 55, 3) := by decide +kernel
theorem dX9_timeKeeping_7 : decode cX9_timeKeeping 7 = .ok (.aload_n 0, 1) := by decide +kernel
theorem dX9_timeKeeping_8 : decode cX9_timeKeeping 8 = .ok (.getfield 12, 3) := by decide +kernel
theorem dX9_timeKeeping_11 : decode cX9_timeKeeping 11 = .ok (.getfield 52, 3) := by decide +kernel
theorem dX9_timeKeeping_14 : decode cX9_timeKeeping 14 = .ok (.getfield 55, 3) := by decide +kernel
theorem dX9_timeKeeping_17 : decode cX9_timeKeeping 17 = .ok (.invokevirtual 91, 3) := by decide +kernel
theorem dX9_timeKeeping_20 : decode cX9_timeKeeping 20 = .ok (.aload_n 0, 1) := by decide +kernel
theorem dX9_timeKeeping_21 : decode cX9_timeKeeping 21 = .ok (.getfield 34, 3) := by decide +kernel
theorem dX9_timeKeeping_24 : decode cX9_timeKeeping 24 = .ok (.getfield 55, 3) := by decide +kernel
theorem dX9_timeKeeping_27 : decode cX9_timeKeeping 27 = .ok (.dup, 1) := by decide +kernel
theorem dX9_timeKeeping_28 : decode cX9_timeKeeping 28 = .ok (.getfield 243, 3) := by decide +kernel
theorem dX9_timeKeeping_31 : decode cX9_timeKeeping 31 = .ok (.iload_n 1, 1) := by decide +kernel
theorem dX9_timeKeeping_32 : decode cX9_timeKeeping 32 = .ok (.invokestatic 246, 3) := by decide +kernel
theorem dX9_timeKeeping_35 : decode cX9_timeKeeping 35 = .ok (.ior, 1) := by decide +kernel
theorem dX9_timeKeeping_36 : decode cX9_timeKeeping 36 = .ok (.putfield 243, 3) := by decide +kernel
theorem dX9_timeKeeping_39 : decode cX9_timeKeeping 39 = .ok (.aload_n 0, 1) := by decide +kernel
theorem dX9_timeKeeping_40 : decode cX9_timeKeeping 40 = .ok (.getfield 34, 3) := by decide +kernel
theorem dX9_timeKeeping_43 : decode cX9_timeKeeping 43 = .ok (.getfield 55, 3) := by decide +kernel
theorem dX9_timeKeeping_46 : decode cX9_timeKeeping 46 = .ok (.invokevirtual 59, 3) := by decide +kernel
theorem dX9_timeKeeping_49 : decode cX9_timeKeeping 49 = .ok (.aload_n 0, 1) := by decide +kernel
theorem dX9_timeKeeping_50 : decode cX9_timeKeeping 50 = .ok (.getfield 34, 3) := by decide +kernel
theorem dX9_timeKeeping_53 : decode cX9_timeKeeping 53 = .ok (.invokevirtual 95, 3) := by decide +kernel
theorem dX9_timeKeeping_56 : decode cX9_timeKeeping 56 = .ok (.aload_n 0, 1) := by decide +kernel
theorem dX9_timeKeeping_57 : decode cX9_timeKeeping 57 = .ok (.getfield 34, 3) := by decide +kernel
theorem dX9_timeKeeping_60 : decode cX9_timeKeeping 60 = .ok (.sipush 999, 3) := by decide +kernel
theorem dX9_timeKeeping_63 : decode cX9_timeKeeping 63 = .ok (.invokevirtual 101, 3) := by decide +kernel
theorem dX9_timeKeeping_66 : decode cX9_timeKeeping 66 = .ok (.pop, 1) := by decide +kernel
theorem dX9_timeKeeping_67 : decode cX9_timeKeeping 67 = .ok (.aload_n 0, 1) := by decide +kernel
theorem dX9_timeKeeping_68 : decode cX9_timeKeeping 68 = .ok (.getfield 34, 3) := by decide +kernel
theorem dX9_timeKeeping_71 : decode cX9_timeKeeping 71 = .ok (.invokevirtual 196, 3) := by decide +kernel
theorem dX9_timeKeeping_74 : decode cX9_timeKeeping 74 = .ok (.ireturn, 1) := by decide +kernel
theorem dX9_leastNotStuck_0 : decode cX9_leastNotStuck 0 = .ok (.iconst 1, 1) := by decide +kernel
theorem dX9_leastNotStuck_1 : decode cX9_leastNotStuck 1 = .ok (.istore_n 3, 1) := by decide +kernel
theorem dX9_leastNotStuck_2 : decode cX9_leastNotStuck 2 = .ok (.iload_n 3, 1) := by decide +kernel
theorem dX9_leastNotStuck_3 : decode cX9_leastNotStuck 3 = .ok (.bipush 6, 2) := by decide +kernel
theorem dX9_leastNotStuck_5 : decode cX9_leastNotStuck 5 = .ok (.if_icmp .gt 47, 3) := by decide +kernel
theorem dX9_leastNotStuck_8 : decode cX9_leastNotStuck 8 = .ok (.aload_n 0, 1) := by decide +kernel
theorem dX9_leastNotStuck_9 : decode cX9_leastNotStuck 9 = .ok (.invokevirtual 193, 3) := by decide +kernel
theorem dX9_leastNotStuck_12 : decode cX9_leastNotStuck 12 = .ok (.aload_n 0, 1) := by decide +kernel
theorem dX9_leastNotStuck_13 : decode cX9_leastNotStuck 13 = .ok (.getfield 34, 3) := by decide +kernel
theorem dX9_leastNotStuck_16 : decode cX9_leastNotStuck 16 = .ok (.iload_n 1, 1) := by decide +kernel
theorem dX9_leastNotStuck_17 : decode cX9_leastNotStuck 17 = .ok (.iload_n 2, 1) := by decide +kernel
theorem dX9_leastNotStuck_18 : decode cX9_leastNotStuck 18 = .ok (.iload_n 3, 1) := by decide +kernel
theorem dX9_leastNotStuck_19 : decode cX9_leastNotStuck 19 = .ok (.invokevirtual 249, 3) := by decide +kernel
theorem dX9_leastNotStuck_22 : decode cX9_leastNotStuck 22 = .ok (.aload_n 0, 1) := by decide +kernel
theorem dX9_leastNotStuck_23 : decode cX9_leastNotStuck 23 = .ok (.getfield 34, 3) := by decide +kernel
theorem dX9_leastNotStuck_26 : decode cX9_leastNotStuck 26 = .ok (.sipush 999, 3) := by decide +kernel
theorem dX9_leastNotStuck_29 : decode cX9_leastNotStuck 29 = .ok (.invokevirtual 101, 3) := by decide +kernel
theorem dX9_leastNotStuck_32 : decode cX9_leastNotStuck 32 = .ok (.pop, 1) := by decide +kernel
theorem dX9_leastNotStuck_33 : decode cX9_leastNotStuck 33 = .ok (.aload_n 0, 1) := by decide +kernel
theorem dX9_leastNotStuck_34 : decode cX9_leastNotStuck 34 = .ok (.getfield 34, 3) := by decide +kernel
theorem dX9_leastNotStuck_37 : decode cX9_leastNotStuck 37 = .ok (.getfield 227, 3) := by decide +kernel
theorem dX9_leastNotStuck_40 : decode cX9_leastNotStuck 40 = .ok (.iconst 2, 1) := by decide +kernel
theorem dX9_leastNotStuck_41 : decode cX9_leastNotStuck 41 = .ok (.if_icmp .eq 5, 3) := by decide +kernel
theorem dX9_leastNotStuck_44 : decode cX9_leastNotStuck 44 = .ok (.iload_n 3, 1) := by decide +kernel
theorem dX9_leastNotStuck_45 : decode cX9_leastNotStuck 45 = .ok (.ireturn, 1) := by decide +kernel
theorem dX9_leastNotStuck_46 : decode cX9_leastNotStuck 46 = .ok (.iinc 3 1, 3) := by decide +kernel
theorem dX9_leastNotStuck_49 : decode cX9_leastNotStuck 49 = .ok (.goto (-47), 3) := by decide +kernel
theorem dX9_leastNotStuck_52 : decode cX9_leastNotStuck 52 = .ok (.iconst (-1), 1) := by decide +kernel
theorem dX9_leastNotStuck_53 : decode cX9_leastNotStuck 53 = .ok (.ireturn, 1) := by decide +kernel
theorem dX9_timeWithRoom_0 : decode cX9_timeWithRoom 0 = .ok (.aload_n 0, 1) := by decide +kernel
theorem dX9_timeWithRoom_1 : decode cX9_timeWithRoom 1 = .ok (.invokevirtual 193, 3) := by decide +kernel
theorem dX9_timeWithRoom_4 : decode cX9_timeWithRoom 4 = .ok (.aload_n 0, 1) := by decide +kernel
theorem dX9_timeWithRoom_5 : decode cX9_timeWithRoom 5 = .ok (.getfield 34, 3) := by decide +kernel
theorem dX9_timeWithRoom_8 : decode cX9_timeWithRoom 8 = .ok (.iload_n 1, 1) := by decide +kernel
theorem dX9_timeWithRoom_9 : decode cX9_timeWithRoom 9 = .ok (.iload_n 1, 1) := by decide +kernel
theorem dX9_timeWithRoom_10 : decode cX9_timeWithRoom 10 = .ok (.iload_n 2, 1) := by decide +kernel
theorem dX9_timeWithRoom_11 : decode cX9_timeWithRoom 11 = .ok (.invokevirtual 249, 3) := by decide +kernel
theorem dX9_timeWithRoom_14 : decode cX9_timeWithRoom 14 = .ok (.aload_n 0, 1) := by decide +kernel
theorem dX9_timeWithRoom_15 : decode cX9_timeWithRoom 15 = .ok (.getfield 34, 3) := by decide +kernel
theorem dX9_timeWithRoom_18 : decode cX9_timeWithRoom 18 = .ok (.sipush 999, 3) := by decide +kernel
theorem dX9_timeWithRoom_21 : decode cX9_timeWithRoom 21 = .ok (.invokevirtual 101, 3) := by decide +kernel
theorem dX9_timeWithRoom_24 : decode cX9_timeWithRoom 24 = .ok (.pop, 1) := by decide +kernel
theorem dX9_timeWithRoom_25 : decode cX9_timeWithRoom 25 = .ok (.aload_n 0, 1) := by decide +kernel
theorem dX9_timeWithRoom_26 : decode cX9_timeWithRoom 26 = .ok (.getfield 34, 3) := by decide +kernel
theorem dX9_timeWithRoom_29 : decode cX9_timeWithRoom 29 = .ok (.invokevirtual 196, 3) := by decide +kernel
theorem dX9_timeWithRoom_32 : decode cX9_timeWithRoom 32 = .ok (.ireturn, 1) := by decide +kernel
theorem dX9_noTimeIsMost_0 : decode cX9_noTimeIsMost 0 = .ok (.iload_n 0, 1) := by decide +kernel
theorem dX9_noTimeIsMost_1 : decode cX9_noTimeIsMost 1 = .ok (.iconst (-1), 1) := by decide +kernel
theorem dX9_noTimeIsMost_2 : decode cX9_noTimeIsMost 2 = .ok (.if_icmp .ne 9, 3) := by decide +kernel
theorem dX9_noTimeIsMost_5 : decode cX9_noTimeIsMost 5 = .ok (.sipush 1000, 3) := by decide +kernel
theorem dX9_noTimeIsMost_8 : decode cX9_noTimeIsMost 8 = .ok (.goto 4, 3) := by decide +kernel
theorem dX9_noTimeIsMost_11 : decode cX9_noTimeIsMost 11 = .ok (.iload_n 0, 1) := by decide +kernel
theorem dX9_noTimeIsMost_12 : decode cX9_noTimeIsMost 12 = .ok (.ireturn, 1) := by decide +kernel
theorem dX9_isQueue_0 : decode cX9_isQueue 0 = .ok (.iload_n 0, 1) := by decide +kernel
theorem dX9_isQueue_1 : decode cX9_isQueue 1 = .ok (.ifCond .lt 13, 3) := by decide +kernel
theorem dX9_isQueue_4 : decode cX9_isQueue 4 = .ok (.iload_n 0, 1) := by decide +kernel
theorem dX9_isQueue_5 : decode cX9_isQueue 5 = .ok (.bipush 6, 2) := by decide +kernel
theorem dX9_isQueue_7 : decode cX9_isQueue 7 = .ok (.if_icmp .ge 7, 3) := by decide +kernel
theorem dX9_isQueue_10 : decode cX9_isQueue 10 = .ok (.iconst 1, 1) := by decide +kernel
theorem dX9_isQueue_11 : decode cX9_isQueue 11 = .ok (.goto 4, 3) := by decide +kernel
theorem dX9_isQueue_14 : decode cX9_isQueue 14 = .ok (.iconst 0, 1) := by decide +kernel
theorem dX9_isQueue_15 : decode cX9_isQueue 15 = .ok (.ireturn, 1) := by decide +kernel
theorem dX9_isSide_0 : decode cX9_isSide 0 = .ok (.iload_n 0, 1) := by decide +kernel
theorem dX9_isSide_1 : decode cX9_isSide 1 = .ok (.ifCond .lt 12, 3) := by decide +kernel
theorem dX9_isSide_4 : decode cX9_isSide 4 = .ok (.iload_n 0, 1) := by decide +kernel
theorem dX9_isSide_5 : decode cX9_isSide 5 = .ok (.iconst 2, 1) := by decide +kernel
theorem dX9_isSide_6 : decode cX9_isSide 6 = .ok (.if_icmp .ge 7, 3) := by decide +kernel
theorem dX9_isSide_9 : decode cX9_isSide 9 = .ok (.iconst 1, 1) := by decide +kernel
theorem dX9_isSide_10 : decode cX9_isSide 10 = .ok (.goto 4, 3) := by decide +kernel
theorem dX9_isSide_13 : decode cX9_isSide 13 = .ok (.iconst 0, 1) := by decide +kernel
theorem dX9_isSide_14 : decode cX9_isSide 14 = .ok (.ireturn, 1) := by decide +kernel
theorem dX9_isCell_0 : decode cX9_isCell 0 = .ok (.iload_n 0, 1) := by decide +kernel
theorem dX9_isCell_1 : decode cX9_isCell 1 = .ok (.ifCond .lt 13, 3) := by decide +kernel
theorem dX9_isCell_4 : decode cX9_isCell 4 = .ok (.iload_n 0, 1) := by decide +kernel
theorem dX9_isCell_5 : decode cX9_isCell 5 = .ok (.bipush 32, 2) := by decide +kernel
theorem dX9_isCell_7 : decode cX9_isCell 7 = .ok (.if_icmp .ge 7, 3) := by decide +kernel
theorem dX9_isCell_10 : decode cX9_isCell 10 = .ok (.iconst 1, 1) := by decide +kernel
theorem dX9_isCell_11 : decode cX9_isCell 11 = .ok (.goto 4, 3) := by decide +kernel
theorem dX9_isCell_14 : decode cX9_isCell 14 = .ok (.iconst 0, 1) := by decide +kernel
theorem dX9_isCell_15 : decode cX9_isCell 15 = .ok (.ireturn, 1) := by decide +kernel
theorem dX9_isRegister_0 : decode cX9_isRegister 0 = .ok (.iload_n 0, 1) := by decide +kernel
theorem dX9_isRegister_1 : decode cX9_isRegister 1 = .ok (.ifCond .lt 13, 3) := by decide +kernel
theorem dX9_isRegister_4 : decode cX9_isRegister 4 = .ok (.iload_n 0, 1) := by decide +kernel
theorem dX9_isRegister_5 : decode cX9_isRegister 5 = .ok (.bipush 8, 2) := by decide +kernel
theorem dX9_isRegister_7 : decode cX9_isRegister 7 = .ok (.if_icmp .ge 7, 3) := by decide +kernel
theorem dX9_isRegister_10 : decode cX9_isRegister 10 = .ok (.iconst 1, 1) := by decide +kernel
theorem dX9_isRegister_11 : decode cX9_isRegister 11 = .ok (.goto 4, 3) := by decide +kernel
theorem dX9_isRegister_14 : decode cX9_isRegister 14 = .ok (.iconst 0, 1) := by decide +kernel
theorem dX9_isRegister_15 : decode cX9_isRegister 15 = .ok (.ireturn, 1) := by decide +kernel
theorem dX9_bit_0 : decode cX9_bit 0 = .ok (.iconst 1, 1) := by decide +kernel
theorem dX9_bit_1 : decode cX9_bit 1 = .ok (.iload_n 0, 1) := by decide +kernel
theorem dX9_bit_2 : decode cX9_bit 2 = .ok (.ishl, 1) := by decide +kernel
theorem dX9_bit_3 : decode cX9_bit 3 = .ok (.ireturn, 1) := by decide +kernel
theorem dX9_isIn_0 : decode cX9_isIn 0 = .ok (.iload_n 0, 1) := by decide +kernel
theorem dX9_isIn_1 : decode cX9_isIn 1 = .ok (.iload_n 1, 1) := by decide +kernel
theorem dX9_isIn_2 : decode cX9_isIn 2 = .ok (.ishr, 1) := by decide +kernel
theorem dX9_isIn_3 : decode cX9_isIn 3 = .ok (.iconst 1, 1) := by decide +kernel
theorem dX9_isIn_4 : decode cX9_isIn 4 = .ok (.iand, 1) := by decide +kernel
theorem dX9_isIn_5 : decode cX9_isIn 5 = .ok (.ifCond .eq 7, 3) := by decide +kernel
theorem dX9_isIn_8 : decode cX9_isIn 8 = .ok (.iconst 1, 1) := by decide +kernel
theorem dX9_isIn_9 : decode cX9_isIn 9 = .ok (.goto 4, 3) := by decide +kernel
theorem dX9_isIn_12 : decode cX9_isIn 12 = .ok (.iconst 0, 1) := by decide +kernel
theorem dX9_isIn_13 : decode cX9_isIn 13 = .ok (.ireturn, 1) := by decide +kernel
theorem dX9_isReckoning_0 : decode cX9_isReckoning 0 = .ok (.iload_n 0, 1) := by decide +kernel
theorem dX9_isReckoning_1 : decode cX9_isReckoning 1 = .ok (.iconst 1, 1) := by decide +kernel
theorem dX9_isReckoning_2 : decode cX9_isReckoning 2 = .ok (.if_icmp .eq 13, 3) := by decide +kernel
theorem dX9_isReckoning_5 : decode cX9_isReckoning 5 = .ok (.iload_n 0, 1) := by decide +kernel
theorem dX9_isReckoning_6 : decode cX9_isReckoning 6 = .ok (.iconst 2, 1) := by decide +kernel
theorem dX9_isReckoning_7 : decode cX9_isReckoning 7 = .ok (.if_icmp .eq 8, 3) := by decide +kernel
theorem dX9_isReckoning_10 : decode cX9_isReckoning 10 = .ok (.iload_n 0, 1) := by decide +kernel
theorem dX9_isReckoning_11 : decode cX9_isReckoning 11 = .ok (.iconst 3, 1) := by decide +kernel
theorem dX9_isReckoning_12 : decode cX9_isReckoning 12 = .ok (.if_icmp .ne 7, 3) := by decide +kernel
theorem dX9_isReckoning_15 : decode cX9_isReckoning 15 = .ok (.iconst 1, 1) := by decide +kernel
theorem dX9_isReckoning_16 : decode cX9_isReckoning 16 = .ok (.goto 4, 3) := by decide +kernel
theorem dX9_isReckoning_19 : decode cX9_isReckoning 19 = .ok (.iconst 0, 1) := by decide +kernel
theorem dX9_isReckoning_20 : decode cX9_isReckoning 20 = .ok (.ireturn, 1) := by decide +kernel
theorem dX9_reckon_0 : decode cX9_reckon 0 = .ok (.iload_n 0, 1) := by decide +kernel
theorem dX9_reckon_1 : decode cX9_reckon 1 = .ok (.lookupswitch 47 #[(1, 27), (2, 35)], 27) := by decide +kernel
theorem dX9_reckon_28 : decode cX9_reckon 28 = .ok (.iload_n 1, 1) := by decide +kernel
theorem dX9_reckon_29 : decode cX9_reckon 29 = .ok (.iload_n 2, 1) := by decide +kernel
theorem dX9_reckon_30 : decode cX9_reckon 30 = .ok (.iadd, 1) := by decide +kernel
theorem dX9_reckon_31 : decode cX9_reckon 31 = .ok (.sipush 1000, 3) := by decide +kernel
theorem dX9_reckon_34 : decode cX9_reckon 34 = .ok (.irem, 1) := by decide +kernel
theorem dX9_reckon_35 : decode cX9_reckon 35 = .ok (.ireturn, 1) := by decide +kernel
theorem dX9_reckon_36 : decode cX9_reckon 36 = .ok (.iload_n 1, 1) := by decide +kernel
theorem dX9_reckon_37 : decode cX9_reckon 37 = .ok (.iload_n 2, 1) := by decide +kernel
theorem dX9_reckon_38 : decode cX9_reckon 38 = .ok (.isub, 1) := by decide +kernel
theorem dX9_reckon_39 : decode cX9_reckon 39 = .ok (.sipush 1000, 3) := by decide +kernel
theorem dX9_reckon_42 : decode cX9_reckon 42 = .ok (.iadd, 1) := by decide +kernel
theorem dX9_reckon_43 : decode cX9_reckon 43 = .ok (.sipush 1000, 3) := by decide +kernel
theorem dX9_reckon_46 : decode cX9_reckon 46 = .ok (.irem, 1) := by decide +kernel
theorem dX9_reckon_47 : decode cX9_reckon 47 = .ok (.ireturn, 1) := by decide +kernel
theorem dX9_reckon_48 : decode cX9_reckon 48 = .ok (.iload_n 1, 1) := by decide +kernel
theorem dX9_reckon_49 : decode cX9_reckon 49 = .ok (.iload_n 2, 1) := by decide +kernel
theorem dX9_reckon_50 : decode cX9_reckon 50 = .ok (.imul, 1) := by decide +kernel
theorem dX9_reckon_51 : decode cX9_reckon 51 = .ok (.sipush 1000, 3) := by decide +kernel
theorem dX9_reckon_54 : decode cX9_reckon 54 = .ok (.irem, 1) := by decide +kernel
theorem dX9_reckon_55 : decode cX9_reckon 55 = .ok (.ireturn, 1) := by decide +kernel
theorem dX9_deedPlace_0 : decode cX9_deedPlace 0 = .ok (.iload_n 0, 1) := by decide +kernel
theorem dX9_deedPlace_1 : decode cX9_deedPlace 1 = .ok (.bipush 25, 2) := by decide +kernel
theorem dX9_deedPlace_3 : decode cX9_deedPlace 3 = .ok (.imul, 1) := by decide +kernel
theorem dX9_deedPlace_4 : decode cX9_deedPlace 4 = .ok (.iload_n 1, 1) := by decide +kernel
theorem dX9_deedPlace_5 : decode cX9_deedPlace 5 = .ok (.iadd, 1) := by decide +kernel
theorem dX9_deedPlace_6 : decode cX9_deedPlace 6 = .ok (.iconst 2, 1) := by decide +kernel
theorem dX9_deedPlace_7 : decode cX9_deedPlace 7 = .ok (.imul, 1) := by decide +kernel
theorem dX9_deedPlace_8 : decode cX9_deedPlace 8 = .ok (.iload_n 2, 1) := by decide +kernel
theorem dX9_deedPlace_9 : decode cX9_deedPlace 9 = .ok (.iadd, 1) := by decide +kernel
theorem dX9_deedPlace_10 : decode cX9_deedPlace 10 = .ok (.ireturn, 1) := by decide +kernel
theorem dX10_init_0 : decode cX10_init 0 = .ok (.aload_n 0, 1) := by decide +kernel
theorem dX10_init_1 : decode cX10_init 1 = .ok (.invokespecial 1, 3) := by decide +kernel
theorem dX10_init_4 : decode cX10_init 4 = .ok (.aload_n 0, 1) := by decide +kernel
theorem dX10_init_5 : decode cX10_init 5 = .ok (.sipush 4905, 3) := by decide +kernel
theorem dX10_init_8 : decode cX10_init 8 = .ok (.newarray .int, 2) := by decide +kernel
theorem dX10_init_10 : decode cX10_init 10 = .ok (.putfield 7, 3) := by decide +kernel
theorem dX10_init_13 : decode cX10_init 13 = .ok (.aload_n 0, 1) := by decide +kernel
theorem dX10_init_14 : decode cX10_init 14 = .ok (.sipush 600, 3) := by decide +kernel
theorem dX10_init_17 : decode cX10_init 17 = .ok (.newarray .int, 2) := by decide +kernel
theorem dX10_init_19 : decode cX10_init 19 = .ok (.putfield 13, 3) := by decide +kernel
theorem dX10_init_22 : decode cX10_init 22 = .ok (.aload_n 0, 1) := by decide +kernel
theorem dX10_init_23 : decode cX10_init 23 = .ok (.iconst 3, 1) := by decide +kernel
theorem dX10_init_24 : decode cX10_init 24 = .ok (.newarray .boolean, 2) := by decide +kernel
theorem dX10_init_26 : decode cX10_init 26 = .ok (.putfield 16, 3) := by decide +kernel
theorem dX10_init_29 : decode cX10_init 29 = .ok (.aload_n 0, 1) := by decide +kernel
theorem dX10_init_30 : decode cX10_init 30 = .ok (.iconst (-1), 1) := by decide +kernel
theorem dX10_init_31 : decode cX10_init 31 = .ok (.putfield 20, 3) := by decide +kernel
theorem dX10_init_34 : decode cX10_init 34 = .ok (.aload_n 0, 1) := by decide +kernel
theorem dX10_init_35 : decode cX10_init 35 = .ok (.bipush 24, 2) := by decide +kernel
theorem dX10_init_37 : decode cX10_init 37 = .ok (.newarray .int, 2) := by decide +kernel
theorem dX10_init_39 : decode cX10_init 39 = .ok (.putfield 24, 3) := by decide +kernel
theorem dX10_init_42 : decode cX10_init 42 = .ok (.aload_n 0, 1) := by decide +kernel
theorem dX10_init_43 : decode cX10_init 43 = .ok (.bipush 90, 2) := by decide +kernel
theorem dX10_init_45 : decode cX10_init 45 = .ok (.newarray .long, 2) := by decide +kernel
theorem dX10_init_47 : decode cX10_init 47 = .ok (.putfield 27, 3) := by decide +kernel
theorem dX10_init_50 : decode cX10_init 50 = .ok (.aload_n 0, 1) := by decide +kernel
theorem dX10_init_51 : decode cX10_init 51 = .ok (.bipush 25, 2) := by decide +kernel
theorem dX10_init_53 : decode cX10_init 53 = .ok (.newarray .long, 2) := by decide +kernel
theorem dX10_init_55 : decode cX10_init 55 = .ok (.putfield 31, 3) := by decide +kernel
theorem dX10_init_58 : decode cX10_init 58 = .ok (.aload_n 0, 1) := by decide +kernel
theorem dX10_init_59 : decode cX10_init 59 = .ok (.bipush 90, 2) := by decide +kernel
theorem dX10_init_61 : decode cX10_init 61 = .ok (.newarray .int, 2) := by decide +kernel
theorem dX10_init_63 : decode cX10_init 63 = .ok (.putfield 34, 3) := by decide +kernel
theorem dX10_init_66 : decode cX10_init 66 = .ok (.aload_n 0, 1) := by decide +kernel
theorem dX10_init_67 : decode cX10_init 67 = .ok (.bipush 25, 2) := by decide +kernel
theorem dX10_init_69 : decode cX10_init 69 = .ok (.newarray .int, 2) := by decide +kernel
theorem dX10_init_71 : decode cX10_init 71 = .ok (.putfield 37, 3) := by decide +kernel
theorem dX10_init_74 : decode cX10_init 74 = .ok (.aload_n 0, 1) := by decide +kernel
theorem dX10_init_75 : decode cX10_init 75 = .ok (.bipush 25, 2) := by decide +kernel
theorem dX10_init_77 : decode cX10_init 77 = .ok (.newarray .int, 2) := by decide +kernel
theorem dX10_init_79 : decode cX10_init 79 = .ok (.putfield 40, 3) := by decide +kernel
theorem dX10_init_82 : decode cX10_init 82 = .ok (.aload_n 0, 1) := by decide +kernel
theorem dX10_init_83 : decode cX10_init 83 = .ok (.iconst 0, 1) := by decide +kernel
theorem dX10_init_84 : decode cX10_init 84 = .ok (.invokevirtual 43, 3) := by decide +kernel
theorem dX10_init_87 : decode cX10_init 87 = .ok (.aload_n 0, 1) := by decide +kernel
theorem dX10_init_88 : decode cX10_init 88 = .ok (.iconst 0, 1) := by decide +kernel
theorem dX10_init_89 : decode cX10_init 89 = .ok (.invokevirtual 47, 3) := by decide +kernel
theorem dX10_init_92 : decode cX10_init 92 = .ok (.return_, 1) := by decide +kernel
theorem dX10_isIn_0 : decode cX10_isIn 0 = .ok (.iload_n 0, 1) := by decide +kernel
theorem dX10_isIn_1 : decode cX10_isIn 1 = .ok (.iload_n 1, 1) := by decide +kernel
theorem dX10_isIn_2 : decode cX10_isIn 2 = .ok (.if_icmp .lt 12, 3) := by decide +kernel
theorem dX10_isIn_5 : decode cX10_isIn 5 = .ok (.iload_n 0, 1) := by decide +kernel
theorem dX10_isIn_6 : decode cX10_isIn 6 = .ok (.iload_n 2, 1) := by decide +kernel
theorem dX10_isIn_7 : decode cX10_isIn 7 = .ok (.if_icmp .gt 7, 3) := by decide +kernel
theorem dX10_isIn_10 : decode cX10_isIn 10 = .ok (.iconst 1, 1) := by decide +kernel
theorem dX10_isIn_11 : decode cX10_isIn 11 = .ok (.goto 4, 3) := by decide +kernel
theorem dX10_isIn_14 : decode cX10_isIn 14 = .ok (.iconst 0, 1) := by decide +kernel
theorem dX10_isIn_15 : decode cX10_isIn 15 = .ok (.ireturn, 1) := by decide +kernel
theorem dX10_has_0 : decode cX10_has 0 = .ok (.iload_n 0, 1) := by decide +kernel
theorem dX10_has_1 : decode cX10_has 1 = .ok (.iload_n 1, 1) := by decide +kernel
theorem dX10_has_2 : decode cX10_has 2 = .ok (.ishr, 1) := by decide +kernel
theorem dX10_has_3 : decode cX10_has 3 = .ok (.iconst 1, 1) := by decide +kernel
theorem dX10_has_4 : decode cX10_has 4 = .ok (.iand, 1) := by decide +kernel
theorem dX10_has_5 : decode cX10_has 5 = .ok (.iconst 1, 1) := by decide +kernel
theorem dX10_has_6 : decode cX10_has 6 = .ok (.if_icmp .ne 7, 3) := by decide +kernel
theorem dX10_has_9 : decode cX10_has 9 = .ok (.iconst 1, 1) := by decide +kernel
theorem dX10_has_10 : decode cX10_has 10 = .ok (.goto 4, 3) := by decide +kernel
theorem dX10_has_13 : decode cX10_has 13 = .ok (.iconst 0, 1) := by decide +kernel
theorem dX10_has_14 : decode cX10_has 14 = .ok (.ireturn, 1) := by decide +kernel
theorem dX10_wrap_0 : decode cX10_wrap 0 = .ok (.iload_n 0, 1) := by decide +kernel
theorem dX10_wrap_1 : decode cX10_wrap 1 = .ok (.sipush 1000, 3) := by decide +kernel
theorem dX10_wrap_4 : decode cX10_wrap 4 = .ok (.irem, 1) := by decide +kernel
theorem dX10_wrap_5 : decode cX10_wrap 5 = .ok (.sipush 1000, 3) := by decide +kernel
theorem dX10_wrap_8 : decode cX10_wrap 8 = .ok (.iadd, 1) := by decide +kernel
theorem dX10_wrap_9 : decode cX10_wrap 9 = .ok (.sipush 1000, 3) := by decide +kernel
theorem dX10_wrap_12 : decode cX10_wrap 12 = .ok (.irem, 1) := by decide +kernel
theorem dX10_wrap_13 : decode cX10_wrap 13 = .ok (.ireturn, 1) := by decide +kernel
theorem dX10_clears_0 : decode cX10_clears 0 = .ok (.iconst 0, 1) := by decide +kernel
theorem dX10_clears_1 : decode cX10_clears 1 = .ok (.istore_n 2, 1) := by decide +kernel
theorem dX10_clears_2 : decode cX10_clears 2 = .ok (.iload_n 2, 1) := by decide +kernel
theorem dX10_clears_3 : decode cX10_clears 3 = .ok (.sipush 516, 3) := by decide +kernel
theorem dX10_clears_6 : decode cX10_clears 6 = .ok (.if_icmp .ge 18, 3) := by decide +kernel
theorem dX10_clears_9 : decode cX10_clears 9 = .ok (.aload_n 0, 1) := by decide +kernel
theorem dX10_clears_10 : decode cX10_clears 10 = .ok (.getfield 7, 3) := by decide +kernel
theorem dX10_clears_13 : decode cX10_clears 13 = .ok (.iload_n 1, 1) := by decide +kernel
theorem dX10_clears_14 : decode cX10_clears 14 = .ok (.iload_n 2, 1) := by decide +kernel
theorem dX10_clears_15 : decode cX10_clears 15 = .ok (.iadd, 1) := by decide +kernel
theorem dX10_clears_16 : decode cX10_clears 16 = .ok (.iconst 0, 1) := by decide +kernel
theorem dX10_clears_17 : decode cX10_clears 17 = .ok (.iastore, 1) := by decide +kernel
theorem dX10_clears_18 : decode cX10_clears 18 = .ok (.iinc 2 1, 3) := by decide +kernel
theorem dX10_clears_21 : decode cX10_clears 21 = .ok (.goto (-19), 3) := by decide +kernel
theorem dX10_clears_24 : decode cX10_clears 24 = .ok (.aload_n 0, 1) := by decide +kernel
theorem dX10_clears_25 : decode cX10_clears 25 = .ok (.getfield 7, 3) := by decide +kernel
theorem dX10_clears_28 : decode cX10_clears 28 = .ok (.iload_n 1, 1) := by decide +kernel
theorem dX10_clears_29 : decode cX10_clears 29 = .ok (.iconst 0, 1) := by decide +kernel
theorem dX10_clears_30 : decode cX10_clears 30 = .ok (.iadd, 1) := by decide +kernel
theorem dX10_clears_31 : decode cX10_clears 31 = .ok (.iconst 3, 1) := by decide +kernel
theorem dX10_clears_32 : decode cX10_clears 32 = .ok (.iastore, 1) := by decide +kernel
theorem dX10_clears_33 : decode cX10_clears 33 = .ok (.iconst 0, 1) := by decide +kernel
theorem dX10_clears_34 : decode cX10_clears 34 = .ok (.istore_n 2, 1) := by decide +kernel
theorem dX10_clears_35 : decode cX10_clears 35 = .ok (.iload_n 2, 1) := by decide +kernel
theorem dX10_clears_36 : decode cX10_clears 36 = .ok (.bipush 6, 2) := by decide +kernel
theorem dX10_clears_38 : decode cX10_clears 38 = .ok (.if_icmp .ge 20, 3) := by decide +kernel
theorem dX10_clears_41 : decode cX10_clears 41 = .ok (.aload_n 0, 1) := by decide +kernel
theorem dX10_clears_42 : decode cX10_clears 42 = .ok (.getfield 7, 3) := by decide +kernel
theorem dX10_clears_45 : decode cX10_clears 45 = .ok (.iload_n 1, 1) := by decide +kernel
theorem dX10_clears_46 : decode cX10_clears 46 = .ok (.iconst 1, 1) := by decide +kernel
theorem dX10_clears_47 : decode cX10_clears 47 = .ok (.iadd, 1) := by decide +kernel
theorem dX10_clears_48 : decode cX10_clears 48 = .ok (.iload_n 2, 1) := by decide +kernel
theorem dX10_clears_49 : decode cX10_clears 49 = .ok (.iadd, 1) := by decide +kernel
theorem dX10_clears_50 : decode cX10_clears 50 = .ok (.iconst 4, 1) := by decide +kernel
theorem dX10_clears_51 : decode cX10_clears 51 = .ok (.iastore, 1) := by decide +kernel
theorem dX10_clears_52 : decode cX10_clears 52 = .ok (.iinc 2 1, 3) := by decide +kernel
theorem dX10_clears_55 : decode cX10_clears 55 = .ok (.goto (-20), 3) := by decide +kernel
theorem dX10_clears_58 : decode cX10_clears 58 = .ok (.return_, 1) := by decide +kernel
theorem dX10_copies_0 : decode cX10_copies 0 = .ok (.iconst 0, 1) := by decide +kernel
theorem dX10_copies_1 : decode cX10_copies 1 = .ok (.istore_n 3, 1) := by decide +kernel
theorem dX10_copies_2 : decode cX10_copies 2 = .ok (.iload_n 3, 1) := by decide +kernel
theorem dX10_copies_3 : decode cX10_copies 3 = .ok (.sipush 516, 3) := by decide +kernel
theorem dX10_copies_6 : decode cX10_copies 6 = .ok (.if_icmp .ge 25, 3) := by decide +kernel
theorem dX10_copies_9 : decode cX10_copies 9 = .ok (.aload_n 0, 1) := by decide +kernel
theorem dX10_copies_10 : decode cX10_copies 10 = .ok (.getfield 7, 3) := by decide +kernel
theorem dX10_copies_13 : decode cX10_copies 13 = .ok (.iload_n 2, 1) := by decide +kernel
theorem dX10_copies_14 : decode cX10_copies 14 = .ok (.iload_n 3, 1) := by decide +kernel
theorem dX10_copies_15 : decode cX10_copies 15 = .ok (.iadd, 1) := by decide +kernel
theorem dX10_copies_16 : decode cX10_copies 16 = .ok (.aload_n 0, 1) := by decide +kernel
theorem dX10_copies_17 : decode cX10_copies 17 = .ok (.getfield 7, 3) := by decide +kernel
theorem dX10_copies_20 : decode cX10_copies 20 = .ok (.iload_n 1, 1) := by decide +kernel
theorem dX10_copies_21 : decode cX10_copies 21 = .ok (.iload_n 3, 1) := by decide +kernel
theorem dX10_copies_22 : decode cX10_copies 22 = .ok (.iadd, 1) := by decide +kernel
theorem dX10_copies_23 : decode cX10_copies 23 = .ok (.iaload, 1) := by decide +kernel
theorem dX10_copies_24 : decode cX10_copies 24 = .ok (.iastore, 1) := by decide +kernel
theorem dX10_copies_25 : decode cX10_copies 25 = .ok (.iinc 3 1, 3) := by decide +kernel
theorem dX10_copies_28 : decode cX10_copies 28 = .ok (.goto (-26), 3) := by decide +kernel
theorem dX10_copies_31 : decode cX10_copies 31 = .ok (.return_, 1) := by decide +kernel
theorem dX10_starts_0 : decode cX10_starts 0 = .ok (.sipush 170, 3) := by decide +kernel
theorem dX10_starts_3 : decode cX10_starts 3 = .ok (.istore_n 2, 1) := by decide +kernel
theorem dX10_starts_4 : decode cX10_starts 4 = .ok (.iload_n 2, 1) := by decide +kernel
theorem dX10_starts_5 : decode cX10_starts 5 = .ok (.sipush 516, 3) := by decide +kernel
theorem dX10_starts_8 : decode cX10_starts 8 = .ok (.if_icmp .ge 18, 3) := by decide +kernel
theorem dX10_starts_11 : decode cX10_starts 11 = .ok (.aload_n 0, 1) := by decide +kernel
theorem dX10_starts_12 : decode cX10_starts 12 = .ok (.getfield 7, 3) := by decide +kernel
theorem dX10_starts_15 : decode cX10_starts 15 = .ok (.iload_n 1, 1) := by decide +kernel
theorem dX10_starts_16 : decode cX10_starts 16 = .ok (.iload_n 2, 1) := by decide +kernel
theorem dX10_starts_17 : decode cX10_starts 17 = .ok (.iadd, 1) := by decide +kernel
theorem dX10_starts_18 : decode cX10_starts 18 = .ok (.iconst 0, 1) := by decide +kernel
theorem dX10_starts_19 : decode cX10_starts 19 = .ok (.iastore, 1) := by decide +kernel
theorem dX10_starts_20 : decode cX10_starts 20 = .ok (.iinc 2 1, 3) := by decide +kernel
theorem dX10_starts_23 : decode cX10_starts 23 = .ok (.goto (-19), 3) := by decide +kernel
theorem dX10_starts_26 : decode cX10_starts 26 = .ok (.iconst 0, 1) := by decide +kernel
theorem dX10_starts_27 : decode cX10_starts 27 = .ok (.istore_n 2, 1) := by decide +kernel
theorem dX10_starts_28 : decode cX10_starts 28 = .ok (.iload_n 2, 1) := by decide +kernel
theorem dX10_starts_29 : decode cX10_starts 29 = .ok (.bipush 6, 2) := by decide +kernel
theorem dX10_starts_31 : decode cX10_starts 31 = .ok (.if_icmp .ge 31, 3) := by decide +kernel
theorem dX10_starts_34 : decode cX10_starts 34 = .ok (.aload_n 0, 1) := by decide +kernel
theorem dX10_starts_35 : decode cX10_starts 35 = .ok (.getfield 7, 3) := by decide +kernel
theorem dX10_starts_38 : decode cX10_starts 38 = .ok (.iload_n 1, 1) := by decide +kernel
theorem dX10_starts_39 : decode cX10_starts 39 = .ok (.sipush 172, 3) := by decide +kernel
theorem dX10_starts_42 : decode cX10_starts 42 = .ok (.iadd, 1) := by decide +kernel
theorem dX10_starts_43 : decode cX10_starts 43 = .ok (.iload_n 2, 1) := by decide +kernel
theorem dX10_starts_44 : decode cX10_starts 44 = .ok (.iadd, 1) := by decide +kernel
theorem dX10_starts_45 : decode cX10_starts 45 = .ok (.aload_n 0, 1) := by decide +kernel
theorem dX10_starts_46 : decode cX10_starts 46 = .ok (.getfield 7, 3) := by decide +kernel
theorem dX10_starts_49 : decode cX10_starts 49 = .ok (.iload_n 1, 1) := by decide +kernel
theorem dX10_starts_50 : decode cX10_starts 50 = .ok (.iconst 1, 1) := by decide +kernel
theorem dX10_starts_51 : decode cX10_starts 51 = .ok (.iadd, 1) := by decide +kernel
theorem dX10_starts_52 : decode cX10_starts 52 = .ok (.iload_n 2, 1) := by decide +kernel
theorem dX10_starts_53 : decode cX10_starts 53 = .ok (.iadd, 1) := by decide +kernel
theorem dX10_starts_54 : decode cX10_starts 54 = .ok (.iaload, 1) := by decide +kernel
theorem dX10_starts_55 : decode cX10_starts 55 = .ok (.iastore, 1) := by decide +kernel
theorem dX10_starts_56 : decode cX10_starts 56 = .ok (.iinc 2 1, 3) := by decide +kernel
theorem dX10_starts_59 : decode cX10_starts 59 = .ok (.goto (-31), 3) := by decide +kernel
theorem dX10_starts_62 : decode cX10_starts 62 = .ok (.iconst 0, 1) := by decide +kernel
theorem dX10_starts_63 : decode cX10_starts 63 = .ok (.istore_n 2, 1) := by decide +kernel
theorem dX10_starts_64 : decode cX10_starts 64 = .ok (.iload_n 2, 1) := by decide +kernel
theorem dX10_starts_65 : decode cX10_starts 65 = .ok (.bipush 32, 2) := by decide +kernel
theorem dX10_starts_67 : decode cX10_starts 67 = .ok (.if_icmp .ge 32, 3) := by decide +kernel
theorem dX10_starts_70 : decode cX10_starts 70 = .ok (.aload_n 0, 1) := by decide +kernel
theorem dX10_starts_71 : decode cX10_starts 71 = .ok (.getfield 7, 3) := by decide +kernel
theorem dX10_starts_74 : decode cX10_starts 74 = .ok (.iload_n 1, 1) := by decide +kernel
theorem dX10_starts_75 : decode cX10_starts 75 = .ok (.sipush 178, 3) := by decide +kernel
theorem dX10_starts_78 : decode cX10_starts 78 = .ok (.iadd, 1) := by decide +kernel
theorem dX10_starts_79 : decode cX10_starts 79 = .ok (.iload_n 2, 1) := by decide +kernel
theorem dX10_starts_80 : decode cX10_starts 80 = .ok (.iadd, 1) := by decide +kernel
theorem dX10_starts_81 : decode cX10_starts 81 = .ok (.aload_n 0, 1) := by decide +kernel
theorem dX10_starts_82 : decode cX10_starts 82 = .ok (.getfield 7, 3) := by decide +kernel
theorem dX10_starts_85 : decode cX10_starts 85 = .ok (.iload_n 1, 1) := by decide +kernel
theorem dX10_starts_86 : decode cX10_starts 86 = .ok (.bipush 7, 2) := by decide +kernel
theorem dX10_starts_88 : decode cX10_starts 88 = .ok (.iadd, 1) := by decide +kernel
theorem dX10_starts_89 : decode cX10_starts 89 = .ok (.iload_n 2, 1) := by decide +kernel
theorem dX10_starts_90 : decode cX10_starts 90 = .ok (.iadd, 1) := by decide +kernel
theorem dX10_starts_91 : decode cX10_starts 91 = .ok (.iaload, 1) := by decide +kernel
theorem dX10_starts_92 : decode cX10_starts 92 = .ok (.iastore, 1) := by decide +kernel
theorem dX10_starts_93 : decode cX10_starts 93 = .ok (.iinc 2 1, 3) := by decide +kernel
theorem dX10_starts_96 : decode cX10_starts 96 = .ok (.goto (-32), 3) := by decide +kernel
theorem dX10_starts_99 : decode cX10_starts 99 = .ok (.iconst 0, 1) := by decide +kernel
theorem dX10_starts_100 : decode cX10_starts 100 = .ok (.istore_n 2, 1) := by decide +kernel
theorem dX10_starts_101 : decode cX10_starts 101 = .ok (.iload_n 2, 1) := by decide +kernel
theorem dX10_starts_102 : decode cX10_starts 102 = .ok (.bipush 8, 2) := by decide +kernel
theorem dX10_starts_104 : decode cX10_starts 104 = .ok (.if_icmp .ge 32, 3) := by decide +kernel
theorem dX10_starts_107 : decode cX10_starts 107 = .ok (.aload_n 0, 1) := by decide +kernel
theorem dX10_starts_108 : decode cX10_starts 108 = .ok (.getfield 7, 3) := by decide +kernel
theorem dX10_starts_111 : decode cX10_starts 111 = .ok (.iload_n 1, 1) := by decide +kernel
theorem dX10_starts_112 : decode cX10_starts 112 = .ok (.sipush 210, 3) := by decide +kernel
theorem dX10_starts_115 : decode cX10_starts 115 = .ok (.iadd, 1) := by decide +kernel
theorem dX10_starts_116 : decode cX10_starts 116 = .ok (.iload_n 2, 1) := by decide +kernel
theorem dX10_starts_117 : decode cX10_starts 117 = .ok (.iadd, 1) := by decide +kernel
theorem dX10_starts_118 : decode cX10_starts 118 = .ok (.aload_n 0, 1) := by decide +kernel
theorem dX10_starts_119 : decode cX10_starts 119 = .ok (.getfield 7, 3) := by decide +kernel
theorem dX10_starts_122 : decode cX10_starts 122 = .ok (.iload_n 1, 1) := by decide +kernel
theorem dX10_starts_123 : decode cX10_starts 123 = .ok (.bipush 39, 2) := by decide +kernel
theorem dX10_starts_125 : decode cX10_starts 125 = .ok (.iadd, 1) := by decide +kernel
theorem dX10_starts_126 : decode cX10_starts 126 = .ok (.iload_n 2, 1) := by decide +kernel
theorem dX10_starts_127 : decode cX10_starts 127 = .ok (.iadd, 1) := by decide +kernel
theorem dX10_starts_128 : decode cX10_starts 128 = .ok (.iaload, 1) := by decide +kernel
theorem dX10_starts_129 : decode cX10_starts 129 = .ok (.iastore, 1) := by decide +kernel
theorem dX10_starts_130 : decode cX10_starts 130 = .ok (.iinc 2 1, 3) := by decide +kernel
theorem dX10_starts_133 : decode cX10_starts 133 = .ok (.goto (-32), 3) := by decide +kernel
theorem dX10_starts_136 : decode cX10_starts 136 = .ok (.aload_n 0, 1) := by decide +kernel
theorem dX10_starts_137 : decode cX10_starts 137 = .ok (.getfield 7, 3) := by decide +kernel
theorem dX10_starts_140 : decode cX10_starts 140 = .ok (.iload_n 1, 1) := by decide +kernel
theorem dX10_starts_141 : decode cX10_starts 141 = .ok (.sipush 250, 3) := by decide +kernel
theorem dX10_starts_144 : decode cX10_starts 144 = .ok (.iadd, 1) := by decide +kernel
theorem dX10_starts_145 : decode cX10_starts 145 = .ok (.iconst (-1), 1) := by decide +kernel
theorem dX10_starts_146 : decode cX10_starts 146 = .ok (.iastore, 1) := by decide +kernel
theorem dX10_starts_147 : decode cX10_starts 147 = .ok (.aload_n 0, 1) := by decide +kernel
theorem dX10_starts_148 : decode cX10_starts 148 = .ok (.getfield 7, 3) := by decide +kernel
theorem dX10_starts_151 : decode cX10_starts 151 = .ok (.iload_n 1, 1) := by decide +kernel
theorem dX10_starts_152 : decode cX10_starts 152 = .ok (.bipush 49, 2) := by decide +kernel
theorem dX10_starts_154 : decode cX10_starts 154 = .ok (.iadd, 1) := by decide +kernel
theorem dX10_starts_155 : decode cX10_starts 155 = .ok (.aload_n 0, 1) := by decide +kernel
theorem dX10_starts_156 : decode cX10_starts 156 = .ok (.iload_n 1, 1) := by decide +kernel
theorem dX10_starts_157 : decode cX10_starts 157 = .ok (.invokevirtual 50, 3) := by decide +kernel
theorem dX10_starts_160 : decode cX10_starts 160 = .ok (.iastore, 1) := by decide +kernel
theorem dX10_starts_161 : decode cX10_starts 161 = .ok (.return_, 1) := by decide +kernel
theorem dX10_of_0 : decode cX10_of 0 = .ok (.aload_n 0, 1) := by decide +kernel
theorem dX10_of_1 : decode cX10_of 1 = .ok (.getfield 7, 3) := by decide +kernel
theorem dX10_of_4 : decode cX10_of 4 = .ok (.iload_n 1, 1) := by decide +kernel
theorem dX10_of_5 : decode cX10_of 5 = .ok (.bipush 50, 2) := by decide +kernel
theorem dX10_of_7 : decode cX10_of 7 = .ok (.iadd, 1) := by decide +kernel
theorem dX10_of_8 : decode cX10_of 8 = .ok (.iconst 5, 1) := by decide +kernel
theorem dX10_of_9 : decode cX10_of 9 = .ok (.iload_n 2, 1) := by decide +kernel
theorem dX10_of_10 : decode cX10_of 10 = .ok (.imul, 1) := by decide +kernel
theorem dX10_of_11 : decode cX10_of 11 = .ok (.iadd, 1) := by decide +kernel
theorem dX10_of_12 : decode cX10_of 12 = .ok (.iload_n 3, 1) := by decide +kernel
theorem dX10_of_13 : decode cX10_of 13 = .ok (.iadd, 1) := by decide +kernel
theorem dX10_of_14 : decode cX10_of 14 = .ok (.iaload, 1) := by decide +kernel
theorem dX10_of_15 : decode cX10_of 15 = .ok (.ireturn, 1) := by decide +kernel
theorem dX10_opOf_0 : decode cX10_opOf 0 = .ok (.iload_n 2, 1) := by decide +kernel
theorem dX10_opOf_1 : decode cX10_opOf 1 = .ok (.aload_n 0, 1) := by decide +kernel
theorem dX10_opOf_2 : decode cX10_opOf 2 = .ok (.getfield 7, 3) := by decide +kernel
theorem dX10_opOf_5 : decode cX10_opOf 5 = .ok (.iload_n 1, 1) := by decide +kernel
theorem dX10_opOf_6 : decode cX10_opOf 6 = .ok (.bipush 48, 2) := by decide +kernel
theorem dX10_opOf_8 : decode cX10_opOf 8 = .ok (.iadd, 1) := by decide +kernel
theorem dX10_opOf_9 : decode cX10_opOf 9 = .ok (.iaload, 1) := by decide +kernel
theorem dX10_opOf_10 : decode cX10_opOf 10 = .ok (.if_icmp .ne 8, 3) := by decide +kernel
theorem dX10_opOf_13 : decode cX10_opOf 13 = .ok (.bipush 8, 2) := by decide +kernel
theorem dX10_opOf_15 : decode cX10_opOf 15 = .ok (.goto 10, 3) := by decide +kernel
theorem dX10_opOf_18 : decode cX10_opOf 18 = .ok (.aload_n 0, 1) := by decide +kernel
theorem dX10_opOf_19 : decode cX10_opOf 19 = .ok (.iload_n 1, 1) := by decide +kernel
theorem dX10_opOf_20 : decode cX10_opOf 20 = .ok (.iload_n 2, 1) := by decide +kernel
theorem dX10_opOf_21 : decode cX10_opOf 21 = .ok (.iconst 0, 1) := by decide +kernel
theorem dX10_opOf_22 : decode cX10_opOf 22 = .ok (.invokevirtual 54, 3) := by decide +kernel
theorem dX10_opOf_25 : decode cX10_opOf 25 = .ok (.ireturn, 1) := by decide +kernel
theorem dX10_isReckoning_0 : decode cX10_isReckoning 0 = .ok (.iload_n 0, 1) := by decide +kernel
theorem dX10_isReckoning_1 : decode cX10_isReckoning 1 = .ok (.iconst 1, 1) := by decide +kernel
theorem dX10_isReckoning_2 : decode cX10_isReckoning 2 = .ok (.if_icmp .eq 13, 3) := by decide +kernel
theorem dX10_isReckoning_5 : decode cX10_isReckoning 5 = .ok (.iload_n 0, 1) := by decide +kernel
theorem dX10_isReckoning_6 : decode cX10_isReckoning 6 = .ok (.iconst 2, 1) := by decide +kernel
theorem dX10_isReckoning_7 : decode cX10_isReckoning 7 = .ok (.if_icmp .eq 8, 3) := by decide +kernel
theorem dX10_isReckoning_10 : decode cX10_isReckoning 10 = .ok (.iload_n 0, 1) := by decide +kernel
theorem dX10_isReckoning_11 : decode cX10_isReckoning 11 = .ok (.iconst 3, 1) := by decide +kernel
theorem dX10_isReckoning_12 : decode cX10_isReckoning 12 = .ok (.if_icmp .ne 7, 3) := by decide +kernel
theorem dX10_isReckoning_15 : decode cX10_isReckoning 15 = .ok (.iconst 1, 1) := by decide +kernel
theorem dX10_isReckoning_16 : decode cX10_isReckoning 16 = .ok (.goto 4, 3) := by decide +kernel
theorem dX10_isReckoning_19 : decode cX10_isReckoning 19 = .ok (.iconst 0, 1) := by decide +kernel
theorem dX10_isReckoning_20 : decode cX10_isReckoning 20 = .ok (.ireturn, 1) := by decide +kernel
theorem dX10_aims_0 : decode cX10_aims 0 = .ok (.aload_n 0, 1) := by decide +kernel
theorem dX10_aims_1 : decode cX10_aims 1 = .ok (.getfield 7, 3) := by decide +kernel
theorem dX10_aims_4 : decode cX10_aims 4 = .ok (.iload_n 1, 1) := by decide +kernel
theorem dX10_aims_5 : decode cX10_aims 5 = .ok (.bipush 47, 2) := by decide +kernel
theorem dX10_aims_7 : decode cX10_aims 7 = .ok (.iadd, 1) := by decide +kernel
theorem dX10_aims_8 : decode cX10_aims 8 = .ok (.iaload, 1) := by decide +kernel
theorem dX10_aims_9 : decode cX10_aims 9 = .ok (.istore_n 2, 1) := by decide +kernel
theorem dX10_aims_10 : decode cX10_aims 10 = .ok (.iconst (-1), 1) := by decide +kernel
theorem dX10_aims_11 : decode cX10_aims 11 = .ok (.istore_n 3, 1) := by decide +kernel
theorem dX10_aims_12 : decode cX10_aims 12 = .ok (.iload_n 2, 1) := by decide +kernel
theorem dX10_aims_13 : decode cX10_aims 13 = .ok (.iload_n 3, 1) := by decide +kernel
theorem dX10_aims_14 : decode cX10_aims 14 = .ok (.if_icmp .eq 112, 3) := by decide +kernel
theorem dX10_aims_17 : decode cX10_aims 17 = .ok (.iload_n 2, 1) := by decide +kernel
theorem dX10_aims_18 : decode cX10_aims 18 = .ok (.istore_n 3, 1) := by decide +kernel
theorem dX10_aims_19 : decode cX10_aims 19 = .ok (.iconst 0, 1) := by decide +kernel
theorem dX10_aims_20 : decode cX10_aims 20 = .ok (.istore 4, 2) := by decide +kernel
theorem dX10_aims_22 : decode cX10_aims 22 = .ok (.iload 4, 2) := by decide +kernel
theorem dX10_aims_24 : decode cX10_aims 24 = .ok (.aload_n 0, 1) := by decide +kernel
theorem dX10_aims_25 : decode cX10_aims 25 = .ok (.getfield 7, 3) := by decide +kernel
theorem dX10_aims_28 : decode cX10_aims 28 = .ok (.iload_n 1, 1) := by decide +kernel
theorem dX10_aims_29 : decode cX10_aims 29 = .ok (.bipush 48, 2) := by decide +kernel
theorem dX10_aims_31 : decode cX10_aims 31 = .ok (.iadd, 1) := by decide +kernel
theorem dX10_aims_32 : decode cX10_aims 32 = .ok (.iaload, 1) := by decide +kernel
theorem dX10_aims_33 : decode cX10_aims 33 = .ok (.if_icmp .ge 90, 3) := by decide +kernel
theorem dX10_aims_36 : decode cX10_aims 36 = .ok (.aload_n 0, 1) := by decide +kernel
theorem dX10_aims_37 : decode cX10_aims 37 = .ok (.iload_n 1, 1) := by decide +kernel
theorem dX10_aims_38 : decode cX10_aims 38 = .ok (.iload 4, 2) := by decide +kernel
theorem dX10_aims_40 : decode cX10_aims 40 = .ok (.invokevirtual 58, 3) := by decide +kernel
theorem dX10_aims_43 : decode cX10_aims 43 = .ok (.istore 5, 2) := by decide +kernel
theorem dX10_aims_45 : decode cX10_aims 45 = .ok (.iload 5, 2) := by decide +kernel
theorem dX10_aims_47 : decode cX10_aims 47 = .ok (.iconst 4, 1) := by decide +kernel
theorem dX10_aims_48 : decode cX10_aims 48 = .ok (.if_icmp .eq 9, 3) := by decide +kernel
theorem dX10_aims_51 : decode cX10_aims 51 = .ok (.iload 5, 2) := by decide +kernel
theorem dX10_aims_53 : decode cX10_aims 53 = .ok (.iconst 5, 1) := by decide +kernel
theorem dX10_aims_54 : decode cX10_aims 54 = .ok (.if_icmp .ne 16, 3) := by decide +kernel
theorem dX10_aims_57 : decode cX10_aims 57 = .ok (.iload_n 2, 1) := by decide +kernel
theorem dX10_aims_58 : decode cX10_aims 58 = .ok (.iconst 1, 1) := by decide +kernel
theorem dX10_aims_59 : decode cX10_aims 59 = .ok (.aload_n 0, 1) := by decide +kernel
theorem dX10_aims_60 : decode cX10_aims 60 = .ok (.iload_n 1, 1) := by decide +kernel
theorem dX10_aims_61 : decode cX10_aims 61 = .ok (.iload 4, 2) := by decide +kernel
theorem dX10_aims_63 : decode cX10_aims 63 = .ok (.iconst 2, 1) := by decide +kernel
theorem dX10_aims_64 : decode cX10_aims 64 = .ok (.invokevirtual 54, 3) := by decide +kernel
theorem dX10_aims_67 : decode cX10_aims 67 = .ok (.ishl, 1) := by decide +kernel
theorem dX10_aims_68 : decode cX10_aims 68 = .ok (.ior, 1) := by decide +kernel
theorem dX10_aims_69 : decode cX10_aims 69 = .ok (.istore_n 2, 1) := by decide +kernel
theorem dX10_aims_70 : decode cX10_aims 70 = .ok (.iload 5, 2) := by decide +kernel
theorem dX10_aims_72 : decode cX10_aims 72 = .ok (.invokestatic 62, 3) := by decide +kernel
theorem dX10_aims_75 : decode cX10_aims 75 = .ok (.ifCond .eq 42, 3) := by decide +kernel
theorem dX10_aims_78 : decode cX10_aims 78 = .ok (.iload_n 3, 1) := by decide +kernel
theorem dX10_aims_79 : decode cX10_aims 79 = .ok (.aload_n 0, 1) := by decide +kernel
theorem dX10_aims_80 : decode cX10_aims 80 = .ok (.iload_n 1, 1) := by decide +kernel
theorem dX10_aims_81 : decode cX10_aims 81 = .ok (.iload 4, 2) := by decide +kernel
theorem dX10_aims_83 : decode cX10_aims 83 = .ok (.iconst 1, 1) := by decide +kernel
theorem dX10_aims_84 : decode cX10_aims 84 = .ok (.invokevirtual 54, 3) := by decide +kernel
theorem dX10_aims_87 : decode cX10_aims 87 = .ok (.invokestatic 66, 3) := by decide +kernel
theorem dX10_aims_90 : decode cX10_aims 90 = .ok (.ifCond .eq 27, 3) := by decide +kernel
theorem dX10_aims_93 : decode cX10_aims 93 = .ok (.iload_n 2, 1) := by decide +kernel
theorem dX10_aims_94 : decode cX10_aims 94 = .ok (.iconst 1, 1) := by decide +kernel
theorem dX10_aims_95 : decode cX10_aims 95 = .ok (.aload_n 0, 1) := by decide +kernel
theorem dX10_aims_96 : decode cX10_aims 96 = .ok (.iload_n 1, 1) := by decide +kernel
theorem dX10_aims_97 : decode cX10_aims 97 = .ok (.iload 4, 2) := by decide +kernel
theorem dX10_aims_99 : decode cX10_aims 99 = .ok (.iconst 2, 1) := by decide +kernel
theorem dX10_aims_100 : decode cX10_aims 100 = .ok (.invokevirtual 54, 3) := by decide +kernel
theorem dX10_aims_103 : decode cX10_aims 103 = .ok (.ishl, 1) := by decide +kernel
theorem dX10_aims_104 : decode cX10_aims 104 = .ok (.iconst 1, 1) := by decide +kernel
theorem dX10_aims_105 : decode cX10_aims 105 = .ok (.aload_n 0, 1) := by decide +kernel
theorem dX10_aims_106 : decode cX10_aims 106 = .ok (.iload_n 1, 1) := by decide +kernel
theorem dX10_aims_107 : decode cX10_aims 107 = .ok (.iload 4, 2) := by decide +kernel
theorem dX10_aims_109 : decode cX10_aims 109 = .ok (.iconst 3, 1) := by decide +kernel
theorem dX10_aims_110 : decode cX10_aims 110 = .ok (.invokevirtual 54, 3) := by decide +kernel
theorem dX10_aims_113 : decode cX10_aims 113 = .ok (.ishl, 1) := by decide +kernel
theorem dX10_aims_114 : decode cX10_aims 114 = .ok (.ior, 1) := by decide +kernel
theorem dX10_aims_115 : decode cX10_aims 115 = .ok (.ior, 1) := by decide +kernel
theorem dX10_aims_116 : decode cX10_aims 116 = .ok (.istore_n 2, 1) := by decide +kernel
theorem dX10_aims_117 : decode cX10_aims 117 = .ok (.iinc 4 1, 3) := by decide +kernel
theorem dX10_aims_120 : decode cX10_aims 120 = .ok (.goto (-98), 3) := by decide +kernel
theorem dX10_aims_123 : decode cX10_aims 123 = .ok (.goto (-111), 3) := by decide +kernel
theorem dX10_aims_126 : decode cX10_aims 126 = .ok (.iload_n 2, 1) := by decide +kernel
theorem dX10_aims_127 : decode cX10_aims 127 = .ok (.ireturn, 1) := by decide +kernel
theorem dX10_isAim_0 : decode cX10_isAim 0 = .ok (.aload_n 0, 1) := by decide +kernel
theorem dX10_isAim_1 : decode cX10_isAim 1 = .ok (.getfield 7, 3) := by decide +kernel
theorem dX10_isAim_4 : decode cX10_isAim 4 = .ok (.iload_n 1, 1) := by decide +kernel
theorem dX10_isAim_5 : decode cX10_isAim 5 = .ok (.bipush 49, 2) := by decide +kernel
theorem dX10_isAim_7 : decode cX10_isAim 7 = .ok (.iadd, 1) := by decide +kernel
theorem dX10_isAim_8 : decode cX10_isAim 8 = .ok (.iaload, 1) := by decide +kernel
theorem dX10_isAim_9 : decode cX10_isAim 9 = .ok (.iload_n 2, 1) := by decide +kernel
theorem dX10_isAim_10 : decode cX10_isAim 10 = .ok (.invokestatic 66, 3) := by decide +kernel
theorem dX10_isAim_13 : decode cX10_isAim 13 = .ok (.ireturn, 1) := by decide +kernel
theorem dX10_send_0 : decode cX10_send 0 = .ok (.iload 4, 2) := by decide +kernel
theorem dX10_send_2 : decode cX10_send 2 = .ok (.istore 5, 2) := by decide +kernel
theorem dX10_send_4 : decode cX10_send 4 = .ok (.aload_n 0, 1) := by decide +kernel
theorem dX10_send_5 : decode cX10_send 5 = .ok (.iload_n 1, 1) := by decide +kernel
theorem dX10_send_6 : decode cX10_send 6 = .ok (.iload_n 2, 1) := by decide +kernel
theorem dX10_send_7 : decode cX10_send 7 = .ok (.invokevirtual 70, 3) := by decide +kernel
theorem dX10_send_10 : decode cX10_send 10 = .ok (.ifCond .eq 18, 3) := by decide +kernel
theorem dX10_send_13 : decode cX10_send 13 = .ok (.iload 5, 2) := by decide +kernel
theorem dX10_send_15 : decode cX10_send 15 = .ok (.ifCond .ne 10, 3) := by decide +kernel
theorem dX10_send_18 : decode cX10_send 18 = .ok (.iconst 1, 1) := by decide +kernel
theorem dX10_send_19 : decode cX10_send 19 = .ok (.bipush 16, 2) := by decide +kernel
theorem dX10_send_21 : decode cX10_send 21 = .ok (.iload_n 2, 1) := by decide +kernel
theorem dX10_send_22 : decode cX10_send 22 = .ok (.imul, 1) := by decide +kernel
theorem dX10_send_23 : decode cX10_send 23 = .ok (.iadd, 1) := by decide +kernel
theorem dX10_send_24 : decode cX10_send 24 = .ok (.ireturn, 1) := by decide +kernel
theorem dX10_send_25 : decode cX10_send 25 = .ok (.iinc 5 (-1), 3) := by decide +kernel
theorem dX10_send_28 : decode cX10_send 28 = .ok (.aload_n 0, 1) := by decide +kernel
theorem dX10_send_29 : decode cX10_send 29 = .ok (.iload_n 1, 1) := by decide +kernel
theorem dX10_send_30 : decode cX10_send 30 = .ok (.iload_n 3, 1) := by decide +kernel
theorem dX10_send_31 : decode cX10_send 31 = .ok (.invokevirtual 70, 3) := by decide +kernel
theorem dX10_send_34 : decode cX10_send 34 = .ok (.ifCond .eq 17, 3) := by decide +kernel
theorem dX10_send_37 : decode cX10_send 37 = .ok (.iload 5, 2) := by decide +kernel
theorem dX10_send_39 : decode cX10_send 39 = .ok (.ifCond .ne 12, 3) := by decide +kernel
theorem dX10_send_42 : decode cX10_send 42 = .ok (.iconst 1, 1) := by decide +kernel
theorem dX10_send_43 : decode cX10_send 43 = .ok (.bipush 16, 2) := by decide +kernel
theorem dX10_send_45 : decode cX10_send 45 = .ok (.iload_n 3, 1) := by decide +kernel
theorem dX10_send_46 : decode cX10_send 46 = .ok (.imul, 1) := by decide +kernel
theorem dX10_send_47 : decode cX10_send 47 = .ok (.iadd, 1) := by decide +kernel
theorem dX10_send_48 : decode cX10_send 48 = .ok (.goto 4, 3) := by decide +kernel
theorem dX10_send_51 : decode cX10_send 51 = .ok (.iconst 0, 1) := by decide +kernel
theorem dX10_send_52 : decode cX10_send 52 = .ok (.ireturn, 1) := by decide +kernel
theorem dX10_sends_0 : decode cX10_sends 0 = .ok (.aload_n 0, 1) := by decide +kernel
theorem dX10_sends_1 : decode cX10_sends 1 = .ok (.iload_n 1, 1) := by decide +kernel
theorem dX10_sends_2 : decode cX10_sends 2 = .ok (.iload_n 2, 1) := by decide +kernel
theorem dX10_sends_3 : decode cX10_sends 3 = .ok (.invokevirtual 70, 3) := by decide +kernel
theorem dX10_sends_6 : decode cX10_sends 6 = .ok (.ifCond .eq 7, 3) := by decide +kernel
theorem dX10_sends_9 : decode cX10_sends 9 = .ok (.iconst 1, 1) := by decide +kernel
theorem dX10_sends_10 : decode cX10_sends 10 = .ok (.goto 4, 3) := by decide +kernel
theorem dX10_sends_13 : decode cX10_sends 13 = .ok (.iconst 0, 1) := by decide +kernel
theorem dX10_sends_14 : decode cX10_sends 14 = .ok (.aload_n 0, 1) := by decide +kernel
theorem dX10_sends_15 : decode cX10_sends 15 = .ok (.iload_n 1, 1) := by decide +kernel
theorem dX10_sends_16 : decode cX10_sends 16 = .ok (.iload_n 3, 1) := by decide +kernel
theorem dX10_sends_17 : decode cX10_sends 17 = .ok (.invokevirtual 70, 3) := by decide +kernel
theorem dX10_sends_20 : decode cX10_sends 20 = .ok (.ifCond .eq 7, 3) := by decide +kernel
theorem dX10_sends_23 : decode cX10_sends 23 = .ok (.iconst 1, 1) := by decide +kernel
theorem dX10_sends_24 : decode cX10_sends 24 = .ok (.goto 4, 3) := by decide +kernel
theorem dX10_sends_27 : decode cX10_sends 27 = .ok (.iconst 0, 1) := by decide +kernel
theorem dX10_sends_28 : decode cX10_sends 28 = .ok (.iadd, 1) := by decide +kernel
theorem dX10_sends_29 : decode cX10_sends 29 = .ok (.ireturn, 1) := by decide +kernel
theorem dX10_deed_0 : decode cX10_deed 0 = .ok (.aload_n 0, 1) := by decide +kernel
theorem dX10_deed_1 : decode cX10_deed 1 = .ok (.iload_n 1, 1) := by decide +kernel
theorem dX10_deed_2 : decode cX10_deed 2 = .ok (.iload_n 3, 1) := by decide +kernel
theorem dX10_deed_3 : decode cX10_deed 3 = .ok (.invokevirtual 58, 3) := by decide +kernel
theorem dX10_deed_6 : decode cX10_deed 6 = .ok (.istore 5, 2) := by decide +kernel
theorem dX10_deed_8 : decode cX10_deed 8 = .ok (.iload 4, 2) := by decide +kernel
theorem dX10_deed_10 : decode cX10_deed 10 = .ok (.ifCond .ne 7, 3) := by decide +kernel
theorem dX10_deed_13 : decode cX10_deed 13 = .ok (.iconst 1, 1) := by decide +kernel
theorem dX10_deed_14 : decode cX10_deed 14 = .ok (.goto 4, 3) := by decide +kernel
theorem dX10_deed_17 : decode cX10_deed 17 = .ok (.iconst 0, 1) := by decide +kernel
theorem dX10_deed_18 : decode cX10_deed 18 = .ok (.istore 6, 2) := by decide +kernel
theorem dX10_deed_20 : decode cX10_deed 20 = .ok (.iload 5, 2) := by decide +kernel
theorem dX10_deed_22 : decode cX10_deed 22 = .ok (.bipush 8, 2) := by decide +kernel
theorem dX10_deed_24 : decode cX10_deed 24 = .ok (.if_icmp .ne 15, 3) := by decide +kernel
theorem dX10_deed_27 : decode cX10_deed 27 = .ok (.iload 6, 2) := by decide +kernel
theorem dX10_deed_29 : decode cX10_deed 29 = .ok (.ifCond .eq 8, 3) := by decide +kernel
theorem dX10_deed_32 : decode cX10_deed 32 = .ok (.bipush 14, 2) := by decide +kernel
theorem dX10_deed_34 : decode cX10_deed 34 = .ok (.goto 4, 3) := by decide +kernel
theorem dX10_deed_37 : decode cX10_deed 37 = .ok (.iconst 0, 1) := by decide +kernel
theorem dX10_deed_38 : decode cX10_deed 38 = .ok (.ireturn, 1) := by decide +kernel
theorem dX10_deed_39 : decode cX10_deed 39 = .ok (.iload 5, 2) := by decide +kernel
theorem dX10_deed_41 : decode cX10_deed 41 = .ok (.bipush 6, 2) := by decide +kernel
theorem dX10_deed_43 : decode cX10_deed 43 = .ok (.if_icmp .ne 15, 3) := by decide +kernel
theorem dX10_deed_46 : decode cX10_deed 46 = .ok (.iload 6, 2) := by decide +kernel
theorem dX10_deed_48 : decode cX10_deed 48 = .ok (.ifCond .eq 8, 3) := by decide +kernel
theorem dX10_deed_51 : decode cX10_deed 51 = .ok (.bipush 9, 2) := by decide +kernel
theorem dX10_deed_53 : decode cX10_deed 53 = .ok (.goto 4, 3) := by decide +kernel
theorem dX10_deed_56 : decode cX10_deed 56 = .ok (.iconst 0, 1) := by decide +kernel
theorem dX10_deed_57 : decode cX10_deed 57 = .ok (.ireturn, 1) := by decide +kernel
theorem dX10_deed_58 : decode cX10_deed 58 = .ok (.aload_n 0, 1) := by decide +kernel
theorem dX10_deed_59 : decode cX10_deed 59 = .ok (.iload_n 1, 1) := by decide +kernel
theorem dX10_deed_60 : decode cX10_deed 60 = .ok (.iload_n 3, 1) := by decide +kernel
theorem dX10_deed_61 : decode cX10_deed 61 = .ok (.iconst 1, 1) := by decide +kernel
theorem dX10_deed_62 : decode cX10_deed 62 = .ok (.invokevirtual 54, 3) := by decide +kernel
theorem dX10_deed_65 : decode cX10_deed 65 = .ok (.istore 7, 2) := by decide +kernel
theorem dX10_deed_67 : decode cX10_deed 67 = .ok (.aload_n 0, 1) := by decide +kernel
theorem dX10_deed_68 : decode cX10_deed 68 = .ok (.iload_n 1, 1) := by decide +kernel
theorem dX10_deed_69 : decode cX10_deed 69 = .ok (.iload_n 3, 1) := by decide +kernel
theorem dX10_deed_70 : decode cX10_deed 70 = .ok (.iconst 2, 1) := by decide +kernel
theorem dX10_deed_71 : decode cX10_deed 71 = .ok (.invokevirtual 54, 3) := by decide +kernel
theorem dX10_deed_74 : decode cX10_deed 74 = .ok (.istore 8, 2) := by decide +kernel
theorem dX10_deed_76 : decode cX10_deed 76 = .ok (.iload 5, 2) := by decide +kernel
theorem dX10_deed_78 : decode cX10_deed 78 = .ok (.bipush 7, 2) := by decide +kernel
theorem dX10_deed_80 : decode cX10_deed 80 = .ok (.if_icmp .ne 123, 3) := by decide +kernel
theorem dX10_deed_83 : decode cX10_deed 83 = .ok (.aload_n 0, 1) := by decide +kernel
theorem dX10_deed_84 : decode cX10_deed 84 = .ok (.iload_n 1, 1) := by decide +kernel
theorem dX10_deed_85 : decode cX10_deed 85 = .ok (.iload 7, 2) := by decide +kernel
theorem dX10_deed_87 : decode cX10_deed 87 = .ok (.invokevirtual 70, 3) := by decide +kernel
theorem dX10_deed_90 : decode cX10_deed 90 = .ok (.ifCond .eq 17, 3) := by decide +kernel
theorem dX10_deed_93 : decode cX10_deed 93 = .ok (.aload_n 0, 1) := by decide +kernel
theorem dX10_deed_94 : decode cX10_deed 94 = .ok (.iload_n 1, 1) := by decide +kernel
theorem dX10_deed_95 : decode cX10_deed 95 = .ok (.iload 8, 2) := by decide +kernel
theorem dX10_deed_97 : decode cX10_deed 97 = .ok (.invokevirtual 70, 3) := by decide +kernel
theorem dX10_deed_100 : decode cX10_deed 100 = .ok (.ifCond .eq 7, 3) := by decide +kernel
theorem dX10_deed_103 : decode cX10_deed 103 = .ok (.iconst 1, 1) := by decide +kernel
theorem dX10_deed_104 : decode cX10_deed 104 = .ok (.goto 4, 3) := by decide +kernel
theorem dX10_deed_107 : decode cX10_deed 107 = .ok (.iconst 0, 1) := by decide +kernel
theorem dX10_deed_108 : decode cX10_deed 108 = .ok (.istore 9, 2) := by decide +kernel
theorem dX10_deed_110 : decode cX10_deed 110 = .ok (.iload_n 2, 1) := by decide +kernel
theorem dX10_deed_111 : decode cX10_deed 111 = .ok (.iconst 1, 1) := by decide +kernel
theorem dX10_deed_112 : decode cX10_deed 112 = .ok (.if_icmp .ne 25, 3) := by decide +kernel
theorem dX10_deed_115 : decode cX10_deed 115 = .ok (.iload 6, 2) := by decide +kernel
theorem dX10_deed_117 : decode cX10_deed 117 = .ok (.ifCond .ne 7, 3) := by decide +kernel
theorem dX10_deed_120 : decode cX10_deed 120 = .ok (.iconst 0, 1) := by decide +kernel
theorem dX10_deed_121 : decode cX10_deed 121 = .ok (.goto 15, 3) := by decide +kernel
theorem dX10_deed_124 : decode cX10_deed 124 = .ok (.iload 9, 2) := by decide +kernel
theorem dX10_deed_126 : decode cX10_deed 126 = .ok (.ifCond .eq 8, 3) := by decide +kernel
theorem dX10_deed_129 : decode cX10_deed 129 = .ok (.bipush 11, 2) := by decide +kernel
theorem dX10_deed_131 : decode cX10_deed 131 = .ok (.goto 5, 3) := by decide +kernel
theorem dX10_deed_134 : decode cX10_deed 134 = .ok (.bipush 13, 2) := by decide +kernel
theorem dX10_deed_136 : decode cX10_deed 136 = .ok (.ireturn, 1) := by decide +kernel
theorem dX10_deed_137 : decode cX10_deed 137 = .ok (.iload 9, 2) := by decide +kernel
theorem dX10_deed_139 : decode cX10_deed 139 = .ok (.ifCond .eq 15, 3) := by decide +kernel
theorem dX10_deed_142 : decode cX10_deed 142 = .ok (.iload 6, 2) := by decide +kernel
theorem dX10_deed_144 : decode cX10_deed 144 = .ok (.ifCond .eq 8, 3) := by decide +kernel
theorem dX10_deed_147 : decode cX10_deed 147 = .ok (.bipush 10, 2) := by decide +kernel
theorem dX10_deed_149 : decode cX10_deed 149 = .ok (.goto 4, 3) := by decide +kernel
theorem dX10_deed_152 : decode cX10_deed 152 = .ok (.iconst 0, 1) := by decide +kernel
theorem dX10_deed_153 : decode cX10_deed 153 = .ok (.ireturn, 1) := by decide +kernel
theorem dX10_deed_154 : decode cX10_deed 154 = .ok (.iload 4, 2) := by decide +kernel
theorem dX10_deed_156 : decode cX10_deed 156 = .ok (.aload_n 0, 1) := by decide +kernel
theorem dX10_deed_157 : decode cX10_deed 157 = .ok (.iload_n 1, 1) := by decide +kernel
theorem dX10_deed_158 : decode cX10_deed 158 = .ok (.iload 7, 2) := by decide +kernel
theorem dX10_deed_160 : decode cX10_deed 160 = .ok (.iload 8, 2) := by decide +kernel
theorem dX10_deed_162 : decode cX10_deed 162 = .ok (.invokevirtual 73, 3) := by decide +kernel
theorem dX10_deed_165 : decode cX10_deed 165 = .ok (.if_icmp .ge 17, 3) := by decide +kernel
theorem dX10_deed_168 : decode cX10_deed 168 = .ok (.aload_n 0, 1) := by decide +kernel
theorem dX10_deed_169 : decode cX10_deed 169 = .ok (.iload_n 1, 1) := by decide +kernel
theorem dX10_deed_170 : decode cX10_deed 170 = .ok (.iload 7, 2) := by decide +kernel
theorem dX10_deed_172 : decode cX10_deed 172 = .ok (.iload 8, 2) := by decide +kernel
theorem dX10_deed_174 : decode cX10_deed 174 = .ok (.iload 4, 2) := by decide +kernel
theorem dX10_deed_176 : decode cX10_deed 176 = .ok (.invokevirtual 76, 3) := by decide +kernel
theorem dX10_deed_179 : decode cX10_deed 179 = .ok (.goto 23, 3) := by decide +kernel
theorem dX10_deed_182 : decode cX10_deed 182 = .ok (.iload 4, 2) := by decide +kernel
theorem dX10_deed_184 : decode cX10_deed 184 = .ok (.aload_n 0, 1) := by decide +kernel
theorem dX10_deed_185 : decode cX10_deed 185 = .ok (.iload_n 1, 1) := by decide +kernel
theorem dX10_deed_186 : decode cX10_deed 186 = .ok (.iload 7, 2) := by decide +kernel
theorem dX10_deed_188 : decode cX10_deed 188 = .ok (.iload 8, 2) := by decide +kernel
theorem dX10_deed_190 : decode cX10_deed 190 = .ok (.invokevirtual 73, 3) := by decide +kernel
theorem dX10_deed_193 : decode cX10_deed 193 = .ok (.if_icmp .ne 8, 3) := by decide +kernel
theorem dX10_deed_196 : decode cX10_deed 196 = .ok (.bipush 12, 2) := by decide +kernel
theorem dX10_deed_198 : decode cX10_deed 198 = .ok (.goto 4, 3) := by decide +kernel
theorem dX10_deed_201 : decode cX10_deed 201 = .ok (.iconst 0, 1) := by decide +kernel
theorem dX10_deed_202 : decode cX10_deed 202 = .ok (.ireturn, 1) := by decide +kernel
theorem dX10_deed_203 : decode cX10_deed 203 = .ok (.aload_n 0, 1) := by decide +kernel
theorem dX10_deed_204 : decode cX10_deed 204 = .ok (.iload_n 1, 1) := by decide +kernel
theorem dX10_deed_205 : decode cX10_deed 205 = .ok (.iload 7, 2) := by decide +kernel
theorem dX10_deed_207 : decode cX10_deed 207 = .ok (.invokevirtual 70, 3) := by decide +kernel
theorem dX10_deed_210 : decode cX10_deed 210 = .ok (.ifCond .eq 38, 3) := by decide +kernel
theorem dX10_deed_213 : decode cX10_deed 213 = .ok (.iload_n 2, 1) := by decide +kernel
theorem dX10_deed_214 : decode cX10_deed 214 = .ok (.iconst 1, 1) := by decide +kernel
theorem dX10_deed_215 : decode cX10_deed 215 = .ok (.if_icmp .eq 8, 3) := by decide +kernel
theorem dX10_deed_218 : decode cX10_deed 218 = .ok (.iload 6, 2) := by decide +kernel
theorem dX10_deed_220 : decode cX10_deed 220 = .ok (.ifCond .ne 5, 3) := by decide +kernel
theorem dX10_deed_223 : decode cX10_deed 223 = .ok (.iconst 0, 1) := by decide +kernel
theorem dX10_deed_224 : decode cX10_deed 224 = .ok (.ireturn, 1) := by decide +kernel
theorem dX10_deed_225 : decode cX10_deed 225 = .ok (.iload 5, 2) := by decide +kernel
theorem dX10_deed_227 : decode cX10_deed 227 = .ok (.iconst 4, 1) := by decide +kernel
theorem dX10_deed_228 : decode cX10_deed 228 = .ok (.if_icmp .ne 7, 3) := by decide +kernel
theorem dX10_deed_231 : decode cX10_deed 231 = .ok (.iconst 3, 1) := by decide +kernel
theorem dX10_deed_232 : decode cX10_deed 232 = .ok (.goto 15, 3) := by decide +kernel
theorem dX10_deed_235 : decode cX10_deed 235 = .ok (.iload 5, 2) := by decide +kernel
theorem dX10_deed_237 : decode cX10_deed 237 = .ok (.iconst 5, 1) := by decide +kernel
theorem dX10_deed_238 : decode cX10_deed 238 = .ok (.if_icmp .ne 8, 3) := by decide +kernel
theorem dX10_deed_241 : decode cX10_deed 241 = .ok (.bipush 6, 2) := by decide +kernel
theorem dX10_deed_243 : decode cX10_deed 243 = .ok (.goto 4, 3) := by decide +kernel
theorem dX10_deed_246 : decode cX10_deed 246 = .ok (.iconst 2, 1) := by decide +kernel
theorem dX10_deed_247 : decode cX10_deed 247 = .ok (.ireturn, 1) := by decide +kernel
theorem dX10_deed_248 : decode cX10_deed 248 = .ok (.iload_n 2, 1) := by decide +kernel
theorem dX10_deed_249 : decode cX10_deed 249 = .ok (.iconst 1, 1) := by decide +kernel
theorem dX10_deed_250 : decode cX10_deed 250 = .ok (.if_icmp .ne 35, 3) := by decide +kernel
theorem dX10_deed_253 : decode cX10_deed 253 = .ok (.iload 6, 2) := by decide +kernel
theorem dX10_deed_255 : decode cX10_deed 255 = .ok (.ifCond .ne 7, 3) := by decide +kernel
theorem dX10_deed_258 : decode cX10_deed 258 = .ok (.iconst 0, 1) := by decide +kernel
theorem dX10_deed_259 : decode cX10_deed 259 = .ok (.goto 25, 3) := by decide +kernel
theorem dX10_deed_262 : decode cX10_deed 262 = .ok (.iload 5, 2) := by decide +kernel
theorem dX10_deed_264 : decode cX10_deed 264 = .ok (.iconst 4, 1) := by decide +kernel
theorem dX10_deed_265 : decode cX10_deed 265 = .ok (.if_icmp .ne 7, 3) := by decide +kernel
theorem dX10_deed_268 : decode cX10_deed 268 = .ok (.iconst 5, 1) := by decide +kernel
theorem dX10_deed_269 : decode cX10_deed 269 = .ok (.goto 15, 3) := by decide +kernel
theorem dX10_deed_272 : decode cX10_deed 272 = .ok (.iload 5, 2) := by decide +kernel
theorem dX10_deed_274 : decode cX10_deed 274 = .ok (.iconst 5, 1) := by decide +kernel
theorem dX10_deed_275 : decode cX10_deed 275 = .ok (.if_icmp .ne 8, 3) := by decide +kernel
theorem dX10_deed_278 : decode cX10_deed 278 = .ok (.bipush 8, 2) := by decide +kernel
theorem dX10_deed_280 : decode cX10_deed 280 = .ok (.goto 4, 3) := by decide +kernel
theorem dX10_deed_283 : decode cX10_deed 283 = .ok (.iconst 2, 1) := by decide +kernel
theorem dX10_deed_284 : decode cX10_deed 284 = .ok (.ireturn, 1) := by decide +kernel
theorem dX10_deed_285 : decode cX10_deed 285 = .ok (.iload 5, 2) := by decide +kernel
theorem dX10_deed_287 : decode cX10_deed 287 = .ok (.iconst 4, 1) := by decide +kernel
theorem dX10_deed_288 : decode cX10_deed 288 = .ok (.if_icmp .ne 14, 3) := by decide +kernel
theorem dX10_deed_291 : decode cX10_deed 291 = .ok (.iload 6, 2) := by decide +kernel
theorem dX10_deed_293 : decode cX10_deed 293 = .ok (.ifCond .eq 7, 3) := by decide +kernel
theorem dX10_deed_296 : decode cX10_deed 296 = .ok (.iconst 4, 1) := by decide +kernel
theorem dX10_deed_297 : decode cX10_deed 297 = .ok (.goto 4, 3) := by decide +kernel
theorem dX10_deed_300 : decode cX10_deed 300 = .ok (.iconst 0, 1) := by decide +kernel
theorem dX10_deed_301 : decode cX10_deed 301 = .ok (.ireturn, 1) := by decide +kernel
theorem dX10_deed_302 : decode cX10_deed 302 = .ok (.iload 5, 2) := by decide +kernel
theorem dX10_deed_304 : decode cX10_deed 304 = .ok (.iconst 5, 1) := by decide +kernel
theorem dX10_deed_305 : decode cX10_deed 305 = .ok (.if_icmp .ne 15, 3) := by decide +kernel
theorem dX10_deed_308 : decode cX10_deed 308 = .ok (.iload 6, 2) := by decide +kernel
theorem dX10_deed_310 : decode cX10_deed 310 = .ok (.ifCond .eq 8, 3) := by decide +kernel
theorem dX10_deed_313 : decode cX10_deed 313 = .ok (.bipush 7, 2) := by decide +kernel
theorem dX10_deed_315 : decode cX10_deed 315 = .ok (.goto 4, 3) := by decide +kernel
theorem dX10_deed_318 : decode cX10_deed 318 = .ok (.iconst 0, 1) := by decide +kernel
theorem dX10_deed_319 : decode cX10_deed 319 = .ok (.ireturn, 1) := by decide +kernel
theorem dX10_deed_320 : decode cX10_deed 320 = .ok (.iload 5, 2) := by decide +kernel
theorem dX10_deed_322 : decode cX10_deed 322 = .ok (.ifCond .ne 7, 3) := by decide +kernel
theorem dX10_deed_325 : decode cX10_deed 325 = .ok (.iconst 0, 1) := by decide +kernel
theorem dX10_deed_326 : decode cX10_deed 326 = .ok (.goto 19, 3) := by decide +kernel
theorem dX10_deed_329 : decode cX10_deed 329 = .ok (.aload_n 0, 1) := by decide +kernel
theorem dX10_deed_330 : decode cX10_deed 330 = .ok (.iload_n 1, 1) := by decide +kernel
theorem dX10_deed_331 : decode cX10_deed 331 = .ok (.iload 8, 2) := by decide +kernel
theorem dX10_deed_333 : decode cX10_deed 333 = .ok (.aload_n 0, 1) := by decide +kernel
theorem dX10_deed_334 : decode cX10_deed 334 = .ok (.iload_n 1, 1) := by decide +kernel
theorem dX10_deed_335 : decode cX10_deed 335 = .ok (.iload_n 3, 1) := by decide +kernel
theorem dX10_deed_336 : decode cX10_deed 336 = .ok (.iconst 3, 1) := by decide +kernel
theorem dX10_deed_337 : decode cX10_deed 337 = .ok (.invokevirtual 54, 3) := by decide +kernel
theorem dX10_deed_340 : decode cX10_deed 340 = .ok (.iload 4, 2) := by decide +kernel
theorem dX10_deed_342 : decode cX10_deed 342 = .ok (.invokevirtual 76, 3) := by decide +kernel
theorem dX10_deed_345 : decode cX10_deed 345 = .ok (.ireturn, 1) := by decide +kernel
theorem dX10_many_0 : decode cX10_many 0 = .ok (.iconst 0, 1) := by decide +kernel
theorem dX10_many_1 : decode cX10_many 1 = .ok (.istore 4, 2) := by decide +kernel
theorem dX10_many_3 : decode cX10_many 3 = .ok (.aload_n 0, 1) := by decide +kernel
theorem dX10_many_4 : decode cX10_many 4 = .ok (.iload_n 1, 1) := by decide +kernel
theorem dX10_many_5 : decode cX10_many 5 = .ok (.iload_n 2, 1) := by decide +kernel
theorem dX10_many_6 : decode cX10_many 6 = .ok (.iload_n 3, 1) := by decide +kernel
theorem dX10_many_7 : decode cX10_many 7 = .ok (.iload 4, 2) := by decide +kernel
theorem dX10_many_9 : decode cX10_many 9 = .ok (.invokevirtual 80, 3) := by decide +kernel
theorem dX10_many_12 : decode cX10_many 12 = .ok (.ifCond .le 9, 3) := by decide +kernel
theorem dX10_many_15 : decode cX10_many 15 = .ok (.iinc 4 1, 3) := by decide +kernel
theorem dX10_many_18 : decode cX10_many 18 = .ok (.goto (-15), 3) := by decide +kernel
theorem dX10_many_21 : decode cX10_many 21 = .ok (.iload 4, 2) := by decide +kernel
theorem dX10_many_23 : decode cX10_many 23 = .ok (.ireturn, 1) := by decide +kernel
theorem dX10_queueAt_0 : decode cX10_queueAt 0 = .ok (.iload_n 0, 1) := by decide +kernel
theorem dX10_queueAt_1 : decode cX10_queueAt 1 = .ok (.sipush 252, 3) := by decide +kernel
theorem dX10_queueAt_4 : decode cX10_queueAt 4 = .ok (.iadd, 1) := by decide +kernel
theorem dX10_queueAt_5 : decode cX10_queueAt 5 = .ok (.bipush 19, 2) := by decide +kernel
theorem dX10_queueAt_7 : decode cX10_queueAt 7 = .ok (.iload_n 1, 1) := by decide +kernel
theorem dX10_queueAt_8 : decode cX10_queueAt 8 = .ok (.imul, 1) := by decide +kernel
theorem dX10_queueAt_9 : decode cX10_queueAt 9 = .ok (.iadd, 1) := by decide +kernel
theorem dX10_queueAt_10 : decode cX10_queueAt 10 = .ok (.ireturn, 1) := by decide +kernel
theorem dX10_inQueue_0 : decode cX10_inQueue 0 = .ok (.aload_n 0, 1) := by decide +kernel
theorem dX10_inQueue_1 : decode cX10_inQueue 1 = .ok (.getfield 7, 3) := by decide +kernel
theorem dX10_inQueue_4 : decode cX10_inQueue 4 = .ok (.iload_n 1, 1) := by decide +kernel
theorem dX10_inQueue_5 : decode cX10_inQueue 5 = .ok (.iload_n 2, 1) := by decide +kernel
theorem dX10_inQueue_6 : decode cX10_inQueue 6 = .ok (.invokestatic 83, 3) := by decide +kernel
theorem dX10_inQueue_9 : decode cX10_inQueue 9 = .ok (.iaload, 1) := by decide +kernel
theorem dX10_inQueue_10 : decode cX10_inQueue 10 = .ok (.ireturn, 1) := by decide +kernel
theorem dX10_isFull_0 : decode cX10_isFull 0 = .ok (.aload_n 0, 1) := by decide +kernel
theorem dX10_isFull_1 : decode cX10_isFull 1 = .ok (.iload_n 1, 1) := by decide +kernel
theorem dX10_isFull_2 : decode cX10_isFull 2 = .ok (.iload_n 2, 1) := by decide +kernel
theorem dX10_isFull_3 : decode cX10_isFull 3 = .ok (.invokevirtual 86, 3) := by decide +kernel
theorem dX10_isFull_6 : decode cX10_isFull 6 = .ok (.aload_n 0, 1) := by decide +kernel
theorem dX10_isFull_7 : decode cX10_isFull 7 = .ok (.getfield 7, 3) := by decide +kernel
theorem dX10_isFull_10 : decode cX10_isFull 10 = .ok (.iload_n 1, 1) := by decide +kernel
theorem dX10_isFull_11 : decode cX10_isFull 11 = .ok (.sipush 172, 3) := by decide +kernel
theorem dX10_isFull_14 : decode cX10_isFull 14 = .ok (.iadd, 1) := by decide +kernel
theorem dX10_isFull_15 : decode cX10_isFull 15 = .ok (.iload_n 2, 1) := by decide +kernel
theorem dX10_isFull_16 : decode cX10_isFull 16 = .ok (.iadd, 1) := by decide +kernel
theorem dX10_isFull_17 : decode cX10_isFull 17 = .ok (.iaload, 1) := by decide +kernel
theorem dX10_isFull_18 : decode cX10_isFull 18 = .ok (.if_icmp .lt 7, 3) := by decide +kernel
theorem dX10_isFull_21 : decode cX10_isFull 21 = .ok (.iconst 1, 1) := by decide +kernel
theorem dX10_isFull_22 : decode cX10_isFull 22 = .ok (.goto 4, 3) := by decide +kernel
theorem dX10_isFull_25 : decode cX10_isFull 25 = .ok (.iconst 0, 1) := by decide +kernel
theorem dX10_isFull_26 : decode cX10_isFull 26 = .ok (.ireturn, 1) := by decide +kernel
theorem dX10_pushes_0 : decode cX10_pushes 0 = .ok (.iload_n 1, 1) := by decide +kernel
theorem dX10_pushes_1 : decode cX10_pushes 1 = .ok (.iload_n 2, 1) := by decide +kernel
theorem dX10_pushes_2 : decode cX10_pushes 2 = .ok (.invokestatic 83, 3) := by decide +kernel
theorem dX10_pushes_5 : decode cX10_pushes 5 = .ok (.iconst 1, 1) := by decide +kernel
theorem dX10_pushes_6 : decode cX10_pushes 6 = .ok (.iadd, 1) := by decide +kernel
theorem dX10_pushes_7 : decode cX10_pushes 7 = .ok (.iconst 3, 1) := by decide +kernel
theorem dX10_pushes_8 : decode cX10_pushes 8 = .ok (.aload_n 0, 1) := by decide +kernel
theorem dX10_pushes_9 : decode cX10_pushes 9 = .ok (.iload_n 1, 1) := by decide +kernel
theorem dX10_pushes_10 : decode cX10_pushes 10 = .ok (.iload_n 2, 1) := by decide +kernel
theorem dX10_pushes_11 : decode cX10_pushes 11 = .ok (.invokevirtual 86, 3) := by decide +kernel
theorem dX10_pushes_14 : decode cX10_pushes 14 = .ok (.imul, 1) := by decide +kernel
theorem dX10_pushes_15 : decode cX10_pushes 15 = .ok (.iadd, 1) := by decide +kernel
theorem dX10_pushes_16 : decode cX10_pushes 16 = .ok (.istore 6, 2) := by decide +kernel
theorem dX10_pushes_18 : decode cX10_pushes 18 = .ok (.aload_n 0, 1) := by decide +kernel
theorem dX10_pushes_19 : decode cX10_pushes 19 = .ok (.getfield 7, 3) := by decide +kernel
theorem dX10_pushes_22 : decode cX10_pushes 22 = .ok (.iload 6, 2) := by decide +kernel
theorem dX10_pushes_24 : decode cX10_pushes 24 = .ok (.iload_n 3, 1) := by decide +kernel
theorem dX10_pushes_25 : decode cX10_pushes 25 = .ok (.iastore, 1) := by decide +kernel
theorem dX10_pushes_26 : decode cX10_pushes 26 = .ok (.aload_n 0, 1) := by decide +kernel
theorem dX10_pushes_27 : decode cX10_pushes 27 = .ok (.getfield 7, 3) := by decide +kernel
theorem dX10_pushes_30 : decode cX10_pushes 30 = .ok (.iload 6, 2) := by decide +kernel
theorem dX10_pushes_32 : decode cX10_pushes 32 = .ok (.iconst 1, 1) := by decide +kernel
theorem dX10_pushes_33 : decode cX10_pushes 33 = .ok (.iadd, 1) := by decide +kernel
theorem dX10_pushes_34 : decode cX10_pushes 34 = .ok (.iload 4, 2) := by decide +kernel
theorem dX10_pushes_36 : decode cX10_pushes 36 = .ok (.iastore, 1) := by decide +kernel
theorem dX10_pushes_37 : decode cX10_pushes 37 = .ok (.aload_n 0, 1) := by decide +kernel
theorem dX10_pushes_38 : decode cX10_pushes 38 = .ok (.getfield 7, 3) := by decide +kernel
theorem dX10_pushes_41 : decode cX10_pushes 41 = .ok (.iload 6, 2) := by decide +kernel
theorem dX10_pushes_43 : decode cX10_pushes 43 = .ok (.iconst 2, 1) := by decide +kernel
theorem dX10_pushes_44 : decode cX10_pushes 44 = .ok (.iadd, 1) := by decide +kernel
theorem dX10_pushes_45 : decode cX10_pushes 45 = .ok (.iload 5, 2) := by decide +kernel
theorem dX10_pushes_47 : decode cX10_pushes 47 = .ok (.iastore, 1) := by decide +kernel
theorem dX10_pushes_48 : decode cX10_pushes 48 = .ok (.aload_n 0, 1) := by decide +kernel
theorem dX10_pushes_49 : decode cX10_pushes 49 = .ok (.getfield 7, 3) := by decide +kernel
theorem dX10_pushes_52 : decode cX10_pushes 52 = .ok (.iload_n 1, 1) := by decide +kernel
theorem dX10_pushes_53 : decode cX10_pushes 53 = .ok (.iload_n 2, 1) := by decide +kernel
theorem dX10_pushes_54 : decode cX10_pushes 54 = .ok (.invokestatic 83, 3) := by decide +kernel
theorem dX10_pushes_57 : decode cX10_pushes 57 = .ok (.dup2, 1) := by decide +kernel
theorem dX10_pushes_58 : decode cX10_pushes 58 = .ok (.iaload, 1) := by decide +kernel
theorem dX10_pushes_59 : decode cX10_pushes 59 = .ok (.iconst 1, 1) := by decide +kernel
theorem dX10_pushes_60 : decode cX10_pushes 60 = .ok (.iadd, 1) := by decide +kernel
theorem dX10_pushes_61 : decode cX10_pushes 61 = .ok (.iastore, 1) := by decide +kernel
theorem dX10_pushes_62 : decode cX10_pushes 62 = .ok (.return_, 1) := by decide +kernel
theorem dX10_first_0 : decode cX10_first 0 = .ok (.aload_n 0, 1) := by decide +kernel
theorem dX10_first_1 : decode cX10_first 1 = .ok (.getfield 7, 3) := by decide +kernel
theorem dX10_first_4 : decode cX10_first 4 = .ok (.iload_n 1, 1) := by decide +kernel
theorem dX10_first_5 : decode cX10_first 5 = .ok (.iload_n 2, 1) := by decide +kernel
theorem dX10_first_6 : decode cX10_first 6 = .ok (.invokestatic 83, 3) := by decide +kernel
theorem dX10_first_9 : decode cX10_first 9 = .ok (.iconst 1, 1) := by decide +kernel
theorem dX10_first_10 : decode cX10_first 10 = .ok (.iadd, 1) := by decide +kernel
theorem dX10_first_11 : decode cX10_first 11 = .ok (.iload_n 3, 1) := by decide +kernel
theorem dX10_first_12 : decode cX10_first 12 = .ok (.iadd, 1) := by decide +kernel
theorem dX10_first_13 : decode cX10_first 13 = .ok (.iaload, 1) := by decide +kernel
theorem dX10_first_14 : decode cX10_first 14 = .ok (.ireturn, 1) := by decide +kernel
theorem dX10_takes_0 : decode cX10_takes 0 = .ok (.aload_n 0, 1) := by decide +kernel
theorem dX10_takes_1 : decode cX10_takes 1 = .ok (.iload_n 1, 1) := by decide +kernel
theorem dX10_takes_2 : decode cX10_takes 2 = .ok (.iload_n 2, 1) := by decide +kernel
theorem dX10_takes_3 : decode cX10_takes 3 = .ok (.iconst 0, 1) := by decide +kernel
theorem dX10_takes_4 : decode cX10_takes 4 = .ok (.invokevirtual 89, 3) := by decide +kernel
theorem dX10_takes_7 : decode cX10_takes 7 = .ok (.istore_n 3, 1) := by decide +kernel
theorem dX10_takes_8 : decode cX10_takes 8 = .ok (.iload_n 1, 1) := by decide +kernel
theorem dX10_takes_9 : decode cX10_takes 9 = .ok (.iload_n 2, 1) := by decide +kernel
theorem dX10_takes_10 : decode cX10_takes 10 = .ok (.invokestatic 83, 3) := by decide +kernel
theorem dX10_takes_13 : decode cX10_takes 13 = .ok (.istore 4, 2) := by decide +kernel
theorem dX10_takes_15 : decode cX10_takes 15 = .ok (.iload 4, 2) := by decide +kernel
theorem dX10_takes_17 : decode cX10_takes 17 = .ok (.iconst 1, 1) := by decide +kernel
theorem dX10_takes_18 : decode cX10_takes 18 = .ok (.iadd, 1) := by decide +kernel
theorem dX10_takes_19 : decode cX10_takes 19 = .ok (.istore 5, 2) := by decide +kernel
theorem dX10_takes_21 : decode cX10_takes 21 = .ok (.iload 5, 2) := by decide +kernel
theorem dX10_takes_23 : decode cX10_takes 23 = .ok (.iload 4, 2) := by decide +kernel
theorem dX10_takes_25 : decode cX10_takes 25 = .ok (.bipush 16, 2) := by decide +kernel
theorem dX10_takes_27 : decode cX10_takes 27 = .ok (.iadd, 1) := by decide +kernel
theorem dX10_takes_28 : decode cX10_takes 28 = .ok (.if_icmp .ge 25, 3) := by decide +kernel
theorem dX10_takes_31 : decode cX10_takes 31 = .ok (.aload_n 0, 1) := by decide +kernel
theorem dX10_takes_32 : decode cX10_takes 32 = .ok (.getfield 7, 3) := by decide +kernel
theorem dX10_takes_35 : decode cX10_takes 35 = .ok (.iload 5, 2) := by decide +kernel
theorem dX10_takes_37 : decode cX10_takes 37 = .ok (.aload_n 0, 1) := by decide +kernel
theorem dX10_takes_38 : decode cX10_takes 38 = .ok (.getfield 7, 3) := by decide +kernel
theorem dX10_takes_41 : decode cX10_takes 41 = .ok (.iload 5, 2) := by decide +kernel
theorem dX10_takes_43 : decode cX10_takes 43 = .ok (.iconst 3, 1) := by decide +kernel
theorem dX10_takes_44 : decode cX10_takes 44 = .ok (.iadd, 1) := by decide +kernel
theorem dX10_takes_45 : decode cX10_takes 45 = .ok (.iaload, 1) := by decide +kernel
theorem dX10_takes_46 : decode cX10_takes 46 = .ok (.iastore, 1) := by decide +kernel
theorem dX10_takes_47 : decode cX10_takes 47 = .ok (.iinc 5 1, 3) := by decide +kernel
theorem dX10_takes_50 : decode cX10_takes 50 = .ok (.goto (-29), 3) := by decide +kernel
theorem dX10_takes_53 : decode cX10_takes 53 = .ok (.aload_n 0, 1) := by decide +kernel
theorem dX10_takes_54 : decode cX10_takes 54 = .ok (.getfield 7, 3) := by decide +kernel
theorem dX10_takes_57 : decode cX10_takes 57 = .ok (.iload 4, 2) := by decide +kernel
theorem dX10_takes_59 : decode cX10_takes 59 = .ok (.dup2, 1) := by decide +kernel
theorem dX10_takes_60 : decode cX10_takes 60 = .ok (.iaload, 1) := by decide +kernel
theorem dX10_takes_61 : decode cX10_takes 61 = .ok (.iconst 1, 1) := by decide +kernel
theorem dX10_takes_62 : decode cX10_takes 62 = .ok (.isub, 1) := by decide +kernel
theorem dX10_takes_63 : decode cX10_takes 63 = .ok (.iastore, 1) := by decide +kernel
theorem dX10_takes_64 : decode cX10_takes 64 = .ok (.iload_n 3, 1) := by decide +kernel
theorem dX10_takes_65 : decode cX10_takes 65 = .ok (.ireturn, 1) := by decide +kernel
theorem dX10_isStored_0 : decode cX10_isStored 0 = .ok (.iconst 0, 1) := by decide +kernel
theorem dX10_isStored_1 : decode cX10_isStored 1 = .ok (.istore_n 3, 1) := by decide +kernel
theorem dX10_isStored_2 : decode cX10_isStored 2 = .ok (.iload_n 3, 1) := by decide +kernel
theorem dX10_isStored_3 : decode cX10_isStored 3 = .ok (.aload_n 0, 1) := by decide +kernel
theorem dX10_isStored_4 : decode cX10_isStored 4 = .ok (.iload_n 1, 1) := by decide +kernel
theorem dX10_isStored_5 : decode cX10_isStored 5 = .ok (.iconst 1, 1) := by decide +kernel
theorem dX10_isStored_6 : decode cX10_isStored 6 = .ok (.invokevirtual 86, 3) := by decide +kernel
theorem dX10_isStored_9 : decode cX10_isStored 9 = .ok (.if_icmp .ge 31, 3) := by decide +kernel
theorem dX10_isStored_12 : decode cX10_isStored 12 = .ok (.aload_n 0, 1) := by decide +kernel
theorem dX10_isStored_13 : decode cX10_isStored 13 = .ok (.getfield 7, 3) := by decide +kernel
theorem dX10_isStored_16 : decode cX10_isStored 16 = .ok (.iload_n 1, 1) := by decide +kernel
theorem dX10_isStored_17 : decode cX10_isStored 17 = .ok (.iconst 1, 1) := by decide +kernel
theorem dX10_isStored_18 : decode cX10_isStored 18 = .ok (.invokestatic 83, 3) := by decide +kernel
theorem dX10_isStored_21 : decode cX10_isStored 21 = .ok (.iconst 1, 1) := by decide +kernel
theorem dX10_isStored_22 : decode cX10_isStored 22 = .ok (.iadd, 1) := by decide +kernel
theorem dX10_isStored_23 : decode cX10_isStored 23 = .ok (.iconst 3, 1) := by decide +kernel
theorem dX10_isStored_24 : decode cX10_isStored 24 = .ok (.iload_n 3, 1) := by decide +kernel
theorem dX10_isStored_25 : decode cX10_isStored 25 = .ok (.imul, 1) := by decide +kernel
theorem dX10_isStored_26 : decode cX10_isStored 26 = .ok (.iadd, 1) := by decide +kernel
theorem dX10_isStored_27 : decode cX10_isStored 27 = .ok (.iaload, 1) := by decide +kernel
theorem dX10_isStored_28 : decode cX10_isStored 28 = .ok (.iload_n 2, 1) := by decide +kernel
theorem dX10_isStored_29 : decode cX10_isStored 29 = .ok (.if_icmp .ne 5, 3) := by decide +kernel
theorem dX10_isStored_32 : decode cX10_isStored 32 = .ok (.iconst 1, 1) := by decide +kernel
theorem dX10_isStored_33 : decode cX10_isStored 33 = .ok (.ireturn, 1) := by decide +kernel
theorem dX10_isStored_34 : decode cX10_isStored 34 = .ok (.iinc 3 1, 3) := by decide +kernel
theorem dX10_isStored_37 : decode cX10_isStored 37 = .ok (.goto (-35), 3) := by decide +kernel
theorem dX10_isStored_40 : decode cX10_isStored 40 = .ok (.iconst 0, 1) := by decide +kernel
theorem dX10_isStored_41 : decode cX10_isStored 41 = .ok (.ireturn, 1) := by decide +kernel
theorem dX10_hasCome_0 : decode cX10_hasCome 0 = .ok (.aload_n 0, 1) := by decide +kernel
theorem dX10_hasCome_1 : decode cX10_hasCome 1 = .ok (.getfield 7, 3) := by decide +kernel
theorem dX10_hasCome_4 : decode cX10_hasCome 4 = .ok (.iload_n 1, 1) := by decide +kernel
theorem dX10_hasCome_5 : decode cX10_hasCome 5 = .ok (.sipush 170, 3) := by decide +kernel
theorem dX10_hasCome_8 : decode cX10_hasCome 8 = .ok (.iadd, 1) := by decide +kernel
theorem dX10_hasCome_9 : decode cX10_hasCome 9 = .ok (.iaload, 1) := by decide +kernel
theorem dX10_hasCome_10 : decode cX10_hasCome 10 = .ok (.aload_n 0, 1) := by decide +kernel
theorem dX10_hasCome_11 : decode cX10_hasCome 11 = .ok (.getfield 7, 3) := by decide +kernel
theorem dX10_hasCome_14 : decode cX10_hasCome 14 = .ok (.iload_n 1, 1) := by decide +kernel
theorem dX10_hasCome_15 : decode cX10_hasCome 15 = .ok (.iconst 0, 1) := by decide +kernel
theorem dX10_hasCome_16 : decode cX10_hasCome 16 = .ok (.invokestatic 83, 3) := by decide +kernel
theorem dX10_hasCome_19 : decode cX10_hasCome 19 = .ok (.iconst 2, 1) := by decide +kernel
theorem dX10_hasCome_20 : decode cX10_hasCome 20 = .ok (.iadd, 1) := by decide +kernel
theorem dX10_hasCome_21 : decode cX10_hasCome 21 = .ok (.iconst 3, 1) := by decide +kernel
theorem dX10_hasCome_22 : decode cX10_hasCome 22 = .ok (.iload_n 2, 1) := by decide +kernel
theorem dX10_hasCome_23 : decode cX10_hasCome 23 = .ok (.imul, 1) := by decide +kernel
theorem dX10_hasCome_24 : decode cX10_hasCome 24 = .ok (.iadd, 1) := by decide +kernel
theorem dX10_hasCome_25 : decode cX10_hasCome 25 = .ok (.iaload, 1) := by decide +kernel
theorem dX10_hasCome_26 : decode cX10_hasCome 26 = .ok (.isub, 1) := by decide +kernel
theorem dX10_hasCome_27 : decode cX10_hasCome 27 = .ok (.aload_n 0, 1) := by decide +kernel
theorem dX10_hasCome_28 : decode cX10_hasCome 28 = .ok (.getfield 7, 3) := by decide +kernel
theorem dX10_hasCome_31 : decode cX10_hasCome 31 = .ok (.iload_n 1, 1) := by decide +kernel
theorem dX10_hasCome_32 : decode cX10_hasCome 32 = .ok (.iconst 0, 1) := by decide +kernel
theorem dX10_hasCome_33 : decode cX10_hasCome 33 = .ok (.iadd, 1) := by decide +kernel
theorem dX10_hasCome_34 : decode cX10_hasCome 34 = .ok (.iaload, 1) := by decide +kernel
theorem dX10_hasCome_35 : decode cX10_hasCome 35 = .ok (.if_icmp .lt 7, 3) := by decide +kernel
theorem dX10_hasCome_38 : decode cX10_hasCome 38 = .ok (.iconst 1, 1) := by decide +kernel
theorem dX10_hasCome_39 : decode cX10_hasCome 39 = .ok (.goto 4, 3) := by decide +kernel
theorem dX10_hasCome_42 : decode cX10_hasCome 42 = .ok (.iconst 0, 1) := by decide +kernel
theorem dX10_hasCome_43 : decode cX10_hasCome 43 = .ok (.ireturn, 1) := by decide +kernel
theorem dX10_reg_0 : decode cX10_reg 0 = .ok (.aload_n 0, 1) := by decide +kernel
theorem dX10_reg_1 : decode cX10_reg 1 = .ok (.getfield 7, 3) := by decide +kernel
theorem dX10_reg_4 : decode cX10_reg 4 = .ok (.iload_n 1, 1) := by decide +kernel
theorem dX10_reg_5 : decode cX10_reg 5 = .ok (.sipush 210, 3) := by decide +kernel
theorem dX10_reg_8 : decode cX10_reg 8 = .ok (.iadd, 1) := by decide +kernel
theorem dX10_reg_9 : decode cX10_reg 9 = .ok (.iload_n 2, 1) := by decide +kernel
theorem dX10_reg_10 : decode cX10_reg 10 = .ok (.iadd, 1) := by decide +kernel
theorem dX10_reg_11 : decode cX10_reg 11 = .ok (.iaload, 1) := by decide +kernel
theorem dX10_reg_12 : decode cX10_reg 12 = .ok (.ireturn, 1) := by decide +kernel
theorem dX10_cellOf_0 : decode cX10_cellOf 0 = .ok (.aload_n 0, 1) := by decide +kernel
theorem dX10_cellOf_1 : decode cX10_cellOf 1 = .ok (.iload_n 1, 1) := by decide +kernel
theorem dX10_cellOf_2 : decode cX10_cellOf 2 = .ok (.aload_n 0, 1) := by decide +kernel
theorem dX10_cellOf_3 : decode cX10_cellOf 3 = .ok (.iload_n 1, 1) := by decide +kernel
theorem dX10_cellOf_4 : decode cX10_cellOf 4 = .ok (.iload_n 2, 1) := by decide +kernel
theorem dX10_cellOf_5 : decode cX10_cellOf 5 = .ok (.iconst 2, 1) := by decide +kernel
theorem dX10_cellOf_6 : decode cX10_cellOf 6 = .ok (.invokevirtual 54, 3) := by decide +kernel
theorem dX10_cellOf_9 : decode cX10_cellOf 9 = .ok (.invokevirtual 92, 3) := by decide +kernel
theorem dX10_cellOf_12 : decode cX10_cellOf 12 = .ok (.aload_n 0, 1) := by decide +kernel
theorem dX10_cellOf_13 : decode cX10_cellOf 13 = .ok (.iload_n 1, 1) := by decide +kernel
theorem dX10_cellOf_14 : decode cX10_cellOf 14 = .ok (.iload_n 2, 1) := by decide +kernel
theorem dX10_cellOf_15 : decode cX10_cellOf 15 = .ok (.iconst 4, 1) := by decide +kernel
theorem dX10_cellOf_16 : decode cX10_cellOf 16 = .ok (.invokevirtual 54, 3) := by decide +kernel
theorem dX10_cellOf_19 : decode cX10_cellOf 19 = .ok (.iadd, 1) := by decide +kernel
theorem dX10_cellOf_20 : decode cX10_cellOf 20 = .ok (.bipush 32, 2) := by decide +kernel
theorem dX10_cellOf_22 : decode cX10_cellOf 22 = .ok (.irem, 1) := by decide +kernel
theorem dX10_cellOf_23 : decode cX10_cellOf 23 = .ok (.ireturn, 1) := by decide +kernel
theorem dX10_reckons_0 : decode cX10_reckons 0 = .ok (.iload_n 1, 1) := by decide +kernel
theorem dX10_reckons_1 : decode cX10_reckons 1 = .ok (.iconst 1, 1) := by decide +kernel
theorem dX10_reckons_2 : decode cX10_reckons 2 = .ok (.if_icmp .ne 9, 3) := by decide +kernel
theorem dX10_reckons_5 : decode cX10_reckons 5 = .ok (.iload_n 2, 1) := by decide +kernel
theorem dX10_reckons_6 : decode cX10_reckons 6 = .ok (.iload_n 3, 1) := by decide +kernel
theorem dX10_reckons_7 : decode cX10_reckons 7 = .ok (.iadd, 1) := by decide +kernel
theorem dX10_reckons_8 : decode cX10_reckons 8 = .ok (.goto 17, 3) := by decide +kernel
theorem dX10_reckons_11 : decode cX10_reckons 11 = .ok (.iload_n 1, 1) := by decide +kernel
theorem dX10_reckons_12 : decode cX10_reckons 12 = .ok (.iconst 2, 1) := by decide +kernel
theorem dX10_reckons_13 : decode cX10_reckons 13 = .ok (.if_icmp .ne 9, 3) := by decide +kernel
theorem dX10_reckons_16 : decode cX10_reckons 16 = .ok (.iload_n 2, 1) := by decide +kernel
theorem dX10_reckons_17 : decode cX10_reckons 17 = .ok (.iload_n 3, 1) := by decide +kernel
theorem dX10_reckons_18 : decode cX10_reckons 18 = .ok (.isub, 1) := by decide +kernel
theorem dX10_reckons_19 : decode cX10_reckons 19 = .ok (.goto 6, 3) := by decide +kernel
theorem dX10_reckons_22 : decode cX10_reckons 22 = .ok (.iload_n 2, 1) := by decide +kernel
theorem dX10_reckons_23 : decode cX10_reckons 23 = .ok (.iload_n 3, 1) := by decide +kernel
theorem dX10_reckons_24 : decode cX10_reckons 24 = .ok (.imul, 1) := by decide +kernel
theorem dX10_reckons_25 : decode cX10_reckons 25 = .ok (.invokestatic 95, 3) := by decide +kernel
theorem dX10_reckons_28 : decode cX10_reckons 28 = .ok (.ireturn, 1) := by decide +kernel
theorem dX10_holds_0 : decode cX10_holds 0 = .ok (.iload_n 0, 1) := by decide +kernel
theorem dX10_holds_1 : decode cX10_holds 1 = .ok (.bipush 60, 2) := by decide +kernel
theorem dX10_holds_3 : decode cX10_holds 3 = .ok (.if_icmp .ne 16, 3) := by decide +kernel
theorem dX10_holds_6 : decode cX10_holds 6 = .ok (.iload_n 1, 1) := by decide +kernel
theorem dX10_holds_7 : decode cX10_holds 7 = .ok (.iload_n 2, 1) := by decide +kernel
theorem dX10_holds_8 : decode cX10_holds 8 = .ok (.if_icmp .ge 7, 3) := by decide +kernel
theorem dX10_holds_11 : decode cX10_holds 11 = .ok (.iconst 1, 1) := by decide +kernel
theorem dX10_holds_12 : decode cX10_holds 12 = .ok (.goto 36, 3) := by decide +kernel
theorem dX10_holds_15 : decode cX10_holds 15 = .ok (.iconst 0, 1) := by decide +kernel
theorem dX10_holds_16 : decode cX10_holds 16 = .ok (.goto 32, 3) := by decide +kernel
theorem dX10_holds_19 : decode cX10_holds 19 = .ok (.iload_n 0, 1) := by decide +kernel
theorem dX10_holds_20 : decode cX10_holds 20 = .ok (.bipush 62, 2) := by decide +kernel
theorem dX10_holds_22 : decode cX10_holds 22 = .ok (.if_icmp .ne 16, 3) := by decide +kernel
theorem dX10_holds_25 : decode cX10_holds 25 = .ok (.iload_n 1, 1) := by decide +kernel
theorem dX10_holds_26 : decode cX10_holds 26 = .ok (.iload_n 2, 1) := by decide +kernel
theorem dX10_holds_27 : decode cX10_holds 27 = .ok (.if_icmp .le 7, 3) := by decide +kernel
theorem dX10_holds_30 : decode cX10_holds 30 = .ok (.iconst 1, 1) := by decide +kernel
theorem dX10_holds_31 : decode cX10_holds 31 = .ok (.goto 17, 3) := by decide +kernel
theorem dX10_holds_34 : decode cX10_holds 34 = .ok (.iconst 0, 1) := by decide +kernel
theorem dX10_holds_35 : decode cX10_holds 35 = .ok (.goto 13, 3) := by decide +kernel
theorem dX10_holds_38 : decode cX10_holds 38 = .ok (.iload_n 1, 1) := by decide +kernel
theorem dX10_holds_39 : decode cX10_holds 39 = .ok (.iload_n 2, 1) := by decide +kernel
theorem dX10_holds_40 : decode cX10_holds 40 = .ok (.if_icmp .ne 7, 3) := by decide +kernel
theorem dX10_holds_43 : decode cX10_holds 43 = .ok (.iconst 1, 1) := by decide +kernel
theorem dX10_holds_44 : decode cX10_holds 44 = .ok (.goto 4, 3) := by decide +kernel
theorem dX10_holds_47 : decode cX10_holds 47 = .ok (.iconst 0, 1) := by decide +kernel
theorem dX10_holds_48 : decode cX10_holds 48 = .ok (.ireturn, 1) := by decide +kernel
theorem dX10_sideAt_0 : decode cX10_sideAt 0 = .ok (.iload_n 0, 1) := by decide +kernel
theorem dX10_sideAt_1 : decode cX10_sideAt 1 = .ok (.sipush 222, 3) := by decide +kernel
theorem dX10_sideAt_4 : decode cX10_sideAt 4 = .ok (.iadd, 1) := by decide +kernel
theorem dX10_sideAt_5 : decode cX10_sideAt 5 = .ok (.bipush 14, 2) := by decide +kernel
theorem dX10_sideAt_7 : decode cX10_sideAt 7 = .ok (.iload_n 1, 1) := by decide +kernel
theorem dX10_sideAt_8 : decode cX10_sideAt 8 = .ok (.imul, 1) := by decide +kernel
theorem dX10_sideAt_9 : decode cX10_sideAt 9 = .ok (.iadd, 1) := by decide +kernel
theorem dX10_sideAt_10 : decode cX10_sideAt 10 = .ok (.ireturn, 1) := by decide +kernel
theorem dX10_waits_0 : decode cX10_waits 0 = .ok (.iload_n 1, 1) := by decide +kernel
theorem dX10_waits_1 : decode cX10_waits 1 = .ok (.iload_n 2, 1) := by decide +kernel
theorem dX10_waits_2 : decode cX10_waits 2 = .ok (.invokestatic 98, 3) := by decide +kernel
theorem dX10_waits_5 : decode cX10_waits 5 = .ok (.istore 4, 2) := by decide +kernel
theorem dX10_waits_7 : decode cX10_waits 7 = .ok (.aload_n 0, 1) := by decide +kernel
theorem dX10_waits_8 : decode cX10_waits 8 = .ok (.getfield 7, 3) := by decide +kernel
theorem dX10_waits_11 : decode cX10_waits 11 = .ok (.iload 4, 2) := by decide +kernel
theorem dX10_waits_13 : decode cX10_waits 13 = .ok (.iconst 5, 1) := by decide +kernel
theorem dX10_waits_14 : decode cX10_waits 14 = .ok (.iadd, 1) := by decide +kernel
theorem dX10_waits_15 : decode cX10_waits 15 = .ok (.iload_n 3, 1) := by decide +kernel
theorem dX10_waits_16 : decode cX10_waits 16 = .ok (.iastore, 1) := by decide +kernel
theorem dX10_waits_17 : decode cX10_waits 17 = .ok (.aload_n 0, 1) := by decide +kernel
theorem dX10_waits_18 : decode cX10_waits 18 = .ok (.getfield 7, 3) := by decide +kernel
theorem dX10_waits_21 : decode cX10_waits 21 = .ok (.iload 4, 2) := by decide +kernel
theorem dX10_waits_23 : decode cX10_waits 23 = .ok (.bipush 6, 2) := by decide +kernel
theorem dX10_waits_25 : decode cX10_waits 25 = .ok (.iadd, 1) := by decide +kernel
theorem dX10_waits_26 : decode cX10_waits 26 = .ok (.iload_n 3, 1) := by decide +kernel
theorem dX10_waits_27 : decode cX10_waits 27 = .ok (.iadd, 1) := by decide +kernel
theorem dX10_waits_28 : decode cX10_waits 28 = .ok (.dup2, 1) := by decide +kernel
theorem dX10_waits_29 : decode cX10_waits 29 = .ok (.iaload, 1) := by decide +kernel
theorem dX10_waits_30 : decode cX10_waits 30 = .ok (.iconst 1, 1) := by decide +kernel
theorem dX10_waits_31 : decode cX10_waits 31 = .ok (.iadd, 1) := by decide +kernel
theorem dX10_waits_32 : decode cX10_waits 32 = .ok (.iastore, 1) := by decide +kernel
theorem dX10_waits_33 : decode cX10_waits 33 = .ok (.return_, 1) := by decide +kernel
theorem dX10_does_0 : decode cX10_does 0 = .ok (.iload_n 1, 1) := by decide +kernel
theorem dX10_does_1 : decode cX10_does 1 = .ok (.iload_n 2, 1) := by decide +kernel
theorem dX10_does_2 : decode cX10_does 2 = .ok (.invokestatic 98, 3) := by decide +kernel
theorem dX10_does_5 : decode cX10_does 5 = .ok (.istore 4, 2) := by decide +kernel
theorem dX10_does_7 : decode cX10_does 7 = .ok (.aload_n 0, 1) := by decide +kernel
theorem dX10_does_8 : decode cX10_does 8 = .ok (.getfield 7, 3) := by decide +kernel
theorem dX10_does_11 : decode cX10_does 11 = .ok (.iload 4, 2) := by decide +kernel
theorem dX10_does_13 : decode cX10_does 13 = .ok (.iconst 0, 1) := by decide +kernel
theorem dX10_does_14 : decode cX10_does 14 = .ok (.iadd, 1) := by decide +kernel
theorem dX10_does_15 : decode cX10_does 15 = .ok (.iaload, 1) := by decide +kernel
theorem dX10_does_16 : decode cX10_does 16 = .ok (.istore 5, 2) := by decide +kernel
theorem dX10_does_18 : decode cX10_does 18 = .ok (.aload_n 0, 1) := by decide +kernel
theorem dX10_does_19 : decode cX10_does 19 = .ok (.getfield 7, 3) := by decide +kernel
theorem dX10_does_22 : decode cX10_does 22 = .ok (.iload_n 1, 1) := by decide +kernel
theorem dX10_does_23 : decode cX10_does 23 = .ok (.sipush 366, 3) := by decide +kernel
theorem dX10_does_26 : decode cX10_does 26 = .ok (.iadd, 1) := by decide +kernel
theorem dX10_does_27 : decode cX10_does 27 = .ok (.bipush 75, 2) := by decide +kernel
theorem dX10_does_29 : decode cX10_does 29 = .ok (.iload_n 2, 1) := by decide +kernel
theorem dX10_does_30 : decode cX10_does 30 = .ok (.imul, 1) := by decide +kernel
theorem dX10_does_31 : decode cX10_does 31 = .ok (.iadd, 1) := by decide +kernel
theorem dX10_does_32 : decode cX10_does 32 = .ok (.iconst 3, 1) := by decide +kernel
theorem dX10_does_33 : decode cX10_does 33 = .ok (.iload 5, 2) := by decide +kernel
theorem dX10_does_35 : decode cX10_does 35 = .ok (.imul, 1) := by decide +kernel
theorem dX10_does_36 : decode cX10_does 36 = .ok (.iadd, 1) := by decide +kernel
theorem dX10_does_37 : decode cX10_does 37 = .ok (.aload_n 0, 1) := by decide +kernel
theorem dX10_does_38 : decode cX10_does 38 = .ok (.getfield 7, 3) := by decide +kernel
theorem dX10_does_41 : decode cX10_does 41 = .ok (.iload 4, 2) := by decide +kernel
theorem dX10_does_43 : decode cX10_does 43 = .ok (.iconst 1, 1) := by decide +kernel
theorem dX10_does_44 : decode cX10_does 44 = .ok (.iadd, 1) := by decide +kernel
theorem dX10_does_45 : decode cX10_does 45 = .ok (.iaload, 1) := by decide +kernel
theorem dX10_does_46 : decode cX10_does 46 = .ok (.iadd, 1) := by decide +kernel
theorem dX10_does_47 : decode cX10_does 47 = .ok (.dup2, 1) := by decide +kernel
theorem dX10_does_48 : decode cX10_does 48 = .ok (.iaload, 1) := by decide +kernel
theorem dX10_does_49 : decode cX10_does 49 = .ok (.iconst 1, 1) := by decide +kernel
theorem dX10_does_50 : decode cX10_does 50 = .ok (.iadd, 1) := by decide +kernel
theorem dX10_does_51 : decode cX10_does 51 = .ok (.iastore, 1) := by decide +kernel
theorem dX10_does_52 : decode cX10_does 52 = .ok (.aload_n 0, 1) := by decide +kernel
theorem dX10_does_53 : decode cX10_does 53 = .ok (.getfield 7, 3) := by decide +kernel
theorem dX10_does_56 : decode cX10_does 56 = .ok (.iload 4, 2) := by decide +kernel
theorem dX10_does_58 : decode cX10_does 58 = .ok (.iconst 2, 1) := by decide +kernel
theorem dX10_does_59 : decode cX10_does 59 = .ok (.iadd, 1) := by decide +kernel
theorem dX10_does_60 : decode cX10_does 60 = .ok (.dup2, 1) := by decide +kernel
theorem dX10_does_61 : decode cX10_does 61 = .ok (.iaload, 1) := by decide +kernel
theorem dX10_does_62 : decode cX10_does 62 = .ok (.iconst 1, 1) := by decide +kernel
theorem dX10_does_63 : decode cX10_does 63 = .ok (.iadd, 1) := by decide +kernel
theorem dX10_does_64 : decode cX10_does 64 = .ok (.iastore, 1) := by decide +kernel
theorem dX10_does_65 : decode cX10_does 65 = .ok (.aload_n 0, 1) := by decide +kernel
theorem dX10_does_66 : decode cX10_does 66 = .ok (.getfield 7, 3) := by decide +kernel
theorem dX10_does_69 : decode cX10_does 69 = .ok (.iload 4, 2) := by decide +kernel
theorem dX10_does_71 : decode cX10_does 71 = .ok (.iconst 1, 1) := by decide +kernel
theorem dX10_does_72 : decode cX10_does 72 = .ok (.iadd, 1) := by decide +kernel
theorem dX10_does_73 : decode cX10_does 73 = .ok (.dup2, 1) := by decide +kernel
theorem dX10_does_74 : decode cX10_does 74 = .ok (.iaload, 1) := by decide +kernel
theorem dX10_does_75 : decode cX10_does 75 = .ok (.iconst 1, 1) := by decide +kernel
theorem dX10_does_76 : decode cX10_does 76 = .ok (.iadd, 1) := by decide +kernel
theorem dX10_does_77 : decode cX10_does 77 = .ok (.iastore, 1) := by decide +kernel
theorem dX10_does_78 : decode cX10_does 78 = .ok (.aload_n 0, 1) := by decide +kernel
theorem dX10_does_79 : decode cX10_does 79 = .ok (.iload_n 1, 1) := by decide +kernel
theorem dX10_does_80 : decode cX10_does 80 = .ok (.iload_n 2, 1) := by decide +kernel
theorem dX10_does_81 : decode cX10_does 81 = .ok (.iload 5, 2) := by decide +kernel
theorem dX10_does_83 : decode cX10_does 83 = .ok (.aload_n 0, 1) := by decide +kernel
theorem dX10_does_84 : decode cX10_does 84 = .ok (.getfield 7, 3) := by decide +kernel
theorem dX10_does_87 : decode cX10_does 87 = .ok (.iload 4, 2) := by decide +kernel
theorem dX10_does_89 : decode cX10_does 89 = .ok (.iconst 1, 1) := by decide +kernel
theorem dX10_does_90 : decode cX10_does 90 = .ok (.iadd, 1) := by decide +kernel
theorem dX10_does_91 : decode cX10_does 91 = .ok (.iaload, 1) := by decide +kernel
theorem dX10_does_92 : decode cX10_does 92 = .ok (.invokevirtual 80, 3) := by decide +kernel
theorem dX10_does_95 : decode cX10_does 95 = .ok (.ifCond .le 4, 3) := by decide +kernel
theorem dX10_does_98 : decode cX10_does 98 = .ok (.return_, 1) := by decide +kernel
theorem dX10_does_99 : decode cX10_does 99 = .ok (.aload_n 0, 1) := by decide +kernel
theorem dX10_does_100 : decode cX10_does 100 = .ok (.getfield 7, 3) := by decide +kernel
theorem dX10_does_103 : decode cX10_does 103 = .ok (.iload 4, 2) := by decide +kernel
theorem dX10_does_105 : decode cX10_does 105 = .ok (.iconst 3, 1) := by decide +kernel
theorem dX10_does_106 : decode cX10_does 106 = .ok (.iadd, 1) := by decide +kernel
theorem dX10_does_107 : decode cX10_does 107 = .ok (.dup2, 1) := by decide +kernel
theorem dX10_does_108 : decode cX10_does 108 = .ok (.iaload, 1) := by decide +kernel
theorem dX10_does_109 : decode cX10_does 109 = .ok (.iconst 1, 1) := by decide +kernel
theorem dX10_does_110 : decode cX10_does 110 = .ok (.iadd, 1) := by decide +kernel
theorem dX10_does_111 : decode cX10_does 111 = .ok (.iastore, 1) := by decide +kernel
theorem dX10_does_112 : decode cX10_does 112 = .ok (.aload_n 0, 1) := by decide +kernel
theorem dX10_does_113 : decode cX10_does 113 = .ok (.getfield 7, 3) := by decide +kernel
theorem dX10_does_116 : decode cX10_does 116 = .ok (.iload 4, 2) := by decide +kernel
theorem dX10_does_118 : decode cX10_does 118 = .ok (.iconst 1, 1) := by decide +kernel
theorem dX10_does_119 : decode cX10_does 119 = .ok (.iadd, 1) := by decide +kernel
theorem dX10_does_120 : decode cX10_does 120 = .ok (.iconst 0, 1) := by decide +kernel
theorem dX10_does_121 : decode cX10_does 121 = .ok (.iastore, 1) := by decide +kernel
theorem dX10_does_122 : decode cX10_does 122 = .ok (.aload_n 0, 1) := by decide +kernel
theorem dX10_does_123 : decode cX10_does 123 = .ok (.getfield 7, 3) := by decide +kernel
theorem dX10_does_126 : decode cX10_does 126 = .ok (.iload 4, 2) := by decide +kernel
theorem dX10_does_128 : decode cX10_does 128 = .ok (.iconst 0, 1) := by decide +kernel
theorem dX10_does_129 : decode cX10_does 129 = .ok (.iadd, 1) := by decide +kernel
theorem dX10_does_130 : decode cX10_does 130 = .ok (.iload_n 3, 1) := by decide +kernel
theorem dX10_does_131 : decode cX10_does 131 = .ok (.iastore, 1) := by decide +kernel
theorem dX10_does_132 : decode cX10_does 132 = .ok (.return_, 1) := by decide +kernel
theorem dX10_writes_0 : decode cX10_writes 0 = .ok (.aload_n 0, 1) := by decide +kernel
theorem dX10_writes_1 : decode cX10_writes 1 = .ok (.iload_n 1, 1) := by decide +kernel
theorem dX10_writes_2 : decode cX10_writes 2 = .ok (.iconst 1, 1) := by decide +kernel
theorem dX10_writes_3 : decode cX10_writes 3 = .ok (.invokevirtual 86, 3) := by decide +kernel
theorem dX10_writes_6 : decode cX10_writes 6 = .ok (.ifCond .ne 4, 3) := by decide +kernel
theorem dX10_writes_9 : decode cX10_writes 9 = .ok (.return_, 1) := by decide +kernel
theorem dX10_writes_10 : decode cX10_writes 10 = .ok (.aload_n 0, 1) := by decide +kernel
theorem dX10_writes_11 : decode cX10_writes 11 = .ok (.iload_n 1, 1) := by decide +kernel
theorem dX10_writes_12 : decode cX10_writes 12 = .ok (.iconst 1, 1) := by decide +kernel
theorem dX10_writes_13 : decode cX10_writes 13 = .ok (.iconst 1, 1) := by decide +kernel
theorem dX10_writes_14 : decode cX10_writes 14 = .ok (.invokevirtual 89, 3) := by decide +kernel
theorem dX10_writes_17 : decode cX10_writes 17 = .ok (.iconst 1, 1) := by decide +kernel
theorem dX10_writes_18 : decode cX10_writes 18 = .ok (.if_icmp .ne 7, 3) := by decide +kernel
theorem dX10_writes_21 : decode cX10_writes 21 = .ok (.iconst 1, 1) := by decide +kernel
theorem dX10_writes_22 : decode cX10_writes 22 = .ok (.goto 4, 3) := by decide +kernel
theorem dX10_writes_25 : decode cX10_writes 25 = .ok (.iconst 0, 1) := by decide +kernel
theorem dX10_writes_26 : decode cX10_writes 26 = .ok (.istore_n 2, 1) := by decide +kernel
theorem dX10_writes_27 : decode cX10_writes 27 = .ok (.iload_n 2, 1) := by decide +kernel
theorem dX10_writes_28 : decode cX10_writes 28 = .ok (.ifCond .ne 13, 3) := by decide +kernel
theorem dX10_writes_31 : decode cX10_writes 31 = .ok (.aload_n 0, 1) := by decide +kernel
theorem dX10_writes_32 : decode cX10_writes 32 = .ok (.iload_n 1, 1) := by decide +kernel
theorem dX10_writes_33 : decode cX10_writes 33 = .ok (.iconst 2, 1) := by decide +kernel
theorem dX10_writes_34 : decode cX10_writes 34 = .ok (.invokevirtual 86, 3) := by decide +kernel
theorem dX10_writes_37 : decode cX10_writes 37 = .ok (.ifCond .ne 4, 3) := by decide +kernel
theorem dX10_writes_40 : decode cX10_writes 40 = .ok (.return_, 1) := by decide +kernel
theorem dX10_writes_41 : decode cX10_writes 41 = .ok (.iload_n 2, 1) := by decide +kernel
theorem dX10_writes_42 : decode cX10_writes 42 = .ok (.ifCond .eq 13, 3) := by decide +kernel
theorem dX10_writes_45 : decode cX10_writes 45 = .ok (.aload_n 0, 1) := by decide +kernel
theorem dX10_writes_46 : decode cX10_writes 46 = .ok (.iload_n 1, 1) := by decide +kernel
theorem dX10_writes_47 : decode cX10_writes 47 = .ok (.iconst 1, 1) := by decide +kernel
theorem dX10_writes_48 : decode cX10_writes 48 = .ok (.iconst 2, 1) := by decide +kernel
theorem dX10_writes_49 : decode cX10_writes 49 = .ok (.invokevirtual 89, 3) := by decide +kernel
theorem dX10_writes_52 : decode cX10_writes 52 = .ok (.goto 9, 3) := by decide +kernel
theorem dX10_writes_55 : decode cX10_writes 55 = .ok (.aload_n 0, 1) := by decide +kernel
theorem dX10_writes_56 : decode cX10_writes 56 = .ok (.iload_n 1, 1) := by decide +kernel
theorem dX10_writes_57 : decode cX10_writes 57 = .ok (.iconst 2, 1) := by decide +kernel
theorem dX10_writes_58 : decode cX10_writes 58 = .ok (.invokevirtual 101, 3) := by decide +kernel
theorem dX10_writes_61 : decode cX10_writes 61 = .ok (.istore_n 3, 1) := by decide +kernel
theorem dX10_writes_62 : decode cX10_writes 62 = .ok (.aload_n 0, 1) := by decide +kernel
theorem dX10_writes_63 : decode cX10_writes 63 = .ok (.iload_n 1, 1) := by decide +kernel
theorem dX10_writes_64 : decode cX10_writes 64 = .ok (.iconst 1, 1) := by decide +kernel
theorem dX10_writes_65 : decode cX10_writes 65 = .ok (.invokevirtual 101, 3) := by decide +kernel
theorem dX10_writes_68 : decode cX10_writes 68 = .ok (.istore 4, 2) := by decide +kernel
theorem dX10_writes_70 : decode cX10_writes 70 = .ok (.aload_n 0, 1) := by decide +kernel
theorem dX10_writes_71 : decode cX10_writes 71 = .ok (.getfield 7, 3) := by decide +kernel
theorem dX10_writes_74 : decode cX10_writes 74 = .ok (.iload_n 1, 1) := by decide +kernel
theorem dX10_writes_75 : decode cX10_writes 75 = .ok (.sipush 178, 3) := by decide +kernel
theorem dX10_writes_78 : decode cX10_writes 78 = .ok (.iadd, 1) := by decide +kernel
theorem dX10_writes_79 : decode cX10_writes 79 = .ok (.iload 4, 2) := by decide +kernel
theorem dX10_writes_81 : decode cX10_writes 81 = .ok (.iadd, 1) := by decide +kernel
theorem dX10_writes_82 : decode cX10_writes 82 = .ok (.iload_n 3, 1) := by decide +kernel
theorem dX10_writes_83 : decode cX10_writes 83 = .ok (.iastore, 1) := by decide +kernel
theorem dX10_writes_84 : decode cX10_writes 84 = .ok (.aload_n 0, 1) := by decide +kernel
theorem dX10_writes_85 : decode cX10_writes 85 = .ok (.getfield 7, 3) := by decide +kernel
theorem dX10_writes_88 : decode cX10_writes 88 = .ok (.iload_n 1, 1) := by decide +kernel
theorem dX10_writes_89 : decode cX10_writes 89 = .ok (.sipush 221, 3) := by decide +kernel
theorem dX10_writes_92 : decode cX10_writes 92 = .ok (.iadd, 1) := by decide +kernel
theorem dX10_writes_93 : decode cX10_writes 93 = .ok (.dup2, 1) := by decide +kernel
theorem dX10_writes_94 : decode cX10_writes 94 = .ok (.iaload, 1) := by decide +kernel
theorem dX10_writes_95 : decode cX10_writes 95 = .ok (.iconst 1, 1) := by decide +kernel
theorem dX10_writes_96 : decode cX10_writes 96 = .ok (.iadd, 1) := by decide +kernel
theorem dX10_writes_97 : decode cX10_writes 97 = .ok (.iastore, 1) := by decide +kernel
theorem dX10_writes_98 : decode cX10_writes 98 = .ok (.return_, 1) := by decide +kernel
theorem dX10_passes_0 : decode cX10_passes 0 = .ok (.iload_n 1, 1) := by decide +kernel
theorem dX10_passes_1 : decode cX10_passes 1 = .ok (.iload_n 2, 1) := by decide +kernel
theorem dX10_passes_2 : decode cX10_passes 2 = .ok (.invokestatic 98, 3) := by decide +kernel
theorem dX10_passes_5 : decode cX10_passes 5 = .ok (.istore_n 3, 1) := by decide +kernel
theorem dX10_passes_6 : decode cX10_passes 6 = .ok (.aload_n 0, 1) := by decide +kernel
theorem dX10_passes_7 : decode cX10_passes 7 = .ok (.getfield 7, 3) := by decide +kernel
theorem dX10_passes_10 : decode cX10_passes 10 = .ok (.iload_n 3, 1) := by decide +kernel
theorem dX10_passes_11 : decode cX10_passes 11 = .ok (.iconst 4, 1) := by decide +kernel
theorem dX10_passes_12 : decode cX10_passes 12 = .ok (.iadd, 1) := by decide +kernel
theorem dX10_passes_13 : decode cX10_passes 13 = .ok (.iaload, 1) := by decide +kernel
theorem dX10_passes_14 : decode cX10_passes 14 = .ok (.ifCond .ne 48, 3) := by decide +kernel
theorem dX10_passes_17 : decode cX10_passes 17 = .ok (.aload_n 0, 1) := by decide +kernel
theorem dX10_passes_18 : decode cX10_passes 18 = .ok (.iload_n 1, 1) := by decide +kernel
theorem dX10_passes_19 : decode cX10_passes 19 = .ok (.iload_n 2, 1) := by decide +kernel
theorem dX10_passes_20 : decode cX10_passes 20 = .ok (.aload_n 0, 1) := by decide +kernel
theorem dX10_passes_21 : decode cX10_passes 21 = .ok (.getfield 7, 3) := by decide +kernel
theorem dX10_passes_24 : decode cX10_passes 24 = .ok (.iload_n 3, 1) := by decide +kernel
theorem dX10_passes_25 : decode cX10_passes 25 = .ok (.iconst 0, 1) := by decide +kernel
theorem dX10_passes_26 : decode cX10_passes 26 = .ok (.iadd, 1) := by decide +kernel
theorem dX10_passes_27 : decode cX10_passes 27 = .ok (.iaload, 1) := by decide +kernel
theorem dX10_passes_28 : decode cX10_passes 28 = .ok (.iconst 0, 1) := by decide +kernel
theorem dX10_passes_29 : decode cX10_passes 29 = .ok (.invokevirtual 80, 3) := by decide +kernel
theorem dX10_passes_32 : decode cX10_passes 32 = .ok (.ifCond .ne 30, 3) := by decide +kernel
theorem dX10_passes_35 : decode cX10_passes 35 = .ok (.aload_n 0, 1) := by decide +kernel
theorem dX10_passes_36 : decode cX10_passes 36 = .ok (.getfield 7, 3) := by decide +kernel
theorem dX10_passes_39 : decode cX10_passes 39 = .ok (.iload_n 3, 1) := by decide +kernel
theorem dX10_passes_40 : decode cX10_passes 40 = .ok (.iconst 3, 1) := by decide +kernel
theorem dX10_passes_41 : decode cX10_passes 41 = .ok (.iadd, 1) := by decide +kernel
theorem dX10_passes_42 : decode cX10_passes 42 = .ok (.dup2, 1) := by decide +kernel
theorem dX10_passes_43 : decode cX10_passes 43 = .ok (.iaload, 1) := by decide +kernel
theorem dX10_passes_44 : decode cX10_passes 44 = .ok (.iconst 1, 1) := by decide +kernel
theorem dX10_passes_45 : decode cX10_passes 45 = .ok (.iadd, 1) := by decide +kernel
theorem dX10_passes_46 : decode cX10_passes 46 = .ok (.iastore, 1) := by decide +kernel
theorem dX10_passes_47 : decode cX10_passes 47 = .ok (.aload_n 0, 1) := by decide +kernel
theorem dX10_passes_48 : decode cX10_passes 48 = .ok (.getfield 7, 3) := by decide +kernel
theorem dX10_passes_51 : decode cX10_passes 51 = .ok (.iload_n 3, 1) := by decide +kernel
theorem dX10_passes_52 : decode cX10_passes 52 = .ok (.iconst 0, 1) := by decide +kernel
theorem dX10_passes_53 : decode cX10_passes 53 = .ok (.iadd, 1) := by decide +kernel
theorem dX10_passes_54 : decode cX10_passes 54 = .ok (.dup2, 1) := by decide +kernel
theorem dX10_passes_55 : decode cX10_passes 55 = .ok (.iaload, 1) := by decide +kernel
theorem dX10_passes_56 : decode cX10_passes 56 = .ok (.iconst 1, 1) := by decide +kernel
theorem dX10_passes_57 : decode cX10_passes 57 = .ok (.iadd, 1) := by decide +kernel
theorem dX10_passes_58 : decode cX10_passes 58 = .ok (.iastore, 1) := by decide +kernel
theorem dX10_passes_59 : decode cX10_passes 59 = .ok (.goto (-53), 3) := by decide +kernel
theorem dX10_passes_62 : decode cX10_passes 62 = .ok (.return_, 1) := by decide +kernel
theorem dX10_ends_0 : decode cX10_ends 0 = .ok (.iload_n 1, 1) := by decide +kernel
theorem dX10_ends_1 : decode cX10_ends 1 = .ok (.iload_n 2, 1) := by decide +kernel
theorem dX10_ends_2 : decode cX10_ends 2 = .ok (.invokestatic 98, 3) := by decide +kernel
theorem dX10_ends_5 : decode cX10_ends 5 = .ok (.istore_n 3, 1) := by decide +kernel
theorem dX10_ends_6 : decode cX10_ends 6 = .ok (.aload_n 0, 1) := by decide +kernel
theorem dX10_ends_7 : decode cX10_ends 7 = .ok (.iload_n 1, 1) := by decide +kernel
theorem dX10_ends_8 : decode cX10_ends 8 = .ok (.iload_n 2, 1) := by decide +kernel
theorem dX10_ends_9 : decode cX10_ends 9 = .ok (.aload_n 0, 1) := by decide +kernel
theorem dX10_ends_10 : decode cX10_ends 10 = .ok (.getfield 7, 3) := by decide +kernel
theorem dX10_ends_13 : decode cX10_ends 13 = .ok (.iload_n 3, 1) := by decide +kernel
theorem dX10_ends_14 : decode cX10_ends 14 = .ok (.iconst 0, 1) := by decide +kernel
theorem dX10_ends_15 : decode cX10_ends 15 = .ok (.iadd, 1) := by decide +kernel
theorem dX10_ends_16 : decode cX10_ends 16 = .ok (.iaload, 1) := by decide +kernel
theorem dX10_ends_17 : decode cX10_ends 17 = .ok (.invokevirtual 104, 3) := by decide +kernel
theorem dX10_ends_20 : decode cX10_ends 20 = .ok (.aload_n 0, 1) := by decide +kernel
theorem dX10_ends_21 : decode cX10_ends 21 = .ok (.getfield 7, 3) := by decide +kernel
theorem dX10_ends_24 : decode cX10_ends 24 = .ok (.iload_n 3, 1) := by decide +kernel
theorem dX10_ends_25 : decode cX10_ends 25 = .ok (.iconst 4, 1) := by decide +kernel
theorem dX10_ends_26 : decode cX10_ends 26 = .ok (.iadd, 1) := by decide +kernel
theorem dX10_ends_27 : decode cX10_ends 27 = .ok (.iconst 1, 1) := by decide +kernel
theorem dX10_ends_28 : decode cX10_ends 28 = .ok (.iastore, 1) := by decide +kernel
theorem dX10_ends_29 : decode cX10_ends 29 = .ok (.return_, 1) := by decide +kernel
theorem dX10_runs_0 : decode cX10_runs 0 = .ok (.iload_n 1, 1) := by decide +kernel
theorem dX10_runs_1 : decode cX10_runs 1 = .ok (.iconst 0, 1) := by decide +kernel
theorem dX10_runs_2 : decode cX10_runs 2 = .ok (.invokestatic 98, 3) := by decide +kernel
theorem dX10_runs_5 : decode cX10_runs 5 = .ok (.istore_n 2, 1) := by decide +kernel
theorem dX10_runs_6 : decode cX10_runs 6 = .ok (.aload_n 0, 1) := by decide +kernel
theorem dX10_runs_7 : decode cX10_runs 7 = .ok (.iload_n 1, 1) := by decide +kernel
theorem dX10_runs_8 : decode cX10_runs 8 = .ok (.iconst 0, 1) := by decide +kernel
theorem dX10_runs_9 : decode cX10_runs 9 = .ok (.invokevirtual 108, 3) := by decide +kernel
theorem dX10_runs_12 : decode cX10_runs 12 = .ok (.aload_n 0, 1) := by decide +kernel
theorem dX10_runs_13 : decode cX10_runs 13 = .ok (.getfield 7, 3) := by decide +kernel
theorem dX10_runs_16 : decode cX10_runs 16 = .ok (.iload_n 2, 1) := by decide +kernel
theorem dX10_runs_17 : decode cX10_runs 17 = .ok (.iconst 0, 1) := by decide +kernel
theorem dX10_runs_18 : decode cX10_runs 18 = .ok (.iadd, 1) := by decide +kernel
theorem dX10_runs_19 : decode cX10_runs 19 = .ok (.iaload, 1) := by decide +kernel
theorem dX10_runs_20 : decode cX10_runs 20 = .ok (.istore_n 3, 1) := by decide +kernel
theorem dX10_runs_21 : decode cX10_runs 21 = .ok (.aload_n 0, 1) := by decide +kernel
theorem dX10_runs_22 : decode cX10_runs 22 = .ok (.iload_n 1, 1) := by decide +kernel
theorem dX10_runs_23 : decode cX10_runs 23 = .ok (.iconst 0, 1) := by decide +kernel
theorem dX10_runs_24 : decode cX10_runs 24 = .ok (.iload_n 3, 1) := by decide +kernel
theorem dX10_runs_25 : decode cX10_runs 25 = .ok (.aload_n 0, 1) := by decide +kernel
theorem dX10_runs_26 : decode cX10_runs 26 = .ok (.getfield 7, 3) := by decide +kernel
theorem dX10_runs_29 : decode cX10_runs 29 = .ok (.iload_n 2, 1) := by decide +kernel
theorem dX10_runs_30 : decode cX10_runs 30 = .ok (.iconst 1, 1) := by decide +kernel
theorem dX10_runs_31 : decode cX10_runs 31 = .ok (.iadd, 1) := by decide +kernel
theorem dX10_runs_32 : decode cX10_runs 32 = .ok (.iaload, 1) := by decide +kernel
theorem dX10_runs_33 : decode cX10_runs 33 = .ok (.invokevirtual 80, 3) := by decide +kernel
theorem dX10_runs_36 : decode cX10_runs 36 = .ok (.istore 4, 2) := by decide +kernel
theorem dX10_runs_38 : decode cX10_runs 38 = .ok (.aload_n 0, 1) := by decide +kernel
theorem dX10_runs_39 : decode cX10_runs 39 = .ok (.iload_n 1, 1) := by decide +kernel
theorem dX10_runs_40 : decode cX10_runs 40 = .ok (.iload_n 3, 1) := by decide +kernel
theorem dX10_runs_41 : decode cX10_runs 41 = .ok (.iload 4, 2) := by decide +kernel
theorem dX10_runs_43 : decode cX10_runs 43 = .ok (.bipush 16, 2) := by decide +kernel
theorem dX10_runs_45 : decode cX10_runs 45 = .ok (.irem, 1) := by decide +kernel
theorem dX10_runs_46 : decode cX10_runs 46 = .ok (.invokevirtual 112, 3) := by decide +kernel
theorem dX10_runs_49 : decode cX10_runs 49 = .ok (.istore 5, 2) := by decide +kernel
theorem dX10_runs_51 : decode cX10_runs 51 = .ok (.iload 5, 2) := by decide +kernel
theorem dX10_runs_53 : decode cX10_runs 53 = .ok (.ifCond .le 12, 3) := by decide +kernel
theorem dX10_runs_56 : decode cX10_runs 56 = .ok (.aload_n 0, 1) := by decide +kernel
theorem dX10_runs_57 : decode cX10_runs 57 = .ok (.iload_n 1, 1) := by decide +kernel
theorem dX10_runs_58 : decode cX10_runs 58 = .ok (.iconst 0, 1) := by decide +kernel
theorem dX10_runs_59 : decode cX10_runs 59 = .ok (.iload 5, 2) := by decide +kernel
theorem dX10_runs_61 : decode cX10_runs 61 = .ok (.invokevirtual 115, 3) := by decide +kernel
theorem dX10_runs_64 : decode cX10_runs 64 = .ok (.return_, 1) := by decide +kernel
theorem dX10_runs_65 : decode cX10_runs 65 = .ok (.aload_n 0, 1) := by decide +kernel
theorem dX10_runs_66 : decode cX10_runs 66 = .ok (.iload_n 1, 1) := by decide +kernel
theorem dX10_runs_67 : decode cX10_runs 67 = .ok (.iload_n 3, 1) := by decide +kernel
theorem dX10_runs_68 : decode cX10_runs 68 = .ok (.iconst 1, 1) := by decide +kernel
theorem dX10_runs_69 : decode cX10_runs 69 = .ok (.invokevirtual 54, 3) := by decide +kernel
theorem dX10_runs_72 : decode cX10_runs 72 = .ok (.istore 6, 2) := by decide +kernel
theorem dX10_runs_74 : decode cX10_runs 74 = .ok (.iload_n 3, 1) := by decide +kernel
theorem dX10_runs_75 : decode cX10_runs 75 = .ok (.iconst 1, 1) := by decide +kernel
theorem dX10_runs_76 : decode cX10_runs 76 = .ok (.iadd, 1) := by decide +kernel
theorem dX10_runs_77 : decode cX10_runs 77 = .ok (.istore 7, 2) := by decide +kernel
theorem dX10_runs_79 : decode cX10_runs 79 = .ok (.iload 4, 2) := by decide +kernel
theorem dX10_runs_81 : decode cX10_runs 81 = .ok (.bipush 16, 2) := by decide +kernel
theorem dX10_runs_83 : decode cX10_runs 83 = .ok (.irem, 1) := by decide +kernel
theorem dX10_runs_84 : decode cX10_runs 84 = .ok (.tableswitch 331 1 12 #[64, 85, 107, 144, 331, 181, 204, 331, 221, 233, 331, 304], 64) := by decide +kernel
theorem dX10_runs_148 : decode cX10_runs 148 = .ok (.aload_n 0, 1) := by decide +kernel
theorem dX10_runs_149 : decode cX10_runs 149 = .ok (.iload_n 1, 1) := by decide +kernel
theorem dX10_runs_150 : decode cX10_runs 150 = .ok (.iconst 3, 1) := by decide +kernel
theorem dX10_runs_151 : decode cX10_runs 151 = .ok (.aload_n 0, 1) := by decide +kernel
theorem dX10_runs_152 : decode cX10_runs 152 = .ok (.iload_n 1, 1) := by decide +kernel
theorem dX10_runs_153 : decode cX10_runs 153 = .ok (.iload 4, 2) := by decide +kernel
theorem dX10_runs_155 : decode cX10_runs 155 = .ok (.bipush 16, 2) := by decide +kernel
theorem dX10_runs_157 : decode cX10_runs 157 = .ok (.idiv, 1) := by decide +kernel
theorem dX10_runs_158 : decode cX10_runs 158 = .ok (.invokevirtual 92, 3) := by decide +kernel
theorem dX10_runs_161 : decode cX10_runs 161 = .ok (.iconst 0, 1) := by decide +kernel
theorem dX10_runs_162 : decode cX10_runs 162 = .ok (.iconst 0, 1) := by decide +kernel
theorem dX10_runs_163 : decode cX10_runs 163 = .ok (.invokevirtual 118, 3) := by decide +kernel
theorem dX10_runs_166 : decode cX10_runs 166 = .ok (.goto 256, 3) := by decide +kernel
theorem dX10_runs_169 : decode cX10_runs 169 = .ok (.aload_n 0, 1) := by decide +kernel
theorem dX10_runs_170 : decode cX10_runs 170 = .ok (.getfield 7, 3) := by decide +kernel
theorem dX10_runs_173 : decode cX10_runs 173 = .ok (.iload_n 1, 1) := by decide +kernel
theorem dX10_runs_174 : decode cX10_runs 174 = .ok (.sipush 210, 3) := by decide +kernel
theorem dX10_runs_177 : decode cX10_runs 177 = .ok (.iadd, 1) := by decide +kernel
theorem dX10_runs_178 : decode cX10_runs 178 = .ok (.iload 6, 2) := by decide +kernel
theorem dX10_runs_180 : decode cX10_runs 180 = .ok (.iadd, 1) := by decide +kernel
theorem dX10_runs_181 : decode cX10_runs 181 = .ok (.aload_n 0, 1) := by decide +kernel
theorem dX10_runs_182 : decode cX10_runs 182 = .ok (.iload_n 1, 1) := by decide +kernel
theorem dX10_runs_183 : decode cX10_runs 183 = .ok (.iload_n 3, 1) := by decide +kernel
theorem dX10_runs_184 : decode cX10_runs 184 = .ok (.invokevirtual 122, 3) := by decide +kernel
theorem dX10_runs_187 : decode cX10_runs 187 = .ok (.iastore, 1) := by decide +kernel
theorem dX10_runs_188 : decode cX10_runs 188 = .ok (.goto 234, 3) := by decide +kernel
theorem dX10_runs_191 : decode cX10_runs 191 = .ok (.aload_n 0, 1) := by decide +kernel
theorem dX10_runs_192 : decode cX10_runs 192 = .ok (.getfield 7, 3) := by decide +kernel
theorem dX10_runs_195 : decode cX10_runs 195 = .ok (.iload_n 1, 1) := by decide +kernel
theorem dX10_runs_196 : decode cX10_runs 196 = .ok (.sipush 210, 3) := by decide +kernel
theorem dX10_runs_199 : decode cX10_runs 199 = .ok (.iadd, 1) := by decide +kernel
theorem dX10_runs_200 : decode cX10_runs 200 = .ok (.iload 6, 2) := by decide +kernel
theorem dX10_runs_202 : decode cX10_runs 202 = .ok (.iadd, 1) := by decide +kernel
theorem dX10_runs_203 : decode cX10_runs 203 = .ok (.aload_n 0, 1) := by decide +kernel
theorem dX10_runs_204 : decode cX10_runs 204 = .ok (.getfield 7, 3) := by decide +kernel
theorem dX10_runs_207 : decode cX10_runs 207 = .ok (.iload_n 1, 1) := by decide +kernel
theorem dX10_runs_208 : decode cX10_runs 208 = .ok (.sipush 251, 3) := by decide +kernel
theorem dX10_runs_211 : decode cX10_runs 211 = .ok (.iadd, 1) := by decide +kernel
theorem dX10_runs_212 : decode cX10_runs 212 = .ok (.iaload, 1) := by decide +kernel
theorem dX10_runs_213 : decode cX10_runs 213 = .ok (.iastore, 1) := by decide +kernel
theorem dX10_runs_214 : decode cX10_runs 214 = .ok (.aload_n 0, 1) := by decide +kernel
theorem dX10_runs_215 : decode cX10_runs 215 = .ok (.getfield 7, 3) := by decide +kernel
theorem dX10_runs_218 : decode cX10_runs 218 = .ok (.iload_n 1, 1) := by decide +kernel
theorem dX10_runs_219 : decode cX10_runs 219 = .ok (.sipush 250, 3) := by decide +kernel
theorem dX10_runs_222 : decode cX10_runs 222 = .ok (.iadd, 1) := by decide +kernel
theorem dX10_runs_223 : decode cX10_runs 223 = .ok (.iconst (-1), 1) := by decide +kernel
theorem dX10_runs_224 : decode cX10_runs 224 = .ok (.iastore, 1) := by decide +kernel
theorem dX10_runs_225 : decode cX10_runs 225 = .ok (.goto 197, 3) := by decide +kernel
theorem dX10_runs_228 : decode cX10_runs 228 = .ok (.aload_n 0, 1) := by decide +kernel
theorem dX10_runs_229 : decode cX10_runs 229 = .ok (.iload_n 1, 1) := by decide +kernel
theorem dX10_runs_230 : decode cX10_runs 230 = .ok (.iconst 0, 1) := by decide +kernel
theorem dX10_runs_231 : decode cX10_runs 231 = .ok (.aload_n 0, 1) := by decide +kernel
theorem dX10_runs_232 : decode cX10_runs 232 = .ok (.getfield 7, 3) := by decide +kernel
theorem dX10_runs_235 : decode cX10_runs 235 = .ok (.iload_n 1, 1) := by decide +kernel
theorem dX10_runs_236 : decode cX10_runs 236 = .ok (.sipush 178, 3) := by decide +kernel
theorem dX10_runs_239 : decode cX10_runs 239 = .ok (.iadd, 1) := by decide +kernel
theorem dX10_runs_240 : decode cX10_runs 240 = .ok (.aload_n 0, 1) := by decide +kernel
theorem dX10_runs_241 : decode cX10_runs 241 = .ok (.iload_n 1, 1) := by decide +kernel
theorem dX10_runs_242 : decode cX10_runs 242 = .ok (.iload_n 3, 1) := by decide +kernel
theorem dX10_runs_243 : decode cX10_runs 243 = .ok (.invokevirtual 125, 3) := by decide +kernel
theorem dX10_runs_246 : decode cX10_runs 246 = .ok (.iadd, 1) := by decide +kernel
theorem dX10_runs_247 : decode cX10_runs 247 = .ok (.iaload, 1) := by decide +kernel
theorem dX10_runs_248 : decode cX10_runs 248 = .ok (.aload_n 0, 1) := by decide +kernel
theorem dX10_runs_249 : decode cX10_runs 249 = .ok (.getfield 7, 3) := by decide +kernel
theorem dX10_runs_252 : decode cX10_runs 252 = .ok (.iload_n 1, 1) := by decide +kernel
theorem dX10_runs_253 : decode cX10_runs 253 = .ok (.sipush 170, 3) := by decide +kernel
theorem dX10_runs_256 : decode cX10_runs 256 = .ok (.iadd, 1) := by decide +kernel
theorem dX10_runs_257 : decode cX10_runs 257 = .ok (.iaload, 1) := by decide +kernel
theorem dX10_runs_258 : decode cX10_runs 258 = .ok (.iconst 0, 1) := by decide +kernel
theorem dX10_runs_259 : decode cX10_runs 259 = .ok (.invokevirtual 118, 3) := by decide +kernel
theorem dX10_runs_262 : decode cX10_runs 262 = .ok (.goto 160, 3) := by decide +kernel
theorem dX10_runs_265 : decode cX10_runs 265 = .ok (.aload_n 0, 1) := by decide +kernel
theorem dX10_runs_266 : decode cX10_runs 266 = .ok (.iload_n 1, 1) := by decide +kernel
theorem dX10_runs_267 : decode cX10_runs 267 = .ok (.iconst 1, 1) := by decide +kernel
theorem dX10_runs_268 : decode cX10_runs 268 = .ok (.aload_n 0, 1) := by decide +kernel
theorem dX10_runs_269 : decode cX10_runs 269 = .ok (.iload_n 1, 1) := by decide +kernel
theorem dX10_runs_270 : decode cX10_runs 270 = .ok (.iload_n 3, 1) := by decide +kernel
theorem dX10_runs_271 : decode cX10_runs 271 = .ok (.invokevirtual 125, 3) := by decide +kernel
theorem dX10_runs_274 : decode cX10_runs 274 = .ok (.iconst 1, 1) := by decide +kernel
theorem dX10_runs_275 : decode cX10_runs 275 = .ok (.aload_n 0, 1) := by decide +kernel
theorem dX10_runs_276 : decode cX10_runs 276 = .ok (.iload_n 1, 1) := by decide +kernel
theorem dX10_runs_277 : decode cX10_runs 277 = .ok (.iload 6, 2) := by decide +kernel
theorem dX10_runs_279 : decode cX10_runs 279 = .ok (.invokevirtual 92, 3) := by decide +kernel
theorem dX10_runs_282 : decode cX10_runs 282 = .ok (.invokevirtual 118, 3) := by decide +kernel
theorem dX10_runs_285 : decode cX10_runs 285 = .ok (.goto 137, 3) := by decide +kernel
theorem dX10_runs_288 : decode cX10_runs 288 = .ok (.aload_n 0, 1) := by decide +kernel
theorem dX10_runs_289 : decode cX10_runs 289 = .ok (.iload_n 1, 1) := by decide +kernel
theorem dX10_runs_290 : decode cX10_runs 290 = .ok (.iconst 1, 1) := by decide +kernel
theorem dX10_runs_291 : decode cX10_runs 291 = .ok (.aload_n 0, 1) := by decide +kernel
theorem dX10_runs_292 : decode cX10_runs 292 = .ok (.iload_n 1, 1) := by decide +kernel
theorem dX10_runs_293 : decode cX10_runs 293 = .ok (.iload_n 3, 1) := by decide +kernel
theorem dX10_runs_294 : decode cX10_runs 294 = .ok (.invokevirtual 125, 3) := by decide +kernel
theorem dX10_runs_297 : decode cX10_runs 297 = .ok (.iconst 0, 1) := by decide +kernel
theorem dX10_runs_298 : decode cX10_runs 298 = .ok (.iconst 0, 1) := by decide +kernel
theorem dX10_runs_299 : decode cX10_runs 299 = .ok (.invokevirtual 118, 3) := by decide +kernel
theorem dX10_runs_302 : decode cX10_runs 302 = .ok (.goto 120, 3) := by decide +kernel
theorem dX10_runs_305 : decode cX10_runs 305 = .ok (.aload_n 0, 1) := by decide +kernel
theorem dX10_runs_306 : decode cX10_runs 306 = .ok (.iload_n 1, 1) := by decide +kernel
theorem dX10_runs_307 : decode cX10_runs 307 = .ok (.iload_n 3, 1) := by decide +kernel
theorem dX10_runs_308 : decode cX10_runs 308 = .ok (.iconst 4, 1) := by decide +kernel
theorem dX10_runs_309 : decode cX10_runs 309 = .ok (.invokevirtual 54, 3) := by decide +kernel
theorem dX10_runs_312 : decode cX10_runs 312 = .ok (.istore 7, 2) := by decide +kernel
theorem dX10_runs_314 : decode cX10_runs 314 = .ok (.goto 108, 3) := by decide +kernel
theorem dX10_runs_317 : decode cX10_runs 317 = .ok (.aload_n 0, 1) := by decide +kernel
theorem dX10_runs_318 : decode cX10_runs 318 = .ok (.iload_n 1, 1) := by decide +kernel
theorem dX10_runs_319 : decode cX10_runs 319 = .ok (.iload_n 3, 1) := by decide +kernel
theorem dX10_runs_320 : decode cX10_runs 320 = .ok (.iconst 3, 1) := by decide +kernel
theorem dX10_runs_321 : decode cX10_runs 321 = .ok (.invokevirtual 54, 3) := by decide +kernel
theorem dX10_runs_324 : decode cX10_runs 324 = .ok (.aload_n 0, 1) := by decide +kernel
theorem dX10_runs_325 : decode cX10_runs 325 = .ok (.iload_n 1, 1) := by decide +kernel
theorem dX10_runs_326 : decode cX10_runs 326 = .ok (.iload 6, 2) := by decide +kernel
theorem dX10_runs_328 : decode cX10_runs 328 = .ok (.invokevirtual 92, 3) := by decide +kernel
theorem dX10_runs_331 : decode cX10_runs 331 = .ok (.aload_n 0, 1) := by decide +kernel
theorem dX10_runs_332 : decode cX10_runs 332 = .ok (.iload_n 1, 1) := by decide +kernel
theorem dX10_runs_333 : decode cX10_runs 333 = .ok (.aload_n 0, 1) := by decide +kernel
theorem dX10_runs_334 : decode cX10_runs 334 = .ok (.iload_n 1, 1) := by decide +kernel
theorem dX10_runs_335 : decode cX10_runs 335 = .ok (.iload_n 3, 1) := by decide +kernel
theorem dX10_runs_336 : decode cX10_runs 336 = .ok (.iconst 2, 1) := by decide +kernel
theorem dX10_runs_337 : decode cX10_runs 337 = .ok (.invokevirtual 54, 3) := by decide +kernel
theorem dX10_runs_340 : decode cX10_runs 340 = .ok (.invokevirtual 92, 3) := by decide +kernel
theorem dX10_runs_343 : decode cX10_runs 343 = .ok (.invokestatic 128, 3) := by decide +kernel
theorem dX10_runs_346 : decode cX10_runs 346 = .ok (.istore 8, 2) := by decide +kernel
theorem dX10_runs_348 : decode cX10_runs 348 = .ok (.aload_n 0, 1) := by decide +kernel
theorem dX10_runs_349 : decode cX10_runs 349 = .ok (.iload_n 1, 1) := by decide +kernel
theorem dX10_runs_350 : decode cX10_runs 350 = .ok (.iconst 4, 1) := by decide +kernel
theorem dX10_runs_351 : decode cX10_runs 351 = .ok (.iload 8, 2) := by decide +kernel
theorem dX10_runs_353 : decode cX10_runs 353 = .ok (.ifCond .eq 7, 3) := by decide +kernel
theorem dX10_runs_356 : decode cX10_runs 356 = .ok (.iconst 1, 1) := by decide +kernel
theorem dX10_runs_357 : decode cX10_runs 357 = .ok (.goto 4, 3) := by decide +kernel
theorem dX10_runs_360 : decode cX10_runs 360 = .ok (.iconst 0, 1) := by decide +kernel
theorem dX10_runs_361 : decode cX10_runs 361 = .ok (.iconst 0, 1) := by decide +kernel
theorem dX10_runs_362 : decode cX10_runs 362 = .ok (.iconst 0, 1) := by decide +kernel
theorem dX10_runs_363 : decode cX10_runs 363 = .ok (.invokevirtual 118, 3) := by decide +kernel
theorem dX10_runs_366 : decode cX10_runs 366 = .ok (.iload 8, 2) := by decide +kernel
theorem dX10_runs_368 : decode cX10_runs 368 = .ok (.ifCond .eq 13, 3) := by decide +kernel
theorem dX10_runs_371 : decode cX10_runs 371 = .ok (.aload_n 0, 1) := by decide +kernel
theorem dX10_runs_372 : decode cX10_runs 372 = .ok (.iload_n 1, 1) := by decide +kernel
theorem dX10_runs_373 : decode cX10_runs 373 = .ok (.iload_n 3, 1) := by decide +kernel
theorem dX10_runs_374 : decode cX10_runs 374 = .ok (.iconst 4, 1) := by decide +kernel
theorem dX10_runs_375 : decode cX10_runs 375 = .ok (.invokevirtual 54, 3) := by decide +kernel
theorem dX10_runs_378 : decode cX10_runs 378 = .ok (.goto 5, 3) := by decide +kernel
theorem dX10_runs_381 : decode cX10_runs 381 = .ok (.iload 7, 2) := by decide +kernel
theorem dX10_runs_383 : decode cX10_runs 383 = .ok (.istore 7, 2) := by decide +kernel
theorem dX10_runs_385 : decode cX10_runs 385 = .ok (.goto 37, 3) := by decide +kernel
theorem dX10_runs_388 : decode cX10_runs 388 = .ok (.aload_n 0, 1) := by decide +kernel
theorem dX10_runs_389 : decode cX10_runs 389 = .ok (.iload_n 1, 1) := by decide +kernel
theorem dX10_runs_390 : decode cX10_runs 390 = .ok (.iconst 5, 1) := by decide +kernel
theorem dX10_runs_391 : decode cX10_runs 391 = .ok (.invokevirtual 101, 3) := by decide +kernel
theorem dX10_runs_394 : decode cX10_runs 394 = .ok (.iconst 1, 1) := by decide +kernel
theorem dX10_runs_395 : decode cX10_runs 395 = .ok (.if_icmp .ne 13, 3) := by decide +kernel
theorem dX10_runs_398 : decode cX10_runs 398 = .ok (.aload_n 0, 1) := by decide +kernel
theorem dX10_runs_399 : decode cX10_runs 399 = .ok (.iload_n 1, 1) := by decide +kernel
theorem dX10_runs_400 : decode cX10_runs 400 = .ok (.iload_n 3, 1) := by decide +kernel
theorem dX10_runs_401 : decode cX10_runs 401 = .ok (.iconst 4, 1) := by decide +kernel
theorem dX10_runs_402 : decode cX10_runs 402 = .ok (.invokevirtual 54, 3) := by decide +kernel
theorem dX10_runs_405 : decode cX10_runs 405 = .ok (.goto 5, 3) := by decide +kernel
theorem dX10_runs_408 : decode cX10_runs 408 = .ok (.iload 7, 2) := by decide +kernel
theorem dX10_runs_410 : decode cX10_runs 410 = .ok (.istore 7, 2) := by decide +kernel
theorem dX10_runs_412 : decode cX10_runs 412 = .ok (.goto 10, 3) := by decide +kernel
theorem dX10_runs_415 : decode cX10_runs 415 = .ok (.aload_n 0, 1) := by decide +kernel
theorem dX10_runs_416 : decode cX10_runs 416 = .ok (.iload_n 1, 1) := by decide +kernel
theorem dX10_runs_417 : decode cX10_runs 417 = .ok (.iconst 0, 1) := by decide +kernel
theorem dX10_runs_418 : decode cX10_runs 418 = .ok (.invokevirtual 132, 3) := by decide +kernel
theorem dX10_runs_421 : decode cX10_runs 421 = .ok (.return_, 1) := by decide +kernel
theorem dX10_runs_422 : decode cX10_runs 422 = .ok (.aload_n 0, 1) := by decide +kernel
theorem dX10_runs_423 : decode cX10_runs 423 = .ok (.iload_n 1, 1) := by decide +kernel
theorem dX10_runs_424 : decode cX10_runs 424 = .ok (.iconst 0, 1) := by decide +kernel
theorem dX10_runs_425 : decode cX10_runs 425 = .ok (.iload 7, 2) := by decide +kernel
theorem dX10_runs_427 : decode cX10_runs 427 = .ok (.invokevirtual 104, 3) := by decide +kernel
theorem dX10_runs_430 : decode cX10_runs 430 = .ok (.return_, 1) := by decide +kernel
theorem dX10_reckoned_0 : decode cX10_reckoned 0 = .ok (.aload_n 0, 1) := by decide +kernel
theorem dX10_reckoned_1 : decode cX10_reckoned 1 = .ok (.iload_n 1, 1) := by decide +kernel
theorem dX10_reckoned_2 : decode cX10_reckoned 2 = .ok (.iload_n 2, 1) := by decide +kernel
theorem dX10_reckoned_3 : decode cX10_reckoned 3 = .ok (.invokevirtual 58, 3) := by decide +kernel
theorem dX10_reckoned_6 : decode cX10_reckoned 6 = .ok (.ifCond .ne 13, 3) := by decide +kernel
theorem dX10_reckoned_9 : decode cX10_reckoned 9 = .ok (.aload_n 0, 1) := by decide +kernel
theorem dX10_reckoned_10 : decode cX10_reckoned 10 = .ok (.iload_n 1, 1) := by decide +kernel
theorem dX10_reckoned_11 : decode cX10_reckoned 11 = .ok (.iload_n 2, 1) := by decide +kernel
theorem dX10_reckoned_12 : decode cX10_reckoned 12 = .ok (.iconst 4, 1) := by decide +kernel
theorem dX10_reckoned_13 : decode cX10_reckoned 13 = .ok (.invokevirtual 54, 3) := by decide +kernel
theorem dX10_reckoned_16 : decode cX10_reckoned 16 = .ok (.goto 37, 3) := by decide +kernel
theorem dX10_reckoned_19 : decode cX10_reckoned 19 = .ok (.aload_n 0, 1) := by decide +kernel
theorem dX10_reckoned_20 : decode cX10_reckoned 20 = .ok (.aload_n 0, 1) := by decide +kernel
theorem dX10_reckoned_21 : decode cX10_reckoned 21 = .ok (.iload_n 1, 1) := by decide +kernel
theorem dX10_reckoned_22 : decode cX10_reckoned 22 = .ok (.iload_n 2, 1) := by decide +kernel
theorem dX10_reckoned_23 : decode cX10_reckoned 23 = .ok (.invokevirtual 58, 3) := by decide +kernel
theorem dX10_reckoned_26 : decode cX10_reckoned 26 = .ok (.aload_n 0, 1) := by decide +kernel
theorem dX10_reckoned_27 : decode cX10_reckoned 27 = .ok (.iload_n 1, 1) := by decide +kernel
theorem dX10_reckoned_28 : decode cX10_reckoned 28 = .ok (.aload_n 0, 1) := by decide +kernel
theorem dX10_reckoned_29 : decode cX10_reckoned 29 = .ok (.iload_n 1, 1) := by decide +kernel
theorem dX10_reckoned_30 : decode cX10_reckoned 30 = .ok (.iload_n 2, 1) := by decide +kernel
theorem dX10_reckoned_31 : decode cX10_reckoned 31 = .ok (.iconst 2, 1) := by decide +kernel
theorem dX10_reckoned_32 : decode cX10_reckoned 32 = .ok (.invokevirtual 54, 3) := by decide +kernel
theorem dX10_reckoned_35 : decode cX10_reckoned 35 = .ok (.invokevirtual 92, 3) := by decide +kernel
theorem dX10_reckoned_38 : decode cX10_reckoned 38 = .ok (.aload_n 0, 1) := by decide +kernel
theorem dX10_reckoned_39 : decode cX10_reckoned 39 = .ok (.iload_n 1, 1) := by decide +kernel
theorem dX10_reckoned_40 : decode cX10_reckoned 40 = .ok (.aload_n 0, 1) := by decide +kernel
theorem dX10_reckoned_41 : decode cX10_reckoned 41 = .ok (.iload_n 1, 1) := by decide +kernel
theorem dX10_reckoned_42 : decode cX10_reckoned 42 = .ok (.iload_n 2, 1) := by decide +kernel
theorem dX10_reckoned_43 : decode cX10_reckoned 43 = .ok (.iconst 3, 1) := by decide +kernel
theorem dX10_reckoned_44 : decode cX10_reckoned 44 = .ok (.invokevirtual 54, 3) := by decide +kernel
theorem dX10_reckoned_47 : decode cX10_reckoned 47 = .ok (.invokevirtual 92, 3) := by decide +kernel
theorem dX10_reckoned_50 : decode cX10_reckoned 50 = .ok (.invokevirtual 135, 3) := by decide +kernel
theorem dX10_reckoned_53 : decode cX10_reckoned 53 = .ok (.ireturn, 1) := by decide +kernel
theorem dX10_reason_0 : decode cX10_reason 0 = .ok (.iload_n 3, 1) := by decide +kernel
theorem dX10_reason_1 : decode cX10_reason 1 = .ok (.iconst 1, 1) := by decide +kernel
theorem dX10_reason_2 : decode cX10_reason 2 = .ok (.if_icmp .ne 18, 3) := by decide +kernel
theorem dX10_reason_5 : decode cX10_reason 5 = .ok (.aload_n 0, 1) := by decide +kernel
theorem dX10_reason_6 : decode cX10_reason 6 = .ok (.iload_n 1, 1) := by decide +kernel
theorem dX10_reason_7 : decode cX10_reason 7 = .ok (.iconst 3, 1) := by decide +kernel
theorem dX10_reason_8 : decode cX10_reason 8 = .ok (.invokevirtual 138, 3) := by decide +kernel
theorem dX10_reason_11 : decode cX10_reason 11 = .ok (.ifCond .eq 7, 3) := by decide +kernel
theorem dX10_reason_14 : decode cX10_reason 14 = .ok (.iconst 3, 1) := by decide +kernel
theorem dX10_reason_15 : decode cX10_reason 15 = .ok (.goto 4, 3) := by decide +kernel
theorem dX10_reason_18 : decode cX10_reason 18 = .ok (.iconst 0, 1) := by decide +kernel
theorem dX10_reason_19 : decode cX10_reason 19 = .ok (.ireturn, 1) := by decide +kernel
theorem dX10_reason_20 : decode cX10_reason 20 = .ok (.iload_n 3, 1) := by decide +kernel
theorem dX10_reason_21 : decode cX10_reason 21 = .ok (.bipush 7, 2) := by decide +kernel
theorem dX10_reason_23 : decode cX10_reason 23 = .ok (.if_icmp .eq 9, 3) := by decide +kernel
theorem dX10_reason_26 : decode cX10_reason 26 = .ok (.iload_n 3, 1) := by decide +kernel
theorem dX10_reason_27 : decode cX10_reason 27 = .ok (.bipush 6, 2) := by decide +kernel
theorem dX10_reason_29 : decode cX10_reason 29 = .ok (.if_icmp .ne 18, 3) := by decide +kernel
theorem dX10_reason_32 : decode cX10_reason 32 = .ok (.aload_n 0, 1) := by decide +kernel
theorem dX10_reason_33 : decode cX10_reason 33 = .ok (.iload_n 1, 1) := by decide +kernel
theorem dX10_reason_34 : decode cX10_reason 34 = .ok (.iconst 1, 1) := by decide +kernel
theorem dX10_reason_35 : decode cX10_reason 35 = .ok (.invokevirtual 138, 3) := by decide +kernel
theorem dX10_reason_38 : decode cX10_reason 38 = .ok (.ifCond .eq 7, 3) := by decide +kernel
theorem dX10_reason_41 : decode cX10_reason 41 = .ok (.iconst 2, 1) := by decide +kernel
theorem dX10_reason_42 : decode cX10_reason 42 = .ok (.goto 4, 3) := by decide +kernel
theorem dX10_reason_45 : decode cX10_reason 45 = .ok (.iconst 0, 1) := by decide +kernel
theorem dX10_reason_46 : decode cX10_reason 46 = .ok (.ireturn, 1) := by decide +kernel
theorem dX10_reason_47 : decode cX10_reason 47 = .ok (.iload_n 3, 1) := by decide +kernel
theorem dX10_reason_48 : decode cX10_reason 48 = .ok (.bipush 10, 2) := by decide +kernel
theorem dX10_reason_50 : decode cX10_reason 50 = .ok (.if_icmp .ne 18, 3) := by decide +kernel
theorem dX10_reason_53 : decode cX10_reason 53 = .ok (.aload_n 0, 1) := by decide +kernel
theorem dX10_reason_54 : decode cX10_reason 54 = .ok (.iload_n 1, 1) := by decide +kernel
theorem dX10_reason_55 : decode cX10_reason 55 = .ok (.iconst 4, 1) := by decide +kernel
theorem dX10_reason_56 : decode cX10_reason 56 = .ok (.invokevirtual 138, 3) := by decide +kernel
theorem dX10_reason_59 : decode cX10_reason 59 = .ok (.ifCond .eq 7, 3) := by decide +kernel
theorem dX10_reason_62 : decode cX10_reason 62 = .ok (.iconst 4, 1) := by decide +kernel
theorem dX10_reason_63 : decode cX10_reason 63 = .ok (.goto 4, 3) := by decide +kernel
theorem dX10_reason_66 : decode cX10_reason 66 = .ok (.iconst 0, 1) := by decide +kernel
theorem dX10_reason_67 : decode cX10_reason 67 = .ok (.ireturn, 1) := by decide +kernel
theorem dX10_reason_68 : decode cX10_reason 68 = .ok (.iload_n 3, 1) := by decide +kernel
theorem dX10_reason_69 : decode cX10_reason 69 = .ok (.bipush 12, 2) := by decide +kernel
theorem dX10_reason_71 : decode cX10_reason 71 = .ok (.if_icmp .ne 18, 3) := by decide +kernel
theorem dX10_reason_74 : decode cX10_reason 74 = .ok (.aload_n 0, 1) := by decide +kernel
theorem dX10_reason_75 : decode cX10_reason 75 = .ok (.iload_n 1, 1) := by decide +kernel
theorem dX10_reason_76 : decode cX10_reason 76 = .ok (.iconst 5, 1) := by decide +kernel
theorem dX10_reason_77 : decode cX10_reason 77 = .ok (.invokevirtual 86, 3) := by decide +kernel
theorem dX10_reason_80 : decode cX10_reason 80 = .ok (.ifCond .ne 7, 3) := by decide +kernel
theorem dX10_reason_83 : decode cX10_reason 83 = .ok (.iconst 5, 1) := by decide +kernel
theorem dX10_reason_84 : decode cX10_reason 84 = .ok (.goto 4, 3) := by decide +kernel
theorem dX10_reason_87 : decode cX10_reason 87 = .ok (.iconst 0, 1) := by decide +kernel
theorem dX10_reason_88 : decode cX10_reason 88 = .ok (.ireturn, 1) := by decide +kernel
theorem dX10_reason_89 : decode cX10_reason 89 = .ok (.iload_n 3, 1) := by decide +kernel
theorem dX10_reason_90 : decode cX10_reason 90 = .ok (.iconst 4, 1) := by decide +kernel
theorem dX10_reason_91 : decode cX10_reason 91 = .ok (.if_icmp .ne 37, 3) := by decide +kernel
theorem dX10_reason_94 : decode cX10_reason 94 = .ok (.aload_n 0, 1) := by decide +kernel
theorem dX10_reason_95 : decode cX10_reason 95 = .ok (.iload_n 1, 1) := by decide +kernel
theorem dX10_reason_96 : decode cX10_reason 96 = .ok (.aload_n 0, 1) := by decide +kernel
theorem dX10_reason_97 : decode cX10_reason 97 = .ok (.iload_n 1, 1) := by decide +kernel
theorem dX10_reason_98 : decode cX10_reason 98 = .ok (.iload_n 2, 1) := by decide +kernel
theorem dX10_reason_99 : decode cX10_reason 99 = .ok (.invokevirtual 125, 3) := by decide +kernel
theorem dX10_reason_102 : decode cX10_reason 102 = .ok (.invokevirtual 141, 3) := by decide +kernel
theorem dX10_reason_105 : decode cX10_reason 105 = .ok (.ifCond .eq 8, 3) := by decide +kernel
theorem dX10_reason_108 : decode cX10_reason 108 = .ok (.bipush 6, 2) := by decide +kernel
theorem dX10_reason_110 : decode cX10_reason 110 = .ok (.goto 17, 3) := by decide +kernel
theorem dX10_reason_113 : decode cX10_reason 113 = .ok (.aload_n 0, 1) := by decide +kernel
theorem dX10_reason_114 : decode cX10_reason 114 = .ok (.iload_n 1, 1) := by decide +kernel
theorem dX10_reason_115 : decode cX10_reason 115 = .ok (.iconst 0, 1) := by decide +kernel
theorem dX10_reason_116 : decode cX10_reason 116 = .ok (.invokevirtual 138, 3) := by decide +kernel
theorem dX10_reason_119 : decode cX10_reason 119 = .ok (.ifCond .eq 7, 3) := by decide +kernel
theorem dX10_reason_122 : decode cX10_reason 122 = .ok (.iconst 1, 1) := by decide +kernel
theorem dX10_reason_123 : decode cX10_reason 123 = .ok (.goto 4, 3) := by decide +kernel
theorem dX10_reason_126 : decode cX10_reason 126 = .ok (.iconst 0, 1) := by decide +kernel
theorem dX10_reason_127 : decode cX10_reason 127 = .ok (.ireturn, 1) := by decide +kernel
theorem dX10_reason_128 : decode cX10_reason 128 = .ok (.iload_n 3, 1) := by decide +kernel
theorem dX10_reason_129 : decode cX10_reason 129 = .ok (.iconst 3, 1) := by decide +kernel
theorem dX10_reason_130 : decode cX10_reason 130 = .ok (.if_icmp .eq 5, 3) := by decide +kernel
theorem dX10_reason_133 : decode cX10_reason 133 = .ok (.iconst 0, 1) := by decide +kernel
theorem dX10_reason_134 : decode cX10_reason 134 = .ok (.ireturn, 1) := by decide +kernel
theorem dX10_reason_135 : decode cX10_reason 135 = .ok (.aload_n 0, 1) := by decide +kernel
theorem dX10_reason_136 : decode cX10_reason 136 = .ok (.getfield 7, 3) := by decide +kernel
theorem dX10_reason_139 : decode cX10_reason 139 = .ok (.iload_n 1, 1) := by decide +kernel
theorem dX10_reason_140 : decode cX10_reason 140 = .ok (.sipush 250, 3) := by decide +kernel
theorem dX10_reason_143 : decode cX10_reason 143 = .ok (.iadd, 1) := by decide +kernel
theorem dX10_reason_144 : decode cX10_reason 144 = .ok (.iaload, 1) := by decide +kernel
theorem dX10_reason_145 : decode cX10_reason 145 = .ok (.iconst (-1), 1) := by decide +kernel
theorem dX10_reason_146 : decode cX10_reason 146 = .ok (.if_icmp .ne 67, 3) := by decide +kernel
theorem dX10_reason_149 : decode cX10_reason 149 = .ok (.aload_n 0, 1) := by decide +kernel
theorem dX10_reason_150 : decode cX10_reason 150 = .ok (.iload_n 1, 1) := by decide +kernel
theorem dX10_reason_151 : decode cX10_reason 151 = .ok (.aload_n 0, 1) := by decide +kernel
theorem dX10_reason_152 : decode cX10_reason 152 = .ok (.iload_n 1, 1) := by decide +kernel
theorem dX10_reason_153 : decode cX10_reason 153 = .ok (.iload_n 2, 1) := by decide +kernel
theorem dX10_reason_154 : decode cX10_reason 154 = .ok (.invokevirtual 125, 3) := by decide +kernel
theorem dX10_reason_157 : decode cX10_reason 157 = .ok (.invokevirtual 141, 3) := by decide +kernel
theorem dX10_reason_160 : decode cX10_reason 160 = .ok (.ifCond .eq 6, 3) := by decide +kernel
theorem dX10_reason_163 : decode cX10_reason 163 = .ok (.bipush 6, 2) := by decide +kernel
theorem dX10_reason_165 : decode cX10_reason 165 = .ok (.ireturn, 1) := by decide +kernel
theorem dX10_reason_166 : decode cX10_reason 166 = .ok (.aload_n 0, 1) := by decide +kernel
theorem dX10_reason_167 : decode cX10_reason 167 = .ok (.getfield 7, 3) := by decide +kernel
theorem dX10_reason_170 : decode cX10_reason 170 = .ok (.iload_n 1, 1) := by decide +kernel
theorem dX10_reason_171 : decode cX10_reason 171 = .ok (.sipush 250, 3) := by decide +kernel
theorem dX10_reason_174 : decode cX10_reason 174 = .ok (.iadd, 1) := by decide +kernel
theorem dX10_reason_175 : decode cX10_reason 175 = .ok (.aload_n 0, 1) := by decide +kernel
theorem dX10_reason_176 : decode cX10_reason 176 = .ok (.getfield 7, 3) := by decide +kernel
theorem dX10_reason_179 : decode cX10_reason 179 = .ok (.iload_n 1, 1) := by decide +kernel
theorem dX10_reason_180 : decode cX10_reason 180 = .ok (.sipush 170, 3) := by decide +kernel
theorem dX10_reason_183 : decode cX10_reason 183 = .ok (.iadd, 1) := by decide +kernel
theorem dX10_reason_184 : decode cX10_reason 184 = .ok (.iaload, 1) := by decide +kernel
theorem dX10_reason_185 : decode cX10_reason 185 = .ok (.iastore, 1) := by decide +kernel
theorem dX10_reason_186 : decode cX10_reason 186 = .ok (.aload_n 0, 1) := by decide +kernel
theorem dX10_reason_187 : decode cX10_reason 187 = .ok (.getfield 7, 3) := by decide +kernel
theorem dX10_reason_190 : decode cX10_reason 190 = .ok (.iload_n 1, 1) := by decide +kernel
theorem dX10_reason_191 : decode cX10_reason 191 = .ok (.sipush 251, 3) := by decide +kernel
theorem dX10_reason_194 : decode cX10_reason 194 = .ok (.iadd, 1) := by decide +kernel
theorem dX10_reason_195 : decode cX10_reason 195 = .ok (.aload_n 0, 1) := by decide +kernel
theorem dX10_reason_196 : decode cX10_reason 196 = .ok (.getfield 7, 3) := by decide +kernel
theorem dX10_reason_199 : decode cX10_reason 199 = .ok (.iload_n 1, 1) := by decide +kernel
theorem dX10_reason_200 : decode cX10_reason 200 = .ok (.sipush 178, 3) := by decide +kernel
theorem dX10_reason_203 : decode cX10_reason 203 = .ok (.iadd, 1) := by decide +kernel
theorem dX10_reason_204 : decode cX10_reason 204 = .ok (.aload_n 0, 1) := by decide +kernel
theorem dX10_reason_205 : decode cX10_reason 205 = .ok (.iload_n 1, 1) := by decide +kernel
theorem dX10_reason_206 : decode cX10_reason 206 = .ok (.iload_n 2, 1) := by decide +kernel
theorem dX10_reason_207 : decode cX10_reason 207 = .ok (.invokevirtual 125, 3) := by decide +kernel
theorem dX10_reason_210 : decode cX10_reason 210 = .ok (.iadd, 1) := by decide +kernel
theorem dX10_reason_211 : decode cX10_reason 211 = .ok (.iaload, 1) := by decide +kernel
theorem dX10_reason_212 : decode cX10_reason 212 = .ok (.iastore, 1) := by decide +kernel
theorem dX10_reason_213 : decode cX10_reason 213 = .ok (.aload_n 0, 1) := by decide +kernel
theorem dX10_reason_214 : decode cX10_reason 214 = .ok (.getfield 7, 3) := by decide +kernel
theorem dX10_reason_217 : decode cX10_reason 217 = .ok (.iload_n 1, 1) := by decide +kernel
theorem dX10_reason_218 : decode cX10_reason 218 = .ok (.sipush 170, 3) := by decide +kernel
theorem dX10_reason_221 : decode cX10_reason 221 = .ok (.iadd, 1) := by decide +kernel
theorem dX10_reason_222 : decode cX10_reason 222 = .ok (.iaload, 1) := by decide +kernel
theorem dX10_reason_223 : decode cX10_reason 223 = .ok (.aload_n 0, 1) := by decide +kernel
theorem dX10_reason_224 : decode cX10_reason 224 = .ok (.getfield 7, 3) := by decide +kernel
theorem dX10_reason_227 : decode cX10_reason 227 = .ok (.iload_n 1, 1) := by decide +kernel
theorem dX10_reason_228 : decode cX10_reason 228 = .ok (.sipush 250, 3) := by decide +kernel
theorem dX10_reason_231 : decode cX10_reason 231 = .ok (.iadd, 1) := by decide +kernel
theorem dX10_reason_232 : decode cX10_reason 232 = .ok (.iaload, 1) := by decide +kernel
theorem dX10_reason_233 : decode cX10_reason 233 = .ok (.isub, 1) := by decide +kernel
theorem dX10_reason_234 : decode cX10_reason 234 = .ok (.aload_n 0, 1) := by decide +kernel
theorem dX10_reason_235 : decode cX10_reason 235 = .ok (.getfield 7, 3) := by decide +kernel
theorem dX10_reason_238 : decode cX10_reason 238 = .ok (.iload_n 1, 1) := by decide +kernel
theorem dX10_reason_239 : decode cX10_reason 239 = .ok (.iconst 0, 1) := by decide +kernel
theorem dX10_reason_240 : decode cX10_reason 240 = .ok (.iadd, 1) := by decide +kernel
theorem dX10_reason_241 : decode cX10_reason 241 = .ok (.iaload, 1) := by decide +kernel
theorem dX10_reason_242 : decode cX10_reason 242 = .ok (.if_icmp .ge 8, 3) := by decide +kernel
theorem dX10_reason_245 : decode cX10_reason 245 = .ok (.bipush 7, 2) := by decide +kernel
theorem dX10_reason_247 : decode cX10_reason 247 = .ok (.goto 4, 3) := by decide +kernel
theorem dX10_reason_250 : decode cX10_reason 250 = .ok (.iconst 0, 1) := by decide +kernel
theorem dX10_reason_251 : decode cX10_reason 251 = .ok (.ireturn, 1) := by decide +kernel
theorem dX10_works_0 : decode cX10_works 0 = .ok (.aload_n 0, 1) := by decide +kernel
theorem dX10_works_1 : decode cX10_works 1 = .ok (.iload_n 1, 1) := by decide +kernel
theorem dX10_works_2 : decode cX10_works 2 = .ok (.iload_n 2, 1) := by decide +kernel
theorem dX10_works_3 : decode cX10_works 3 = .ok (.invokevirtual 70, 3) := by decide +kernel
theorem dX10_works_6 : decode cX10_works 6 = .ok (.ifCond .eq 12, 3) := by decide +kernel
theorem dX10_works_9 : decode cX10_works 9 = .ok (.aload_n 0, 1) := by decide +kernel
theorem dX10_works_10 : decode cX10_works 10 = .ok (.iload_n 1, 1) := by decide +kernel
theorem dX10_works_11 : decode cX10_works 11 = .ok (.iconst 3, 1) := by decide +kernel
theorem dX10_works_12 : decode cX10_works 12 = .ok (.invokevirtual 101, 3) := by decide +kernel
theorem dX10_works_15 : decode cX10_works 15 = .ok (.goto 9, 3) := by decide +kernel
theorem dX10_works_18 : decode cX10_works 18 = .ok (.aload_n 0, 1) := by decide +kernel
theorem dX10_works_19 : decode cX10_works 19 = .ok (.iload_n 1, 1) := by decide +kernel
theorem dX10_works_20 : decode cX10_works 20 = .ok (.iload_n 2, 1) := by decide +kernel
theorem dX10_works_21 : decode cX10_works 21 = .ok (.invokevirtual 92, 3) := by decide +kernel
theorem dX10_works_24 : decode cX10_works 24 = .ok (.ireturn, 1) := by decide +kernel
theorem dX10_toils_0 : decode cX10_toils 0 = .ok (.iload_n 1, 1) := by decide +kernel
theorem dX10_toils_1 : decode cX10_toils 1 = .ok (.iconst 1, 1) := by decide +kernel
theorem dX10_toils_2 : decode cX10_toils 2 = .ok (.invokestatic 98, 3) := by decide +kernel
theorem dX10_toils_5 : decode cX10_toils 5 = .ok (.istore_n 2, 1) := by decide +kernel
theorem dX10_toils_6 : decode cX10_toils 6 = .ok (.aload_n 0, 1) := by decide +kernel
theorem dX10_toils_7 : decode cX10_toils 7 = .ok (.iload_n 1, 1) := by decide +kernel
theorem dX10_toils_8 : decode cX10_toils 8 = .ok (.iconst 1, 1) := by decide +kernel
theorem dX10_toils_9 : decode cX10_toils 9 = .ok (.invokevirtual 108, 3) := by decide +kernel
theorem dX10_toils_12 : decode cX10_toils 12 = .ok (.aload_n 0, 1) := by decide +kernel
theorem dX10_toils_13 : decode cX10_toils 13 = .ok (.getfield 7, 3) := by decide +kernel
theorem dX10_toils_16 : decode cX10_toils 16 = .ok (.iload_n 2, 1) := by decide +kernel
theorem dX10_toils_17 : decode cX10_toils 17 = .ok (.iconst 0, 1) := by decide +kernel
theorem dX10_toils_18 : decode cX10_toils 18 = .ok (.iadd, 1) := by decide +kernel
theorem dX10_toils_19 : decode cX10_toils 19 = .ok (.iaload, 1) := by decide +kernel
theorem dX10_toils_20 : decode cX10_toils 20 = .ok (.istore_n 3, 1) := by decide +kernel
theorem dX10_toils_21 : decode cX10_toils 21 = .ok (.aload_n 0, 1) := by decide +kernel
theorem dX10_toils_22 : decode cX10_toils 22 = .ok (.iload_n 1, 1) := by decide +kernel
theorem dX10_toils_23 : decode cX10_toils 23 = .ok (.iconst 1, 1) := by decide +kernel
theorem dX10_toils_24 : decode cX10_toils 24 = .ok (.iload_n 3, 1) := by decide +kernel
theorem dX10_toils_25 : decode cX10_toils 25 = .ok (.aload_n 0, 1) := by decide +kernel
theorem dX10_toils_26 : decode cX10_toils 26 = .ok (.getfield 7, 3) := by decide +kernel
theorem dX10_toils_29 : decode cX10_toils 29 = .ok (.iload_n 2, 1) := by decide +kernel
theorem dX10_toils_30 : decode cX10_toils 30 = .ok (.iconst 1, 1) := by decide +kernel
theorem dX10_toils_31 : decode cX10_toils 31 = .ok (.iadd, 1) := by decide +kernel
theorem dX10_toils_32 : decode cX10_toils 32 = .ok (.iaload, 1) := by decide +kernel
theorem dX10_toils_33 : decode cX10_toils 33 = .ok (.invokevirtual 80, 3) := by decide +kernel
theorem dX10_toils_36 : decode cX10_toils 36 = .ok (.istore 4, 2) := by decide +kernel
theorem dX10_toils_38 : decode cX10_toils 38 = .ok (.aload_n 0, 1) := by decide +kernel
theorem dX10_toils_39 : decode cX10_toils 39 = .ok (.iload_n 1, 1) := by decide +kernel
theorem dX10_toils_40 : decode cX10_toils 40 = .ok (.iload_n 3, 1) := by decide +kernel
theorem dX10_toils_41 : decode cX10_toils 41 = .ok (.iload 4, 2) := by decide +kernel
theorem dX10_toils_43 : decode cX10_toils 43 = .ok (.invokevirtual 144, 3) := by decide +kernel
theorem dX10_toils_46 : decode cX10_toils 46 = .ok (.istore 5, 2) := by decide +kernel
theorem dX10_toils_48 : decode cX10_toils 48 = .ok (.iload 5, 2) := by decide +kernel
theorem dX10_toils_50 : decode cX10_toils 50 = .ok (.ifCond .le 12, 3) := by decide +kernel
theorem dX10_toils_53 : decode cX10_toils 53 = .ok (.aload_n 0, 1) := by decide +kernel
theorem dX10_toils_54 : decode cX10_toils 54 = .ok (.iload_n 1, 1) := by decide +kernel
theorem dX10_toils_55 : decode cX10_toils 55 = .ok (.iconst 1, 1) := by decide +kernel
theorem dX10_toils_56 : decode cX10_toils 56 = .ok (.iload 5, 2) := by decide +kernel
theorem dX10_toils_58 : decode cX10_toils 58 = .ok (.invokevirtual 115, 3) := by decide +kernel
theorem dX10_toils_61 : decode cX10_toils 61 = .ok (.return_, 1) := by decide +kernel
theorem dX10_toils_62 : decode cX10_toils 62 = .ok (.aload_n 0, 1) := by decide +kernel
theorem dX10_toils_63 : decode cX10_toils 63 = .ok (.iload_n 1, 1) := by decide +kernel
theorem dX10_toils_64 : decode cX10_toils 64 = .ok (.iload_n 3, 1) := by decide +kernel
theorem dX10_toils_65 : decode cX10_toils 65 = .ok (.iconst 1, 1) := by decide +kernel
theorem dX10_toils_66 : decode cX10_toils 66 = .ok (.invokevirtual 54, 3) := by decide +kernel
theorem dX10_toils_69 : decode cX10_toils 69 = .ok (.istore 6, 2) := by decide +kernel
theorem dX10_toils_71 : decode cX10_toils 71 = .ok (.iload_n 3, 1) := by decide +kernel
theorem dX10_toils_72 : decode cX10_toils 72 = .ok (.iconst 1, 1) := by decide +kernel
theorem dX10_toils_73 : decode cX10_toils 73 = .ok (.iadd, 1) := by decide +kernel
theorem dX10_toils_74 : decode cX10_toils 74 = .ok (.istore 7, 2) := by decide +kernel
theorem dX10_toils_76 : decode cX10_toils 76 = .ok (.iload 4, 2) := by decide +kernel
theorem dX10_toils_78 : decode cX10_toils 78 = .ok (.tableswitch 310 2 13 #[62, 310, 310, 152, 310, 310, 174, 192, 310, 204, 310, 231], 62) := by decide +kernel
theorem dX10_toils_140 : decode cX10_toils 140 = .ok (.aload_n 0, 1) := by decide +kernel
theorem dX10_toils_141 : decode cX10_toils 141 = .ok (.iload_n 1, 1) := by decide +kernel
theorem dX10_toils_142 : decode cX10_toils 142 = .ok (.iload_n 3, 1) := by decide +kernel
theorem dX10_toils_143 : decode cX10_toils 143 = .ok (.invokevirtual 58, 3) := by decide +kernel
theorem dX10_toils_146 : decode cX10_toils 146 = .ok (.ifCond .ne 26, 3) := by decide +kernel
theorem dX10_toils_149 : decode cX10_toils 149 = .ok (.aload_n 0, 1) := by decide +kernel
theorem dX10_toils_150 : decode cX10_toils 150 = .ok (.getfield 7, 3) := by decide +kernel
theorem dX10_toils_153 : decode cX10_toils 153 = .ok (.iload_n 1, 1) := by decide +kernel
theorem dX10_toils_154 : decode cX10_toils 154 = .ok (.sipush 210, 3) := by decide +kernel
theorem dX10_toils_157 : decode cX10_toils 157 = .ok (.iadd, 1) := by decide +kernel
theorem dX10_toils_158 : decode cX10_toils 158 = .ok (.iload 6, 2) := by decide +kernel
theorem dX10_toils_160 : decode cX10_toils 160 = .ok (.iadd, 1) := by decide +kernel
theorem dX10_toils_161 : decode cX10_toils 161 = .ok (.aload_n 0, 1) := by decide +kernel
theorem dX10_toils_162 : decode cX10_toils 162 = .ok (.iload_n 1, 1) := by decide +kernel
theorem dX10_toils_163 : decode cX10_toils 163 = .ok (.iload_n 3, 1) := by decide +kernel
theorem dX10_toils_164 : decode cX10_toils 164 = .ok (.iconst 4, 1) := by decide +kernel
theorem dX10_toils_165 : decode cX10_toils 165 = .ok (.invokevirtual 54, 3) := by decide +kernel
theorem dX10_toils_168 : decode cX10_toils 168 = .ok (.iastore, 1) := by decide +kernel
theorem dX10_toils_169 : decode cX10_toils 169 = .ok (.goto 226, 3) := by decide +kernel
theorem dX10_toils_172 : decode cX10_toils 172 = .ok (.aload_n 0, 1) := by decide +kernel
theorem dX10_toils_173 : decode cX10_toils 173 = .ok (.iload_n 1, 1) := by decide +kernel
theorem dX10_toils_174 : decode cX10_toils 174 = .ok (.aload_n 0, 1) := by decide +kernel
theorem dX10_toils_175 : decode cX10_toils 175 = .ok (.iload_n 1, 1) := by decide +kernel
theorem dX10_toils_176 : decode cX10_toils 176 = .ok (.iload_n 3, 1) := by decide +kernel
theorem dX10_toils_177 : decode cX10_toils 177 = .ok (.iconst 2, 1) := by decide +kernel
theorem dX10_toils_178 : decode cX10_toils 178 = .ok (.invokevirtual 54, 3) := by decide +kernel
theorem dX10_toils_181 : decode cX10_toils 181 = .ok (.invokevirtual 147, 3) := by decide +kernel
theorem dX10_toils_184 : decode cX10_toils 184 = .ok (.istore 8, 2) := by decide +kernel
theorem dX10_toils_186 : decode cX10_toils 186 = .ok (.aload_n 0, 1) := by decide +kernel
theorem dX10_toils_187 : decode cX10_toils 187 = .ok (.iload_n 1, 1) := by decide +kernel
theorem dX10_toils_188 : decode cX10_toils 188 = .ok (.aload_n 0, 1) := by decide +kernel
theorem dX10_toils_189 : decode cX10_toils 189 = .ok (.iload_n 1, 1) := by decide +kernel
theorem dX10_toils_190 : decode cX10_toils 190 = .ok (.iload_n 3, 1) := by decide +kernel
theorem dX10_toils_191 : decode cX10_toils 191 = .ok (.iconst 3, 1) := by decide +kernel
theorem dX10_toils_192 : decode cX10_toils 192 = .ok (.invokevirtual 54, 3) := by decide +kernel
theorem dX10_toils_195 : decode cX10_toils 195 = .ok (.invokevirtual 147, 3) := by decide +kernel
theorem dX10_toils_198 : decode cX10_toils 198 = .ok (.istore 9, 2) := by decide +kernel
theorem dX10_toils_200 : decode cX10_toils 200 = .ok (.aload_n 0, 1) := by decide +kernel
theorem dX10_toils_201 : decode cX10_toils 201 = .ok (.getfield 7, 3) := by decide +kernel
theorem dX10_toils_204 : decode cX10_toils 204 = .ok (.iload_n 1, 1) := by decide +kernel
theorem dX10_toils_205 : decode cX10_toils 205 = .ok (.sipush 210, 3) := by decide +kernel
theorem dX10_toils_208 : decode cX10_toils 208 = .ok (.iadd, 1) := by decide +kernel
theorem dX10_toils_209 : decode cX10_toils 209 = .ok (.iload 6, 2) := by decide +kernel
theorem dX10_toils_211 : decode cX10_toils 211 = .ok (.iadd, 1) := by decide +kernel
theorem dX10_toils_212 : decode cX10_toils 212 = .ok (.aload_n 0, 1) := by decide +kernel
theorem dX10_toils_213 : decode cX10_toils 213 = .ok (.aload_n 0, 1) := by decide +kernel
theorem dX10_toils_214 : decode cX10_toils 214 = .ok (.iload_n 1, 1) := by decide +kernel
theorem dX10_toils_215 : decode cX10_toils 215 = .ok (.iload_n 3, 1) := by decide +kernel
theorem dX10_toils_216 : decode cX10_toils 216 = .ok (.invokevirtual 58, 3) := by decide +kernel
theorem dX10_toils_219 : decode cX10_toils 219 = .ok (.iload 8, 2) := by decide +kernel
theorem dX10_toils_221 : decode cX10_toils 221 = .ok (.iload 9, 2) := by decide +kernel
theorem dX10_toils_223 : decode cX10_toils 223 = .ok (.invokevirtual 135, 3) := by decide +kernel
theorem dX10_toils_226 : decode cX10_toils 226 = .ok (.iastore, 1) := by decide +kernel
theorem dX10_toils_227 : decode cX10_toils 227 = .ok (.goto 168, 3) := by decide +kernel
theorem dX10_toils_230 : decode cX10_toils 230 = .ok (.aload_n 0, 1) := by decide +kernel
theorem dX10_toils_231 : decode cX10_toils 231 = .ok (.getfield 7, 3) := by decide +kernel
theorem dX10_toils_234 : decode cX10_toils 234 = .ok (.iload_n 1, 1) := by decide +kernel
theorem dX10_toils_235 : decode cX10_toils 235 = .ok (.sipush 210, 3) := by decide +kernel
theorem dX10_toils_238 : decode cX10_toils 238 = .ok (.iadd, 1) := by decide +kernel
theorem dX10_toils_239 : decode cX10_toils 239 = .ok (.iload 6, 2) := by decide +kernel
theorem dX10_toils_241 : decode cX10_toils 241 = .ok (.iadd, 1) := by decide +kernel
theorem dX10_toils_242 : decode cX10_toils 242 = .ok (.aload_n 0, 1) := by decide +kernel
theorem dX10_toils_243 : decode cX10_toils 243 = .ok (.iload_n 1, 1) := by decide +kernel
theorem dX10_toils_244 : decode cX10_toils 244 = .ok (.iconst 0, 1) := by decide +kernel
theorem dX10_toils_245 : decode cX10_toils 245 = .ok (.invokevirtual 101, 3) := by decide +kernel
theorem dX10_toils_248 : decode cX10_toils 248 = .ok (.iastore, 1) := by decide +kernel
theorem dX10_toils_249 : decode cX10_toils 249 = .ok (.goto 146, 3) := by decide +kernel
theorem dX10_toils_252 : decode cX10_toils 252 = .ok (.aload_n 0, 1) := by decide +kernel
theorem dX10_toils_253 : decode cX10_toils 253 = .ok (.iload_n 1, 1) := by decide +kernel
theorem dX10_toils_254 : decode cX10_toils 254 = .ok (.iconst 2, 1) := by decide +kernel
theorem dX10_toils_255 : decode cX10_toils 255 = .ok (.aload_n 0, 1) := by decide +kernel
theorem dX10_toils_256 : decode cX10_toils 256 = .ok (.iload_n 1, 1) := by decide +kernel
theorem dX10_toils_257 : decode cX10_toils 257 = .ok (.iload 6, 2) := by decide +kernel
theorem dX10_toils_259 : decode cX10_toils 259 = .ok (.invokevirtual 92, 3) := by decide +kernel
theorem dX10_toils_262 : decode cX10_toils 262 = .ok (.iconst 0, 1) := by decide +kernel
theorem dX10_toils_263 : decode cX10_toils 263 = .ok (.iconst 0, 1) := by decide +kernel
theorem dX10_toils_264 : decode cX10_toils 264 = .ok (.invokevirtual 118, 3) := by decide +kernel
theorem dX10_toils_267 : decode cX10_toils 267 = .ok (.goto 128, 3) := by decide +kernel
theorem dX10_toils_270 : decode cX10_toils 270 = .ok (.aload_n 0, 1) := by decide +kernel
theorem dX10_toils_271 : decode cX10_toils 271 = .ok (.iload_n 1, 1) := by decide +kernel
theorem dX10_toils_272 : decode cX10_toils 272 = .ok (.iload_n 3, 1) := by decide +kernel
theorem dX10_toils_273 : decode cX10_toils 273 = .ok (.iconst 4, 1) := by decide +kernel
theorem dX10_toils_274 : decode cX10_toils 274 = .ok (.invokevirtual 54, 3) := by decide +kernel
theorem dX10_toils_277 : decode cX10_toils 277 = .ok (.istore 7, 2) := by decide +kernel
theorem dX10_toils_279 : decode cX10_toils 279 = .ok (.goto 116, 3) := by decide +kernel
theorem dX10_toils_282 : decode cX10_toils 282 = .ok (.aload_n 0, 1) := by decide +kernel
theorem dX10_toils_283 : decode cX10_toils 283 = .ok (.iload_n 1, 1) := by decide +kernel
theorem dX10_toils_284 : decode cX10_toils 284 = .ok (.iconst 4, 1) := by decide +kernel
theorem dX10_toils_285 : decode cX10_toils 285 = .ok (.invokevirtual 101, 3) := by decide +kernel
theorem dX10_toils_288 : decode cX10_toils 288 = .ok (.iconst 1, 1) := by decide +kernel
theorem dX10_toils_289 : decode cX10_toils 289 = .ok (.if_icmp .ne 13, 3) := by decide +kernel
theorem dX10_toils_292 : decode cX10_toils 292 = .ok (.aload_n 0, 1) := by decide +kernel
theorem dX10_toils_293 : decode cX10_toils 293 = .ok (.iload_n 1, 1) := by decide +kernel
theorem dX10_toils_294 : decode cX10_toils 294 = .ok (.iload_n 3, 1) := by decide +kernel
theorem dX10_toils_295 : decode cX10_toils 295 = .ok (.iconst 4, 1) := by decide +kernel
theorem dX10_toils_296 : decode cX10_toils 296 = .ok (.invokevirtual 54, 3) := by decide +kernel
theorem dX10_toils_299 : decode cX10_toils 299 = .ok (.goto 5, 3) := by decide +kernel
theorem dX10_toils_302 : decode cX10_toils 302 = .ok (.iload 7, 2) := by decide +kernel
theorem dX10_toils_304 : decode cX10_toils 304 = .ok (.istore 7, 2) := by decide +kernel
theorem dX10_toils_306 : decode cX10_toils 306 = .ok (.goto 89, 3) := by decide +kernel
theorem dX10_toils_309 : decode cX10_toils 309 = .ok (.aload_n 0, 1) := by decide +kernel
theorem dX10_toils_310 : decode cX10_toils 310 = .ok (.iload_n 1, 1) := by decide +kernel
theorem dX10_toils_311 : decode cX10_toils 311 = .ok (.iload 6, 2) := by decide +kernel
theorem dX10_toils_313 : decode cX10_toils 313 = .ok (.invokevirtual 147, 3) := by decide +kernel
theorem dX10_toils_316 : decode cX10_toils 316 = .ok (.istore 8, 2) := by decide +kernel
theorem dX10_toils_318 : decode cX10_toils 318 = .ok (.aload_n 0, 1) := by decide +kernel
theorem dX10_toils_319 : decode cX10_toils 319 = .ok (.iload_n 1, 1) := by decide +kernel
theorem dX10_toils_320 : decode cX10_toils 320 = .ok (.aload_n 0, 1) := by decide +kernel
theorem dX10_toils_321 : decode cX10_toils 321 = .ok (.iload_n 1, 1) := by decide +kernel
theorem dX10_toils_322 : decode cX10_toils 322 = .ok (.iload_n 3, 1) := by decide +kernel
theorem dX10_toils_323 : decode cX10_toils 323 = .ok (.iconst 2, 1) := by decide +kernel
theorem dX10_toils_324 : decode cX10_toils 324 = .ok (.invokevirtual 54, 3) := by decide +kernel
theorem dX10_toils_327 : decode cX10_toils 327 = .ok (.invokevirtual 147, 3) := by decide +kernel
theorem dX10_toils_330 : decode cX10_toils 330 = .ok (.istore 9, 2) := by decide +kernel
theorem dX10_toils_332 : decode cX10_toils 332 = .ok (.aload_n 0, 1) := by decide +kernel
theorem dX10_toils_333 : decode cX10_toils 333 = .ok (.iload_n 1, 1) := by decide +kernel
theorem dX10_toils_334 : decode cX10_toils 334 = .ok (.iload_n 3, 1) := by decide +kernel
theorem dX10_toils_335 : decode cX10_toils 335 = .ok (.iconst 3, 1) := by decide +kernel
theorem dX10_toils_336 : decode cX10_toils 336 = .ok (.invokevirtual 54, 3) := by decide +kernel
theorem dX10_toils_339 : decode cX10_toils 339 = .ok (.iload 8, 2) := by decide +kernel
theorem dX10_toils_341 : decode cX10_toils 341 = .ok (.iload 9, 2) := by decide +kernel
theorem dX10_toils_343 : decode cX10_toils 343 = .ok (.invokestatic 128, 3) := by decide +kernel
theorem dX10_toils_346 : decode cX10_toils 346 = .ok (.istore 10, 2) := by decide +kernel
theorem dX10_toils_348 : decode cX10_toils 348 = .ok (.aload_n 0, 1) := by decide +kernel
theorem dX10_toils_349 : decode cX10_toils 349 = .ok (.iload_n 1, 1) := by decide +kernel
theorem dX10_toils_350 : decode cX10_toils 350 = .ok (.iconst 5, 1) := by decide +kernel
theorem dX10_toils_351 : decode cX10_toils 351 = .ok (.iload 10, 2) := by decide +kernel
theorem dX10_toils_353 : decode cX10_toils 353 = .ok (.ifCond .eq 7, 3) := by decide +kernel
theorem dX10_toils_356 : decode cX10_toils 356 = .ok (.iconst 1, 1) := by decide +kernel
theorem dX10_toils_357 : decode cX10_toils 357 = .ok (.goto 4, 3) := by decide +kernel
theorem dX10_toils_360 : decode cX10_toils 360 = .ok (.iconst 0, 1) := by decide +kernel
theorem dX10_toils_361 : decode cX10_toils 361 = .ok (.iconst 0, 1) := by decide +kernel
theorem dX10_toils_362 : decode cX10_toils 362 = .ok (.iconst 0, 1) := by decide +kernel
theorem dX10_toils_363 : decode cX10_toils 363 = .ok (.invokevirtual 118, 3) := by decide +kernel
theorem dX10_toils_366 : decode cX10_toils 366 = .ok (.iload 10, 2) := by decide +kernel
theorem dX10_toils_368 : decode cX10_toils 368 = .ok (.ifCond .eq 13, 3) := by decide +kernel
theorem dX10_toils_371 : decode cX10_toils 371 = .ok (.aload_n 0, 1) := by decide +kernel
theorem dX10_toils_372 : decode cX10_toils 372 = .ok (.iload_n 1, 1) := by decide +kernel
theorem dX10_toils_373 : decode cX10_toils 373 = .ok (.iload_n 3, 1) := by decide +kernel
theorem dX10_toils_374 : decode cX10_toils 374 = .ok (.iconst 4, 1) := by decide +kernel
theorem dX10_toils_375 : decode cX10_toils 375 = .ok (.invokevirtual 54, 3) := by decide +kernel
theorem dX10_toils_378 : decode cX10_toils 378 = .ok (.goto 5, 3) := by decide +kernel
theorem dX10_toils_381 : decode cX10_toils 381 = .ok (.iload 7, 2) := by decide +kernel
theorem dX10_toils_383 : decode cX10_toils 383 = .ok (.istore 7, 2) := by decide +kernel
theorem dX10_toils_385 : decode cX10_toils 385 = .ok (.goto 10, 3) := by decide +kernel
theorem dX10_toils_388 : decode cX10_toils 388 = .ok (.aload_n 0, 1) := by decide +kernel
theorem dX10_toils_389 : decode cX10_toils 389 = .ok (.iload_n 1, 1) := by decide +kernel
theorem dX10_toils_390 : decode cX10_toils 390 = .ok (.iconst 1, 1) := by decide +kernel
theorem dX10_toils_391 : decode cX10_toils 391 = .ok (.invokevirtual 132, 3) := by decide +kernel
theorem dX10_toils_394 : decode cX10_toils 394 = .ok (.return_, 1) := by decide +kernel
theorem dX10_toils_395 : decode cX10_toils 395 = .ok (.aload_n 0, 1) := by decide +kernel
theorem dX10_toils_396 : decode cX10_toils 396 = .ok (.iload_n 1, 1) := by decide +kernel
theorem dX10_toils_397 : decode cX10_toils 397 = .ok (.iconst 1, 1) := by decide +kernel
theorem dX10_toils_398 : decode cX10_toils 398 = .ok (.iload 7, 2) := by decide +kernel
theorem dX10_toils_400 : decode cX10_toils 400 = .ok (.invokevirtual 104, 3) := by decide +kernel
theorem dX10_toils_403 : decode cX10_toils 403 = .ok (.return_, 1) := by decide +kernel
theorem dX10_excuse_0 : decode cX10_excuse 0 = .ok (.iload_n 3, 1) := by decide +kernel
theorem dX10_excuse_1 : decode cX10_excuse 1 = .ok (.iconst 5, 1) := by decide +kernel
theorem dX10_excuse_2 : decode cX10_excuse 2 = .ok (.if_icmp .ne 27, 3) := by decide +kernel
theorem dX10_excuse_5 : decode cX10_excuse 5 = .ok (.aload_n 0, 1) := by decide +kernel
theorem dX10_excuse_6 : decode cX10_excuse 6 = .ok (.iload_n 1, 1) := by decide +kernel
theorem dX10_excuse_7 : decode cX10_excuse 7 = .ok (.iconst 0, 1) := by decide +kernel
theorem dX10_excuse_8 : decode cX10_excuse 8 = .ok (.invokevirtual 86, 3) := by decide +kernel
theorem dX10_excuse_11 : decode cX10_excuse 11 = .ok (.ifCond .eq 12, 3) := by decide +kernel
theorem dX10_excuse_14 : decode cX10_excuse 14 = .ok (.aload_n 0, 1) := by decide +kernel
theorem dX10_excuse_15 : decode cX10_excuse 15 = .ok (.iload_n 1, 1) := by decide +kernel
theorem dX10_excuse_16 : decode cX10_excuse 16 = .ok (.iconst 0, 1) := by decide +kernel
theorem dX10_excuse_17 : decode cX10_excuse 17 = .ok (.invokevirtual 150, 3) := by decide +kernel
theorem dX10_excuse_20 : decode cX10_excuse 20 = .ok (.ifCond .ne 7, 3) := by decide +kernel
theorem dX10_excuse_23 : decode cX10_excuse 23 = .ok (.iconst 1, 1) := by decide +kernel
theorem dX10_excuse_24 : decode cX10_excuse 24 = .ok (.goto 4, 3) := by decide +kernel
theorem dX10_excuse_27 : decode cX10_excuse 27 = .ok (.iconst 0, 1) := by decide +kernel
theorem dX10_excuse_28 : decode cX10_excuse 28 = .ok (.ireturn, 1) := by decide +kernel
theorem dX10_excuse_29 : decode cX10_excuse 29 = .ok (.iload_n 3, 1) := by decide +kernel
theorem dX10_excuse_30 : decode cX10_excuse 30 = .ok (.bipush 11, 2) := by decide +kernel
theorem dX10_excuse_32 : decode cX10_excuse 32 = .ok (.if_icmp .ne 18, 3) := by decide +kernel
theorem dX10_excuse_35 : decode cX10_excuse 35 = .ok (.aload_n 0, 1) := by decide +kernel
theorem dX10_excuse_36 : decode cX10_excuse 36 = .ok (.iload_n 1, 1) := by decide +kernel
theorem dX10_excuse_37 : decode cX10_excuse 37 = .ok (.iconst 4, 1) := by decide +kernel
theorem dX10_excuse_38 : decode cX10_excuse 38 = .ok (.invokevirtual 86, 3) := by decide +kernel
theorem dX10_excuse_41 : decode cX10_excuse 41 = .ok (.ifCond .ne 7, 3) := by decide +kernel
theorem dX10_excuse_44 : decode cX10_excuse 44 = .ok (.iconst 3, 1) := by decide +kernel
theorem dX10_excuse_45 : decode cX10_excuse 45 = .ok (.goto 4, 3) := by decide +kernel
theorem dX10_excuse_48 : decode cX10_excuse 48 = .ok (.iconst 0, 1) := by decide +kernel
theorem dX10_excuse_49 : decode cX10_excuse 49 = .ok (.ireturn, 1) := by decide +kernel
theorem dX10_excuse_50 : decode cX10_excuse 50 = .ok (.iload_n 3, 1) := by decide +kernel
theorem dX10_excuse_51 : decode cX10_excuse 51 = .ok (.bipush 8, 2) := by decide +kernel
theorem dX10_excuse_53 : decode cX10_excuse 53 = .ok (.if_icmp .ne 18, 3) := by decide +kernel
theorem dX10_excuse_56 : decode cX10_excuse 56 = .ok (.aload_n 0, 1) := by decide +kernel
theorem dX10_excuse_57 : decode cX10_excuse 57 = .ok (.iload_n 1, 1) := by decide +kernel
theorem dX10_excuse_58 : decode cX10_excuse 58 = .ok (.iconst 2, 1) := by decide +kernel
theorem dX10_excuse_59 : decode cX10_excuse 59 = .ok (.invokevirtual 138, 3) := by decide +kernel
theorem dX10_excuse_62 : decode cX10_excuse 62 = .ok (.ifCond .eq 7, 3) := by decide +kernel
theorem dX10_excuse_65 : decode cX10_excuse 65 = .ok (.iconst 4, 1) := by decide +kernel
theorem dX10_excuse_66 : decode cX10_excuse 66 = .ok (.goto 4, 3) := by decide +kernel
theorem dX10_excuse_69 : decode cX10_excuse 69 = .ok (.iconst 0, 1) := by decide +kernel
theorem dX10_excuse_70 : decode cX10_excuse 70 = .ok (.ireturn, 1) := by decide +kernel
theorem dX10_excuse_71 : decode cX10_excuse 71 = .ok (.iload_n 3, 1) := by decide +kernel
theorem dX10_excuse_72 : decode cX10_excuse 72 = .ok (.iconst 2, 1) := by decide +kernel
theorem dX10_excuse_73 : decode cX10_excuse 73 = .ok (.if_icmp .ne 46, 3) := by decide +kernel
theorem dX10_excuse_76 : decode cX10_excuse 76 = .ok (.aload_n 0, 1) := by decide +kernel
theorem dX10_excuse_77 : decode cX10_excuse 77 = .ok (.iload_n 1, 1) := by decide +kernel
theorem dX10_excuse_78 : decode cX10_excuse 78 = .ok (.iload_n 2, 1) := by decide +kernel
theorem dX10_excuse_79 : decode cX10_excuse 79 = .ok (.invokevirtual 58, 3) := by decide +kernel
theorem dX10_excuse_82 : decode cX10_excuse 82 = .ok (.ifCond .eq 35, 3) := by decide +kernel
theorem dX10_excuse_85 : decode cX10_excuse 85 = .ok (.aload_n 0, 1) := by decide +kernel
theorem dX10_excuse_86 : decode cX10_excuse 86 = .ok (.iload_n 1, 1) := by decide +kernel
theorem dX10_excuse_87 : decode cX10_excuse 87 = .ok (.iconst 3, 1) := by decide +kernel
theorem dX10_excuse_88 : decode cX10_excuse 88 = .ok (.invokevirtual 86, 3) := by decide +kernel
theorem dX10_excuse_91 : decode cX10_excuse 91 = .ok (.aload_n 0, 1) := by decide +kernel
theorem dX10_excuse_92 : decode cX10_excuse 92 = .ok (.iload_n 1, 1) := by decide +kernel
theorem dX10_excuse_93 : decode cX10_excuse 93 = .ok (.aload_n 0, 1) := by decide +kernel
theorem dX10_excuse_94 : decode cX10_excuse 94 = .ok (.iload_n 1, 1) := by decide +kernel
theorem dX10_excuse_95 : decode cX10_excuse 95 = .ok (.iload_n 2, 1) := by decide +kernel
theorem dX10_excuse_96 : decode cX10_excuse 96 = .ok (.iconst 2, 1) := by decide +kernel
theorem dX10_excuse_97 : decode cX10_excuse 97 = .ok (.invokevirtual 54, 3) := by decide +kernel
theorem dX10_excuse_100 : decode cX10_excuse 100 = .ok (.aload_n 0, 1) := by decide +kernel
theorem dX10_excuse_101 : decode cX10_excuse 101 = .ok (.iload_n 1, 1) := by decide +kernel
theorem dX10_excuse_102 : decode cX10_excuse 102 = .ok (.iload_n 2, 1) := by decide +kernel
theorem dX10_excuse_103 : decode cX10_excuse 103 = .ok (.iconst 3, 1) := by decide +kernel
theorem dX10_excuse_104 : decode cX10_excuse 104 = .ok (.invokevirtual 54, 3) := by decide +kernel
theorem dX10_excuse_107 : decode cX10_excuse 107 = .ok (.invokevirtual 73, 3) := by decide +kernel
theorem dX10_excuse_110 : decode cX10_excuse 110 = .ok (.if_icmp .ge 7, 3) := by decide +kernel
theorem dX10_excuse_113 : decode cX10_excuse 113 = .ok (.iconst 2, 1) := by decide +kernel
theorem dX10_excuse_114 : decode cX10_excuse 114 = .ok (.goto 4, 3) := by decide +kernel
theorem dX10_excuse_117 : decode cX10_excuse 117 = .ok (.iconst 0, 1) := by decide +kernel
theorem dX10_excuse_118 : decode cX10_excuse 118 = .ok (.ireturn, 1) := by decide +kernel
theorem dX10_excuse_119 : decode cX10_excuse 119 = .ok (.iload_n 3, 1) := by decide +kernel
theorem dX10_excuse_120 : decode cX10_excuse 120 = .ok (.bipush 13, 2) := by decide +kernel
theorem dX10_excuse_122 : decode cX10_excuse 122 = .ok (.if_icmp .eq 5, 3) := by decide +kernel
theorem dX10_excuse_125 : decode cX10_excuse 125 = .ok (.iconst 0, 1) := by decide +kernel
theorem dX10_excuse_126 : decode cX10_excuse 126 = .ok (.ireturn, 1) := by decide +kernel
theorem dX10_excuse_127 : decode cX10_excuse 127 = .ok (.aload_n 0, 1) := by decide +kernel
theorem dX10_excuse_128 : decode cX10_excuse 128 = .ok (.iload_n 1, 1) := by decide +kernel
theorem dX10_excuse_129 : decode cX10_excuse 129 = .ok (.iconst 3, 1) := by decide +kernel
theorem dX10_excuse_130 : decode cX10_excuse 130 = .ok (.invokevirtual 86, 3) := by decide +kernel
theorem dX10_excuse_133 : decode cX10_excuse 133 = .ok (.aload_n 0, 1) := by decide +kernel
theorem dX10_excuse_134 : decode cX10_excuse 134 = .ok (.iload_n 1, 1) := by decide +kernel
theorem dX10_excuse_135 : decode cX10_excuse 135 = .ok (.aload_n 0, 1) := by decide +kernel
theorem dX10_excuse_136 : decode cX10_excuse 136 = .ok (.iload_n 1, 1) := by decide +kernel
theorem dX10_excuse_137 : decode cX10_excuse 137 = .ok (.iload_n 2, 1) := by decide +kernel
theorem dX10_excuse_138 : decode cX10_excuse 138 = .ok (.iconst 1, 1) := by decide +kernel
theorem dX10_excuse_139 : decode cX10_excuse 139 = .ok (.invokevirtual 54, 3) := by decide +kernel
theorem dX10_excuse_142 : decode cX10_excuse 142 = .ok (.aload_n 0, 1) := by decide +kernel
theorem dX10_excuse_143 : decode cX10_excuse 143 = .ok (.iload_n 1, 1) := by decide +kernel
theorem dX10_excuse_144 : decode cX10_excuse 144 = .ok (.iload_n 2, 1) := by decide +kernel
theorem dX10_excuse_145 : decode cX10_excuse 145 = .ok (.iconst 2, 1) := by decide +kernel
theorem dX10_excuse_146 : decode cX10_excuse 146 = .ok (.invokevirtual 54, 3) := by decide +kernel
theorem dX10_excuse_149 : decode cX10_excuse 149 = .ok (.invokevirtual 73, 3) := by decide +kernel
theorem dX10_excuse_152 : decode cX10_excuse 152 = .ok (.if_icmp .ge 7, 3) := by decide +kernel
theorem dX10_excuse_155 : decode cX10_excuse 155 = .ok (.iconst 2, 1) := by decide +kernel
theorem dX10_excuse_156 : decode cX10_excuse 156 = .ok (.goto 17, 3) := by decide +kernel
theorem dX10_excuse_159 : decode cX10_excuse 159 = .ok (.aload_n 0, 1) := by decide +kernel
theorem dX10_excuse_160 : decode cX10_excuse 160 = .ok (.iload_n 1, 1) := by decide +kernel
theorem dX10_excuse_161 : decode cX10_excuse 161 = .ok (.iconst 5, 1) := by decide +kernel
theorem dX10_excuse_162 : decode cX10_excuse 162 = .ok (.invokevirtual 138, 3) := by decide +kernel
theorem dX10_excuse_165 : decode cX10_excuse 165 = .ok (.ifCond .eq 7, 3) := by decide +kernel
theorem dX10_excuse_168 : decode cX10_excuse 168 = .ok (.iconst 5, 1) := by decide +kernel
theorem dX10_excuse_169 : decode cX10_excuse 169 = .ok (.goto 4, 3) := by decide +kernel
theorem dX10_excuse_172 : decode cX10_excuse 172 = .ok (.iconst 0, 1) := by decide +kernel
theorem dX10_excuse_173 : decode cX10_excuse 173 = .ok (.ireturn, 1) := by decide +kernel
theorem dX10_slip_0 : decode cX10_slip 0 = .ok (.aload_n 0, 1) := by decide +kernel
theorem dX10_slip_1 : decode cX10_slip 1 = .ok (.getfield 7, 3) := by decide +kernel
theorem dX10_slip_4 : decode cX10_slip 4 = .ok (.iload_n 1, 1) := by decide +kernel
theorem dX10_slip_5 : decode cX10_slip 5 = .ok (.iconst 0, 1) := by decide +kernel
theorem dX10_slip_6 : decode cX10_slip 6 = .ok (.invokestatic 98, 3) := by decide +kernel
theorem dX10_slip_9 : decode cX10_slip 9 = .ok (.iconst 3, 1) := by decide +kernel
theorem dX10_slip_10 : decode cX10_slip 10 = .ok (.iadd, 1) := by decide +kernel
theorem dX10_slip_11 : decode cX10_slip 11 = .ok (.iaload, 1) := by decide +kernel
theorem dX10_slip_12 : decode cX10_slip 12 = .ok (.aload_n 0, 1) := by decide +kernel
theorem dX10_slip_13 : decode cX10_slip 13 = .ok (.getfield 7, 3) := by decide +kernel
theorem dX10_slip_16 : decode cX10_slip 16 = .ok (.iload_n 1, 1) := by decide +kernel
theorem dX10_slip_17 : decode cX10_slip 17 = .ok (.iconst 1, 1) := by decide +kernel
theorem dX10_slip_18 : decode cX10_slip 18 = .ok (.invokestatic 98, 3) := by decide +kernel
theorem dX10_slip_21 : decode cX10_slip 21 = .ok (.iconst 3, 1) := by decide +kernel
theorem dX10_slip_22 : decode cX10_slip 22 = .ok (.iadd, 1) := by decide +kernel
theorem dX10_slip_23 : decode cX10_slip 23 = .ok (.iaload, 1) := by decide +kernel
theorem dX10_slip_24 : decode cX10_slip 24 = .ok (.isub, 1) := by decide +kernel
theorem dX10_slip_25 : decode cX10_slip 25 = .ok (.ireturn, 1) := by decide +kernel
theorem dX10_isEnded_0 : decode cX10_isEnded 0 = .ok (.aload_n 0, 1) := by decide +kernel
theorem dX10_isEnded_1 : decode cX10_isEnded 1 = .ok (.getfield 7, 3) := by decide +kernel
theorem dX10_isEnded_4 : decode cX10_isEnded 4 = .ok (.iload_n 1, 1) := by decide +kernel
theorem dX10_isEnded_5 : decode cX10_isEnded 5 = .ok (.iload_n 2, 1) := by decide +kernel
theorem dX10_isEnded_6 : decode cX10_isEnded 6 = .ok (.invokestatic 98, 3) := by decide +kernel
theorem dX10_isEnded_9 : decode cX10_isEnded 9 = .ok (.iconst 4, 1) := by decide +kernel
theorem dX10_isEnded_10 : decode cX10_isEnded 10 = .ok (.iadd, 1) := by decide +kernel
theorem dX10_isEnded_11 : decode cX10_isEnded 11 = .ok (.iaload, 1) := by decide +kernel
theorem dX10_isEnded_12 : decode cX10_isEnded 12 = .ok (.iconst 1, 1) := by decide +kernel
theorem dX10_isEnded_13 : decode cX10_isEnded 13 = .ok (.if_icmp .ne 7, 3) := by decide +kernel
theorem dX10_isEnded_16 : decode cX10_isEnded 16 = .ok (.iconst 1, 1) := by decide +kernel
theorem dX10_isEnded_17 : decode cX10_isEnded 17 = .ok (.goto 4, 3) := by decide +kernel
theorem dX10_isEnded_20 : decode cX10_isEnded 20 = .ok (.iconst 0, 1) := by decide +kernel
theorem dX10_isEnded_21 : decode cX10_isEnded 21 = .ok (.ireturn, 1) := by decide +kernel
theorem dX10_haveCome_0 : decode cX10_haveCome 0 = .ok (.iconst 0, 1) := by decide +kernel
theorem dX10_haveCome_1 : decode cX10_haveCome 1 = .ok (.istore_n 2, 1) := by decide +kernel
theorem dX10_haveCome_2 : decode cX10_haveCome 2 = .ok (.iload_n 2, 1) := by decide +kernel
theorem dX10_haveCome_3 : decode cX10_haveCome 3 = .ok (.aload_n 0, 1) := by decide +kernel
theorem dX10_haveCome_4 : decode cX10_haveCome 4 = .ok (.iload_n 1, 1) := by decide +kernel
theorem dX10_haveCome_5 : decode cX10_haveCome 5 = .ok (.iconst 0, 1) := by decide +kernel
theorem dX10_haveCome_6 : decode cX10_haveCome 6 = .ok (.invokevirtual 86, 3) := by decide +kernel
theorem dX10_haveCome_9 : decode cX10_haveCome 9 = .ok (.if_icmp .ge 20, 3) := by decide +kernel
theorem dX10_haveCome_12 : decode cX10_haveCome 12 = .ok (.aload_n 0, 1) := by decide +kernel
theorem dX10_haveCome_13 : decode cX10_haveCome 13 = .ok (.iload_n 1, 1) := by decide +kernel
theorem dX10_haveCome_14 : decode cX10_haveCome 14 = .ok (.iload_n 2, 1) := by decide +kernel
theorem dX10_haveCome_15 : decode cX10_haveCome 15 = .ok (.invokevirtual 150, 3) := by decide +kernel
theorem dX10_haveCome_18 : decode cX10_haveCome 18 = .ok (.ifCond .ne 5, 3) := by decide +kernel
theorem dX10_haveCome_21 : decode cX10_haveCome 21 = .ok (.iconst 0, 1) := by decide +kernel
theorem dX10_haveCome_22 : decode cX10_haveCome 22 = .ok (.ireturn, 1) := by decide +kernel
theorem dX10_haveCome_23 : decode cX10_haveCome 23 = .ok (.iinc 2 1, 3) := by decide +kernel
theorem dX10_haveCome_26 : decode cX10_haveCome 26 = .ok (.goto (-24), 3) := by decide +kernel
theorem dX10_haveCome_29 : decode cX10_haveCome 29 = .ok (.iconst 1, 1) := by decide +kernel
theorem dX10_haveCome_30 : decode cX10_haveCome 30 = .ok (.ireturn, 1) := by decide +kernel
theorem dX10_cycle_0 : decode cX10_cycle 0 = .ok (.aload_n 0, 1) := by decide +kernel
theorem dX10_cycle_1 : decode cX10_cycle 1 = .ok (.getfield 7, 3) := by decide +kernel
theorem dX10_cycle_4 : decode cX10_cycle 4 = .ok (.iload_n 1, 1) := by decide +kernel
theorem dX10_cycle_5 : decode cX10_cycle 5 = .ok (.sipush 170, 3) := by decide +kernel
theorem dX10_cycle_8 : decode cX10_cycle 8 = .ok (.iadd, 1) := by decide +kernel
