theorem dX12_ahead_0 : decode cX12_ahead 0 = .ok (.aload_n 0, 1) := by decide +kernel
theorem dX12_ahead_1 : decode cX12_ahead 1 = .ok (.iconst 0, 1) := by decide +kernel
theorem dX12_ahead_2 : decode cX12_ahead 2 = .ok (.putfield 86, 3) := by decide +kernel
theorem dX12_ahead_5 : decode cX12_ahead 5 = .ok (.aload_n 0, 1) := by decide +kernel
theorem dX12_ahead_6 : decode cX12_ahead 6 = .ok (.invokevirtual 306, 3) := by decide +kernel
theorem dX12_ahead_9 : decode cX12_ahead 9 = .ok (.ifCond .eq 27, 3) := by decide +kernel
theorem dX12_ahead_12 : decode cX12_ahead 12 = .ok (.iload_n 1, 1) := by decide +kernel
theorem dX12_ahead_13 : decode cX12_ahead 13 = .ok (.i2l, 1) := by decide +kernel
theorem dX12_ahead_14 : decode cX12_ahead 14 = .ok (.lconst 0, 1) := by decide +kernel
theorem dX12_ahead_15 : decode cX12_ahead 15 = .ok (.ldc2_w 385, 3) := by decide +kernel
theorem dX12_ahead_18 : decode cX12_ahead 18 = .ok (.invokestatic 97, 3) := by decide +kernel
theorem dX12_ahead_21 : decode cX12_ahead 21 = .ok (.ifCond .eq 15, 3) := by decide +kernel
theorem dX12_ahead_24 : decode cX12_ahead 24 = .ok (.iload_n 2, 1) := by decide +kernel
theorem dX12_ahead_25 : decode cX12_ahead 25 = .ok (.i2l, 1) := by decide +kernel
theorem dX12_ahead_26 : decode cX12_ahead 26 = .ok (.lconst 0, 1) := by decide +kernel
theorem dX12_ahead_27 : decode cX12_ahead 27 = .ok (.ldc2_w 327, 3) := by decide +kernel
theorem dX12_ahead_30 : decode cX12_ahead 30 = .ok (.invokestatic 97, 3) := by decide +kernel
theorem dX12_ahead_33 : decode cX12_ahead 33 = .ok (.ifCond .ne 7, 3) := by decide +kernel
theorem dX12_ahead_36 : decode cX12_ahead 36 = .ok (.ldc_w 310, 3) := by decide +kernel
theorem dX12_ahead_39 : decode cX12_ahead 39 = .ok (.ireturn, 1) := by decide +kernel
theorem dX12_ahead_40 : decode cX12_ahead 40 = .ok (.aload_n 0, 1) := by decide +kernel
theorem dX12_ahead_41 : decode cX12_ahead 41 = .ok (.invokevirtual 455, 3) := by decide +kernel
theorem dX12_ahead_44 : decode cX12_ahead 44 = .ok (.aload_n 0, 1) := by decide +kernel
theorem dX12_ahead_45 : decode cX12_ahead 45 = .ok (.invokevirtual 387, 3) := by decide +kernel
theorem dX12_ahead_48 : decode cX12_ahead 48 = .ok (.iconst 0, 1) := by decide +kernel
theorem dX12_ahead_49 : decode cX12_ahead 49 = .ok (.istore_n 3, 1) := by decide +kernel
theorem dX12_ahead_50 : decode cX12_ahead 50 = .ok (.iload_n 3, 1) := by decide +kernel
theorem dX12_ahead_51 : decode cX12_ahead 51 = .ok (.iload_n 1, 1) := by decide +kernel
theorem dX12_ahead_52 : decode cX12_ahead 52 = .ok (.if_icmp .ge 13, 3) := by decide +kernel
theorem dX12_ahead_55 : decode cX12_ahead 55 = .ok (.aload_n 0, 1) := by decide +kernel
theorem dX12_ahead_56 : decode cX12_ahead 56 = .ok (.invokevirtual 390, 3) := by decide +kernel
theorem dX12_ahead_59 : decode cX12_ahead 59 = .ok (.iinc 3 1, 3) := by decide +kernel
theorem dX12_ahead_62 : decode cX12_ahead 62 = .ok (.goto (-12), 3) := by decide +kernel
theorem dX12_ahead_65 : decode cX12_ahead 65 = .ok (.aload_n 0, 1) := by decide +kernel
theorem dX12_ahead_66 : decode cX12_ahead 66 = .ok (.iload_n 2, 1) := by decide +kernel
theorem dX12_ahead_67 : decode cX12_ahead 67 = .ok (.invokevirtual 458, 3) := by decide +kernel
theorem dX12_ahead_70 : decode cX12_ahead 70 = .ok (.istore_n 3, 1) := by decide +kernel
theorem dX12_ahead_71 : decode cX12_ahead 71 = .ok (.aload_n 0, 1) := by decide +kernel
theorem dX12_ahead_72 : decode cX12_ahead 72 = .ok (.invokevirtual 461, 3) := by decide +kernel
theorem dX12_ahead_75 : decode cX12_ahead 75 = .ok (.iload_n 3, 1) := by decide +kernel
theorem dX12_ahead_76 : decode cX12_ahead 76 = .ok (.ireturn, 1) := by decide +kernel
theorem dX12_aheadBy_0 : decode cX12_aheadBy 0 = .ok (.aload_n 0, 1) := by decide +kernel
theorem dX12_aheadBy_1 : decode cX12_aheadBy 1 = .ok (.invokevirtual 238, 3) := by decide +kernel
theorem dX12_aheadBy_4 : decode cX12_aheadBy 4 = .ok (.pop, 1) := by decide +kernel
theorem dX12_aheadBy_5 : decode cX12_aheadBy 5 = .ok (.iload_n 1, 1) := by decide +kernel
theorem dX12_aheadBy_6 : decode cX12_aheadBy 6 = .ok (.tableswitch 59 0 4 #[34, 39, 44, 49, 54], 34) := by decide +kernel
theorem dX12_aheadBy_40 : decode cX12_aheadBy 40 = .ok (.aload_n 0, 1) := by decide +kernel
theorem dX12_aheadBy_41 : decode cX12_aheadBy 41 = .ok (.getfield 241, 3) := by decide +kernel
theorem dX12_aheadBy_44 : decode cX12_aheadBy 44 = .ok (.ireturn, 1) := by decide +kernel
theorem dX12_aheadBy_45 : decode cX12_aheadBy 45 = .ok (.aload_n 0, 1) := by decide +kernel
theorem dX12_aheadBy_46 : decode cX12_aheadBy 46 = .ok (.getfield 376, 3) := by decide +kernel
theorem dX12_aheadBy_49 : decode cX12_aheadBy 49 = .ok (.ireturn, 1) := by decide +kernel
theorem dX12_aheadBy_50 : decode cX12_aheadBy 50 = .ok (.aload_n 0, 1) := by decide +kernel
theorem dX12_aheadBy_51 : decode cX12_aheadBy 51 = .ok (.getfield 379, 3) := by decide +kernel
theorem dX12_aheadBy_54 : decode cX12_aheadBy 54 = .ok (.ireturn, 1) := by decide +kernel
theorem dX12_aheadBy_55 : decode cX12_aheadBy 55 = .ok (.aload_n 0, 1) := by decide +kernel
theorem dX12_aheadBy_56 : decode cX12_aheadBy 56 = .ok (.getfield 382, 3) := by decide +kernel
theorem dX12_aheadBy_59 : decode cX12_aheadBy 59 = .ok (.ireturn, 1) := by decide +kernel
theorem dX12_aheadBy_60 : decode cX12_aheadBy 60 = .ok (.aload_n 0, 1) := by decide +kernel
theorem dX12_aheadBy_61 : decode cX12_aheadBy 61 = .ok (.invokevirtual 318, 3) := by decide +kernel
theorem dX12_aheadBy_64 : decode cX12_aheadBy 64 = .ok (.ireturn, 1) := by decide +kernel
theorem dX12_aheadBy_65 : decode cX12_aheadBy 65 = .ok (.aload_n 0, 1) := by decide +kernel
theorem dX12_aheadBy_66 : decode cX12_aheadBy 66 = .ok (.invokevirtual 311, 3) := by decide +kernel
theorem dX12_aheadBy_69 : decode cX12_aheadBy 69 = .ok (.ireturn, 1) := by decide +kernel
theorem dX12_alikeWith_0 : decode cX12_alikeWith 0 = .ok (.iconst 0, 1) := by decide +kernel
theorem dX12_alikeWith_1 : decode cX12_alikeWith 1 = .ok (.istore_n 2, 1) := by decide +kernel
theorem dX12_alikeWith_2 : decode cX12_alikeWith 2 = .ok (.iconst 0, 1) := by decide +kernel
theorem dX12_alikeWith_3 : decode cX12_alikeWith 3 = .ok (.istore_n 3, 1) := by decide +kernel
theorem dX12_alikeWith_4 : decode cX12_alikeWith 4 = .ok (.iload_n 3, 1) := by decide +kernel
theorem dX12_alikeWith_5 : decode cX12_alikeWith 5 = .ok (.aload_n 0, 1) := by decide +kernel
theorem dX12_alikeWith_6 : decode cX12_alikeWith 6 = .ok (.getfield 241, 3) := by decide +kernel
theorem dX12_alikeWith_9 : decode cX12_alikeWith 9 = .ok (.if_icmp .ge 62, 3) := by decide +kernel
theorem dX12_alikeWith_12 : decode cX12_alikeWith 12 = .ok (.iload_n 2, 1) := by decide +kernel
theorem dX12_alikeWith_13 : decode cX12_alikeWith 13 = .ok (.aload_n 0, 1) := by decide +kernel
theorem dX12_alikeWith_14 : decode cX12_alikeWith 14 = .ok (.getfield 34, 3) := by decide +kernel
theorem dX12_alikeWith_17 : decode cX12_alikeWith 17 = .ok (.iload_n 3, 1) := by decide +kernel
theorem dX12_alikeWith_18 : decode cX12_alikeWith 18 = .ok (.iaload, 1) := by decide +kernel
theorem dX12_alikeWith_19 : decode cX12_alikeWith 19 = .ok (.aload_n 0, 1) := by decide +kernel
theorem dX12_alikeWith_20 : decode cX12_alikeWith 20 = .ok (.getfield 34, 3) := by decide +kernel
theorem dX12_alikeWith_23 : decode cX12_alikeWith 23 = .ok (.iload_n 1, 1) := by decide +kernel
theorem dX12_alikeWith_24 : decode cX12_alikeWith 24 = .ok (.iaload, 1) := by decide +kernel
theorem dX12_alikeWith_25 : decode cX12_alikeWith 25 = .ok (.if_icmp .ne 37, 3) := by decide +kernel
theorem dX12_alikeWith_28 : decode cX12_alikeWith 28 = .ok (.aload_n 0, 1) := by decide +kernel
theorem dX12_alikeWith_29 : decode cX12_alikeWith 29 = .ok (.getfield 40, 3) := by decide +kernel
theorem dX12_alikeWith_32 : decode cX12_alikeWith 32 = .ok (.iload_n 3, 1) := by decide +kernel
theorem dX12_alikeWith_33 : decode cX12_alikeWith 33 = .ok (.iaload, 1) := by decide +kernel
theorem dX12_alikeWith_34 : decode cX12_alikeWith 34 = .ok (.aload_n 0, 1) := by decide +kernel
theorem dX12_alikeWith_35 : decode cX12_alikeWith 35 = .ok (.getfield 40, 3) := by decide +kernel
theorem dX12_alikeWith_38 : decode cX12_alikeWith 38 = .ok (.iload_n 1, 1) := by decide +kernel
theorem dX12_alikeWith_39 : decode cX12_alikeWith 39 = .ok (.iaload, 1) := by decide +kernel
theorem dX12_alikeWith_40 : decode cX12_alikeWith 40 = .ok (.if_icmp .ne 22, 3) := by decide +kernel
theorem dX12_alikeWith_43 : decode cX12_alikeWith 43 = .ok (.aload_n 0, 1) := by decide +kernel
theorem dX12_alikeWith_44 : decode cX12_alikeWith 44 = .ok (.getfield 43, 3) := by decide +kernel
theorem dX12_alikeWith_47 : decode cX12_alikeWith 47 = .ok (.iload_n 3, 1) := by decide +kernel
theorem dX12_alikeWith_48 : decode cX12_alikeWith 48 = .ok (.iaload, 1) := by decide +kernel
theorem dX12_alikeWith_49 : decode cX12_alikeWith 49 = .ok (.aload_n 0, 1) := by decide +kernel
theorem dX12_alikeWith_50 : decode cX12_alikeWith 50 = .ok (.getfield 43, 3) := by decide +kernel
theorem dX12_alikeWith_53 : decode cX12_alikeWith 53 = .ok (.iload_n 1, 1) := by decide +kernel
theorem dX12_alikeWith_54 : decode cX12_alikeWith 54 = .ok (.iaload, 1) := by decide +kernel
theorem dX12_alikeWith_55 : decode cX12_alikeWith 55 = .ok (.if_icmp .ne 7, 3) := by decide +kernel
theorem dX12_alikeWith_58 : decode cX12_alikeWith 58 = .ok (.iconst 1, 1) := by decide +kernel
theorem dX12_alikeWith_59 : decode cX12_alikeWith 59 = .ok (.goto 4, 3) := by decide +kernel
theorem dX12_alikeWith_62 : decode cX12_alikeWith 62 = .ok (.iconst 0, 1) := by decide +kernel
theorem dX12_alikeWith_63 : decode cX12_alikeWith 63 = .ok (.iadd, 1) := by decide +kernel
theorem dX12_alikeWith_64 : decode cX12_alikeWith 64 = .ok (.istore_n 2, 1) := by decide +kernel
theorem dX12_alikeWith_65 : decode cX12_alikeWith 65 = .ok (.iinc 3 1, 3) := by decide +kernel
theorem dX12_alikeWith_68 : decode cX12_alikeWith 68 = .ok (.goto (-64), 3) := by decide +kernel
theorem dX12_alikeWith_71 : decode cX12_alikeWith 71 = .ok (.iload_n 2, 1) := by decide +kernel
theorem dX12_alikeWith_72 : decode cX12_alikeWith 72 = .ok (.ireturn, 1) := by decide +kernel
theorem dX12_along_0 : decode cX12_along 0 = .ok (.iload_n 2, 1) := by decide +kernel
theorem dX12_along_1 : decode cX12_along 1 = .ok (.ifCond .ne 12, 3) := by decide +kernel
theorem dX12_along_4 : decode cX12_along 4 = .ok (.aload_n 0, 1) := by decide +kernel
theorem dX12_along_5 : decode cX12_along 5 = .ok (.getfield 40, 3) := by decide +kernel
theorem dX12_along_8 : decode cX12_along 8 = .ok (.iload_n 1, 1) := by decide +kernel
theorem dX12_along_9 : decode cX12_along 9 = .ok (.iaload, 1) := by decide +kernel
theorem dX12_along_10 : decode cX12_along 10 = .ok (.goto 9, 3) := by decide +kernel
theorem dX12_along_13 : decode cX12_along 13 = .ok (.aload_n 0, 1) := by decide +kernel
theorem dX12_along_14 : decode cX12_along 14 = .ok (.getfield 43, 3) := by decide +kernel
theorem dX12_along_17 : decode cX12_along 17 = .ok (.iload_n 1, 1) := by decide +kernel
theorem dX12_along_18 : decode cX12_along 18 = .ok (.iaload, 1) := by decide +kernel
theorem dX12_along_19 : decode cX12_along 19 = .ok (.ireturn, 1) := by decide +kernel
theorem dX12_areOpposite_0 : decode cX12_areOpposite 0 = .ok (.aload_n 0, 1) := by decide +kernel
theorem dX12_areOpposite_1 : decode cX12_areOpposite 1 = .ok (.getfield 40, 3) := by decide +kernel
theorem dX12_areOpposite_4 : decode cX12_areOpposite 4 = .ok (.iload_n 1, 1) := by decide +kernel
theorem dX12_areOpposite_5 : decode cX12_areOpposite 5 = .ok (.iaload, 1) := by decide +kernel
theorem dX12_areOpposite_6 : decode cX12_areOpposite 6 = .ok (.aload_n 0, 1) := by decide +kernel
theorem dX12_areOpposite_7 : decode cX12_areOpposite 7 = .ok (.getfield 40, 3) := by decide +kernel
theorem dX12_areOpposite_10 : decode cX12_areOpposite 10 = .ok (.iload_n 2, 1) := by decide +kernel
theorem dX12_areOpposite_11 : decode cX12_areOpposite 11 = .ok (.iaload, 1) := by decide +kernel
theorem dX12_areOpposite_12 : decode cX12_areOpposite 12 = .ok (.iadd, 1) := by decide +kernel
theorem dX12_areOpposite_13 : decode cX12_areOpposite 13 = .ok (.ifCond .ne 23, 3) := by decide +kernel
theorem dX12_areOpposite_16 : decode cX12_areOpposite 16 = .ok (.aload_n 0, 1) := by decide +kernel
theorem dX12_areOpposite_17 : decode cX12_areOpposite 17 = .ok (.getfield 43, 3) := by decide +kernel
theorem dX12_areOpposite_20 : decode cX12_areOpposite 20 = .ok (.iload_n 1, 1) := by decide +kernel
theorem dX12_areOpposite_21 : decode cX12_areOpposite 21 = .ok (.iaload, 1) := by decide +kernel
theorem dX12_areOpposite_22 : decode cX12_areOpposite 22 = .ok (.aload_n 0, 1) := by decide +kernel
theorem dX12_areOpposite_23 : decode cX12_areOpposite 23 = .ok (.getfield 43, 3) := by decide +kernel
theorem dX12_areOpposite_26 : decode cX12_areOpposite 26 = .ok (.iload_n 2, 1) := by decide +kernel
theorem dX12_areOpposite_27 : decode cX12_areOpposite 27 = .ok (.iaload, 1) := by decide +kernel
theorem dX12_areOpposite_28 : decode cX12_areOpposite 28 = .ok (.iadd, 1) := by decide +kernel
theorem dX12_areOpposite_29 : decode cX12_areOpposite 29 = .ok (.ifCond .ne 7, 3) := by decide +kernel
theorem dX12_areOpposite_32 : decode cX12_areOpposite 32 = .ok (.iconst 1, 1) := by decide +kernel
theorem dX12_areOpposite_33 : decode cX12_areOpposite 33 = .ok (.goto 4, 3) := by decide +kernel
theorem dX12_areOpposite_36 : decode cX12_areOpposite 36 = .ok (.iconst 0, 1) := by decide +kernel
theorem dX12_areOpposite_37 : decode cX12_areOpposite 37 = .ok (.ireturn, 1) := by decide +kernel
theorem dX12_back_0 : decode cX12_back 0 = .ok (.aload_n 0, 1) := by decide +kernel
theorem dX12_back_1 : decode cX12_back 1 = .ok (.iconst 0, 1) := by decide +kernel
theorem dX12_back_2 : decode cX12_back 2 = .ok (.putfield 86, 3) := by decide +kernel
theorem dX12_back_5 : decode cX12_back 5 = .ok (.aload_n 0, 1) := by decide +kernel
theorem dX12_back_6 : decode cX12_back 6 = .ok (.getfield 232, 3) := by decide +kernel
theorem dX12_back_9 : decode cX12_back 9 = .ok (.ifCond .ne 5, 3) := by decide +kernel
theorem dX12_back_12 : decode cX12_back 12 = .ok (.iconst (-1), 1) := by decide +kernel
theorem dX12_back_13 : decode cX12_back 13 = .ok (.ireturn, 1) := by decide +kernel
theorem dX12_back_14 : decode cX12_back 14 = .ok (.iconst 0, 1) := by decide +kernel
theorem dX12_back_15 : decode cX12_back 15 = .ok (.istore_n 1, 1) := by decide +kernel
theorem dX12_back_16 : decode cX12_back 16 = .ok (.iload_n 1, 1) := by decide +kernel
theorem dX12_back_17 : decode cX12_back 17 = .ok (.sipush 486, 3) := by decide +kernel
theorem dX12_back_20 : decode cX12_back 20 = .ok (.if_icmp .ge 21, 3) := by decide +kernel
theorem dX12_back_23 : decode cX12_back 23 = .ok (.aload_n 0, 1) := by decide +kernel
theorem dX12_back_24 : decode cX12_back 24 = .ok (.getfield 28, 3) := by decide +kernel
theorem dX12_back_27 : decode cX12_back 27 = .ok (.iload_n 1, 1) := by decide +kernel
theorem dX12_back_28 : decode cX12_back 28 = .ok (.aload_n 0, 1) := by decide +kernel
theorem dX12_back_29 : decode cX12_back 29 = .ok (.getfield 83, 3) := by decide +kernel
theorem dX12_back_32 : decode cX12_back 32 = .ok (.iload_n 1, 1) := by decide +kernel
theorem dX12_back_33 : decode cX12_back 33 = .ok (.iaload, 1) := by decide +kernel
theorem dX12_back_34 : decode cX12_back 34 = .ok (.iastore, 1) := by decide +kernel
theorem dX12_back_35 : decode cX12_back 35 = .ok (.iinc 1 1, 3) := by decide +kernel
theorem dX12_back_38 : decode cX12_back 38 = .ok (.goto (-22), 3) := by decide +kernel
theorem dX12_back_41 : decode cX12_back 41 = .ok (.aload_n 0, 1) := by decide +kernel
theorem dX12_back_42 : decode cX12_back 42 = .ok (.iconst 0, 1) := by decide +kernel
theorem dX12_back_43 : decode cX12_back 43 = .ok (.putfield 229, 3) := by decide +kernel
theorem dX12_back_46 : decode cX12_back 46 = .ok (.aload_n 0, 1) := by decide +kernel
theorem dX12_back_47 : decode cX12_back 47 = .ok (.getfield 28, 3) := by decide +kernel
theorem dX12_back_50 : decode cX12_back 50 = .ok (.sipush 325, 3) := by decide +kernel
theorem dX12_back_53 : decode cX12_back 53 = .ok (.iaload, 1) := by decide +kernel
theorem dX12_back_54 : decode cX12_back 54 = .ok (.ireturn, 1) := by decide +kernel
theorem dX12_bad_0 : decode cX12_bad 0 = .ok (.aload_n 0, 1) := by decide +kernel
theorem dX12_bad_1 : decode cX12_bad 1 = .ok (.aload_n 0, 1) := by decide +kernel
theorem dX12_bad_2 : decode cX12_bad 2 = .ok (.getfield 134, 3) := by decide +kernel
theorem dX12_bad_5 : decode cX12_bad 5 = .ok (.iconst (-1), 1) := by decide +kernel
theorem dX12_bad_6 : decode cX12_bad 6 = .ok (.if_icmp .ne 10, 3) := by decide +kernel
theorem dX12_bad_9 : decode cX12_bad 9 = .ok (.aload_n 0, 1) := by decide +kernel
theorem dX12_bad_10 : decode cX12_bad 10 = .ok (.getfield 108, 3) := by decide +kernel
theorem dX12_bad_13 : decode cX12_bad 13 = .ok (.goto 7, 3) := by decide +kernel
theorem dX12_bad_16 : decode cX12_bad 16 = .ok (.aload_n 0, 1) := by decide +kernel
theorem dX12_bad_17 : decode cX12_bad 17 = .ok (.getfield 134, 3) := by decide +kernel
theorem dX12_bad_20 : decode cX12_bad 20 = .ok (.putfield 134, 3) := by decide +kernel
theorem dX12_bad_23 : decode cX12_bad 23 = .ok (.return_, 1) := by decide +kernel
theorem dX12_box_0 : decode cX12_box 0 = .ok (.aload_n 0, 1) := by decide +kernel
theorem dX12_box_1 : decode cX12_box 1 = .ok (.iconst 0, 1) := by decide +kernel
theorem dX12_box_2 : decode cX12_box 2 = .ok (.putfield 86, 3) := by decide +kernel
theorem dX12_box_5 : decode cX12_box 5 = .ok (.aload_n 0, 1) := by decide +kernel
theorem dX12_box_6 : decode cX12_box 6 = .ok (.invokevirtual 306, 3) := by decide +kernel
theorem dX12_box_9 : decode cX12_box 9 = .ok (.ifCond .eq 46, 3) := by decide +kernel
theorem dX12_box_12 : decode cX12_box 12 = .ok (.aload_n 0, 1) := by decide +kernel
theorem dX12_box_13 : decode cX12_box 13 = .ok (.iload_n 1, 1) := by decide +kernel
theorem dX12_box_14 : decode cX12_box 14 = .ok (.iload_n 2, 1) := by decide +kernel
theorem dX12_box_15 : decode cX12_box 15 = .ok (.invokevirtual 215, 3) := by decide +kernel
theorem dX12_box_18 : decode cX12_box 18 = .ok (.ifCond .eq 37, 3) := by decide +kernel
theorem dX12_box_21 : decode cX12_box 21 = .ok (.aload_n 0, 1) := by decide +kernel
theorem dX12_box_22 : decode cX12_box 22 = .ok (.iload_n 3, 1) := by decide +kernel
theorem dX12_box_23 : decode cX12_box 23 = .ok (.iload 4, 2) := by decide +kernel
theorem dX12_box_25 : decode cX12_box 25 = .ok (.invokevirtual 215, 3) := by decide +kernel
theorem dX12_box_28 : decode cX12_box 28 = .ok (.ifCond .eq 27, 3) := by decide +kernel
theorem dX12_box_31 : decode cX12_box 31 = .ok (.iload_n 1, 1) := by decide +kernel
theorem dX12_box_32 : decode cX12_box 32 = .ok (.iload_n 3, 1) := by decide +kernel
theorem dX12_box_33 : decode cX12_box 33 = .ok (.if_icmp .ge 22, 3) := by decide +kernel
theorem dX12_box_36 : decode cX12_box 36 = .ok (.iload_n 2, 1) := by decide +kernel
theorem dX12_box_37 : decode cX12_box 37 = .ok (.iload 4, 2) := by decide +kernel
theorem dX12_box_39 : decode cX12_box 39 = .ok (.if_icmp .ge 16, 3) := by decide +kernel
theorem dX12_box_42 : decode cX12_box 42 = .ok (.iload 5, 2) := by decide +kernel
theorem dX12_box_44 : decode cX12_box 44 = .ok (.i2l, 1) := by decide +kernel
theorem dX12_box_45 : decode cX12_box 45 = .ok (.lconst 0, 1) := by decide +kernel
theorem dX12_box_46 : decode cX12_box 46 = .ok (.ldc2_w 291, 3) := by decide +kernel
theorem dX12_box_49 : decode cX12_box 49 = .ok (.invokestatic 97, 3) := by decide +kernel
theorem dX12_box_52 : decode cX12_box 52 = .ok (.ifCond .ne 7, 3) := by decide +kernel
theorem dX12_box_55 : decode cX12_box 55 = .ok (.ldc_w 310, 3) := by decide +kernel
theorem dX12_box_58 : decode cX12_box 58 = .ok (.ireturn, 1) := by decide +kernel
theorem dX12_box_59 : decode cX12_box 59 = .ok (.iload 5, 2) := by decide +kernel
theorem dX12_box_61 : decode cX12_box 61 = .ok (.iconst 2, 1) := by decide +kernel
theorem dX12_box_62 : decode cX12_box 62 = .ok (.if_icmp .ge 17, 3) := by decide +kernel
theorem dX12_box_65 : decode cX12_box 65 = .ok (.aload_n 0, 1) := by decide +kernel
theorem dX12_box_66 : decode cX12_box 66 = .ok (.iload_n 1, 1) := by decide +kernel
theorem dX12_box_67 : decode cX12_box 67 = .ok (.iload_n 2, 1) := by decide +kernel
theorem dX12_box_68 : decode cX12_box 68 = .ok (.iload_n 3, 1) := by decide +kernel
theorem dX12_box_69 : decode cX12_box 69 = .ok (.iload 4, 2) := by decide +kernel
theorem dX12_box_71 : decode cX12_box 71 = .ok (.iload 5, 2) := by decide +kernel
theorem dX12_box_73 : decode cX12_box 73 = .ok (.invokevirtual 314, 3) := by decide +kernel
theorem dX12_box_76 : decode cX12_box 76 = .ok (.goto 31, 3) := by decide +kernel
theorem dX12_box_79 : decode cX12_box 79 = .ok (.iload 5, 2) := by decide +kernel
theorem dX12_box_81 : decode cX12_box 81 = .ok (.iconst 2, 1) := by decide +kernel
theorem dX12_box_82 : decode cX12_box 82 = .ok (.if_icmp .ne 15, 3) := by decide +kernel
theorem dX12_box_85 : decode cX12_box 85 = .ok (.aload_n 0, 1) := by decide +kernel
theorem dX12_box_86 : decode cX12_box 86 = .ok (.iload_n 1, 1) := by decide +kernel
theorem dX12_box_87 : decode cX12_box 87 = .ok (.iload_n 2, 1) := by decide +kernel
theorem dX12_box_88 : decode cX12_box 88 = .ok (.iload_n 3, 1) := by decide +kernel
theorem dX12_box_89 : decode cX12_box 89 = .ok (.iload 4, 2) := by decide +kernel
theorem dX12_box_91 : decode cX12_box 91 = .ok (.invokevirtual 334, 3) := by decide +kernel
theorem dX12_box_94 : decode cX12_box 94 = .ok (.goto 13, 3) := by decide +kernel
theorem dX12_box_97 : decode cX12_box 97 = .ok (.iconst 2, 1) := by decide +kernel
theorem dX12_box_98 : decode cX12_box 98 = .ok (.iload_n 3, 1) := by decide +kernel
theorem dX12_box_99 : decode cX12_box 99 = .ok (.iload_n 1, 1) := by decide +kernel
theorem dX12_box_100 : decode cX12_box 100 = .ok (.isub, 1) := by decide +kernel
theorem dX12_box_101 : decode cX12_box 101 = .ok (.iload 4, 2) := by decide +kernel
theorem dX12_box_103 : decode cX12_box 103 = .ok (.iadd, 1) := by decide +kernel
theorem dX12_box_104 : decode cX12_box 104 = .ok (.iload_n 2, 1) := by decide +kernel
theorem dX12_box_105 : decode cX12_box 105 = .ok (.isub, 1) := by decide +kernel
theorem dX12_box_106 : decode cX12_box 106 = .ok (.imul, 1) := by decide +kernel
theorem dX12_box_107 : decode cX12_box 107 = .ok (.ireturn, 1) := by decide +kernel
theorem dX12_boxed_0 : decode cX12_boxed 0 = .ok (.aload_n 0, 1) := by decide +kernel
theorem dX12_boxed_1 : decode cX12_boxed 1 = .ok (.getfield 59, 3) := by decide +kernel
theorem dX12_boxed_4 : decode cX12_boxed 4 = .ok (.iconst 4, 1) := by decide +kernel
theorem dX12_boxed_5 : decode cX12_boxed 5 = .ok (.aload_n 0, 1) := by decide +kernel
theorem dX12_boxed_6 : decode cX12_boxed 6 = .ok (.getfield 338, 3) := by decide +kernel
theorem dX12_boxed_9 : decode cX12_boxed 9 = .ok (.imul, 1) := by decide +kernel
theorem dX12_boxed_10 : decode cX12_boxed 10 = .ok (.iload_n 1, 1) := by decide +kernel
theorem dX12_boxed_11 : decode cX12_boxed 11 = .ok (.iastore, 1) := by decide +kernel
theorem dX12_boxed_12 : decode cX12_boxed 12 = .ok (.aload_n 0, 1) := by decide +kernel
theorem dX12_boxed_13 : decode cX12_boxed 13 = .ok (.getfield 59, 3) := by decide +kernel
theorem dX12_boxed_16 : decode cX12_boxed 16 = .ok (.iconst 4, 1) := by decide +kernel
theorem dX12_boxed_17 : decode cX12_boxed 17 = .ok (.aload_n 0, 1) := by decide +kernel
theorem dX12_boxed_18 : decode cX12_boxed 18 = .ok (.getfield 338, 3) := by decide +kernel
theorem dX12_boxed_21 : decode cX12_boxed 21 = .ok (.imul, 1) := by decide +kernel
theorem dX12_boxed_22 : decode cX12_boxed 22 = .ok (.iconst 1, 1) := by decide +kernel
theorem dX12_boxed_23 : decode cX12_boxed 23 = .ok (.iadd, 1) := by decide +kernel
theorem dX12_boxed_24 : decode cX12_boxed 24 = .ok (.iload_n 2, 1) := by decide +kernel
theorem dX12_boxed_25 : decode cX12_boxed 25 = .ok (.iastore, 1) := by decide +kernel
theorem dX12_boxed_26 : decode cX12_boxed 26 = .ok (.aload_n 0, 1) := by decide +kernel
theorem dX12_boxed_27 : decode cX12_boxed 27 = .ok (.getfield 59, 3) := by decide +kernel
theorem dX12_boxed_30 : decode cX12_boxed 30 = .ok (.iconst 4, 1) := by decide +kernel
theorem dX12_boxed_31 : decode cX12_boxed 31 = .ok (.aload_n 0, 1) := by decide +kernel
theorem dX12_boxed_32 : decode cX12_boxed 32 = .ok (.getfield 338, 3) := by decide +kernel
theorem dX12_boxed_35 : decode cX12_boxed 35 = .ok (.imul, 1) := by decide +kernel
theorem dX12_boxed_36 : decode cX12_boxed 36 = .ok (.iconst 2, 1) := by decide +kernel
theorem dX12_boxed_37 : decode cX12_boxed 37 = .ok (.iadd, 1) := by decide +kernel
theorem dX12_boxed_38 : decode cX12_boxed 38 = .ok (.iload_n 3, 1) := by decide +kernel
theorem dX12_boxed_39 : decode cX12_boxed 39 = .ok (.iastore, 1) := by decide +kernel
theorem dX12_boxed_40 : decode cX12_boxed 40 = .ok (.aload_n 0, 1) := by decide +kernel
theorem dX12_boxed_41 : decode cX12_boxed 41 = .ok (.getfield 59, 3) := by decide +kernel
theorem dX12_boxed_44 : decode cX12_boxed 44 = .ok (.iconst 4, 1) := by decide +kernel
theorem dX12_boxed_45 : decode cX12_boxed 45 = .ok (.aload_n 0, 1) := by decide +kernel
theorem dX12_boxed_46 : decode cX12_boxed 46 = .ok (.getfield 338, 3) := by decide +kernel
theorem dX12_boxed_49 : decode cX12_boxed 49 = .ok (.imul, 1) := by decide +kernel
theorem dX12_boxed_50 : decode cX12_boxed 50 = .ok (.iconst 3, 1) := by decide +kernel
theorem dX12_boxed_51 : decode cX12_boxed 51 = .ok (.iadd, 1) := by decide +kernel
theorem dX12_boxed_52 : decode cX12_boxed 52 = .ok (.iload 4, 2) := by decide +kernel
theorem dX12_boxed_54 : decode cX12_boxed 54 = .ok (.iastore, 1) := by decide +kernel
theorem dX12_boxed_55 : decode cX12_boxed 55 = .ok (.aload_n 0, 1) := by decide +kernel
theorem dX12_boxed_56 : decode cX12_boxed 56 = .ok (.dup, 1) := by decide +kernel
theorem dX12_boxed_57 : decode cX12_boxed 57 = .ok (.getfield 338, 3) := by decide +kernel
theorem dX12_boxed_60 : decode cX12_boxed 60 = .ok (.iconst 1, 1) := by decide +kernel
theorem dX12_boxed_61 : decode cX12_boxed 61 = .ok (.iadd, 1) := by decide +kernel
theorem dX12_boxed_62 : decode cX12_boxed 62 = .ok (.putfield 338, 3) := by decide +kernel
theorem dX12_boxed_65 : decode cX12_boxed 65 = .ok (.return_, 1) := by decide +kernel
theorem dX12_byteOf_0 : decode cX12_byteOf 0 = .ok (.iload 5, 2) := by decide +kernel
theorem dX12_byteOf_2 : decode cX12_byteOf 2 = .ok (.iconst 4, 1) := by decide +kernel
theorem dX12_byteOf_3 : decode cX12_byteOf 3 = .ok (.if_icmp .ge 7, 3) := by decide +kernel
theorem dX12_byteOf_6 : decode cX12_byteOf 6 = .ok (.iload_n 0, 1) := by decide +kernel
theorem dX12_byteOf_7 : decode cX12_byteOf 7 = .ok (.goto 38, 3) := by decide +kernel
theorem dX12_byteOf_10 : decode cX12_byteOf 10 = .ok (.iload 5, 2) := by decide +kernel
theorem dX12_byteOf_12 : decode cX12_byteOf 12 = .ok (.bipush 8, 2) := by decide +kernel
theorem dX12_byteOf_14 : decode cX12_byteOf 14 = .ok (.if_icmp .ge 7, 3) := by decide +kernel
theorem dX12_byteOf_17 : decode cX12_byteOf 17 = .ok (.iload_n 1, 1) := by decide +kernel
theorem dX12_byteOf_18 : decode cX12_byteOf 18 = .ok (.goto 27, 3) := by decide +kernel
theorem dX12_byteOf_21 : decode cX12_byteOf 21 = .ok (.iload 5, 2) := by decide +kernel
theorem dX12_byteOf_23 : decode cX12_byteOf 23 = .ok (.bipush 12, 2) := by decide +kernel
theorem dX12_byteOf_25 : decode cX12_byteOf 25 = .ok (.if_icmp .ge 7, 3) := by decide +kernel
theorem dX12_byteOf_28 : decode cX12_byteOf 28 = .ok (.iload_n 2, 1) := by decide +kernel
theorem dX12_byteOf_29 : decode cX12_byteOf 29 = .ok (.goto 16, 3) := by decide +kernel
theorem dX12_byteOf_32 : decode cX12_byteOf 32 = .ok (.iload 5, 2) := by decide +kernel
theorem dX12_byteOf_34 : decode cX12_byteOf 34 = .ok (.bipush 16, 2) := by decide +kernel
theorem dX12_byteOf_36 : decode cX12_byteOf 36 = .ok (.if_icmp .ge 7, 3) := by decide +kernel
theorem dX12_byteOf_39 : decode cX12_byteOf 39 = .ok (.iload_n 3, 1) := by decide +kernel
theorem dX12_byteOf_40 : decode cX12_byteOf 40 = .ok (.goto 5, 3) := by decide +kernel
theorem dX12_byteOf_43 : decode cX12_byteOf 43 = .ok (.iload 4, 2) := by decide +kernel
theorem dX12_byteOf_45 : decode cX12_byteOf 45 = .ok (.istore 6, 2) := by decide +kernel
theorem dX12_byteOf_47 : decode cX12_byteOf 47 = .ok (.iload 6, 2) := by decide +kernel
theorem dX12_byteOf_49 : decode cX12_byteOf 49 = .ok (.bipush 24, 2) := by decide +kernel
theorem dX12_byteOf_51 : decode cX12_byteOf 51 = .ok (.bipush 8, 2) := by decide +kernel
theorem dX12_byteOf_53 : decode cX12_byteOf 53 = .ok (.iload 5, 2) := by decide +kernel
theorem dX12_byteOf_55 : decode cX12_byteOf 55 = .ok (.iconst 4, 1) := by decide +kernel
theorem dX12_byteOf_56 : decode cX12_byteOf 56 = .ok (.irem, 1) := by decide +kernel
theorem dX12_byteOf_57 : decode cX12_byteOf 57 = .ok (.imul, 1) := by decide +kernel
theorem dX12_byteOf_58 : decode cX12_byteOf 58 = .ok (.isub, 1) := by decide +kernel
theorem dX12_byteOf_59 : decode cX12_byteOf 59 = .ok (.ishr, 1) := by decide +kernel
theorem dX12_byteOf_60 : decode cX12_byteOf 60 = .ok (.sipush 255, 3) := by decide +kernel
theorem dX12_byteOf_63 : decode cX12_byteOf 63 = .ok (.iand, 1) := by decide +kernel
theorem dX12_byteOf_64 : decode cX12_byteOf 64 = .ok (.ireturn, 1) := by decide +kernel
theorem dX12_canBe_0 : decode cX12_canBe 0 = .ok (.iload_n 0, 1) := by decide +kernel
theorem dX12_canBe_1 : decode cX12_canBe 1 = .ok (.iconst 2, 1) := by decide +kernel
theorem dX12_canBe_2 : decode cX12_canBe 2 = .ok (.if_icmp .ne 15, 3) := by decide +kernel
theorem dX12_canBe_5 : decode cX12_canBe 5 = .ok (.iload_n 1, 1) := by decide +kernel
theorem dX12_canBe_6 : decode cX12_canBe 6 = .ok (.i2l, 1) := by decide +kernel
theorem dX12_canBe_7 : decode cX12_canBe 7 = .ok (.lconst 0, 1) := by decide +kernel
theorem dX12_canBe_8 : decode cX12_canBe 8 = .ok (.ldc2_w 412, 3) := by decide +kernel
theorem dX12_canBe_11 : decode cX12_canBe 11 = .ok (.invokestatic 97, 3) := by decide +kernel
theorem dX12_canBe_14 : decode cX12_canBe 14 = .ok (.goto 31, 3) := by decide +kernel
theorem dX12_canBe_17 : decode cX12_canBe 17 = .ok (.iload_n 0, 1) := by decide +kernel
theorem dX12_canBe_18 : decode cX12_canBe 18 = .ok (.iconst 3, 1) := by decide +kernel
theorem dX12_canBe_19 : decode cX12_canBe 19 = .ok (.if_icmp .ne 15, 3) := by decide +kernel
theorem dX12_canBe_22 : decode cX12_canBe 22 = .ok (.iload_n 1, 1) := by decide +kernel
theorem dX12_canBe_23 : decode cX12_canBe 23 = .ok (.i2l, 1) := by decide +kernel
theorem dX12_canBe_24 : decode cX12_canBe 24 = .ok (.lconst 0, 1) := by decide +kernel
theorem dX12_canBe_25 : decode cX12_canBe 25 = .ok (.ldc2_w 329, 3) := by decide +kernel
theorem dX12_canBe_28 : decode cX12_canBe 28 = .ok (.invokestatic 97, 3) := by decide +kernel
theorem dX12_canBe_31 : decode cX12_canBe 31 = .ok (.goto 14, 3) := by decide +kernel
theorem dX12_canBe_34 : decode cX12_canBe 34 = .ok (.iload_n 1, 1) := by decide +kernel
theorem dX12_canBe_35 : decode cX12_canBe 35 = .ok (.i2l, 1) := by decide +kernel
theorem dX12_canBe_36 : decode cX12_canBe 36 = .ok (.ldc2_w 414, 3) := by decide +kernel
theorem dX12_canBe_39 : decode cX12_canBe 39 = .ok (.ldc2_w 416, 3) := by decide +kernel
theorem dX12_canBe_42 : decode cX12_canBe 42 = .ok (.invokestatic 97, 3) := by decide +kernel
theorem dX12_canBe_45 : decode cX12_canBe 45 = .ok (.ireturn, 1) := by decide +kernel
theorem dX12_changes_0 : decode cX12_changes 0 = .ok (.aload_n 0, 1) := by decide +kernel
theorem dX12_changes_1 : decode cX12_changes 1 = .ok (.getfield 28, 3) := by decide +kernel
theorem dX12_changes_4 : decode cX12_changes 4 = .ok (.iload_n 1, 1) := by decide +kernel
theorem dX12_changes_5 : decode cX12_changes 5 = .ok (.iload_n 2, 1) := by decide +kernel
theorem dX12_changes_6 : decode cX12_changes 6 = .ok (.iload_n 3, 1) := by decide +kernel
theorem dX12_changes_7 : decode cX12_changes 7 = .ok (.iconst 0, 1) := by decide +kernel
theorem dX12_changes_8 : decode cX12_changes 8 = .ok (.invokestatic 211, 3) := by decide +kernel
theorem dX12_changes_11 : decode cX12_changes 11 = .ok (.dup2, 1) := by decide +kernel
theorem dX12_changes_12 : decode cX12_changes 12 = .ok (.iaload, 1) := by decide +kernel
theorem dX12_changes_13 : decode cX12_changes 13 = .ok (.iload 4, 2) := by decide +kernel
theorem dX12_changes_15 : decode cX12_changes 15 = .ok (.iadd, 1) := by decide +kernel
theorem dX12_changes_16 : decode cX12_changes 16 = .ok (.iastore, 1) := by decide +kernel
theorem dX12_changes_17 : decode cX12_changes 17 = .ok (.aload_n 0, 1) := by decide +kernel
theorem dX12_changes_18 : decode cX12_changes 18 = .ok (.getfield 28, 3) := by decide +kernel
theorem dX12_changes_21 : decode cX12_changes 21 = .ok (.iload_n 1, 1) := by decide +kernel
theorem dX12_changes_22 : decode cX12_changes 22 = .ok (.iload_n 2, 1) := by decide +kernel
theorem dX12_changes_23 : decode cX12_changes 23 = .ok (.iload_n 3, 1) := by decide +kernel
theorem dX12_changes_24 : decode cX12_changes 24 = .ok (.iconst 1, 1) := by decide +kernel
theorem dX12_changes_25 : decode cX12_changes 25 = .ok (.invokestatic 211, 3) := by decide +kernel
theorem dX12_changes_28 : decode cX12_changes 28 = .ok (.dup2, 1) := by decide +kernel
theorem dX12_changes_29 : decode cX12_changes 29 = .ok (.iaload, 1) := by decide +kernel
theorem dX12_changes_30 : decode cX12_changes 30 = .ok (.iload 5, 2) := by decide +kernel
theorem dX12_changes_32 : decode cX12_changes 32 = .ok (.iadd, 1) := by decide +kernel
theorem dX12_changes_33 : decode cX12_changes 33 = .ok (.iastore, 1) := by decide +kernel
theorem dX12_changes_34 : decode cX12_changes 34 = .ok (.return_, 1) := by decide +kernel
theorem dX12_core_0 : decode cX12_core 0 = .ok (.aload_n 0, 1) := by decide +kernel
theorem dX12_core_1 : decode cX12_core 1 = .ok (.invokevirtual 238, 3) := by decide +kernel
theorem dX12_core_4 : decode cX12_core 4 = .ok (.pop, 1) := by decide +kernel
theorem dX12_core_5 : decode cX12_core 5 = .ok (.aload_n 0, 1) := by decide +kernel
theorem dX12_core_6 : decode cX12_core 6 = .ok (.aload_n 0, 1) := by decide +kernel
theorem dX12_core_7 : decode cX12_core 7 = .ok (.invokevirtual 306, 3) := by decide +kernel
theorem dX12_core_10 : decode cX12_core 10 = .ok (.ifCond .eq 35, 3) := by decide +kernel
theorem dX12_core_13 : decode cX12_core 13 = .ok (.iload_n 1, 1) := by decide +kernel
theorem dX12_core_14 : decode cX12_core 14 = .ok (.i2l, 1) := by decide +kernel
theorem dX12_core_15 : decode cX12_core 15 = .ok (.lconst 0, 1) := by decide +kernel
theorem dX12_core_16 : decode cX12_core 16 = .ok (.aload_n 0, 1) := by decide +kernel
theorem dX12_core_17 : decode cX12_core 17 = .ok (.getfield 241, 3) := by decide +kernel
theorem dX12_core_20 : decode cX12_core 20 = .ok (.iconst 1, 1) := by decide +kernel
theorem dX12_core_21 : decode cX12_core 21 = .ok (.isub, 1) := by decide +kernel
theorem dX12_core_22 : decode cX12_core 22 = .ok (.i2l, 1) := by decide +kernel
theorem dX12_core_23 : decode cX12_core 23 = .ok (.invokestatic 97, 3) := by decide +kernel
theorem dX12_core_26 : decode cX12_core 26 = .ok (.ifCond .eq 19, 3) := by decide +kernel
theorem dX12_core_29 : decode cX12_core 29 = .ok (.iload_n 2, 1) := by decide +kernel
theorem dX12_core_30 : decode cX12_core 30 = .ok (.i2l, 1) := by decide +kernel
theorem dX12_core_31 : decode cX12_core 31 = .ok (.lconst 0, 1) := by decide +kernel
theorem dX12_core_32 : decode cX12_core 32 = .ok (.ldc2_w 327, 3) := by decide +kernel
theorem dX12_core_35 : decode cX12_core 35 = .ok (.invokestatic 97, 3) := by decide +kernel
theorem dX12_core_38 : decode cX12_core 38 = .ok (.ifCond .eq 7, 3) := by decide +kernel
theorem dX12_core_41 : decode cX12_core 41 = .ok (.iconst 0, 1) := by decide +kernel
theorem dX12_core_42 : decode cX12_core 42 = .ok (.goto 4, 3) := by decide +kernel
theorem dX12_core_45 : decode cX12_core 45 = .ok (.iconst 1, 1) := by decide +kernel
theorem dX12_core_46 : decode cX12_core 46 = .ok (.putfield 86, 3) := by decide +kernel
theorem dX12_core_49 : decode cX12_core 49 = .ok (.aload_n 0, 1) := by decide +kernel
theorem dX12_core_50 : decode cX12_core 50 = .ok (.getfield 86, 3) := by decide +kernel
theorem dX12_core_53 : decode cX12_core 53 = .ok (.iconst 1, 1) := by decide +kernel
theorem dX12_core_54 : decode cX12_core 54 = .ok (.if_icmp .ne 5, 3) := by decide +kernel
theorem dX12_core_57 : decode cX12_core 57 = .ok (.iconst 0, 1) := by decide +kernel
theorem dX12_core_58 : decode cX12_core 58 = .ok (.ireturn, 1) := by decide +kernel
theorem dX12_core_59 : decode cX12_core 59 = .ok (.iload_n 2, 1) := by decide +kernel
theorem dX12_core_60 : decode cX12_core 60 = .ok (.tableswitch 70 0 4 #[36, 43, 50, 57, 64], 36) := by decide +kernel
theorem dX12_core_96 : decode cX12_core 96 = .ok (.aload_n 0, 1) := by decide +kernel
theorem dX12_core_97 : decode cX12_core 97 = .ok (.getfield 34, 3) := by decide +kernel
theorem dX12_core_100 : decode cX12_core 100 = .ok (.iload_n 1, 1) := by decide +kernel
theorem dX12_core_101 : decode cX12_core 101 = .ok (.iaload, 1) := by decide +kernel
theorem dX12_core_102 : decode cX12_core 102 = .ok (.ireturn, 1) := by decide +kernel
theorem dX12_core_103 : decode cX12_core 103 = .ok (.aload_n 0, 1) := by decide +kernel
theorem dX12_core_104 : decode cX12_core 104 = .ok (.getfield 37, 3) := by decide +kernel
theorem dX12_core_107 : decode cX12_core 107 = .ok (.iload_n 1, 1) := by decide +kernel
theorem dX12_core_108 : decode cX12_core 108 = .ok (.iaload, 1) := by decide +kernel
theorem dX12_core_109 : decode cX12_core 109 = .ok (.ireturn, 1) := by decide +kernel
theorem dX12_core_110 : decode cX12_core 110 = .ok (.aload_n 0, 1) := by decide +kernel
theorem dX12_core_111 : decode cX12_core 111 = .ok (.getfield 40, 3) := by decide +kernel
theorem dX12_core_114 : decode cX12_core 114 = .ok (.iload_n 1, 1) := by decide +kernel
theorem dX12_core_115 : decode cX12_core 115 = .ok (.iaload, 1) := by decide +kernel
theorem dX12_core_116 : decode cX12_core 116 = .ok (.ireturn, 1) := by decide +kernel
theorem dX12_core_117 : decode cX12_core 117 = .ok (.aload_n 0, 1) := by decide +kernel
theorem dX12_core_118 : decode cX12_core 118 = .ok (.getfield 43, 3) := by decide +kernel
theorem dX12_core_121 : decode cX12_core 121 = .ok (.iload_n 1, 1) := by decide +kernel
theorem dX12_core_122 : decode cX12_core 122 = .ok (.iaload, 1) := by decide +kernel
theorem dX12_core_123 : decode cX12_core 123 = .ok (.ireturn, 1) := by decide +kernel
theorem dX12_core_124 : decode cX12_core 124 = .ok (.aload_n 0, 1) := by decide +kernel
theorem dX12_core_125 : decode cX12_core 125 = .ok (.iload_n 1, 1) := by decide +kernel
theorem dX12_core_126 : decode cX12_core 126 = .ok (.invokevirtual 269, 3) := by decide +kernel
theorem dX12_core_129 : decode cX12_core 129 = .ok (.ireturn, 1) := by decide +kernel
theorem dX12_core_130 : decode cX12_core 130 = .ok (.aload_n 0, 1) := by decide +kernel
theorem dX12_core_131 : decode cX12_core 131 = .ok (.getfield 46, 3) := by decide +kernel
theorem dX12_core_134 : decode cX12_core 134 = .ok (.iload_n 1, 1) := by decide +kernel
theorem dX12_core_135 : decode cX12_core 135 = .ok (.iaload, 1) := by decide +kernel
theorem dX12_core_136 : decode cX12_core 136 = .ok (.ireturn, 1) := by decide +kernel
theorem dX12_coreOf_0 : decode cX12_coreOf 0 = .ok (.iconst 0, 1) := by decide +kernel
theorem dX12_coreOf_1 : decode cX12_coreOf 1 = .ok (.istore_n 3, 1) := by decide +kernel
theorem dX12_coreOf_2 : decode cX12_coreOf 2 = .ok (.iload_n 3, 1) := by decide +kernel
theorem dX12_coreOf_3 : decode cX12_coreOf 3 = .ok (.aload_n 0, 1) := by decide +kernel
theorem dX12_coreOf_4 : decode cX12_coreOf 4 = .ok (.getfield 241, 3) := by decide +kernel
theorem dX12_coreOf_7 : decode cX12_coreOf 7 = .ok (.if_icmp .ge 31, 3) := by decide +kernel
theorem dX12_coreOf_10 : decode cX12_coreOf 10 = .ok (.aload_n 0, 1) := by decide +kernel
theorem dX12_coreOf_11 : decode cX12_coreOf 11 = .ok (.getfield 34, 3) := by decide +kernel
theorem dX12_coreOf_14 : decode cX12_coreOf 14 = .ok (.iload_n 3, 1) := by decide +kernel
theorem dX12_coreOf_15 : decode cX12_coreOf 15 = .ok (.iaload, 1) := by decide +kernel
theorem dX12_coreOf_16 : decode cX12_coreOf 16 = .ok (.iload_n 1, 1) := by decide +kernel
theorem dX12_coreOf_17 : decode cX12_coreOf 17 = .ok (.if_icmp .ne 15, 3) := by decide +kernel
theorem dX12_coreOf_20 : decode cX12_coreOf 20 = .ok (.aload_n 0, 1) := by decide +kernel
theorem dX12_coreOf_21 : decode cX12_coreOf 21 = .ok (.getfield 37, 3) := by decide +kernel
theorem dX12_coreOf_24 : decode cX12_coreOf 24 = .ok (.iload_n 3, 1) := by decide +kernel
theorem dX12_coreOf_25 : decode cX12_coreOf 25 = .ok (.iaload, 1) := by decide +kernel
theorem dX12_coreOf_26 : decode cX12_coreOf 26 = .ok (.iload_n 2, 1) := by decide +kernel
theorem dX12_coreOf_27 : decode cX12_coreOf 27 = .ok (.if_icmp .ne 5, 3) := by decide +kernel
theorem dX12_coreOf_30 : decode cX12_coreOf 30 = .ok (.iload_n 3, 1) := by decide +kernel
theorem dX12_coreOf_31 : decode cX12_coreOf 31 = .ok (.ireturn, 1) := by decide +kernel
theorem dX12_coreOf_32 : decode cX12_coreOf 32 = .ok (.iinc 3 1, 3) := by decide +kernel
theorem dX12_coreOf_35 : decode cX12_coreOf 35 = .ok (.goto (-33), 3) := by decide +kernel
theorem dX12_coreOf_38 : decode cX12_coreOf 38 = .ok (.iconst (-1), 1) := by decide +kernel
theorem dX12_coreOf_39 : decode cX12_coreOf 39 = .ok (.ireturn, 1) := by decide +kernel
theorem dX12_coresBehind_0 : decode cX12_coresBehind 0 = .ok (.iload_n 1, 1) := by decide +kernel
theorem dX12_coresBehind_1 : decode cX12_coresBehind 1 = .ok (.iload_n 3, 1) := by decide +kernel
theorem dX12_coresBehind_2 : decode cX12_coresBehind 2 = .ok (.invokestatic 282, 3) := by decide +kernel
theorem dX12_coresBehind_5 : decode cX12_coresBehind 5 = .ok (.istore 6, 2) := by decide +kernel
theorem dX12_coresBehind_7 : decode cX12_coresBehind 7 = .ok (.iload_n 2, 1) := by decide +kernel
theorem dX12_coresBehind_8 : decode cX12_coresBehind 8 = .ok (.iload_n 3, 1) := by decide +kernel
theorem dX12_coresBehind_9 : decode cX12_coresBehind 9 = .ok (.invokestatic 285, 3) := by decide +kernel
theorem dX12_coresBehind_12 : decode cX12_coresBehind 12 = .ok (.istore 7, 2) := by decide +kernel
theorem dX12_coresBehind_14 : decode cX12_coresBehind 14 = .ok (.aload_n 0, 1) := by decide +kernel
theorem dX12_coresBehind_15 : decode cX12_coresBehind 15 = .ok (.getfield 241, 3) := by decide +kernel
theorem dX12_coresBehind_18 : decode cX12_coresBehind 18 = .ok (.istore 8, 2) := by decide +kernel
theorem dX12_coresBehind_20 : decode cX12_coresBehind 20 = .ok (.iload 8, 2) := by decide +kernel
theorem dX12_coresBehind_22 : decode cX12_coresBehind 22 = .ok (.aload_n 0, 1) := by decide +kernel
theorem dX12_coresBehind_23 : decode cX12_coresBehind 23 = .ok (.iload_n 1, 1) := by decide +kernel
theorem dX12_coresBehind_24 : decode cX12_coresBehind 24 = .ok (.iload_n 2, 1) := by decide +kernel
theorem dX12_coresBehind_25 : decode cX12_coresBehind 25 = .ok (.iconst 0, 1) := by decide +kernel
theorem dX12_coresBehind_26 : decode cX12_coresBehind 26 = .ok (.invokevirtual 221, 3) := by decide +kernel
theorem dX12_coresBehind_29 : decode cX12_coresBehind 29 = .ok (.iload 4, 2) := by decide +kernel
theorem dX12_coresBehind_31 : decode cX12_coresBehind 31 = .ok (.if_icmp .ne 19, 3) := by decide +kernel
theorem dX12_coresBehind_34 : decode cX12_coresBehind 34 = .ok (.aload_n 0, 1) := by decide +kernel
theorem dX12_coresBehind_35 : decode cX12_coresBehind 35 = .ok (.iload_n 1, 1) := by decide +kernel
theorem dX12_coresBehind_36 : decode cX12_coresBehind 36 = .ok (.iload_n 2, 1) := by decide +kernel
theorem dX12_coresBehind_37 : decode cX12_coresBehind 37 = .ok (.iconst 1, 1) := by decide +kernel
theorem dX12_coresBehind_38 : decode cX12_coresBehind 38 = .ok (.invokevirtual 221, 3) := by decide +kernel
theorem dX12_coresBehind_41 : decode cX12_coresBehind 41 = .ok (.iload 5, 2) := by decide +kernel
theorem dX12_coresBehind_43 : decode cX12_coresBehind 43 = .ok (.if_icmp .ne 7, 3) := by decide +kernel
theorem dX12_coresBehind_46 : decode cX12_coresBehind 46 = .ok (.iconst 1, 1) := by decide +kernel
theorem dX12_coresBehind_47 : decode cX12_coresBehind 47 = .ok (.goto 4, 3) := by decide +kernel
theorem dX12_coresBehind_50 : decode cX12_coresBehind 50 = .ok (.iconst 0, 1) := by decide +kernel
theorem dX12_coresBehind_51 : decode cX12_coresBehind 51 = .ok (.isub, 1) := by decide +kernel
theorem dX12_coresBehind_52 : decode cX12_coresBehind 52 = .ok (.istore 8, 2) := by decide +kernel
theorem dX12_coresBehind_54 : decode cX12_coresBehind 54 = .ok (.aload_n 0, 1) := by decide +kernel
theorem dX12_coresBehind_55 : decode cX12_coresBehind 55 = .ok (.iload 6, 2) := by decide +kernel
theorem dX12_coresBehind_57 : decode cX12_coresBehind 57 = .ok (.iload 7, 2) := by decide +kernel
theorem dX12_coresBehind_59 : decode cX12_coresBehind 59 = .ok (.invokevirtual 288, 3) := by decide +kernel
theorem dX12_coresBehind_62 : decode cX12_coresBehind 62 = .ok (.ifCond .eq 84, 3) := by decide +kernel
theorem dX12_coresBehind_65 : decode cX12_coresBehind 65 = .ok (.aload_n 0, 1) := by decide +kernel
theorem dX12_coresBehind_66 : decode cX12_coresBehind 66 = .ok (.iload 6, 2) := by decide +kernel
theorem dX12_coresBehind_68 : decode cX12_coresBehind 68 = .ok (.iload 7, 2) := by decide +kernel
theorem dX12_coresBehind_70 : decode cX12_coresBehind 70 = .ok (.invokevirtual 244, 3) := by decide +kernel
theorem dX12_coresBehind_73 : decode cX12_coresBehind 73 = .ok (.istore 9, 2) := by decide +kernel
theorem dX12_coresBehind_75 : decode cX12_coresBehind 75 = .ok (.aload_n 0, 1) := by decide +kernel
theorem dX12_coresBehind_76 : decode cX12_coresBehind 76 = .ok (.iload 6, 2) := by decide +kernel
theorem dX12_coresBehind_78 : decode cX12_coresBehind 78 = .ok (.iload 7, 2) := by decide +kernel
theorem dX12_coresBehind_80 : decode cX12_coresBehind 80 = .ok (.iconst 0, 1) := by decide +kernel
theorem dX12_coresBehind_81 : decode cX12_coresBehind 81 = .ok (.invokevirtual 221, 3) := by decide +kernel
theorem dX12_coresBehind_84 : decode cX12_coresBehind 84 = .ok (.iload 4, 2) := by decide +kernel
theorem dX12_coresBehind_86 : decode cX12_coresBehind 86 = .ok (.iadd, 1) := by decide +kernel
theorem dX12_coresBehind_87 : decode cX12_coresBehind 87 = .ok (.ifCond .ne 18, 3) := by decide +kernel
theorem dX12_coresBehind_90 : decode cX12_coresBehind 90 = .ok (.aload_n 0, 1) := by decide +kernel
theorem dX12_coresBehind_91 : decode cX12_coresBehind 91 = .ok (.iload 6, 2) := by decide +kernel
theorem dX12_coresBehind_93 : decode cX12_coresBehind 93 = .ok (.iload 7, 2) := by decide +kernel
theorem dX12_coresBehind_95 : decode cX12_coresBehind 95 = .ok (.iconst 1, 1) := by decide +kernel
theorem dX12_coresBehind_96 : decode cX12_coresBehind 96 = .ok (.invokevirtual 221, 3) := by decide +kernel
theorem dX12_coresBehind_99 : decode cX12_coresBehind 99 = .ok (.iload 5, 2) := by decide +kernel
theorem dX12_coresBehind_101 : decode cX12_coresBehind 101 = .ok (.iadd, 1) := by decide +kernel
theorem dX12_coresBehind_102 : decode cX12_coresBehind 102 = .ok (.ifCond .eq 7, 3) := by decide +kernel
theorem dX12_coresBehind_105 : decode cX12_coresBehind 105 = .ok (.iconst 1, 1) := by decide +kernel
theorem dX12_coresBehind_106 : decode cX12_coresBehind 106 = .ok (.goto 4, 3) := by decide +kernel
theorem dX12_coresBehind_109 : decode cX12_coresBehind 109 = .ok (.iconst 0, 1) := by decide +kernel
theorem dX12_coresBehind_110 : decode cX12_coresBehind 110 = .ok (.istore 10, 2) := by decide +kernel
theorem dX12_coresBehind_112 : decode cX12_coresBehind 112 = .ok (.iload 8, 2) := by decide +kernel
theorem dX12_coresBehind_114 : decode cX12_coresBehind 114 = .ok (.iload 10, 2) := by decide +kernel
theorem dX12_coresBehind_116 : decode cX12_coresBehind 116 = .ok (.ifCond .eq 12, 3) := by decide +kernel
theorem dX12_coresBehind_119 : decode cX12_coresBehind 119 = .ok (.iload 9, 2) := by decide +kernel
theorem dX12_coresBehind_121 : decode cX12_coresBehind 121 = .ok (.ifCond .ne 7, 3) := by decide +kernel
theorem dX12_coresBehind_124 : decode cX12_coresBehind 124 = .ok (.iconst 1, 1) := by decide +kernel
theorem dX12_coresBehind_125 : decode cX12_coresBehind 125 = .ok (.goto 18, 3) := by decide +kernel
theorem dX12_coresBehind_128 : decode cX12_coresBehind 128 = .ok (.iload 10, 2) := by decide +kernel
theorem dX12_coresBehind_130 : decode cX12_coresBehind 130 = .ok (.ifCond .ne 12, 3) := by decide +kernel
theorem dX12_coresBehind_133 : decode cX12_coresBehind 133 = .ok (.iload 9, 2) := by decide +kernel
theorem dX12_coresBehind_135 : decode cX12_coresBehind 135 = .ok (.ifCond .eq 7, 3) := by decide +kernel
theorem dX12_coresBehind_138 : decode cX12_coresBehind 138 = .ok (.iconst (-1), 1) := by decide +kernel
theorem dX12_coresBehind_139 : decode cX12_coresBehind 139 = .ok (.goto 4, 3) := by decide +kernel
theorem dX12_coresBehind_142 : decode cX12_coresBehind 142 = .ok (.iconst 0, 1) := by decide +kernel
theorem dX12_coresBehind_143 : decode cX12_coresBehind 143 = .ok (.iadd, 1) := by decide +kernel
theorem dX12_coresBehind_144 : decode cX12_coresBehind 144 = .ok (.istore 8, 2) := by decide +kernel
theorem dX12_coresBehind_146 : decode cX12_coresBehind 146 = .ok (.iload 8, 2) := by decide +kernel
theorem dX12_coresBehind_148 : decode cX12_coresBehind 148 = .ok (.ireturn, 1) := by decide +kernel
theorem dX12_coresBeside_0 : decode cX12_coresBeside 0 = .ok (.iconst 0, 1) := by decide +kernel
theorem dX12_coresBeside_1 : decode cX12_coresBeside 1 = .ok (.istore_n 2, 1) := by decide +kernel
theorem dX12_coresBeside_2 : decode cX12_coresBeside 2 = .ok (.iconst 0, 1) := by decide +kernel
theorem dX12_coresBeside_3 : decode cX12_coresBeside 3 = .ok (.istore_n 3, 1) := by decide +kernel
theorem dX12_coresBeside_4 : decode cX12_coresBeside 4 = .ok (.iload_n 3, 1) := by decide +kernel
theorem dX12_coresBeside_5 : decode cX12_coresBeside 5 = .ok (.aload_n 0, 1) := by decide +kernel
theorem dX12_coresBeside_6 : decode cX12_coresBeside 6 = .ok (.getfield 208, 3) := by decide +kernel
theorem dX12_coresBeside_9 : decode cX12_coresBeside 9 = .ok (.iconst 1, 1) := by decide +kernel
theorem dX12_coresBeside_10 : decode cX12_coresBeside 10 = .ok (.isub, 1) := by decide +kernel
theorem dX12_coresBeside_11 : decode cX12_coresBeside 11 = .ok (.if_icmp .ge 113, 3) := by decide +kernel
theorem dX12_coresBeside_14 : decode cX12_coresBeside 14 = .ok (.iconst 0, 1) := by decide +kernel
theorem dX12_coresBeside_15 : decode cX12_coresBeside 15 = .ok (.istore 4, 2) := by decide +kernel
theorem dX12_coresBeside_17 : decode cX12_coresBeside 17 = .ok (.iload 4, 2) := by decide +kernel
theorem dX12_coresBeside_19 : decode cX12_coresBeside 19 = .ok (.aload_n 0, 1) := by decide +kernel
theorem dX12_coresBeside_20 : decode cX12_coresBeside 20 = .ok (.getfield 205, 3) := by decide +kernel
theorem dX12_coresBeside_23 : decode cX12_coresBeside 23 = .ok (.iconst 1, 1) := by decide +kernel
theorem dX12_coresBeside_24 : decode cX12_coresBeside 24 = .ok (.isub, 1) := by decide +kernel
theorem dX12_coresBeside_25 : decode cX12_coresBeside 25 = .ok (.if_icmp .ge 93, 3) := by decide +kernel
theorem dX12_coresBeside_28 : decode cX12_coresBeside 28 = .ok (.iconst 0, 1) := by decide +kernel
theorem dX12_coresBeside_29 : decode cX12_coresBeside 29 = .ok (.istore 5, 2) := by decide +kernel
theorem dX12_coresBeside_31 : decode cX12_coresBeside 31 = .ok (.iconst 0, 1) := by decide +kernel
theorem dX12_coresBeside_32 : decode cX12_coresBeside 32 = .ok (.istore 6, 2) := by decide +kernel
theorem dX12_coresBeside_34 : decode cX12_coresBeside 34 = .ok (.iload 6, 2) := by decide +kernel
theorem dX12_coresBeside_36 : decode cX12_coresBeside 36 = .ok (.iconst 4, 1) := by decide +kernel
theorem dX12_coresBeside_37 : decode cX12_coresBeside 37 = .ok (.if_icmp .ge 52, 3) := by decide +kernel
theorem dX12_coresBeside_40 : decode cX12_coresBeside 40 = .ok (.aload_n 0, 1) := by decide +kernel
theorem dX12_coresBeside_41 : decode cX12_coresBeside 41 = .ok (.iload 4, 2) := by decide +kernel
theorem dX12_coresBeside_43 : decode cX12_coresBeside 43 = .ok (.iload_n 3, 1) := by decide +kernel
theorem dX12_coresBeside_44 : decode cX12_coresBeside 44 = .ok (.iload 6, 2) := by decide +kernel
theorem dX12_coresBeside_46 : decode cX12_coresBeside 46 = .ok (.invokevirtual 425, 3) := by decide +kernel
theorem dX12_coresBeside_49 : decode cX12_coresBeside 49 = .ok (.istore 7, 2) := by decide +kernel
theorem dX12_coresBeside_51 : decode cX12_coresBeside 51 = .ok (.iload 5, 2) := by decide +kernel
theorem dX12_coresBeside_53 : decode cX12_coresBeside 53 = .ok (.ifCond .ne 23, 3) := by decide +kernel
theorem dX12_coresBeside_56 : decode cX12_coresBeside 56 = .ok (.aload_n 0, 1) := by decide +kernel
theorem dX12_coresBeside_57 : decode cX12_coresBeside 57 = .ok (.iload 7, 2) := by decide +kernel
theorem dX12_coresBeside_59 : decode cX12_coresBeside 59 = .ok (.invokevirtual 293, 3) := by decide +kernel
theorem dX12_coresBeside_62 : decode cX12_coresBeside 62 = .ok (.ifCond .eq 18, 3) := by decide +kernel
theorem dX12_coresBeside_65 : decode cX12_coresBeside 65 = .ok (.aload_n 0, 1) := by decide +kernel
theorem dX12_coresBeside_66 : decode cX12_coresBeside 66 = .ok (.getfield 65, 3) := by decide +kernel
theorem dX12_coresBeside_69 : decode cX12_coresBeside 69 = .ok (.iload 7, 2) := by decide +kernel
theorem dX12_coresBeside_71 : decode cX12_coresBeside 71 = .ok (.iaload, 1) := by decide +kernel
theorem dX12_coresBeside_72 : decode cX12_coresBeside 72 = .ok (.iload_n 1, 1) := by decide +kernel
theorem dX12_coresBeside_73 : decode cX12_coresBeside 73 = .ok (.if_icmp .ne 7, 3) := by decide +kernel
theorem dX12_coresBeside_76 : decode cX12_coresBeside 76 = .ok (.iconst 1, 1) := by decide +kernel
theorem dX12_coresBeside_77 : decode cX12_coresBeside 77 = .ok (.goto 4, 3) := by decide +kernel
theorem dX12_coresBeside_80 : decode cX12_coresBeside 80 = .ok (.iconst 0, 1) := by decide +kernel
theorem dX12_coresBeside_81 : decode cX12_coresBeside 81 = .ok (.istore 5, 2) := by decide +kernel
theorem dX12_coresBeside_83 : decode cX12_coresBeside 83 = .ok (.iinc 6 1, 3) := by decide +kernel
theorem dX12_coresBeside_86 : decode cX12_coresBeside 86 = .ok (.goto (-52), 3) := by decide +kernel
theorem dX12_coresBeside_89 : decode cX12_coresBeside 89 = .ok (.iload_n 2, 1) := by decide +kernel
theorem dX12_coresBeside_90 : decode cX12_coresBeside 90 = .ok (.iload 5, 2) := by decide +kernel
theorem dX12_coresBeside_92 : decode cX12_coresBeside 92 = .ok (.ifCond .eq 17, 3) := by decide +kernel
theorem dX12_coresBeside_95 : decode cX12_coresBeside 95 = .ok (.aload_n 0, 1) := by decide +kernel
theorem dX12_coresBeside_96 : decode cX12_coresBeside 96 = .ok (.iload 4, 2) := by decide +kernel
theorem dX12_coresBeside_98 : decode cX12_coresBeside 98 = .ok (.iload_n 3, 1) := by decide +kernel
theorem dX12_coresBeside_99 : decode cX12_coresBeside 99 = .ok (.invokevirtual 244, 3) := by decide +kernel
theorem dX12_coresBeside_102 : decode cX12_coresBeside 102 = .ok (.ifCond .eq 7, 3) := by decide +kernel
theorem dX12_coresBeside_105 : decode cX12_coresBeside 105 = .ok (.iconst 1, 1) := by decide +kernel
theorem dX12_coresBeside_106 : decode cX12_coresBeside 106 = .ok (.goto 4, 3) := by decide +kernel
theorem dX12_coresBeside_109 : decode cX12_coresBeside 109 = .ok (.iconst 0, 1) := by decide +kernel
theorem dX12_coresBeside_110 : decode cX12_coresBeside 110 = .ok (.iadd, 1) := by decide +kernel
theorem dX12_coresBeside_111 : decode cX12_coresBeside 111 = .ok (.istore_n 2, 1) := by decide +kernel
theorem dX12_coresBeside_112 : decode cX12_coresBeside 112 = .ok (.iinc 4 1, 3) := by decide +kernel
theorem dX12_coresBeside_115 : decode cX12_coresBeside 115 = .ok (.goto (-98), 3) := by decide +kernel
theorem dX12_coresBeside_118 : decode cX12_coresBeside 118 = .ok (.iinc 3 1, 3) := by decide +kernel
theorem dX12_coresBeside_121 : decode cX12_coresBeside 121 = .ok (.goto (-117), 3) := by decide +kernel
theorem dX12_coresBeside_124 : decode cX12_coresBeside 124 = .ok (.iload_n 2, 1) := by decide +kernel
theorem dX12_coresBeside_125 : decode cX12_coresBeside 125 = .ok (.ireturn, 1) := by decide +kernel
theorem dX12_coresIn_0 : decode cX12_coresIn 0 = .ok (.iconst 0, 1) := by decide +kernel
theorem dX12_coresIn_1 : decode cX12_coresIn 1 = .ok (.istore 5, 2) := by decide +kernel
theorem dX12_coresIn_3 : decode cX12_coresIn 3 = .ok (.iload_n 2, 1) := by decide +kernel
theorem dX12_coresIn_4 : decode cX12_coresIn 4 = .ok (.istore 6, 2) := by decide +kernel
theorem dX12_coresIn_6 : decode cX12_coresIn 6 = .ok (.iload 6, 2) := by decide +kernel
theorem dX12_coresIn_8 : decode cX12_coresIn 8 = .ok (.iload 4, 2) := by decide +kernel
theorem dX12_coresIn_10 : decode cX12_coresIn 10 = .ok (.if_icmp .ge 45, 3) := by decide +kernel
theorem dX12_coresIn_13 : decode cX12_coresIn 13 = .ok (.iload_n 1, 1) := by decide +kernel
theorem dX12_coresIn_14 : decode cX12_coresIn 14 = .ok (.istore 7, 2) := by decide +kernel
theorem dX12_coresIn_16 : decode cX12_coresIn 16 = .ok (.iload 7, 2) := by decide +kernel
theorem dX12_coresIn_18 : decode cX12_coresIn 18 = .ok (.iload_n 3, 1) := by decide +kernel
theorem dX12_coresIn_19 : decode cX12_coresIn 19 = .ok (.if_icmp .ge 30, 3) := by decide +kernel
theorem dX12_coresIn_22 : decode cX12_coresIn 22 = .ok (.iload 5, 2) := by decide +kernel
theorem dX12_coresIn_24 : decode cX12_coresIn 24 = .ok (.aload_n 0, 1) := by decide +kernel
theorem dX12_coresIn_25 : decode cX12_coresIn 25 = .ok (.iload 7, 2) := by decide +kernel
theorem dX12_coresIn_27 : decode cX12_coresIn 27 = .ok (.iload 6, 2) := by decide +kernel
theorem dX12_coresIn_29 : decode cX12_coresIn 29 = .ok (.invokevirtual 244, 3) := by decide +kernel
theorem dX12_coresIn_32 : decode cX12_coresIn 32 = .ok (.ifCond .eq 7, 3) := by decide +kernel
theorem dX12_coresIn_35 : decode cX12_coresIn 35 = .ok (.iconst 1, 1) := by decide +kernel
theorem dX12_coresIn_36 : decode cX12_coresIn 36 = .ok (.goto 4, 3) := by decide +kernel
theorem dX12_coresIn_39 : decode cX12_coresIn 39 = .ok (.iconst 0, 1) := by decide +kernel
theorem dX12_coresIn_40 : decode cX12_coresIn 40 = .ok (.iadd, 1) := by decide +kernel
theorem dX12_coresIn_41 : decode cX12_coresIn 41 = .ok (.istore 5, 2) := by decide +kernel
theorem dX12_coresIn_43 : decode cX12_coresIn 43 = .ok (.iinc 7 1, 3) := by decide +kernel
theorem dX12_coresIn_46 : decode cX12_coresIn 46 = .ok (.goto (-30), 3) := by decide +kernel
theorem dX12_coresIn_49 : decode cX12_coresIn 49 = .ok (.iinc 6 1, 3) := by decide +kernel
theorem dX12_coresIn_52 : decode cX12_coresIn 52 = .ok (.goto (-46), 3) := by decide +kernel
theorem dX12_coresIn_55 : decode cX12_coresIn 55 = .ok (.iload 5, 2) := by decide +kernel
theorem dX12_coresIn_57 : decode cX12_coresIn 57 = .ok (.ireturn, 1) := by decide +kernel
theorem dX12_costAlong_0 : decode cX12_costAlong 0 = .ok (.aload_n 0, 1) := by decide +kernel
theorem dX12_costAlong_1 : decode cX12_costAlong 1 = .ok (.iload_n 1, 1) := by decide +kernel
theorem dX12_costAlong_2 : decode cX12_costAlong 2 = .ok (.invokevirtual 269, 3) := by decide +kernel
theorem dX12_costAlong_5 : decode cX12_costAlong 5 = .ok (.iload_n 2, 1) := by decide +kernel
theorem dX12_costAlong_6 : decode cX12_costAlong 6 = .ok (.if_icmp .ne 7, 3) := by decide +kernel
theorem dX12_costAlong_9 : decode cX12_costAlong 9 = .ok (.iconst 1, 1) := by decide +kernel
theorem dX12_costAlong_10 : decode cX12_costAlong 10 = .ok (.goto 4, 3) := by decide +kernel
theorem dX12_costAlong_13 : decode cX12_costAlong 13 = .ok (.iload_n 3, 1) := by decide +kernel
theorem dX12_costAlong_14 : decode cX12_costAlong 14 = .ok (.ireturn, 1) := by decide +kernel
theorem dX12_costMeeting_0 : decode cX12_costMeeting 0 = .ok (.aload_n 0, 1) := by decide +kernel
theorem dX12_costMeeting_1 : decode cX12_costMeeting 1 = .ok (.getfield 34, 3) := by decide +kernel
theorem dX12_costMeeting_4 : decode cX12_costMeeting 4 = .ok (.iload_n 1, 1) := by decide +kernel
theorem dX12_costMeeting_5 : decode cX12_costMeeting 5 = .ok (.iaload, 1) := by decide +kernel
theorem dX12_costMeeting_6 : decode cX12_costMeeting 6 = .ok (.aload_n 0, 1) := by decide +kernel
theorem dX12_costMeeting_7 : decode cX12_costMeeting 7 = .ok (.getfield 34, 3) := by decide +kernel
theorem dX12_costMeeting_10 : decode cX12_costMeeting 10 = .ok (.iload_n 2, 1) := by decide +kernel
theorem dX12_costMeeting_11 : decode cX12_costMeeting 11 = .ok (.iaload, 1) := by decide +kernel
theorem dX12_costMeeting_12 : decode cX12_costMeeting 12 = .ok (.isub, 1) := by decide +kernel
theorem dX12_costMeeting_13 : decode cX12_costMeeting 13 = .ok (.invokestatic 370, 3) := by decide +kernel
theorem dX12_costMeeting_16 : decode cX12_costMeeting 16 = .ok (.aload_n 0, 1) := by decide +kernel
theorem dX12_costMeeting_17 : decode cX12_costMeeting 17 = .ok (.iload_n 1, 1) := by decide +kernel
theorem dX12_costMeeting_18 : decode cX12_costMeeting 18 = .ok (.iconst 0, 1) := by decide +kernel
theorem dX12_costMeeting_19 : decode cX12_costMeeting 19 = .ok (.iload_n 3, 1) := by decide +kernel
theorem dX12_costMeeting_20 : decode cX12_costMeeting 20 = .ok (.invokevirtual 440, 3) := by decide +kernel
theorem dX12_costMeeting_23 : decode cX12_costMeeting 23 = .ok (.imul, 1) := by decide +kernel
theorem dX12_costMeeting_24 : decode cX12_costMeeting 24 = .ok (.aload_n 0, 1) := by decide +kernel
theorem dX12_costMeeting_25 : decode cX12_costMeeting 25 = .ok (.getfield 37, 3) := by decide +kernel
theorem dX12_costMeeting_28 : decode cX12_costMeeting 28 = .ok (.iload_n 1, 1) := by decide +kernel
theorem dX12_costMeeting_29 : decode cX12_costMeeting 29 = .ok (.iaload, 1) := by decide +kernel
theorem dX12_costMeeting_30 : decode cX12_costMeeting 30 = .ok (.aload_n 0, 1) := by decide +kernel
theorem dX12_costMeeting_31 : decode cX12_costMeeting 31 = .ok (.getfield 37, 3) := by decide +kernel
theorem dX12_costMeeting_34 : decode cX12_costMeeting 34 = .ok (.iload_n 2, 1) := by decide +kernel
theorem dX12_costMeeting_35 : decode cX12_costMeeting 35 = .ok (.iaload, 1) := by decide +kernel
theorem dX12_costMeeting_36 : decode cX12_costMeeting 36 = .ok (.isub, 1) := by decide +kernel
theorem dX12_costMeeting_37 : decode cX12_costMeeting 37 = .ok (.invokestatic 370, 3) := by decide +kernel
theorem dX12_costMeeting_40 : decode cX12_costMeeting 40 = .ok (.aload_n 0, 1) := by decide +kernel
theorem dX12_costMeeting_41 : decode cX12_costMeeting 41 = .ok (.iload_n 1, 1) := by decide +kernel
theorem dX12_costMeeting_42 : decode cX12_costMeeting 42 = .ok (.iconst 1, 1) := by decide +kernel
theorem dX12_costMeeting_43 : decode cX12_costMeeting 43 = .ok (.iload_n 3, 1) := by decide +kernel
theorem dX12_costMeeting_44 : decode cX12_costMeeting 44 = .ok (.invokevirtual 440, 3) := by decide +kernel
theorem dX12_costMeeting_47 : decode cX12_costMeeting 47 = .ok (.imul, 1) := by decide +kernel
theorem dX12_costMeeting_48 : decode cX12_costMeeting 48 = .ok (.iadd, 1) := by decide +kernel
theorem dX12_costMeeting_49 : decode cX12_costMeeting 49 = .ok (.ireturn, 1) := by decide +kernel
theorem dX12_costOut_0 : decode cX12_costOut 0 = .ok (.aload_n 0, 1) := by decide +kernel
theorem dX12_costOut_1 : decode cX12_costOut 1 = .ok (.getfield 34, 3) := by decide +kernel
theorem dX12_costOut_4 : decode cX12_costOut 4 = .ok (.iload_n 1, 1) := by decide +kernel
theorem dX12_costOut_5 : decode cX12_costOut 5 = .ok (.iaload, 1) := by decide +kernel
theorem dX12_costOut_6 : decode cX12_costOut 6 = .ok (.iconst 1, 1) := by decide +kernel
theorem dX12_costOut_7 : decode cX12_costOut 7 = .ok (.iadd, 1) := by decide +kernel
theorem dX12_costOut_8 : decode cX12_costOut 8 = .ok (.aload_n 0, 1) := by decide +kernel
theorem dX12_costOut_9 : decode cX12_costOut 9 = .ok (.getfield 205, 3) := by decide +kernel
theorem dX12_costOut_12 : decode cX12_costOut 12 = .ok (.iconst 1, 1) := by decide +kernel
theorem dX12_costOut_13 : decode cX12_costOut 13 = .ok (.isub, 1) := by decide +kernel
theorem dX12_costOut_14 : decode cX12_costOut 14 = .ok (.aload_n 0, 1) := by decide +kernel
theorem dX12_costOut_15 : decode cX12_costOut 15 = .ok (.getfield 34, 3) := by decide +kernel
theorem dX12_costOut_18 : decode cX12_costOut 18 = .ok (.iload_n 1, 1) := by decide +kernel
theorem dX12_costOut_19 : decode cX12_costOut 19 = .ok (.iaload, 1) := by decide +kernel
theorem dX12_costOut_20 : decode cX12_costOut 20 = .ok (.isub, 1) := by decide +kernel
theorem dX12_costOut_21 : decode cX12_costOut 21 = .ok (.invokestatic 128, 3) := by decide +kernel
theorem dX12_costOut_24 : decode cX12_costOut 24 = .ok (.aload_n 0, 1) := by decide +kernel
theorem dX12_costOut_25 : decode cX12_costOut 25 = .ok (.iload_n 1, 1) := by decide +kernel
theorem dX12_costOut_26 : decode cX12_costOut 26 = .ok (.iconst 0, 1) := by decide +kernel
theorem dX12_costOut_27 : decode cX12_costOut 27 = .ok (.iload_n 2, 1) := by decide +kernel
theorem dX12_costOut_28 : decode cX12_costOut 28 = .ok (.invokevirtual 440, 3) := by decide +kernel
theorem dX12_costOut_31 : decode cX12_costOut 31 = .ok (.imul, 1) := by decide +kernel
theorem dX12_costOut_32 : decode cX12_costOut 32 = .ok (.istore_n 3, 1) := by decide +kernel
theorem dX12_costOut_33 : decode cX12_costOut 33 = .ok (.aload_n 0, 1) := by decide +kernel
theorem dX12_costOut_34 : decode cX12_costOut 34 = .ok (.getfield 37, 3) := by decide +kernel
theorem dX12_costOut_37 : decode cX12_costOut 37 = .ok (.iload_n 1, 1) := by decide +kernel
theorem dX12_costOut_38 : decode cX12_costOut 38 = .ok (.iaload, 1) := by decide +kernel
theorem dX12_costOut_39 : decode cX12_costOut 39 = .ok (.iconst 1, 1) := by decide +kernel
theorem dX12_costOut_40 : decode cX12_costOut 40 = .ok (.iadd, 1) := by decide +kernel
theorem dX12_costOut_41 : decode cX12_costOut 41 = .ok (.aload_n 0, 1) := by decide +kernel
theorem dX12_costOut_42 : decode cX12_costOut 42 = .ok (.getfield 208, 3) := by decide +kernel
theorem dX12_costOut_45 : decode cX12_costOut 45 = .ok (.iconst 1, 1) := by decide +kernel
theorem dX12_costOut_46 : decode cX12_costOut 46 = .ok (.isub, 1) := by decide +kernel
theorem dX12_costOut_47 : decode cX12_costOut 47 = .ok (.aload_n 0, 1) := by decide +kernel
theorem dX12_costOut_48 : decode cX12_costOut 48 = .ok (.getfield 37, 3) := by decide +kernel
theorem dX12_costOut_51 : decode cX12_costOut 51 = .ok (.iload_n 1, 1) := by decide +kernel
theorem dX12_costOut_52 : decode cX12_costOut 52 = .ok (.iaload, 1) := by decide +kernel
theorem dX12_costOut_53 : decode cX12_costOut 53 = .ok (.isub, 1) := by decide +kernel
theorem dX12_costOut_54 : decode cX12_costOut 54 = .ok (.invokestatic 128, 3) := by decide +kernel
theorem dX12_costOut_57 : decode cX12_costOut 57 = .ok (.aload_n 0, 1) := by decide +kernel
theorem dX12_costOut_58 : decode cX12_costOut 58 = .ok (.iload_n 1, 1) := by decide +kernel
theorem dX12_costOut_59 : decode cX12_costOut 59 = .ok (.iconst 1, 1) := by decide +kernel
theorem dX12_costOut_60 : decode cX12_costOut 60 = .ok (.iload_n 2, 1) := by decide +kernel
theorem dX12_costOut_61 : decode cX12_costOut 61 = .ok (.invokevirtual 440, 3) := by decide +kernel
theorem dX12_costOut_64 : decode cX12_costOut 64 = .ok (.imul, 1) := by decide +kernel
theorem dX12_costOut_65 : decode cX12_costOut 65 = .ok (.istore 4, 2) := by decide +kernel
theorem dX12_costOut_67 : decode cX12_costOut 67 = .ok (.iload_n 3, 1) := by decide +kernel
theorem dX12_costOut_68 : decode cX12_costOut 68 = .ok (.iload 4, 2) := by decide +kernel
theorem dX12_costOut_70 : decode cX12_costOut 70 = .ok (.invokestatic 128, 3) := by decide +kernel
theorem dX12_costOut_73 : decode cX12_costOut 73 = .ok (.ireturn, 1) := by decide +kernel
theorem dX12_count_0 : decode cX12_count 0 = .ok (.aload_n 0, 1) := by decide +kernel
theorem dX12_count_1 : decode cX12_count 1 = .ok (.iconst 0, 1) := by decide +kernel
theorem dX12_count_2 : decode cX12_count 2 = .ok (.putfield 86, 3) := by decide +kernel
theorem dX12_count_5 : decode cX12_count 5 = .ok (.iload_n 1, 1) := by decide +kernel
theorem dX12_count_6 : decode cX12_count 6 = .ok (.ifCond .ne 10, 3) := by decide +kernel
theorem dX12_count_9 : decode cX12_count 9 = .ok (.aload_n 0, 1) := by decide +kernel
theorem dX12_count_10 : decode cX12_count 10 = .ok (.getfield 94, 3) := by decide +kernel
theorem dX12_count_13 : decode cX12_count 13 = .ok (.goto 32, 3) := by decide +kernel
theorem dX12_count_16 : decode cX12_count 16 = .ok (.iload_n 1, 1) := by decide +kernel
theorem dX12_count_17 : decode cX12_count 17 = .ok (.iconst 1, 1) := by decide +kernel
theorem dX12_count_18 : decode cX12_count 18 = .ok (.if_icmp .ne 10, 3) := by decide +kernel
theorem dX12_count_21 : decode cX12_count 21 = .ok (.aload_n 0, 1) := by decide +kernel
theorem dX12_count_22 : decode cX12_count 22 = .ok (.getfield 229, 3) := by decide +kernel
theorem dX12_count_25 : decode cX12_count 25 = .ok (.goto 20, 3) := by decide +kernel
theorem dX12_count_28 : decode cX12_count 28 = .ok (.iload_n 1, 1) := by decide +kernel
theorem dX12_count_29 : decode cX12_count 29 = .ok (.iconst 2, 1) := by decide +kernel
theorem dX12_count_30 : decode cX12_count 30 = .ok (.if_icmp .ne 14, 3) := by decide +kernel
theorem dX12_count_33 : decode cX12_count 33 = .ok (.aload_n 0, 1) := by decide +kernel
theorem dX12_count_34 : decode cX12_count 34 = .ok (.getfield 28, 3) := by decide +kernel
theorem dX12_count_37 : decode cX12_count 37 = .ok (.sipush 324, 3) := by decide +kernel
theorem dX12_count_40 : decode cX12_count 40 = .ok (.iaload, 1) := by decide +kernel
theorem dX12_count_41 : decode cX12_count 41 = .ok (.goto 4, 3) := by decide +kernel
theorem dX12_count_44 : decode cX12_count 44 = .ok (.iconst (-1), 1) := by decide +kernel
theorem dX12_count_45 : decode cX12_count 45 = .ok (.ireturn, 1) := by decide +kernel
theorem dX12_counts_0 : decode cX12_counts 0 = .ok (.aload_n 0, 1) := by decide +kernel
theorem dX12_counts_1 : decode cX12_counts 1 = .ok (.iconst 0, 1) := by decide +kernel
theorem dX12_counts_2 : decode cX12_counts 2 = .ok (.putfield 376, 3) := by decide +kernel
theorem dX12_counts_5 : decode cX12_counts 5 = .ok (.aload_n 0, 1) := by decide +kernel
theorem dX12_counts_6 : decode cX12_counts 6 = .ok (.iconst 0, 1) := by decide +kernel
theorem dX12_counts_7 : decode cX12_counts 7 = .ok (.putfield 379, 3) := by decide +kernel
theorem dX12_counts_10 : decode cX12_counts 10 = .ok (.aload_n 0, 1) := by decide +kernel
theorem dX12_counts_11 : decode cX12_counts 11 = .ok (.iconst 0, 1) := by decide +kernel
theorem dX12_counts_12 : decode cX12_counts 12 = .ok (.putfield 382, 3) := by decide +kernel
theorem dX12_counts_15 : decode cX12_counts 15 = .ok (.return_, 1) := by decide +kernel
theorem dX12_directionOf_0 : decode cX12_directionOf 0 = .ok (.iload_n 0, 1) := by decide +kernel
theorem dX12_directionOf_1 : decode cX12_directionOf 1 = .ok (.ifCond .ne 15, 3) := by decide +kernel
theorem dX12_directionOf_4 : decode cX12_directionOf 4 = .ok (.iload_n 1, 1) := by decide +kernel
theorem dX12_directionOf_5 : decode cX12_directionOf 5 = .ok (.ifCond .eq 7, 3) := by decide +kernel
theorem dX12_directionOf_8 : decode cX12_directionOf 8 = .ok (.iconst 0, 1) := by decide +kernel
theorem dX12_directionOf_9 : decode cX12_directionOf 9 = .ok (.goto 16, 3) := by decide +kernel
theorem dX12_directionOf_12 : decode cX12_directionOf 12 = .ok (.iconst 2, 1) := by decide +kernel
theorem dX12_directionOf_13 : decode cX12_directionOf 13 = .ok (.goto 12, 3) := by decide +kernel
theorem dX12_directionOf_16 : decode cX12_directionOf 16 = .ok (.iload_n 1, 1) := by decide +kernel
theorem dX12_directionOf_17 : decode cX12_directionOf 17 = .ok (.ifCond .eq 7, 3) := by decide +kernel
theorem dX12_directionOf_20 : decode cX12_directionOf 20 = .ok (.iconst 1, 1) := by decide +kernel
theorem dX12_directionOf_21 : decode cX12_directionOf 21 = .ok (.goto 4, 3) := by decide +kernel
theorem dX12_directionOf_24 : decode cX12_directionOf 24 = .ok (.iconst 3, 1) := by decide +kernel
theorem dX12_directionOf_25 : decode cX12_directionOf 25 = .ok (.ireturn, 1) := by decide +kernel
theorem dX12_draw_0 : decode cX12_draw 0 = .ok (.aload_n 0, 1) := by decide +kernel
theorem dX12_draw_1 : decode cX12_draw 1 = .ok (.aload_n 0, 1) := by decide +kernel
theorem dX12_draw_2 : decode cX12_draw 2 = .ok (.getfield 401, 3) := by decide +kernel
theorem dX12_draw_5 : decode cX12_draw 5 = .ok (.ldc2_w 405, 3) := by decide +kernel
theorem dX12_draw_8 : decode cX12_draw 8 = .ok (.lmul, 1) := by decide +kernel
theorem dX12_draw_9 : decode cX12_draw 9 = .ok (.ldc2_w 407, 3) := by decide +kernel
theorem dX12_draw_12 : decode cX12_draw 12 = .ok (.ladd, 1) := by decide +kernel
theorem dX12_draw_13 : decode cX12_draw 13 = .ok (.putfield 401, 3) := by decide +kernel
theorem dX12_draw_16 : decode cX12_draw 16 = .ok (.aload_n 0, 1) := by decide +kernel
theorem dX12_draw_17 : decode cX12_draw 17 = .ok (.getfield 401, 3) := by decide +kernel
theorem dX12_draw_20 : decode cX12_draw 20 = .ok (.bipush 33, 2) := by decide +kernel
theorem dX12_draw_22 : decode cX12_draw 22 = .ok (.lushr, 1) := by decide +kernel
theorem dX12_draw_23 : decode cX12_draw 23 = .ok (.iload_n 1, 1) := by decide +kernel
theorem dX12_draw_24 : decode cX12_draw 24 = .ok (.i2l, 1) := by decide +kernel
theorem dX12_draw_25 : decode cX12_draw 25 = .ok (.lrem, 1) := by decide +kernel
theorem dX12_draw_26 : decode cX12_draw 26 = .ok (.l2i, 1) := by decide +kernel
theorem dX12_draw_27 : decode cX12_draw 27 = .ok (.ireturn, 1) := by decide +kernel
theorem dX12_end_0 : decode cX12_end 0 = .ok (.aload_n 0, 1) := by decide +kernel
theorem dX12_end_1 : decode cX12_end 1 = .ok (.iconst 0, 1) := by decide +kernel
theorem dX12_end_2 : decode cX12_end 2 = .ok (.putfield 86, 3) := by decide +kernel
theorem dX12_end_5 : decode cX12_end 5 = .ok (.iload_n 1, 1) := by decide +kernel
theorem dX12_end_6 : decode cX12_end 6 = .ok (.i2l, 1) := by decide +kernel
theorem dX12_end_7 : decode cX12_end 7 = .ok (.lconst 0, 1) := by decide +kernel
theorem dX12_end_8 : decode cX12_end 8 = .ok (.aload_n 0, 1) := by decide +kernel
theorem dX12_end_9 : decode cX12_end 9 = .ok (.getfield 94, 3) := by decide +kernel
theorem dX12_end_12 : decode cX12_end 12 = .ok (.i2l, 1) := by decide +kernel
theorem dX12_end_13 : decode cX12_end 13 = .ok (.invokestatic 97, 3) := by decide +kernel
theorem dX12_end_16 : decode cX12_end 16 = .ok (.ifCond .ne 5, 3) := by decide +kernel
theorem dX12_end_19 : decode cX12_end 19 = .ok (.iconst 0, 1) := by decide +kernel
theorem dX12_end_20 : decode cX12_end 20 = .ok (.ireturn, 1) := by decide +kernel
theorem dX12_end_21 : decode cX12_end 21 = .ok (.aload_n 0, 1) := by decide +kernel
theorem dX12_end_22 : decode cX12_end 22 = .ok (.iload_n 1, 1) := by decide +kernel
theorem dX12_end_23 : decode cX12_end 23 = .ok (.putfield 94, 3) := by decide +kernel
theorem dX12_end_26 : decode cX12_end 26 = .ok (.iconst 1, 1) := by decide +kernel
theorem dX12_end_27 : decode cX12_end 27 = .ok (.ireturn, 1) := by decide +kernel
theorem dX12_energy_0 : decode cX12_energy 0 = .ok (.iconst 0, 1) := by decide +kernel
theorem dX12_energy_1 : decode cX12_energy 1 = .ok (.istore_n 1, 1) := by decide +kernel
theorem dX12_energy_2 : decode cX12_energy 2 = .ok (.iconst 0, 1) := by decide +kernel
theorem dX12_energy_3 : decode cX12_energy 3 = .ok (.istore_n 2, 1) := by decide +kernel
theorem dX12_energy_4 : decode cX12_energy 4 = .ok (.iload_n 2, 1) := by decide +kernel
theorem dX12_energy_5 : decode cX12_energy 5 = .ok (.aload_n 0, 1) := by decide +kernel
theorem dX12_energy_6 : decode cX12_energy 6 = .ok (.getfield 241, 3) := by decide +kernel
theorem dX12_energy_9 : decode cX12_energy 9 = .ok (.if_icmp .ge 100, 3) := by decide +kernel
theorem dX12_energy_12 : decode cX12_energy 12 = .ok (.iload_n 1, 1) := by decide +kernel
theorem dX12_energy_13 : decode cX12_energy 13 = .ok (.bipush 50, 2) := by decide +kernel
theorem dX12_energy_15 : decode cX12_energy 15 = .ok (.aload_n 0, 1) := by decide +kernel
theorem dX12_energy_16 : decode cX12_energy 16 = .ok (.getfield 40, 3) := by decide +kernel
theorem dX12_energy_19 : decode cX12_energy 19 = .ok (.iload_n 2, 1) := by decide +kernel
theorem dX12_energy_20 : decode cX12_energy 20 = .ok (.iaload, 1) := by decide +kernel
theorem dX12_energy_21 : decode cX12_energy 21 = .ok (.aload_n 0, 1) := by decide +kernel
theorem dX12_energy_22 : decode cX12_energy 22 = .ok (.getfield 40, 3) := by decide +kernel
theorem dX12_energy_25 : decode cX12_energy 25 = .ok (.iload_n 2, 1) := by decide +kernel
theorem dX12_energy_26 : decode cX12_energy 26 = .ok (.iaload, 1) := by decide +kernel
theorem dX12_energy_27 : decode cX12_energy 27 = .ok (.imul, 1) := by decide +kernel
theorem dX12_energy_28 : decode cX12_energy 28 = .ok (.aload_n 0, 1) := by decide +kernel
theorem dX12_energy_29 : decode cX12_energy 29 = .ok (.getfield 43, 3) := by decide +kernel
theorem dX12_energy_32 : decode cX12_energy 32 = .ok (.iload_n 2, 1) := by decide +kernel
theorem dX12_energy_33 : decode cX12_energy 33 = .ok (.iaload, 1) := by decide +kernel
theorem dX12_energy_34 : decode cX12_energy 34 = .ok (.aload_n 0, 1) := by decide +kernel
theorem dX12_energy_35 : decode cX12_energy 35 = .ok (.getfield 43, 3) := by decide +kernel
theorem dX12_energy_38 : decode cX12_energy 38 = .ok (.iload_n 2, 1) := by decide +kernel
theorem dX12_energy_39 : decode cX12_energy 39 = .ok (.iaload, 1) := by decide +kernel
theorem dX12_energy_40 : decode cX12_energy 40 = .ok (.imul, 1) := by decide +kernel
theorem dX12_energy_41 : decode cX12_energy 41 = .ok (.iadd, 1) := by decide +kernel
theorem dX12_energy_42 : decode cX12_energy 42 = .ok (.imul, 1) := by decide +kernel
theorem dX12_energy_43 : decode cX12_energy 43 = .ok (.iadd, 1) := by decide +kernel
theorem dX12_energy_44 : decode cX12_energy 44 = .ok (.istore_n 1, 1) := by decide +kernel
theorem dX12_energy_45 : decode cX12_energy 45 = .ok (.iload_n 2, 1) := by decide +kernel
theorem dX12_energy_46 : decode cX12_energy 46 = .ok (.iconst 1, 1) := by decide +kernel
theorem dX12_energy_47 : decode cX12_energy 47 = .ok (.iadd, 1) := by decide +kernel
theorem dX12_energy_48 : decode cX12_energy 48 = .ok (.istore_n 3, 1) := by decide +kernel
theorem dX12_energy_49 : decode cX12_energy 49 = .ok (.iload_n 3, 1) := by decide +kernel
theorem dX12_energy_50 : decode cX12_energy 50 = .ok (.aload_n 0, 1) := by decide +kernel
theorem dX12_energy_51 : decode cX12_energy 51 = .ok (.getfield 241, 3) := by decide +kernel
theorem dX12_energy_54 : decode cX12_energy 54 = .ok (.if_icmp .ge 49, 3) := by decide +kernel
theorem dX12_energy_57 : decode cX12_energy 57 = .ok (.iload_n 1, 1) := by decide +kernel
theorem dX12_energy_58 : decode cX12_energy 58 = .ok (.bipush 100, 2) := by decide +kernel
theorem dX12_energy_60 : decode cX12_energy 60 = .ok (.aload_n 0, 1) := by decide +kernel
theorem dX12_energy_61 : decode cX12_energy 61 = .ok (.getfield 40, 3) := by decide +kernel
theorem dX12_energy_64 : decode cX12_energy 64 = .ok (.iload_n 2, 1) := by decide +kernel
theorem dX12_energy_65 : decode cX12_energy 65 = .ok (.iaload, 1) := by decide +kernel
theorem dX12_energy_66 : decode cX12_energy 66 = .ok (.aload_n 0, 1) := by decide +kernel
theorem dX12_energy_67 : decode cX12_energy 67 = .ok (.getfield 40, 3) := by decide +kernel
theorem dX12_energy_70 : decode cX12_energy 70 = .ok (.iload_n 3, 1) := by decide +kernel
theorem dX12_energy_71 : decode cX12_energy 71 = .ok (.iaload, 1) := by decide +kernel
theorem dX12_energy_72 : decode cX12_energy 72 = .ok (.imul, 1) := by decide +kernel
theorem dX12_energy_73 : decode cX12_energy 73 = .ok (.aload_n 0, 1) := by decide +kernel
theorem dX12_energy_74 : decode cX12_energy 74 = .ok (.getfield 43, 3) := by decide +kernel
theorem dX12_energy_77 : decode cX12_energy 77 = .ok (.iload_n 2, 1) := by decide +kernel
theorem dX12_energy_78 : decode cX12_energy 78 = .ok (.iaload, 1) := by decide +kernel
theorem dX12_energy_79 : decode cX12_energy 79 = .ok (.aload_n 0, 1) := by decide +kernel
theorem dX12_energy_80 : decode cX12_energy 80 = .ok (.getfield 43, 3) := by decide +kernel
theorem dX12_energy_83 : decode cX12_energy 83 = .ok (.iload_n 3, 1) := by decide +kernel
theorem dX12_energy_84 : decode cX12_energy 84 = .ok (.iaload, 1) := by decide +kernel
theorem dX12_energy_85 : decode cX12_energy 85 = .ok (.imul, 1) := by decide +kernel
theorem dX12_energy_86 : decode cX12_energy 86 = .ok (.iadd, 1) := by decide +kernel
theorem dX12_energy_87 : decode cX12_energy 87 = .ok (.imul, 1) := by decide +kernel
theorem dX12_energy_88 : decode cX12_energy 88 = .ok (.aload_n 0, 1) := by decide +kernel
theorem dX12_energy_89 : decode cX12_energy 89 = .ok (.iload_n 2, 1) := by decide +kernel
theorem dX12_energy_90 : decode cX12_energy 90 = .ok (.iload_n 3, 1) := by decide +kernel
theorem dX12_energy_91 : decode cX12_energy 91 = .ok (.invokevirtual 303, 3) := by decide +kernel
theorem dX12_energy_94 : decode cX12_energy 94 = .ok (.idiv, 1) := by decide +kernel
theorem dX12_energy_95 : decode cX12_energy 95 = .ok (.iadd, 1) := by decide +kernel
theorem dX12_energy_96 : decode cX12_energy 96 = .ok (.istore_n 1, 1) := by decide +kernel
theorem dX12_energy_97 : decode cX12_energy 97 = .ok (.iinc 3 1, 3) := by decide +kernel
theorem dX12_energy_100 : decode cX12_energy 100 = .ok (.goto (-51), 3) := by decide +kernel
theorem dX12_energy_103 : decode cX12_energy 103 = .ok (.iinc 2 1, 3) := by decide +kernel
theorem dX12_energy_106 : decode cX12_energy 106 = .ok (.goto (-102), 3) := by decide +kernel
theorem dX12_energy_109 : decode cX12_energy 109 = .ok (.iload_n 1, 1) := by decide +kernel
theorem dX12_energy_110 : decode cX12_energy 110 = .ok (.ireturn, 1) := by decide +kernel
theorem dX12_face_0 : decode cX12_face 0 = .ok (.aload_n 0, 1) := by decide +kernel
theorem dX12_face_1 : decode cX12_face 1 = .ok (.iconst 0, 1) := by decide +kernel
theorem dX12_face_2 : decode cX12_face 2 = .ok (.putfield 86, 3) := by decide +kernel
theorem dX12_face_5 : decode cX12_face 5 = .ok (.aload_n 0, 1) := by decide +kernel
theorem dX12_face_6 : decode cX12_face 6 = .ok (.invokevirtual 306, 3) := by decide +kernel
theorem dX12_face_9 : decode cX12_face 9 = .ok (.ifCond .eq 24, 3) := by decide +kernel
theorem dX12_face_12 : decode cX12_face 12 = .ok (.aload_n 0, 1) := by decide +kernel
theorem dX12_face_13 : decode cX12_face 13 = .ok (.iload_n 1, 1) := by decide +kernel
theorem dX12_face_14 : decode cX12_face 14 = .ok (.iload_n 2, 1) := by decide +kernel
theorem dX12_face_15 : decode cX12_face 15 = .ok (.invokevirtual 288, 3) := by decide +kernel
theorem dX12_face_18 : decode cX12_face 18 = .ok (.ifCond .eq 15, 3) := by decide +kernel
theorem dX12_face_21 : decode cX12_face 21 = .ok (.iload_n 3, 1) := by decide +kernel
theorem dX12_face_22 : decode cX12_face 22 = .ok (.i2l, 1) := by decide +kernel
theorem dX12_face_23 : decode cX12_face 23 = .ok (.lconst 0, 1) := by decide +kernel
theorem dX12_face_24 : decode cX12_face 24 = .ok (.ldc2_w 329, 3) := by decide +kernel
theorem dX12_face_27 : decode cX12_face 27 = .ok (.invokestatic 97, 3) := by decide +kernel
theorem dX12_face_30 : decode cX12_face 30 = .ok (.ifCond .ne 7, 3) := by decide +kernel
theorem dX12_face_33 : decode cX12_face 33 = .ok (.ldc_w 310, 3) := by decide +kernel
theorem dX12_face_36 : decode cX12_face 36 = .ok (.ireturn, 1) := by decide +kernel
theorem dX12_face_37 : decode cX12_face 37 = .ok (.aload_n 0, 1) := by decide +kernel
theorem dX12_face_38 : decode cX12_face 38 = .ok (.invokevirtual 238, 3) := by decide +kernel
theorem dX12_face_41 : decode cX12_face 41 = .ok (.pop, 1) := by decide +kernel
theorem dX12_face_42 : decode cX12_face 42 = .ok (.iload_n 3, 1) := by decide +kernel
theorem dX12_face_43 : decode cX12_face 43 = .ok (.iconst 2, 1) := by decide +kernel
theorem dX12_face_44 : decode cX12_face 44 = .ok (.if_icmp .ne 12, 3) := by decide +kernel
theorem dX12_face_47 : decode cX12_face 47 = .ok (.aload_n 0, 1) := by decide +kernel
theorem dX12_face_48 : decode cX12_face 48 = .ok (.iload_n 1, 1) := by decide +kernel
theorem dX12_face_49 : decode cX12_face 49 = .ok (.iload_n 2, 1) := by decide +kernel
theorem dX12_face_50 : decode cX12_face 50 = .ok (.invokevirtual 331, 3) := by decide +kernel
theorem dX12_face_53 : decode cX12_face 53 = .ok (.goto 10, 3) := by decide +kernel
theorem dX12_face_56 : decode cX12_face 56 = .ok (.aload_n 0, 1) := by decide +kernel
theorem dX12_face_57 : decode cX12_face 57 = .ok (.iload_n 1, 1) := by decide +kernel
theorem dX12_face_58 : decode cX12_face 58 = .ok (.iload_n 2, 1) := by decide +kernel
theorem dX12_face_59 : decode cX12_face 59 = .ok (.iload_n 3, 1) := by decide +kernel
theorem dX12_face_60 : decode cX12_face 60 = .ok (.invokevirtual 221, 3) := by decide +kernel
theorem dX12_face_63 : decode cX12_face 63 = .ok (.ireturn, 1) := by decide +kernel
theorem dX12_fault_0 : decode cX12_fault 0 = .ok (.aload_n 0, 1) := by decide +kernel
theorem dX12_fault_1 : decode cX12_fault 1 = .ok (.iconst 0, 1) := by decide +kernel
theorem dX12_fault_2 : decode cX12_fault 2 = .ok (.putfield 86, 3) := by decide +kernel
theorem dX12_fault_5 : decode cX12_fault 5 = .ok (.aload_n 0, 1) := by decide +kernel
theorem dX12_fault_6 : decode cX12_fault 6 = .ok (.invokevirtual 202, 3) := by decide +kernel
theorem dX12_fault_9 : decode cX12_fault 9 = .ok (.ireturn, 1) := by decide +kernel
theorem dX12_feed_0 : decode cX12_feed 0 = .ok (.aload_n 0, 1) := by decide +kernel
theorem dX12_feed_1 : decode cX12_feed 1 = .ok (.iconst 0, 1) := by decide +kernel
theorem dX12_feed_2 : decode cX12_feed 2 = .ok (.putfield 86, 3) := by decide +kernel
theorem dX12_feed_5 : decode cX12_feed 5 = .ok (.iconst 0, 1) := by decide +kernel
theorem dX12_feed_6 : decode cX12_feed 6 = .ok (.istore 6, 2) := by decide +kernel
theorem dX12_feed_8 : decode cX12_feed 8 = .ok (.iconst 0, 1) := by decide +kernel
theorem dX12_feed_9 : decode cX12_feed 9 = .ok (.istore 7, 2) := by decide +kernel
theorem dX12_feed_11 : decode cX12_feed 11 = .ok (.iload 7, 2) := by decide +kernel
theorem dX12_feed_13 : decode cX12_feed 13 = .ok (.bipush 20, 2) := by decide +kernel
theorem dX12_feed_15 : decode cX12_feed 15 = .ok (.if_icmp .ge 34, 3) := by decide +kernel
theorem dX12_feed_18 : decode cX12_feed 18 = .ok (.iload 6, 2) := by decide +kernel
theorem dX12_feed_20 : decode cX12_feed 20 = .ok (.iload_n 1, 1) := by decide +kernel
theorem dX12_feed_21 : decode cX12_feed 21 = .ok (.iload_n 2, 1) := by decide +kernel
theorem dX12_feed_22 : decode cX12_feed 22 = .ok (.iload_n 3, 1) := by decide +kernel
theorem dX12_feed_23 : decode cX12_feed 23 = .ok (.iload 4, 2) := by decide +kernel
theorem dX12_feed_25 : decode cX12_feed 25 = .ok (.iload 5, 2) := by decide +kernel
theorem dX12_feed_27 : decode cX12_feed 27 = .ok (.iload 7, 2) := by decide +kernel
theorem dX12_feed_29 : decode cX12_feed 29 = .ok (.invokestatic 90, 3) := by decide +kernel
theorem dX12_feed_32 : decode cX12_feed 32 = .ok (.ifCond .eq 7, 3) := by decide +kernel
theorem dX12_feed_35 : decode cX12_feed 35 = .ok (.iconst 1, 1) := by decide +kernel
theorem dX12_feed_36 : decode cX12_feed 36 = .ok (.goto 4, 3) := by decide +kernel
theorem dX12_feed_39 : decode cX12_feed 39 = .ok (.iconst 0, 1) := by decide +kernel
theorem dX12_feed_40 : decode cX12_feed 40 = .ok (.iadd, 1) := by decide +kernel
theorem dX12_feed_41 : decode cX12_feed 41 = .ok (.istore 6, 2) := by decide +kernel
theorem dX12_feed_43 : decode cX12_feed 43 = .ok (.iinc 7 1, 3) := by decide +kernel
theorem dX12_feed_46 : decode cX12_feed 46 = .ok (.goto (-35), 3) := by decide +kernel
theorem dX12_feed_49 : decode cX12_feed 49 = .ok (.aload_n 0, 1) := by decide +kernel
theorem dX12_feed_50 : decode cX12_feed 50 = .ok (.getfield 94, 3) := by decide +kernel
theorem dX12_feed_53 : decode cX12_feed 53 = .ok (.iload 6, 2) := by decide +kernel
theorem dX12_feed_55 : decode cX12_feed 55 = .ok (.iadd, 1) := by decide +kernel
theorem dX12_feed_56 : decode cX12_feed 56 = .ok (.sipush 300, 3) := by decide +kernel
theorem dX12_feed_59 : decode cX12_feed 59 = .ok (.if_icmp .le 5, 3) := by decide +kernel
theorem dX12_feed_62 : decode cX12_feed 62 = .ok (.iconst (-1), 1) := by decide +kernel
theorem dX12_feed_63 : decode cX12_feed 63 = .ok (.ireturn, 1) := by decide +kernel
theorem dX12_feed_64 : decode cX12_feed 64 = .ok (.iconst 0, 1) := by decide +kernel
theorem dX12_feed_65 : decode cX12_feed 65 = .ok (.istore 7, 2) := by decide +kernel
theorem dX12_feed_67 : decode cX12_feed 67 = .ok (.iload 7, 2) := by decide +kernel
theorem dX12_feed_69 : decode cX12_feed 69 = .ok (.bipush 20, 2) := by decide +kernel
theorem dX12_feed_71 : decode cX12_feed 71 = .ok (.if_icmp .ge 49, 3) := by decide +kernel
theorem dX12_feed_74 : decode cX12_feed 74 = .ok (.iload_n 1, 1) := by decide +kernel
theorem dX12_feed_75 : decode cX12_feed 75 = .ok (.iload_n 2, 1) := by decide +kernel
theorem dX12_feed_76 : decode cX12_feed 76 = .ok (.iload_n 3, 1) := by decide +kernel
theorem dX12_feed_77 : decode cX12_feed 77 = .ok (.iload 4, 2) := by decide +kernel
theorem dX12_feed_79 : decode cX12_feed 79 = .ok (.iload 5, 2) := by decide +kernel
theorem dX12_feed_81 : decode cX12_feed 81 = .ok (.iload 7, 2) := by decide +kernel
theorem dX12_feed_83 : decode cX12_feed 83 = .ok (.invokestatic 90, 3) := by decide +kernel
theorem dX12_feed_86 : decode cX12_feed 86 = .ok (.istore 8, 2) := by decide +kernel
theorem dX12_feed_88 : decode cX12_feed 88 = .ok (.iload 8, 2) := by decide +kernel
theorem dX12_feed_90 : decode cX12_feed 90 = .ok (.ifCond .eq 24, 3) := by decide +kernel
theorem dX12_feed_93 : decode cX12_feed 93 = .ok (.aload_n 0, 1) := by decide +kernel
theorem dX12_feed_94 : decode cX12_feed 94 = .ok (.getfield 9, 3) := by decide +kernel
theorem dX12_feed_97 : decode cX12_feed 97 = .ok (.aload_n 0, 1) := by decide +kernel
theorem dX12_feed_98 : decode cX12_feed 98 = .ok (.getfield 94, 3) := by decide +kernel
theorem dX12_feed_101 : decode cX12_feed 101 = .ok (.iload 8, 2) := by decide +kernel
theorem dX12_feed_103 : decode cX12_feed 103 = .ok (.iastore, 1) := by decide +kernel
theorem dX12_feed_104 : decode cX12_feed 104 = .ok (.aload_n 0, 1) := by decide +kernel
theorem dX12_feed_105 : decode cX12_feed 105 = .ok (.dup, 1) := by decide +kernel
theorem dX12_feed_106 : decode cX12_feed 106 = .ok (.getfield 94, 3) := by decide +kernel
theorem dX12_feed_109 : decode cX12_feed 109 = .ok (.iconst 1, 1) := by decide +kernel
theorem dX12_feed_110 : decode cX12_feed 110 = .ok (.iadd, 1) := by decide +kernel
theorem dX12_feed_111 : decode cX12_feed 111 = .ok (.putfield 94, 3) := by decide +kernel
theorem dX12_feed_114 : decode cX12_feed 114 = .ok (.iinc 7 1, 3) := by decide +kernel
theorem dX12_feed_117 : decode cX12_feed 117 = .ok (.goto (-50), 3) := by decide +kernel
theorem dX12_feed_120 : decode cX12_feed 120 = .ok (.aload_n 0, 1) := by decide +kernel
theorem dX12_feed_121 : decode cX12_feed 121 = .ok (.getfield 94, 3) := by decide +kernel
theorem dX12_feed_124 : decode cX12_feed 124 = .ok (.ireturn, 1) := by decide +kernel
theorem dX12_forceBy_0 : decode cX12_forceBy 0 = .ok (.aload_n 0, 1) := by decide +kernel
theorem dX12_forceBy_1 : decode cX12_forceBy 1 = .ok (.getfield 31, 3) := by decide +kernel
theorem dX12_forceBy_4 : decode cX12_forceBy 4 = .ok (.iconst 3, 1) := by decide +kernel
theorem dX12_forceBy_5 : decode cX12_forceBy 5 = .ok (.iaload, 1) := by decide +kernel
theorem dX12_forceBy_6 : decode cX12_forceBy 6 = .ok (.ifCond .ne 42, 3) := by decide +kernel
theorem dX12_forceBy_9 : decode cX12_forceBy 9 = .ok (.ldc2_w 253, 3) := by decide +kernel
theorem dX12_forceBy_12 : decode cX12_forceBy 12 = .ok (.lload_n 1, 1) := by decide +kernel
theorem dX12_forceBy_13 : decode cX12_forceBy 13 = .ok (.lmul, 1) := by decide +kernel
theorem dX12_forceBy_14 : decode cX12_forceBy 14 = .ok (.lload_n 3, 1) := by decide +kernel
theorem dX12_forceBy_15 : decode cX12_forceBy 15 = .ok (.lmul, 1) := by decide +kernel
theorem dX12_forceBy_16 : decode cX12_forceBy 16 = .ok (.lload_n 3, 1) := by decide +kernel
theorem dX12_forceBy_17 : decode cX12_forceBy 17 = .ok (.lload_n 3, 1) := by decide +kernel
theorem dX12_forceBy_18 : decode cX12_forceBy 18 = .ok (.lmul, 1) := by decide +kernel
theorem dX12_forceBy_19 : decode cX12_forceBy 19 = .ok (.lload 5, 2) := by decide +kernel
theorem dX12_forceBy_21 : decode cX12_forceBy 21 = .ok (.lload 5, 2) := by decide +kernel
theorem dX12_forceBy_23 : decode cX12_forceBy 23 = .ok (.lmul, 1) := by decide +kernel
theorem dX12_forceBy_24 : decode cX12_forceBy 24 = .ok (.lsub, 1) := by decide +kernel
theorem dX12_forceBy_25 : decode cX12_forceBy 25 = .ok (.lmul, 1) := by decide +kernel
theorem dX12_forceBy_26 : decode cX12_forceBy 26 = .ok (.lload_n 3, 1) := by decide +kernel
theorem dX12_forceBy_27 : decode cX12_forceBy 27 = .ok (.lload_n 3, 1) := by decide +kernel
theorem dX12_forceBy_28 : decode cX12_forceBy 28 = .ok (.lmul, 1) := by decide +kernel
theorem dX12_forceBy_29 : decode cX12_forceBy 29 = .ok (.lload 5, 2) := by decide +kernel
theorem dX12_forceBy_31 : decode cX12_forceBy 31 = .ok (.lload 5, 2) := by decide +kernel
theorem dX12_forceBy_33 : decode cX12_forceBy 33 = .ok (.lmul, 1) := by decide +kernel
theorem dX12_forceBy_34 : decode cX12_forceBy 34 = .ok (.ladd, 1) := by decide +kernel
theorem dX12_forceBy_35 : decode cX12_forceBy 35 = .ok (.lload_n 3, 1) := by decide +kernel
theorem dX12_forceBy_36 : decode cX12_forceBy 36 = .ok (.lload_n 3, 1) := by decide +kernel
theorem dX12_forceBy_37 : decode cX12_forceBy 37 = .ok (.lmul, 1) := by decide +kernel
theorem dX12_forceBy_38 : decode cX12_forceBy 38 = .ok (.lload 5, 2) := by decide +kernel
theorem dX12_forceBy_40 : decode cX12_forceBy 40 = .ok (.lload 5, 2) := by decide +kernel
theorem dX12_forceBy_42 : decode cX12_forceBy 42 = .ok (.lmul, 1) := by decide +kernel
theorem dX12_forceBy_43 : decode cX12_forceBy 43 = .ok (.ladd, 1) := by decide +kernel
theorem dX12_forceBy_44 : decode cX12_forceBy 44 = .ok (.lmul, 1) := by decide +kernel
theorem dX12_forceBy_45 : decode cX12_forceBy 45 = .ok (.ldiv, 1) := by decide +kernel
theorem dX12_forceBy_46 : decode cX12_forceBy 46 = .ok (.l2i, 1) := by decide +kernel
theorem dX12_forceBy_47 : decode cX12_forceBy 47 = .ok (.ireturn, 1) := by decide +kernel
theorem dX12_forceBy_48 : decode cX12_forceBy 48 = .ok (.aload_n 0, 1) := by decide +kernel
theorem dX12_forceBy_49 : decode cX12_forceBy 49 = .ok (.getfield 31, 3) := by decide +kernel
theorem dX12_forceBy_52 : decode cX12_forceBy 52 = .ok (.iconst 3, 1) := by decide +kernel
theorem dX12_forceBy_53 : decode cX12_forceBy 53 = .ok (.iaload, 1) := by decide +kernel
theorem dX12_forceBy_54 : decode cX12_forceBy 54 = .ok (.iconst 1, 1) := by decide +kernel
theorem dX12_forceBy_55 : decode cX12_forceBy 55 = .ok (.if_icmp .ne 27, 3) := by decide +kernel
theorem dX12_forceBy_58 : decode cX12_forceBy 58 = .ok (.ldc2_w 255, 3) := by decide +kernel
theorem dX12_forceBy_61 : decode cX12_forceBy 61 = .ok (.lload_n 1, 1) := by decide +kernel
theorem dX12_forceBy_62 : decode cX12_forceBy 62 = .ok (.lmul, 1) := by decide +kernel
theorem dX12_forceBy_63 : decode cX12_forceBy 63 = .ok (.lload_n 3, 1) := by decide +kernel
theorem dX12_forceBy_64 : decode cX12_forceBy 64 = .ok (.invokestatic 257, 3) := by decide +kernel
theorem dX12_forceBy_67 : decode cX12_forceBy 67 = .ok (.i2l, 1) := by decide +kernel
theorem dX12_forceBy_68 : decode cX12_forceBy 68 = .ok (.lmul, 1) := by decide +kernel
theorem dX12_forceBy_69 : decode cX12_forceBy 69 = .ok (.lload_n 3, 1) := by decide +kernel
theorem dX12_forceBy_70 : decode cX12_forceBy 70 = .ok (.invokestatic 263, 3) := by decide +kernel
theorem dX12_forceBy_73 : decode cX12_forceBy 73 = .ok (.lload 5, 2) := by decide +kernel
theorem dX12_forceBy_75 : decode cX12_forceBy 75 = .ok (.invokestatic 263, 3) := by decide +kernel
theorem dX12_forceBy_78 : decode cX12_forceBy 78 = .ok (.ladd, 1) := by decide +kernel
theorem dX12_forceBy_79 : decode cX12_forceBy 79 = .ok (.ldiv, 1) := by decide +kernel
theorem dX12_forceBy_80 : decode cX12_forceBy 80 = .ok (.l2i, 1) := by decide +kernel
theorem dX12_forceBy_81 : decode cX12_forceBy 81 = .ok (.ireturn, 1) := by decide +kernel
theorem dX12_forceBy_82 : decode cX12_forceBy 82 = .ok (.ldc2_w 267, 3) := by decide +kernel
theorem dX12_forceBy_85 : decode cX12_forceBy 85 = .ok (.lload_n 1, 1) := by decide +kernel
theorem dX12_forceBy_86 : decode cX12_forceBy 86 = .ok (.lmul, 1) := by decide +kernel
theorem dX12_forceBy_87 : decode cX12_forceBy 87 = .ok (.lload_n 3, 1) := by decide +kernel
theorem dX12_forceBy_88 : decode cX12_forceBy 88 = .ok (.lmul, 1) := by decide +kernel
theorem dX12_forceBy_89 : decode cX12_forceBy 89 = .ok (.lload_n 3, 1) := by decide +kernel
theorem dX12_forceBy_90 : decode cX12_forceBy 90 = .ok (.lload_n 3, 1) := by decide +kernel
theorem dX12_forceBy_91 : decode cX12_forceBy 91 = .ok (.lmul, 1) := by decide +kernel
theorem dX12_forceBy_92 : decode cX12_forceBy 92 = .ok (.lload 5, 2) := by decide +kernel
theorem dX12_forceBy_94 : decode cX12_forceBy 94 = .ok (.lload 5, 2) := by decide +kernel
theorem dX12_forceBy_96 : decode cX12_forceBy 96 = .ok (.lmul, 1) := by decide +kernel
theorem dX12_forceBy_97 : decode cX12_forceBy 97 = .ok (.ladd, 1) := by decide +kernel
theorem dX12_forceBy_98 : decode cX12_forceBy 98 = .ok (.ldiv, 1) := by decide +kernel
theorem dX12_forceBy_99 : decode cX12_forceBy 99 = .ok (.l2i, 1) := by decide +kernel
theorem dX12_forceBy_100 : decode cX12_forceBy 100 = .ok (.ireturn, 1) := by decide +kernel
theorem dX12_forceOn_0 : decode cX12_forceOn 0 = .ok (.aload_n 0, 1) := by decide +kernel
theorem dX12_forceOn_1 : decode cX12_forceOn 1 = .ok (.iload_n 1, 1) := by decide +kernel
theorem dX12_forceOn_2 : decode cX12_forceOn 2 = .ok (.invokevirtual 269, 3) := by decide +kernel
theorem dX12_forceOn_5 : decode cX12_forceOn 5 = .ok (.istore_n 2, 1) := by decide +kernel
theorem dX12_forceOn_6 : decode cX12_forceOn 6 = .ok (.iload_n 2, 1) := by decide +kernel
theorem dX12_forceOn_7 : decode cX12_forceOn 7 = .ok (.iconst (-1), 1) := by decide +kernel
theorem dX12_forceOn_8 : decode cX12_forceOn 8 = .ok (.if_icmp .ne 5, 3) := by decide +kernel
theorem dX12_forceOn_11 : decode cX12_forceOn 11 = .ok (.iconst 0, 1) := by decide +kernel
theorem dX12_forceOn_12 : decode cX12_forceOn 12 = .ok (.ireturn, 1) := by decide +kernel
theorem dX12_forceOn_13 : decode cX12_forceOn 13 = .ok (.aload_n 0, 1) := by decide +kernel
theorem dX12_forceOn_14 : decode cX12_forceOn 14 = .ok (.getfield 31, 3) := by decide +kernel
theorem dX12_forceOn_17 : decode cX12_forceOn 17 = .ok (.iload_n 2, 1) := by decide +kernel
theorem dX12_forceOn_18 : decode cX12_forceOn 18 = .ok (.ifCond .ne 7, 3) := by decide +kernel
theorem dX12_forceOn_21 : decode cX12_forceOn 21 = .ok (.iconst 0, 1) := by decide +kernel
theorem dX12_forceOn_22 : decode cX12_forceOn 22 = .ok (.goto 4, 3) := by decide +kernel
theorem dX12_forceOn_25 : decode cX12_forceOn 25 = .ok (.iconst 1, 1) := by decide +kernel
theorem dX12_forceOn_26 : decode cX12_forceOn 26 = .ok (.iaload, 1) := by decide +kernel
theorem dX12_forceOn_27 : decode cX12_forceOn 27 = .ok (.aload_n 0, 1) := by decide +kernel
theorem dX12_forceOn_28 : decode cX12_forceOn 28 = .ok (.iload_n 1, 1) := by decide +kernel
theorem dX12_forceOn_29 : decode cX12_forceOn 29 = .ok (.iload_n 2, 1) := by decide +kernel
theorem dX12_forceOn_30 : decode cX12_forceOn 30 = .ok (.invokevirtual 272, 3) := by decide +kernel
theorem dX12_forceOn_33 : decode cX12_forceOn 33 = .ok (.imul, 1) := by decide +kernel
theorem dX12_forceOn_34 : decode cX12_forceOn 34 = .ok (.istore_n 3, 1) := by decide +kernel
theorem dX12_forceOn_35 : decode cX12_forceOn 35 = .ok (.iconst 0, 1) := by decide +kernel
theorem dX12_forceOn_36 : decode cX12_forceOn 36 = .ok (.istore 4, 2) := by decide +kernel
theorem dX12_forceOn_38 : decode cX12_forceOn 38 = .ok (.iload 4, 2) := by decide +kernel
theorem dX12_forceOn_40 : decode cX12_forceOn 40 = .ok (.aload_n 0, 1) := by decide +kernel
theorem dX12_forceOn_41 : decode cX12_forceOn 41 = .ok (.getfield 241, 3) := by decide +kernel
theorem dX12_forceOn_44 : decode cX12_forceOn 44 = .ok (.if_icmp .ge 80, 3) := by decide +kernel
theorem dX12_forceOn_47 : decode cX12_forceOn 47 = .ok (.iload 4, 2) := by decide +kernel
theorem dX12_forceOn_49 : decode cX12_forceOn 49 = .ok (.iload_n 1, 1) := by decide +kernel
theorem dX12_forceOn_50 : decode cX12_forceOn 50 = .ok (.if_icmp .eq 68, 3) := by decide +kernel
theorem dX12_forceOn_53 : decode cX12_forceOn 53 = .ok (.aload_n 0, 1) := by decide +kernel
theorem dX12_forceOn_54 : decode cX12_forceOn 54 = .ok (.iload_n 1, 1) := by decide +kernel
theorem dX12_forceOn_55 : decode cX12_forceOn 55 = .ok (.iload_n 2, 1) := by decide +kernel
theorem dX12_forceOn_56 : decode cX12_forceOn 56 = .ok (.invokevirtual 275, 3) := by decide +kernel
theorem dX12_forceOn_59 : decode cX12_forceOn 59 = .ok (.aload_n 0, 1) := by decide +kernel
theorem dX12_forceOn_60 : decode cX12_forceOn 60 = .ok (.iload 4, 2) := by decide +kernel
theorem dX12_forceOn_62 : decode cX12_forceOn 62 = .ok (.iload_n 2, 1) := by decide +kernel
theorem dX12_forceOn_63 : decode cX12_forceOn 63 = .ok (.invokevirtual 275, 3) := by decide +kernel
theorem dX12_forceOn_66 : decode cX12_forceOn 66 = .ok (.isub, 1) := by decide +kernel
theorem dX12_forceOn_67 : decode cX12_forceOn 67 = .ok (.istore 5, 2) := by decide +kernel
theorem dX12_forceOn_69 : decode cX12_forceOn 69 = .ok (.aload_n 0, 1) := by decide +kernel
theorem dX12_forceOn_70 : decode cX12_forceOn 70 = .ok (.iload_n 1, 1) := by decide +kernel
theorem dX12_forceOn_71 : decode cX12_forceOn 71 = .ok (.iconst 1, 1) := by decide +kernel
theorem dX12_forceOn_72 : decode cX12_forceOn 72 = .ok (.iload_n 2, 1) := by decide +kernel
theorem dX12_forceOn_73 : decode cX12_forceOn 73 = .ok (.isub, 1) := by decide +kernel
theorem dX12_forceOn_74 : decode cX12_forceOn 74 = .ok (.invokevirtual 275, 3) := by decide +kernel
theorem dX12_forceOn_77 : decode cX12_forceOn 77 = .ok (.aload_n 0, 1) := by decide +kernel
theorem dX12_forceOn_78 : decode cX12_forceOn 78 = .ok (.iload 4, 2) := by decide +kernel
theorem dX12_forceOn_80 : decode cX12_forceOn 80 = .ok (.iconst 1, 1) := by decide +kernel
theorem dX12_forceOn_81 : decode cX12_forceOn 81 = .ok (.iload_n 2, 1) := by decide +kernel
theorem dX12_forceOn_82 : decode cX12_forceOn 82 = .ok (.isub, 1) := by decide +kernel
theorem dX12_forceOn_83 : decode cX12_forceOn 83 = .ok (.invokevirtual 275, 3) := by decide +kernel
theorem dX12_forceOn_86 : decode cX12_forceOn 86 = .ok (.isub, 1) := by decide +kernel
theorem dX12_forceOn_87 : decode cX12_forceOn 87 = .ok (.istore 6, 2) := by decide +kernel
theorem dX12_forceOn_89 : decode cX12_forceOn 89 = .ok (.iload_n 3, 1) := by decide +kernel
theorem dX12_forceOn_90 : decode cX12_forceOn 90 = .ok (.aload_n 0, 1) := by decide +kernel
theorem dX12_forceOn_91 : decode cX12_forceOn 91 = .ok (.aload_n 0, 1) := by decide +kernel
theorem dX12_forceOn_92 : decode cX12_forceOn 92 = .ok (.iload_n 1, 1) := by decide +kernel
theorem dX12_forceOn_93 : decode cX12_forceOn 93 = .ok (.iload_n 2, 1) := by decide +kernel
theorem dX12_forceOn_94 : decode cX12_forceOn 94 = .ok (.invokevirtual 272, 3) := by decide +kernel
theorem dX12_forceOn_97 : decode cX12_forceOn 97 = .ok (.i2l, 1) := by decide +kernel
theorem dX12_forceOn_98 : decode cX12_forceOn 98 = .ok (.aload_n 0, 1) := by decide +kernel
theorem dX12_forceOn_99 : decode cX12_forceOn 99 = .ok (.iload 4, 2) := by decide +kernel
theorem dX12_forceOn_101 : decode cX12_forceOn 101 = .ok (.iload_n 2, 1) := by decide +kernel
theorem dX12_forceOn_102 : decode cX12_forceOn 102 = .ok (.invokevirtual 272, 3) := by decide +kernel
theorem dX12_forceOn_105 : decode cX12_forceOn 105 = .ok (.i2l, 1) := by decide +kernel
theorem dX12_forceOn_106 : decode cX12_forceOn 106 = .ok (.lmul, 1) := by decide +kernel
theorem dX12_forceOn_107 : decode cX12_forceOn 107 = .ok (.iload 5, 2) := by decide +kernel
theorem dX12_forceOn_109 : decode cX12_forceOn 109 = .ok (.i2l, 1) := by decide +kernel
theorem dX12_forceOn_110 : decode cX12_forceOn 110 = .ok (.iload 6, 2) := by decide +kernel
theorem dX12_forceOn_112 : decode cX12_forceOn 112 = .ok (.i2l, 1) := by decide +kernel
theorem dX12_forceOn_113 : decode cX12_forceOn 113 = .ok (.invokevirtual 278, 3) := by decide +kernel
theorem dX12_forceOn_116 : decode cX12_forceOn 116 = .ok (.iadd, 1) := by decide +kernel
theorem dX12_forceOn_117 : decode cX12_forceOn 117 = .ok (.istore_n 3, 1) := by decide +kernel
theorem dX12_forceOn_118 : decode cX12_forceOn 118 = .ok (.iinc 4 1, 3) := by decide +kernel
theorem dX12_forceOn_121 : decode cX12_forceOn 121 = .ok (.goto (-83), 3) := by decide +kernel
theorem dX12_forceOn_124 : decode cX12_forceOn 124 = .ok (.iload_n 3, 1) := by decide +kernel
theorem dX12_forceOn_125 : decode cX12_forceOn 125 = .ok (.ireturn, 1) := by decide +kernel
theorem dX12_go_0 : decode cX12_go 0 = .ok (.aload_n 0, 1) := by decide +kernel
theorem dX12_go_1 : decode cX12_go 1 = .ok (.iconst 0, 1) := by decide +kernel
theorem dX12_go_2 : decode cX12_go 2 = .ok (.putfield 86, 3) := by decide +kernel
theorem dX12_go_5 : decode cX12_go 5 = .ok (.aload_n 0, 1) := by decide +kernel
theorem dX12_go_6 : decode cX12_go 6 = .ok (.invokevirtual 306, 3) := by decide +kernel
theorem dX12_go_9 : decode cX12_go 9 = .ok (.ifCond .ne 9, 3) := by decide +kernel
theorem dX12_go_12 : decode cX12_go 12 = .ok (.aload_n 0, 1) := by decide +kernel
theorem dX12_go_13 : decode cX12_go 13 = .ok (.iconst 0, 1) := by decide +kernel
theorem dX12_go_14 : decode cX12_go 14 = .ok (.invokevirtual 354, 3) := by decide +kernel
theorem dX12_go_17 : decode cX12_go 17 = .ok (.ireturn, 1) := by decide +kernel
theorem dX12_go_18 : decode cX12_go 18 = .ok (.iload_n 1, 1) := by decide +kernel
theorem dX12_go_19 : decode cX12_go 19 = .ok (.i2l, 1) := by decide +kernel
theorem dX12_go_20 : decode cX12_go 20 = .ok (.lconst 1, 1) := by decide +kernel
theorem dX12_go_21 : decode cX12_go 21 = .ok (.ldc2_w 385, 3) := by decide +kernel
theorem dX12_go_24 : decode cX12_go 24 = .ok (.invokestatic 97, 3) := by decide +kernel
theorem dX12_go_27 : decode cX12_go 27 = .ok (.ifCond .ne 9, 3) := by decide +kernel
theorem dX12_go_30 : decode cX12_go 30 = .ok (.aload_n 0, 1) := by decide +kernel
theorem dX12_go_31 : decode cX12_go 31 = .ok (.iconst 2, 1) := by decide +kernel
theorem dX12_go_32 : decode cX12_go 32 = .ok (.invokevirtual 354, 3) := by decide +kernel
theorem dX12_go_35 : decode cX12_go 35 = .ok (.ireturn, 1) := by decide +kernel
theorem dX12_go_36 : decode cX12_go 36 = .ok (.iconst 0, 1) := by decide +kernel
theorem dX12_go_37 : decode cX12_go 37 = .ok (.istore_n 2, 1) := by decide +kernel
theorem dX12_go_38 : decode cX12_go 38 = .ok (.iconst 0, 1) := by decide +kernel
theorem dX12_go_39 : decode cX12_go 39 = .ok (.istore_n 3, 1) := by decide +kernel
theorem dX12_go_40 : decode cX12_go 40 = .ok (.iload_n 3, 1) := by decide +kernel
theorem dX12_go_41 : decode cX12_go 41 = .ok (.iload_n 1, 1) := by decide +kernel
theorem dX12_go_42 : decode cX12_go 42 = .ok (.if_icmp .ge 44, 3) := by decide +kernel
theorem dX12_go_45 : decode cX12_go 45 = .ok (.aload_n 0, 1) := by decide +kernel
theorem dX12_go_46 : decode cX12_go 46 = .ok (.invokevirtual 364, 3) := by decide +kernel
theorem dX12_go_49 : decode cX12_go 49 = .ok (.aload_n 0, 1) := by decide +kernel
theorem dX12_go_50 : decode cX12_go 50 = .ok (.invokevirtual 387, 3) := by decide +kernel
theorem dX12_go_53 : decode cX12_go 53 = .ok (.aload_n 0, 1) := by decide +kernel
theorem dX12_go_54 : decode cX12_go 54 = .ok (.invokevirtual 390, 3) := by decide +kernel
theorem dX12_go_57 : decode cX12_go 57 = .ok (.iload_n 2, 1) := by decide +kernel
theorem dX12_go_58 : decode cX12_go 58 = .ok (.aload_n 0, 1) := by decide +kernel
theorem dX12_go_59 : decode cX12_go 59 = .ok (.getfield 376, 3) := by decide +kernel
theorem dX12_go_62 : decode cX12_go 62 = .ok (.iadd, 1) := by decide +kernel
theorem dX12_go_63 : decode cX12_go 63 = .ok (.istore_n 2, 1) := by decide +kernel
theorem dX12_go_64 : decode cX12_go 64 = .ok (.aload_n 0, 1) := by decide +kernel
theorem dX12_go_65 : decode cX12_go 65 = .ok (.aload_n 0, 1) := by decide +kernel
theorem dX12_go_66 : decode cX12_go 66 = .ok (.getfield 376, 3) := by decide +kernel
theorem dX12_go_69 : decode cX12_go 69 = .ok (.aload_n 0, 1) := by decide +kernel
theorem dX12_go_70 : decode cX12_go 70 = .ok (.getfield 379, 3) := by decide +kernel
theorem dX12_go_73 : decode cX12_go 73 = .ok (.aload_n 0, 1) := by decide +kernel
theorem dX12_go_74 : decode cX12_go 74 = .ok (.getfield 382, 3) := by decide +kernel
theorem dX12_go_77 : decode cX12_go 77 = .ok (.invokevirtual 393, 3) := by decide +kernel
theorem dX12_go_80 : decode cX12_go 80 = .ok (.iinc 3 1, 3) := by decide +kernel
theorem dX12_go_83 : decode cX12_go 83 = .ok (.goto (-43), 3) := by decide +kernel
theorem dX12_go_86 : decode cX12_go 86 = .ok (.iload_n 2, 1) := by decide +kernel
theorem dX12_go_87 : decode cX12_go 87 = .ok (.ireturn, 1) := by decide +kernel
