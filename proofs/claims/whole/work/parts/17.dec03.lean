theorem dX12_alikeWith_9 : decode cX12_alikeWith 9 = .ok (.if_icmp .ge 62, 3) := by decide +kernel
theorem dX12_alikeWith_12 : decode cX12_alikeWith 12 = .ok (.iload_n 2, 1) := by decide +kernel
theorem dX12_alikeWith_13 : decode cX12_alikeWith 13 = .ok (.aload_n 0, 1) := by decide +kernel
theorem dX12_alikeWith_14 : decode cX12_alikeWith 14 = .ok (.getfield 34, 3) := by decide +kernel
theorem dX12_alikeWith_17 : decode cX12_alikeWith 17 = .ok (.iload_n 3, 1) := by decide +kernel
theorem dX12_alikeWith_18 : decode cX12_alikeWith 18 = .ok (.iaload, 1) := by decide +kernel
theorem dX12_alikeWith_19 : decode cX12_alikeWith 19 = .ok (.aload_n 0, 1) := by decide +kernel
theorem dX12_alikeWith_20 : decode cX12_alikeWith 20 = .ok (.getfield 34, 3) := by decide +kernel
theorem dX12_alikeWith_23 : decode cX12_alikeWith 23 = .ok (.iload_n 1, 1) := by decide +kernel
theorem dX12_alikeWith_24 : decode cX12_alikeWith 24 = .ok (.iaload, 1) := by decide +kernel
theorem dX12_alikeWith_25 : decode cX12_alikeWith 25 = .ok (.if_icmp .ne 37, 3) := by decide +kernel
theorem dX12_alikeWith_28 : decode cX12_alikeWith 28 = .ok (.aload_n 0, 1) := by decide +kernel
theorem dX12_alikeWith_29 : decode cX12_alikeWith 29 = .ok (.getfield 40, 3) := by decide +kernel
theorem dX12_alikeWith_32 : decode cX12_alikeWith 32 = .ok (.iload_n 3, 1) := by decide +kernel
theorem dX12_alikeWith_33 : decode cX12_alikeWith 33 = .ok (.iaload, 1) := by decide +kernel
theorem dX12_alikeWith_34 : decode cX12_alikeWith 34 = .ok (.aload_n 0, 1) := by decide +kernel
theorem dX12_alikeWith_35 : decode cX12_alikeWith 35 = .ok (.getfield 40, 3) := by decide +kernel
theorem dX12_alikeWith_38 : decode cX12_alikeWith 38 = .ok (.iload_n 1, 1) := by decide +kernel
theorem dX12_alikeWith_39 : decode cX12_alikeWith 39 = .ok (.iaload, 1) := by decide +kernel
theorem dX12_alikeWith_40 : decode cX12_alikeWith 40 = .ok (.if_icmp .ne 22, 3) := by decide +kernel
theorem dX12_alikeWith_43 : decode cX12_alikeWith 43 = .ok (.aload_n 0, 1) := by decide +kernel
theorem dX12_alikeWith_44 : decode cX12_alikeWith 44 = .ok (.getfield 43, 3) := by decide +kernel
theorem dX12_alikeWith_47 : decode cX12_alikeWith 47 = .ok (.iload_n 3, 1) := by decide +kernel
theorem dX12_alikeWith_48 : decode cX12_alikeWith 48 = .ok (.iaload, 1) := by decide +kernel
theorem dX12_alikeWith_49 : decode cX12_alikeWith 49 = .ok (.aload_n 0, 1) := by decide +kernel
theorem dX12_alikeWith_50 : decode cX12_alikeWith 50 = .ok (.getfield 43, 3) := by decide +kernel
theorem dX12_alikeWith_53 : decode cX12_alikeWith 53 = .ok (.iload_n 1, 1) := by decide +kernel
theorem dX12_alikeWith_54 : decode cX12_alikeWith 54 = .ok (.iaload, 1) := by decide +kernel
theorem dX12_alikeWith_55 : decode cX12_alikeWith 55 = .ok (.if_icmp .ne 7, 3) := by decide +kernel
theorem dX12_alikeWith_58 : decode cX12_alikeWith 58 = .ok (.iconst 1, 1) := by decide +kernel
theorem dX12_alikeWith_59 : decode cX12_alikeWith 59 = .ok (.goto 4, 3) := by decide +kernel
theorem dX12_alikeWith_62 : decode cX12_alikeWith 62 = .ok (.iconst 0, 1) := by decide +kernel
theorem dX12_alikeWith_63 : decode cX12_alikeWith 63 = .ok (.iadd, 1) := by decide +kernel
theorem dX12_alikeWith_64 : decode cX12_alikeWith 64 = .ok (.istore_n 2, 1) := by decide +kernel
theorem dX12_alikeWith_65 : decode cX12_alikeWith 65 = .ok (.iinc 3 1, 3) := by decide +kernel
theorem dX12_alikeWith_68 : decode cX12_alikeWith 68 = .ok (.goto (-64), 3) := by decide +kernel
theorem dX12_alikeWith_71 : decode cX12_alikeWith 71 = .ok (.iload_n 2, 1) := by decide +kernel
theorem dX12_alikeWith_72 : decode cX12_alikeWith 72 = .ok (.ireturn, 1) := by decide +kernel
theorem dX12_areOpposite_0 : decode cX12_areOpposite 0 = .ok (.aload_n 0, 1) := by decide +kernel
theorem dX12_areOpposite_1 : decode cX12_areOpposite 1 = .ok (.getfield 40, 3) := by decide +kernel
theorem dX12_areOpposite_4 : decode cX12_areOpposite 4 = .ok (.iload_n 1, 1) := by decide +kernel
theorem dX12_areOpposite_5 : decode cX12_areOpposite 5 = .ok (.iaload, 1) := by decide +kernel
theorem dX12_areOpposite_6 : decode cX12_areOpposite 6 = .ok (.aload_n 0, 1) := by decide +kernel
theorem dX12_areOpposite_7 : decode cX12_areOpposite 7 = .ok (.getfield 40, 3) := by decide +kernel
theorem dX12_areOpposite_10 : decode cX12_areOpposite 10 = .ok (.iload_n 2, 1) := by decide +kernel
theorem dX12_areOpposite_11 : decode cX12_areOpposite 11 = .ok (.iaload, 1) := by decide +kernel
theorem dX12_areOpposite_12 : decode cX12_areOpposite 12 = .ok (.iadd, 1) := by decide +kernel
theorem dX12_areOpposite_13 : decode cX12_areOpposite 13 = .ok (.ifCond .ne 23, 3) := by decide +kernel
theorem dX12_areOpposite_16 : decode cX12_areOpposite 16 = .ok (.aload_n 0, 1) := by decide +kernel
theorem dX12_areOpposite_17 : decode cX12_areOpposite 17 = .ok (.getfield 43, 3) := by decide +kernel
theorem dX12_areOpposite_20 : decode cX12_areOpposite 20 = .ok (.iload_n 1, 1) := by decide +kernel
theorem dX12_areOpposite_21 : decode cX12_areOpposite 21 = .ok (.iaload, 1) := by decide +kernel
theorem dX12_areOpposite_22 : decode cX12_areOpposite 22 = .ok (.aload_n 0, 1) := by decide +kernel
theorem dX12_areOpposite_23 : decode cX12_areOpposite 23 = .ok (.getfield 43, 3) := by decide +kernel
theorem dX12_areOpposite_26 : decode cX12_areOpposite 26 = .ok (.iload_n 2, 1) := by decide +kernel
theorem dX12_areOpposite_27 : decode cX12_areOpposite 27 = .ok (.iaload, 1) := by decide +kernel
theorem dX12_areOpposite_28 : decode cX12_areOpposite 28 = .ok (.iadd, 1) := by decide +kernel
theorem dX12_areOpposite_29 : decode cX12_areOpposite 29 = .ok (.ifCond .ne 7, 3) := by decide +kernel
theorem dX12_areOpposite_32 : decode cX12_areOpposite 32 = .ok (.iconst 1, 1) := by decide +kernel
theorem dX12_areOpposite_33 : decode cX12_areOpposite 33 = .ok (.goto 4, 3) := by decide +kernel
theorem dX12_areOpposite_36 : decode cX12_areOpposite 36 = .ok (.iconst 0, 1) := by decide +kernel
theorem dX12_areOpposite_37 : decode cX12_areOpposite 37 = .ok (.ireturn, 1) := by decide +kernel
theorem dX12_back_0 : decode cX12_back 0 = .ok (.aload_n 0, 1) := by decide +kernel
theorem dX12_back_1 : decode cX12_back 1 = .ok (.iconst 0, 1) := by decide +kernel
theorem dX12_back_2 : decode cX12_back 2 = .ok (.putfield 86, 3) := by decide +kernel
theorem dX12_back_5 : decode cX12_back 5 = .ok (.aload_n 0, 1) := by decide +kernel
theorem dX12_back_6 : decode cX12_back 6 = .ok (.getfield 232, 3) := by decide +kernel
theorem dX12_back_9 : decode cX12_back 9 = .ok (.ifCond .ne 5, 3) := by decide +kernel
theorem dX12_back_12 : decode cX12_back 12 = .ok (.iconst (-1), 1) := by decide +kernel
theorem dX12_back_13 : decode cX12_back 13 = .ok (.ireturn, 1) := by decide +kernel
theorem dX12_back_14 : decode cX12_back 14 = .ok (.iconst 0, 1) := by decide +kernel
theorem dX12_back_15 : decode cX12_back 15 = .ok (.istore_n 1, 1) := by decide +kernel
theorem dX12_back_16 : decode cX12_back 16 = .ok (.iload_n 1, 1) := by decide +kernel
theorem dX12_back_17 : decode cX12_back 17 = .ok (.sipush 486, 3) := by decide +kernel
theorem dX12_back_20 : decode cX12_back 20 = .ok (.if_icmp .ge 21, 3) := by decide +kernel
theorem dX12_back_23 : decode cX12_back 23 = .ok (.aload_n 0, 1) := by decide +kernel
theorem dX12_back_24 : decode cX12_back 24 = .ok (.getfield 28, 3) := by decide +kernel
theorem dX12_back_27 : decode cX12_back 27 = .ok (.iload_n 1, 1) := by decide +kernel
theorem dX12_back_28 : decode cX12_back 28 = .ok (.aload_n 0, 1) := by decide +kernel
theorem dX12_back_29 : decode cX12_back 29 = .ok (.getfield 83, 3) := by decide +kernel
theorem dX12_back_32 : decode cX12_back 32 = .ok (.iload_n 1, 1) := by decide +kernel
theorem dX12_back_33 : decode cX12_back 33 = .ok (.iaload, 1) := by decide +kernel
theorem dX12_back_34 : decode cX12_back 34 = .ok (.iastore, 1) := by decide +kernel
theorem dX12_back_35 : decode cX12_back 35 = .ok (.iinc 1 1, 3) := by decide +kernel
theorem dX12_back_38 : decode cX12_back 38 = .ok (.goto (-22), 3) := by decide +kernel
theorem dX12_back_41 : decode cX12_back 41 = .ok (.aload_n 0, 1) := by decide +kernel
theorem dX12_back_42 : decode cX12_back 42 = .ok (.iconst 0, 1) := by decide +kernel
theorem dX12_back_43 : decode cX12_back 43 = .ok (.putfield 229, 3) := by decide +kernel
theorem dX12_back_46 : decode cX12_back 46 = .ok (.aload_n 0, 1) := by decide +kernel
theorem dX12_back_47 : decode cX12_back 47 = .ok (.getfield 28, 3) := by decide +kernel
theorem dX12_back_50 : decode cX12_back 50 = .ok (.sipush 325, 3) := by decide +kernel
theorem dX12_back_53 : decode cX12_back 53 = .ok (.iaload, 1) := by decide +kernel
theorem dX12_back_54 : decode cX12_back 54 = .ok (.ireturn, 1) := by decide +kernel
theorem dX12_bad_0 : decode cX12_bad 0 = .ok (.aload_n 0, 1) := by decide +kernel
theorem dX12_bad_1 : decode cX12_bad 1 = .ok (.aload_n 0, 1) := by decide +kernel
theorem dX12_bad_2 : decode cX12_bad 2 = .ok (.getfield 134, 3) := by decide +kernel
theorem dX12_bad_5 : decode cX12_bad 5 = .ok (.iconst (-1), 1) := by decide +kernel
theorem dX12_bad_6 : decode cX12_bad 6 = .ok (.if_icmp .ne 10, 3) := by decide +kernel
theorem dX12_bad_9 : decode cX12_bad 9 = .ok (.aload_n 0, 1) := by decide +kernel
theorem dX12_bad_10 : decode cX12_bad 10 = .ok (.getfield 108, 3) := by decide +kernel
theorem dX12_bad_13 : decode cX12_bad 13 = .ok (.goto 7, 3) := by decide +kernel
theorem dX12_bad_16 : decode cX12_bad 16 = .ok (.aload_n 0, 1) := by decide +kernel
theorem dX12_bad_17 : decode cX12_bad 17 = .ok (.getfield 134, 3) := by decide +kernel
theorem dX12_bad_20 : decode cX12_bad 20 = .ok (.putfield 134, 3) := by decide +kernel
theorem dX12_bad_23 : decode cX12_bad 23 = .ok (.return_, 1) := by decide +kernel
theorem dX12_coresIn_0 : decode cX12_coresIn 0 = .ok (.iconst 0, 1) := by decide +kernel
theorem dX12_coresIn_1 : decode cX12_coresIn 1 = .ok (.istore 5, 2) := by decide +kernel
theorem dX12_coresIn_3 : decode cX12_coresIn 3 = .ok (.iload_n 2, 1) := by decide +kernel
theorem dX12_coresIn_4 : decode cX12_coresIn 4 = .ok (.istore 6, 2) := by decide +kernel
theorem dX12_coresIn_6 : decode cX12_coresIn 6 = .ok (.iload 6, 2) := by decide +kernel
theorem dX12_coresIn_8 : decode cX12_coresIn 8 = .ok (.iload 4, 2) := by decide +kernel
theorem dX12_coresIn_10 : decode cX12_coresIn 10 = .ok (.if_icmp .ge 45, 3) := by decide +kernel
theorem dX12_coresIn_13 : decode cX12_coresIn 13 = .ok (.iload_n 1, 1) := by decide +kernel
theorem dX12_coresIn_14 : decode cX12_coresIn 14 = .ok (.istore 7, 2) := by decide +kernel
theorem dX12_coresIn_16 : decode cX12_coresIn 16 = .ok (.iload 7, 2) := by decide +kernel
theorem dX12_coresIn_18 : decode cX12_coresIn 18 = .ok (.iload_n 3, 1) := by decide +kernel
theorem dX12_coresIn_19 : decode cX12_coresIn 19 = .ok (.if_icmp .ge 30, 3) := by decide +kernel
theorem dX12_coresIn_22 : decode cX12_coresIn 22 = .ok (.iload 5, 2) := by decide +kernel
theorem dX12_coresIn_24 : decode cX12_coresIn 24 = .ok (.aload_n 0, 1) := by decide +kernel
theorem dX12_coresIn_25 : decode cX12_coresIn 25 = .ok (.iload 7, 2) := by decide +kernel
theorem dX12_coresIn_27 : decode cX12_coresIn 27 = .ok (.iload 6, 2) := by decide +kernel
theorem dX12_coresIn_29 : decode cX12_coresIn 29 = .ok (.invokevirtual 244, 3) := by decide +kernel
theorem dX12_coresIn_32 : decode cX12_coresIn 32 = .ok (.ifCond .eq 7, 3) := by decide +kernel
theorem dX12_coresIn_35 : decode cX12_coresIn 35 = .ok (.iconst 1, 1) := by decide +kernel
theorem dX12_coresIn_36 : decode cX12_coresIn 36 = .ok (.goto 4, 3) := by decide +kernel
theorem dX12_coresIn_39 : decode cX12_coresIn 39 = .ok (.iconst 0, 1) := by decide +kernel
theorem dX12_coresIn_40 : decode cX12_coresIn 40 = .ok (.iadd, 1) := by decide +kernel
theorem dX12_coresIn_41 : decode cX12_coresIn 41 = .ok (.istore 5, 2) := by decide +kernel
theorem dX12_coresIn_43 : decode cX12_coresIn 43 = .ok (.iinc 7 1, 3) := by decide +kernel
theorem dX12_coresIn_46 : decode cX12_coresIn 46 = .ok (.goto (-30), 3) := by decide +kernel
theorem dX12_coresIn_49 : decode cX12_coresIn 49 = .ok (.iinc 6 1, 3) := by decide +kernel
theorem dX12_coresIn_52 : decode cX12_coresIn 52 = .ok (.goto (-46), 3) := by decide +kernel
theorem dX12_coresIn_55 : decode cX12_coresIn 55 = .ok (.iload 5, 2) := by decide +kernel
theorem dX12_coresIn_57 : decode cX12_coresIn 57 = .ok (.ireturn, 1) := by decide +kernel
theorem dX12_sumRound_0 : decode cX12_sumRound 0 = .ok (.iconst 0, 1) := by decide +kernel
theorem dX12_sumRound_1 : decode cX12_sumRound 1 = .ok (.istore 6, 2) := by decide +kernel
theorem dX12_sumRound_3 : decode cX12_sumRound 3 = .ok (.iload_n 1, 1) := by decide +kernel
theorem dX12_sumRound_4 : decode cX12_sumRound 4 = .ok (.istore 7, 2) := by decide +kernel
theorem dX12_sumRound_6 : decode cX12_sumRound 6 = .ok (.iload 7, 2) := by decide +kernel
theorem dX12_sumRound_8 : decode cX12_sumRound 8 = .ok (.iload_n 3, 1) := by decide +kernel
theorem dX12_sumRound_9 : decode cX12_sumRound 9 = .ok (.if_icmp .ge 36, 3) := by decide +kernel
theorem dX12_sumRound_12 : decode cX12_sumRound 12 = .ok (.iload 6, 2) := by decide +kernel
theorem dX12_sumRound_14 : decode cX12_sumRound 14 = .ok (.aload_n 0, 1) := by decide +kernel
theorem dX12_sumRound_15 : decode cX12_sumRound 15 = .ok (.iload 7, 2) := by decide +kernel
theorem dX12_sumRound_17 : decode cX12_sumRound 17 = .ok (.iload_n 2, 1) := by decide +kernel
theorem dX12_sumRound_18 : decode cX12_sumRound 18 = .ok (.iconst 0, 1) := by decide +kernel
theorem dX12_sumRound_19 : decode cX12_sumRound 19 = .ok (.iload 5, 2) := by decide +kernel
theorem dX12_sumRound_21 : decode cX12_sumRound 21 = .ok (.invokevirtual 218, 3) := by decide +kernel
theorem dX12_sumRound_24 : decode cX12_sumRound 24 = .ok (.aload_n 0, 1) := by decide +kernel
theorem dX12_sumRound_25 : decode cX12_sumRound 25 = .ok (.iload 7, 2) := by decide +kernel
theorem dX12_sumRound_27 : decode cX12_sumRound 27 = .ok (.iload 4, 2) := by decide +kernel
theorem dX12_sumRound_29 : decode cX12_sumRound 29 = .ok (.iconst 0, 1) := by decide +kernel
theorem dX12_sumRound_30 : decode cX12_sumRound 30 = .ok (.iload 5, 2) := by decide +kernel
theorem dX12_sumRound_32 : decode cX12_sumRound 32 = .ok (.invokevirtual 218, 3) := by decide +kernel
theorem dX12_sumRound_35 : decode cX12_sumRound 35 = .ok (.isub, 1) := by decide +kernel
theorem dX12_sumRound_36 : decode cX12_sumRound 36 = .ok (.iadd, 1) := by decide +kernel
theorem dX12_sumRound_37 : decode cX12_sumRound 37 = .ok (.istore 6, 2) := by decide +kernel
theorem dX12_sumRound_39 : decode cX12_sumRound 39 = .ok (.iinc 7 1, 3) := by decide +kernel
theorem dX12_sumRound_42 : decode cX12_sumRound 42 = .ok (.goto (-36), 3) := by decide +kernel
theorem dX12_sumRound_45 : decode cX12_sumRound 45 = .ok (.iload_n 2, 1) := by decide +kernel
theorem dX12_sumRound_46 : decode cX12_sumRound 46 = .ok (.istore 7, 2) := by decide +kernel
theorem dX12_sumRound_48 : decode cX12_sumRound 48 = .ok (.iload 7, 2) := by decide +kernel
theorem dX12_sumRound_50 : decode cX12_sumRound 50 = .ok (.iload 4, 2) := by decide +kernel
theorem dX12_sumRound_52 : decode cX12_sumRound 52 = .ok (.if_icmp .ge 35, 3) := by decide +kernel
theorem dX12_sumRound_55 : decode cX12_sumRound 55 = .ok (.iload 6, 2) := by decide +kernel
theorem dX12_sumRound_57 : decode cX12_sumRound 57 = .ok (.aload_n 0, 1) := by decide +kernel
theorem dX12_sumRound_58 : decode cX12_sumRound 58 = .ok (.iload_n 3, 1) := by decide +kernel
theorem dX12_sumRound_59 : decode cX12_sumRound 59 = .ok (.iload 7, 2) := by decide +kernel
theorem dX12_sumRound_61 : decode cX12_sumRound 61 = .ok (.iconst 1, 1) := by decide +kernel
theorem dX12_sumRound_62 : decode cX12_sumRound 62 = .ok (.iload 5, 2) := by decide +kernel
theorem dX12_sumRound_64 : decode cX12_sumRound 64 = .ok (.invokevirtual 218, 3) := by decide +kernel
theorem dX12_sumRound_67 : decode cX12_sumRound 67 = .ok (.aload_n 0, 1) := by decide +kernel
theorem dX12_sumRound_68 : decode cX12_sumRound 68 = .ok (.iload_n 1, 1) := by decide +kernel
theorem dX12_sumRound_69 : decode cX12_sumRound 69 = .ok (.iload 7, 2) := by decide +kernel
theorem dX12_sumRound_71 : decode cX12_sumRound 71 = .ok (.iconst 1, 1) := by decide +kernel
theorem dX12_sumRound_72 : decode cX12_sumRound 72 = .ok (.iload 5, 2) := by decide +kernel
theorem dX12_sumRound_74 : decode cX12_sumRound 74 = .ok (.invokevirtual 218, 3) := by decide +kernel
theorem dX12_sumRound_77 : decode cX12_sumRound 77 = .ok (.isub, 1) := by decide +kernel
theorem dX12_sumRound_78 : decode cX12_sumRound 78 = .ok (.iadd, 1) := by decide +kernel
theorem dX12_sumRound_79 : decode cX12_sumRound 79 = .ok (.istore 6, 2) := by decide +kernel
theorem dX12_sumRound_81 : decode cX12_sumRound 81 = .ok (.iinc 7 1, 3) := by decide +kernel
theorem dX12_sumRound_84 : decode cX12_sumRound 84 = .ok (.goto (-36), 3) := by decide +kernel
theorem dX12_sumRound_87 : decode cX12_sumRound 87 = .ok (.iload 6, 2) := by decide +kernel
theorem dX12_sumRound_89 : decode cX12_sumRound 89 = .ok (.ireturn, 1) := by decide +kernel
theorem dX12_box_0 : decode cX12_box 0 = .ok (.aload_n 0, 1) := by decide +kernel
theorem dX12_box_1 : decode cX12_box 1 = .ok (.iconst 0, 1) := by decide +kernel
theorem dX12_box_2 : decode cX12_box 2 = .ok (.putfield 86, 3) := by decide +kernel
theorem dX12_box_5 : decode cX12_box 5 = .ok (.aload_n 0, 1) := by decide +kernel
theorem dX12_box_6 : decode cX12_box 6 = .ok (.invokevirtual 306, 3) := by decide +kernel
theorem dX12_box_9 : decode cX12_box 9 = .ok (.ifCond .eq 46, 3) := by decide +kernel
theorem dX12_box_12 : decode cX12_box 12 = .ok (.aload_n 0, 1) := by decide +kernel
theorem dX12_box_13 : decode cX12_box 13 = .ok (.iload_n 1, 1) := by decide +kernel
theorem dX12_box_14 : decode cX12_box 14 = .ok (.iload_n 2, 1) := by decide +kernel
theorem dX12_box_15 : decode cX12_box 15 = .ok (.invokevirtual 215, 3) := by decide +kernel
theorem dX12_box_18 : decode cX12_box 18 = .ok (.ifCond .eq 37, 3) := by decide +kernel
theorem dX12_box_21 : decode cX12_box 21 = .ok (.aload_n 0, 1) := by decide +kernel
theorem dX12_box_22 : decode cX12_box 22 = .ok (.iload_n 3, 1) := by decide +kernel
theorem dX12_box_23 : decode cX12_box 23 = .ok (.iload 4, 2) := by decide +kernel
theorem dX12_box_25 : decode cX12_box 25 = .ok (.invokevirtual 215, 3) := by decide +kernel
theorem dX12_box_28 : decode cX12_box 28 = .ok (.ifCond .eq 27, 3) := by decide +kernel
theorem dX12_box_31 : decode cX12_box 31 = .ok (.iload_n 1, 1) := by decide +kernel
theorem dX12_box_32 : decode cX12_box 32 = .ok (.iload_n 3, 1) := by decide +kernel
theorem dX12_box_33 : decode cX12_box 33 = .ok (.if_icmp .ge 22, 3) := by decide +kernel
theorem dX12_box_36 : decode cX12_box 36 = .ok (.iload_n 2, 1) := by decide +kernel
theorem dX12_box_37 : decode cX12_box 37 = .ok (.iload 4, 2) := by decide +kernel
theorem dX12_box_39 : decode cX12_box 39 = .ok (.if_icmp .ge 16, 3) := by decide +kernel
theorem dX12_box_42 : decode cX12_box 42 = .ok (.iload 5, 2) := by decide +kernel
theorem dX12_box_44 : decode cX12_box 44 = .ok (.i2l, 1) := by decide +kernel
theorem dX12_box_45 : decode cX12_box 45 = .ok (.lconst 0, 1) := by decide +kernel
theorem dX12_box_46 : decode cX12_box 46 = .ok (.ldc2_w 291, 3) := by decide +kernel
theorem dX12_box_49 : decode cX12_box 49 = .ok (.invokestatic 97, 3) := by decide +kernel
theorem dX12_box_52 : decode cX12_box 52 = .ok (.ifCond .ne 7, 3) := by decide +kernel
theorem dX12_box_55 : decode cX12_box 55 = .ok (.ldc_w 310, 3) := by decide +kernel
theorem dX12_box_58 : decode cX12_box 58 = .ok (.ireturn, 1) := by decide +kernel
theorem dX12_box_59 : decode cX12_box 59 = .ok (.iload 5, 2) := by decide +kernel
theorem dX12_box_61 : decode cX12_box 61 = .ok (.iconst 2, 1) := by decide +kernel
theorem dX12_box_62 : decode cX12_box 62 = .ok (.if_icmp .ge 17, 3) := by decide +kernel
theorem dX12_box_65 : decode cX12_box 65 = .ok (.aload_n 0, 1) := by decide +kernel
theorem dX12_box_66 : decode cX12_box 66 = .ok (.iload_n 1, 1) := by decide +kernel
theorem dX12_box_67 : decode cX12_box 67 = .ok (.iload_n 2, 1) := by decide +kernel
theorem dX12_box_68 : decode cX12_box 68 = .ok (.iload_n 3, 1) := by decide +kernel
theorem dX12_box_69 : decode cX12_box 69 = .ok (.iload 4, 2) := by decide +kernel
theorem dX12_box_71 : decode cX12_box 71 = .ok (.iload 5, 2) := by decide +kernel
theorem dX12_box_73 : decode cX12_box 73 = .ok (.invokevirtual 314, 3) := by decide +kernel
theorem dX12_box_76 : decode cX12_box 76 = .ok (.goto 31, 3) := by decide +kernel
theorem dX12_box_79 : decode cX12_box 79 = .ok (.iload 5, 2) := by decide +kernel
theorem dX12_box_81 : decode cX12_box 81 = .ok (.iconst 2, 1) := by decide +kernel
theorem dX12_box_82 : decode cX12_box 82 = .ok (.if_icmp .ne 15, 3) := by decide +kernel
theorem dX12_box_85 : decode cX12_box 85 = .ok (.aload_n 0, 1) := by decide +kernel
theorem dX12_box_86 : decode cX12_box 86 = .ok (.iload_n 1, 1) := by decide +kernel
theorem dX12_box_87 : decode cX12_box 87 = .ok (.iload_n 2, 1) := by decide +kernel
theorem dX12_box_88 : decode cX12_box 88 = .ok (.iload_n 3, 1) := by decide +kernel
theorem dX12_box_89 : decode cX12_box 89 = .ok (.iload 4, 2) := by decide +kernel
theorem dX12_box_91 : decode cX12_box 91 = .ok (.invokevirtual 334, 3) := by decide +kernel
theorem dX12_box_94 : decode cX12_box 94 = .ok (.goto 13, 3) := by decide +kernel
theorem dX12_box_97 : decode cX12_box 97 = .ok (.iconst 2, 1) := by decide +kernel
theorem dX12_box_98 : decode cX12_box 98 = .ok (.iload_n 3, 1) := by decide +kernel
theorem dX12_box_99 : decode cX12_box 99 = .ok (.iload_n 1, 1) := by decide +kernel
theorem dX12_box_100 : decode cX12_box 100 = .ok (.isub, 1) := by decide +kernel
theorem dX12_box_101 : decode cX12_box 101 = .ok (.iload 4, 2) := by decide +kernel
theorem dX12_box_103 : decode cX12_box 103 = .ok (.iadd, 1) := by decide +kernel
theorem dX12_box_104 : decode cX12_box 104 = .ok (.iload_n 2, 1) := by decide +kernel
theorem dX12_box_105 : decode cX12_box 105 = .ok (.isub, 1) := by decide +kernel
theorem dX12_box_106 : decode cX12_box 106 = .ok (.imul, 1) := by decide +kernel
theorem dX12_box_107 : decode cX12_box 107 = .ok (.ireturn, 1) := by decide +kernel
theorem dX12_boxed_0 : decode cX12_boxed 0 = .ok (.aload_n 0, 1) := by decide +kernel
theorem dX12_boxed_1 : decode cX12_boxed 1 = .ok (.getfield 59, 3) := by decide +kernel
theorem dX12_boxed_4 : decode cX12_boxed 4 = .ok (.iconst 4, 1) := by decide +kernel
theorem dX12_boxed_5 : decode cX12_boxed 5 = .ok (.aload_n 0, 1) := by decide +kernel
theorem dX12_boxed_6 : decode cX12_boxed 6 = .ok (.getfield 338, 3) := by decide +kernel
theorem dX12_boxed_9 : decode cX12_boxed 9 = .ok (.imul, 1) := by decide +kernel
theorem dX12_boxed_10 : decode cX12_boxed 10 = .ok (.iload_n 1, 1) := by decide +kernel
theorem dX12_boxed_11 : decode cX12_boxed 11 = .ok (.iastore, 1) := by decide +kernel
theorem dX12_boxed_12 : decode cX12_boxed 12 = .ok (.aload_n 0, 1) := by decide +kernel
theorem dX12_boxed_13 : decode cX12_boxed 13 = .ok (.getfield 59, 3) := by decide +kernel
theorem dX12_boxed_16 : decode cX12_boxed 16 = .ok (.iconst 4, 1) := by decide +kernel
theorem dX12_boxed_17 : decode cX12_boxed 17 = .ok (.aload_n 0, 1) := by decide +kernel
theorem dX12_boxed_18 : decode cX12_boxed 18 = .ok (.getfield 338, 3) := by decide +kernel
theorem dX12_boxed_21 : decode cX12_boxed 21 = .ok (.imul, 1) := by decide +kernel
theorem dX12_boxed_22 : decode cX12_boxed 22 = .ok (.iconst 1, 1) := by decide +kernel
theorem dX12_boxed_23 : decode cX12_boxed 23 = .ok (.iadd, 1) := by decide +kernel
theorem dX12_boxed_24 : decode cX12_boxed 24 = .ok (.iload_n 2, 1) := by decide +kernel
theorem dX12_boxed_25 : decode cX12_boxed 25 = .ok (.iastore, 1) := by decide +kernel
theorem dX12_boxed_26 : decode cX12_boxed 26 = .ok (.aload_n 0, 1) := by decide +kernel
theorem dX12_boxed_27 : decode cX12_boxed 27 = .ok (.getfield 59, 3) := by decide +kernel
theorem dX12_boxed_30 : decode cX12_boxed 30 = .ok (.iconst 4, 1) := by decide +kernel
theorem dX12_boxed_31 : decode cX12_boxed 31 = .ok (.aload_n 0, 1) := by decide +kernel
theorem dX12_boxed_32 : decode cX12_boxed 32 = .ok (.getfield 338, 3) := by decide +kernel
theorem dX12_boxed_35 : decode cX12_boxed 35 = .ok (.imul, 1) := by decide +kernel
theorem dX12_boxed_36 : decode cX12_boxed 36 = .ok (.iconst 2, 1) := by decide +kernel
theorem dX12_boxed_37 : decode cX12_boxed 37 = .ok (.iadd, 1) := by decide +kernel
theorem dX12_boxed_38 : decode cX12_boxed 38 = .ok (.iload_n 3, 1) := by decide +kernel
theorem dX12_boxed_39 : decode cX12_boxed 39 = .ok (.iastore, 1) := by decide +kernel
theorem dX12_boxed_40 : decode cX12_boxed 40 = .ok (.aload_n 0, 1) := by decide +kernel
theorem dX12_boxed_41 : decode cX12_boxed 41 = .ok (.getfield 59, 3) := by decide +kernel
theorem dX12_boxed_44 : decode cX12_boxed 44 = .ok (.iconst 4, 1) := by decide +kernel
theorem dX12_boxed_45 : decode cX12_boxed 45 = .ok (.aload_n 0, 1) := by decide +kernel
theorem dX12_boxed_46 : decode cX12_boxed 46 = .ok (.getfield 338, 3) := by decide +kernel
theorem dX12_boxed_49 : decode cX12_boxed 49 = .ok (.imul, 1) := by decide +kernel
theorem dX12_boxed_50 : decode cX12_boxed 50 = .ok (.iconst 3, 1) := by decide +kernel
theorem dX12_boxed_51 : decode cX12_boxed 51 = .ok (.iadd, 1) := by decide +kernel
theorem dX12_boxed_52 : decode cX12_boxed 52 = .ok (.iload 4, 2) := by decide +kernel
theorem dX12_boxed_54 : decode cX12_boxed 54 = .ok (.iastore, 1) := by decide +kernel
theorem dX12_boxed_55 : decode cX12_boxed 55 = .ok (.aload_n 0, 1) := by decide +kernel
theorem dX12_boxed_56 : decode cX12_boxed 56 = .ok (.dup, 1) := by decide +kernel
theorem dX12_boxed_57 : decode cX12_boxed 57 = .ok (.getfield 338, 3) := by decide +kernel
theorem dX12_boxed_60 : decode cX12_boxed 60 = .ok (.iconst 1, 1) := by decide +kernel
theorem dX12_boxed_61 : decode cX12_boxed 61 = .ok (.iadd, 1) := by decide +kernel
theorem dX12_boxed_62 : decode cX12_boxed 62 = .ok (.putfield 338, 3) := by decide +kernel
theorem dX12_boxed_65 : decode cX12_boxed 65 = .ok (.return_, 1) := by decide +kernel
theorem dX12_byteOf_0 : decode cX12_byteOf 0 = .ok (.iload 5, 2) := by decide +kernel
theorem dX12_byteOf_2 : decode cX12_byteOf 2 = .ok (.iconst 4, 1) := by decide +kernel
theorem dX12_byteOf_3 : decode cX12_byteOf 3 = .ok (.if_icmp .ge 7, 3) := by decide +kernel
theorem dX12_byteOf_6 : decode cX12_byteOf 6 = .ok (.iload_n 0, 1) := by decide +kernel
theorem dX12_byteOf_7 : decode cX12_byteOf 7 = .ok (.goto 38, 3) := by decide +kernel
theorem dX12_byteOf_10 : decode cX12_byteOf 10 = .ok (.iload 5, 2) := by decide +kernel
theorem dX12_byteOf_12 : decode cX12_byteOf 12 = .ok (.bipush 8, 2) := by decide +kernel
theorem dX12_byteOf_14 : decode cX12_byteOf 14 = .ok (.if_icmp .ge 7, 3) := by decide +kernel
theorem dX12_byteOf_17 : decode cX12_byteOf 17 = .ok (.iload_n 1, 1) := by decide +kernel
theorem dX12_byteOf_18 : decode cX12_byteOf 18 = .ok (.goto 27, 3) := by decide +kernel
theorem dX12_byteOf_21 : decode cX12_byteOf 21 = .ok (.iload 5, 2) := by decide +kernel
theorem dX12_byteOf_23 : decode cX12_byteOf 23 = .ok (.bipush 12, 2) := by decide +kernel
theorem dX12_byteOf_25 : decode cX12_byteOf 25 = .ok (.if_icmp .ge 7, 3) := by decide +kernel
theorem dX12_byteOf_28 : decode cX12_byteOf 28 = .ok (.iload_n 2, 1) := by decide +kernel
theorem dX12_byteOf_29 : decode cX12_byteOf 29 = .ok (.goto 16, 3) := by decide +kernel
theorem dX12_byteOf_32 : decode cX12_byteOf 32 = .ok (.iload 5, 2) := by decide +kernel
theorem dX12_byteOf_34 : decode cX12_byteOf 34 = .ok (.bipush 16, 2) := by decide +kernel
theorem dX12_byteOf_36 : decode cX12_byteOf 36 = .ok (.if_icmp .ge 7, 3) := by decide +kernel
theorem dX12_byteOf_39 : decode cX12_byteOf 39 = .ok (.iload_n 3, 1) := by decide +kernel
theorem dX12_byteOf_40 : decode cX12_byteOf 40 = .ok (.goto 5, 3) := by decide +kernel
theorem dX12_byteOf_43 : decode cX12_byteOf 43 = .ok (.iload 4, 2) := by decide +kernel
theorem dX12_byteOf_45 : decode cX12_byteOf 45 = .ok (.istore 6, 2) := by decide +kernel
theorem dX12_byteOf_47 : decode cX12_byteOf 47 = .ok (.iload 6, 2) := by decide +kernel
theorem dX12_byteOf_49 : decode cX12_byteOf 49 = .ok (.bipush 24, 2) := by decide +kernel
theorem dX12_byteOf_51 : decode cX12_byteOf 51 = .ok (.bipush 8, 2) := by decide +kernel
theorem dX12_byteOf_53 : decode cX12_byteOf 53 = .ok (.iload 5, 2) := by decide +kernel
theorem dX12_byteOf_55 : decode cX12_byteOf 55 = .ok (.iconst 4, 1) := by decide +kernel
theorem dX12_byteOf_56 : decode cX12_byteOf 56 = .ok (.irem, 1) := by decide +kernel
theorem dX12_byteOf_57 : decode cX12_byteOf 57 = .ok (.imul, 1) := by decide +kernel
theorem dX12_byteOf_58 : decode cX12_byteOf 58 = .ok (.isub, 1) := by decide +kernel
theorem dX12_byteOf_59 : decode cX12_byteOf 59 = .ok (.ishr, 1) := by decide +kernel
theorem dX12_byteOf_60 : decode cX12_byteOf 60 = .ok (.sipush 255, 3) := by decide +kernel
theorem dX12_byteOf_63 : decode cX12_byteOf 63 = .ok (.iand, 1) := by decide +kernel
theorem dX12_byteOf_64 : decode cX12_byteOf 64 = .ok (.ireturn, 1) := by decide +kernel
theorem dX12_canBe_0 : decode cX12_canBe 0 = .ok (.iload_n 0, 1) := by decide +kernel
theorem dX12_canBe_1 : decode cX12_canBe 1 = .ok (.iconst 2, 1) := by decide +kernel
theorem dX12_canBe_2 : decode cX12_canBe 2 = .ok (.if_icmp .ne 15, 3) := by decide +kernel
theorem dX12_canBe_5 : decode cX12_canBe 5 = .ok (.iload_n 1, 1) := by decide +kernel
theorem dX12_canBe_6 : decode cX12_canBe 6 = .ok (.i2l, 1) := by decide +kernel
theorem dX12_canBe_7 : decode cX12_canBe 7 = .ok (.lconst 0, 1) := by decide +kernel
theorem dX12_canBe_8 : decode cX12_canBe 8 = .ok (.ldc2_w 412, 3) := by decide +kernel
theorem dX12_canBe_11 : decode cX12_canBe 11 = .ok (.invokestatic 97, 3) := by decide +kernel
theorem dX12_canBe_14 : decode cX12_canBe 14 = .ok (.goto 31, 3) := by decide +kernel
theorem dX12_canBe_17 : decode cX12_canBe 17 = .ok (.iload_n 0, 1) := by decide +kernel
theorem dX12_canBe_18 : decode cX12_canBe 18 = .ok (.iconst 3, 1) := by decide +kernel
theorem dX12_canBe_19 : decode cX12_canBe 19 = .ok (.if_icmp .ne 15, 3) := by decide +kernel
theorem dX12_canBe_22 : decode cX12_canBe 22 = .ok (.iload_n 1, 1) := by decide +kernel
theorem dX12_canBe_23 : decode cX12_canBe 23 = .ok (.i2l, 1) := by decide +kernel
theorem dX12_canBe_24 : decode cX12_canBe 24 = .ok (.lconst 0, 1) := by decide +kernel
theorem dX12_canBe_25 : decode cX12_canBe 25 = .ok (.ldc2_w 329, 3) := by decide +kernel
theorem dX12_canBe_28 : decode cX12_canBe 28 = .ok (.invokestatic 97, 3) := by decide +kernel
theorem dX12_canBe_31 : decode cX12_canBe 31 = .ok (.goto 14, 3) := by decide +kernel
theorem dX12_canBe_34 : decode cX12_canBe 34 = .ok (.iload_n 1, 1) := by decide +kernel
theorem dX12_canBe_35 : decode cX12_canBe 35 = .ok (.i2l, 1) := by decide +kernel
theorem dX12_canBe_36 : decode cX12_canBe 36 = .ok (.ldc2_w 414, 3) := by decide +kernel
theorem dX12_canBe_39 : decode cX12_canBe 39 = .ok (.ldc2_w 416, 3) := by decide +kernel
theorem dX12_canBe_42 : decode cX12_canBe 42 = .ok (.invokestatic 97, 3) := by decide +kernel
theorem dX12_canBe_45 : decode cX12_canBe 45 = .ok (.ireturn, 1) := by decide +kernel
theorem dX12_core_0 : decode cX12_core 0 = .ok (.aload_n 0, 1) := by decide +kernel
theorem dX12_core_1 : decode cX12_core 1 = .ok (.invokevirtual 238, 3) := by decide +kernel
theorem dX12_core_4 : decode cX12_core 4 = .ok (.pop, 1) := by decide +kernel
theorem dX12_core_5 : decode cX12_core 5 = .ok (.aload_n 0, 1) := by decide +kernel
theorem dX12_core_6 : decode cX12_core 6 = .ok (.aload_n 0, 1) := by decide +kernel
theorem dX12_core_7 : decode cX12_core 7 = .ok (.invokevirtual 306, 3) := by decide +kernel
theorem dX12_core_10 : decode cX12_core 10 = .ok (.ifCond .eq 35, 3) := by decide +kernel
theorem dX12_core_13 : decode cX12_core 13 = .ok (.iload_n 1, 1) := by decide +kernel
theorem dX12_core_14 : decode cX12_core 14 = .ok (.i2l, 1) := by decide +kernel
theorem dX12_core_15 : decode cX12_core 15 = .ok (.lconst 0, 1) := by decide +kernel
theorem dX12_core_16 : decode cX12_core 16 = .ok (.aload_n 0, 1) := by decide +kernel
theorem dX12_core_17 : decode cX12_core 17 = .ok (.getfield 241, 3) := by decide +kernel
theorem dX12_core_20 : decode cX12_core 20 = .ok (.iconst 1, 1) := by decide +kernel
theorem dX12_core_21 : decode cX12_core 21 = .ok (.isub, 1) := by decide +kernel
theorem dX12_core_22 : decode cX12_core 22 = .ok (.i2l, 1) := by decide +kernel
theorem dX12_core_23 : decode cX12_core 23 = .ok (.invokestatic 97, 3) := by decide +kernel
theorem dX12_core_26 : decode cX12_core 26 = .ok (.ifCond .eq 19, 3) := by decide +kernel
theorem dX12_core_29 : decode cX12_core 29 = .ok (.iload_n 2, 1) := by decide +kernel
theorem dX12_core_30 : decode cX12_core 30 = .ok (.i2l, 1) := by decide +kernel
theorem dX12_core_31 : decode cX12_core 31 = .ok (.lconst 0, 1) := by decide +kernel
theorem dX12_core_32 : decode cX12_core 32 = .ok (.ldc2_w 327, 3) := by decide +kernel
theorem dX12_core_35 : decode cX12_core 35 = .ok (.invokestatic 97, 3) := by decide +kernel
theorem dX12_core_38 : decode cX12_core 38 = .ok (.ifCond .eq 7, 3) := by decide +kernel
theorem dX12_core_41 : decode cX12_core 41 = .ok (.iconst 0, 1) := by decide +kernel
theorem dX12_core_42 : decode cX12_core 42 = .ok (.goto 4, 3) := by decide +kernel
theorem dX12_core_45 : decode cX12_core 45 = .ok (.iconst 1, 1) := by decide +kernel
theorem dX12_core_46 : decode cX12_core 46 = .ok (.putfield 86, 3) := by decide +kernel
theorem dX12_core_49 : decode cX12_core 49 = .ok (.aload_n 0, 1) := by decide +kernel
theorem dX12_core_50 : decode cX12_core 50 = .ok (.getfield 86, 3) := by decide +kernel
theorem dX12_core_53 : decode cX12_core 53 = .ok (.iconst 1, 1) := by decide +kernel
theorem dX12_core_54 : decode cX12_core 54 = .ok (.if_icmp .ne 5, 3) := by decide +kernel
theorem dX12_core_57 : decode cX12_core 57 = .ok (.iconst 0, 1) := by decide +kernel
theorem dX12_core_58 : decode cX12_core 58 = .ok (.ireturn, 1) := by decide +kernel
theorem dX12_core_59 : decode cX12_core 59 = .ok (.iload_n 2, 1) := by decide +kernel
theorem dX12_core_60 : decode cX12_core 60 = .ok (.tableswitch 70 0 4 #[36, 43, 50, 57, 64], 36) := by decide +kernel
theorem dX12_core_96 : decode cX12_core 96 = .ok (.aload_n 0, 1) := by decide +kernel
theorem dX12_core_97 : decode cX12_core 97 = .ok (.getfield 34, 3) := by decide +kernel
theorem dX12_core_100 : decode cX12_core 100 = .ok (.iload_n 1, 1) := by decide +kernel
theorem dX12_core_101 : decode cX12_core 101 = .ok (.iaload, 1) := by decide +kernel
theorem dX12_core_102 : decode cX12_core 102 = .ok (.ireturn, 1) := by decide +kernel
theorem dX12_core_103 : decode cX12_core 103 = .ok (.aload_n 0, 1) := by decide +kernel
theorem dX12_core_104 : decode cX12_core 104 = .ok (.getfield 37, 3) := by decide +kernel
theorem dX12_core_107 : decode cX12_core 107 = .ok (.iload_n 1, 1) := by decide +kernel
theorem dX12_core_108 : decode cX12_core 108 = .ok (.iaload, 1) := by decide +kernel
theorem dX12_core_109 : decode cX12_core 109 = .ok (.ireturn, 1) := by decide +kernel
theorem dX12_core_110 : decode cX12_core 110 = .ok (.aload_n 0, 1) := by decide +kernel
theorem dX12_core_111 : decode cX12_core 111 = .ok (.getfield 40, 3) := by decide +kernel
theorem dX12_core_114 : decode cX12_core 114 = .ok (.iload_n 1, 1) := by decide +kernel
theorem dX12_core_115 : decode cX12_core 115 = .ok (.iaload, 1) := by decide +kernel
theorem dX12_core_116 : decode cX12_core 116 = .ok (.ireturn, 1) := by decide +kernel
theorem dX12_core_117 : decode cX12_core 117 = .ok (.aload_n 0, 1) := by decide +kernel
theorem dX12_core_118 : decode cX12_core 118 = .ok (.getfield 43, 3) := by decide +kernel
theorem dX12_core_121 : decode cX12_core 121 = .ok (.iload_n 1, 1) := by decide +kernel
theorem dX12_core_122 : decode cX12_core 122 = .ok (.iaload, 1) := by decide +kernel
theorem dX12_core_123 : decode cX12_core 123 = .ok (.ireturn, 1) := by decide +kernel
theorem dX12_core_124 : decode cX12_core 124 = .ok (.aload_n 0, 1) := by decide +kernel
theorem dX12_core_125 : decode cX12_core 125 = .ok (.iload_n 1, 1) := by decide +kernel
theorem dX12_core_126 : decode cX12_core 126 = .ok (.invokevirtual 269, 3) := by decide +kernel
theorem dX12_core_129 : decode cX12_core 129 = .ok (.ireturn, 1) := by decide +kernel
theorem dX12_core_130 : decode cX12_core 130 = .ok (.aload_n 0, 1) := by decide +kernel
theorem dX12_core_131 : decode cX12_core 131 = .ok (.getfield 46, 3) := by decide +kernel
theorem dX12_core_134 : decode cX12_core 134 = .ok (.iload_n 1, 1) := by decide +kernel
theorem dX12_core_135 : decode cX12_core 135 = .ok (.iaload, 1) := by decide +kernel
theorem dX12_core_136 : decode cX12_core 136 = .ok (.ireturn, 1) := by decide +kernel
theorem dX12_coreOf_0 : decode cX12_coreOf 0 = .ok (.iconst 0, 1) := by decide +kernel
theorem dX12_coreOf_1 : decode cX12_coreOf 1 = .ok (.istore_n 3, 1) := by decide +kernel
theorem dX12_coreOf_2 : decode cX12_coreOf 2 = .ok (.iload_n 3, 1) := by decide +kernel
theorem dX12_coreOf_3 : decode cX12_coreOf 3 = .ok (.aload_n 0, 1) := by decide +kernel
theorem dX12_coreOf_4 : decode cX12_coreOf 4 = .ok (.getfield 241, 3) := by decide +kernel
theorem dX12_coreOf_7 : decode cX12_coreOf 7 = .ok (.if_icmp .ge 31, 3) := by decide +kernel
theorem dX12_coreOf_10 : decode cX12_coreOf 10 = .ok (.aload_n 0, 1) := by decide +kernel
theorem dX12_coreOf_11 : decode cX12_coreOf 11 = .ok (.getfield 34, 3) := by decide +kernel
theorem dX12_coreOf_14 : decode cX12_coreOf 14 = .ok (.iload_n 3, 1) := by decide +kernel
theorem dX12_coreOf_15 : decode cX12_coreOf 15 = .ok (.iaload, 1) := by decide +kernel
theorem dX12_coreOf_16 : decode cX12_coreOf 16 = .ok (.iload_n 1, 1) := by decide +kernel
theorem dX12_coreOf_17 : decode cX12_coreOf 17 = .ok (.if_icmp .ne 15, 3) := by decide +kernel
theorem dX12_coreOf_20 : decode cX12_coreOf 20 = .ok (.aload_n 0, 1) := by decide +kernel
theorem dX12_coreOf_21 : decode cX12_coreOf 21 = .ok (.getfield 37, 3) := by decide +kernel
theorem dX12_coreOf_24 : decode cX12_coreOf 24 = .ok (.iload_n 3, 1) := by decide +kernel
theorem dX12_coreOf_25 : decode cX12_coreOf 25 = .ok (.iaload, 1) := by decide +kernel
theorem dX12_coreOf_26 : decode cX12_coreOf 26 = .ok (.iload_n 2, 1) := by decide +kernel
theorem dX12_coreOf_27 : decode cX12_coreOf 27 = .ok (.if_icmp .ne 5, 3) := by decide +kernel
theorem dX12_coreOf_30 : decode cX12_coreOf 30 = .ok (.iload_n 3, 1) := by decide +kernel
theorem dX12_coreOf_31 : decode cX12_coreOf 31 = .ok (.ireturn, 1) := by decide +kernel
theorem dX12_coreOf_32 : decode cX12_coreOf 32 = .ok (.iinc 3 1, 3) := by decide +kernel
theorem dX12_coreOf_35 : decode cX12_coreOf 35 = .ok (.goto (-33), 3) := by decide +kernel
theorem dX12_coreOf_38 : decode cX12_coreOf 38 = .ok (.iconst (-1), 1) := by decide +kernel
theorem dX12_coreOf_39 : decode cX12_coreOf 39 = .ok (.ireturn, 1) := by decide +kernel
theorem dX12_coresBehind_0 : decode cX12_coresBehind 0 = .ok (.iload_n 1, 1) := by decide +kernel
theorem dX12_coresBehind_1 : decode cX12_coresBehind 1 = .ok (.iload_n 3, 1) := by decide +kernel
theorem dX12_coresBehind_2 : decode cX12_coresBehind 2 = .ok (.invokestatic 282, 3) := by decide +kernel
theorem dX12_coresBehind_5 : decode cX12_coresBehind 5 = .ok (.istore 6, 2) := by decide +kernel
theorem dX12_coresBehind_7 : decode cX12_coresBehind 7 = .ok (.iload_n 2, 1) := by decide +kernel
theorem dX12_coresBehind_8 : decode cX12_coresBehind 8 = .ok (.iload_n 3, 1) := by decide +kernel
theorem dX12_coresBehind_9 : decode cX12_coresBehind 9 = .ok (.invokestatic 285, 3) := by decide +kernel
theorem dX12_coresBehind_12 : decode cX12_coresBehind 12 = .ok (.istore 7, 2) := by decide +kernel
theorem dX12_coresBehind_14 : decode cX12_coresBehind 14 = .ok (.aload_n 0, 1) := by decide +kernel
theorem dX12_coresBehind_15 : decode cX12_coresBehind 15 = .ok (.getfield 241, 3) := by decide +kernel
theorem dX12_coresBehind_18 : decode cX12_coresBehind 18 = .ok (.istore 8, 2) := by decide +kernel
theorem dX12_coresBehind_20 : decode cX12_coresBehind 20 = .ok (.iload 8, 2) := by decide +kernel
theorem dX12_coresBehind_22 : decode cX12_coresBehind 22 = .ok (.aload_n 0, 1) := by decide +kernel
theorem dX12_coresBehind_23 : decode cX12_coresBehind 23 = .ok (.iload_n 1, 1) := by decide +kernel
theorem dX12_coresBehind_24 : decode cX12_coresBehind 24 = .ok (.iload_n 2, 1) := by decide +kernel
theorem dX12_coresBehind_25 : decode cX12_coresBehind 25 = .ok (.iconst 0, 1) := by decide +kernel
theorem dX12_coresBehind_26 : decode cX12_coresBehind 26 = .ok (.invokevirtual 221, 3) := by decide +kernel
theorem dX12_coresBehind_29 : decode cX12_coresBehind 29 = .ok (.iload 4, 2) := by decide +kernel
theorem dX12_coresBehind_31 : decode cX12_coresBehind 31 = .ok (.if_icmp .ne 19, 3) := by decide +kernel
theorem dX12_coresBehind_34 : decode cX12_coresBehind 34 = .ok (.aload_n 0, 1) := by decide +kernel
theorem dX12_coresBehind_35 : decode cX12_coresBehind 35 = .ok (.iload_n 1, 1) := by decide +kernel
theorem dX12_coresBehind_36 : decode cX12_coresBehind 36 = .ok (.iload_n 2, 1) := by decide +kernel
theorem dX12_coresBehind_37 : decode cX12_coresBehind 37 = .ok (.iconst 1, 1) := by decide +kernel
theorem dX12_coresBehind_38 : decode cX12_coresBehind 38 = .ok (.invokevirtual 221, 3) := by decide +kernel
theorem dX12_coresBehind_41 : decode cX12_coresBehind 41 = .ok (.iload 5, 2) := by decide +kernel
theorem dX12_coresBehind_43 : decode cX12_coresBehind 43 = .ok (.if_icmp .ne 7, 3) := by decide +kernel
theorem dX12_coresBehind_46 : decode cX12_coresBehind 46 = .ok (.iconst 1, 1) := by decide +kernel
theorem dX12_coresBehind_47 : decode cX12_coresBehind 47 = .ok (.goto 4, 3) := by decide +kernel
theorem dX12_coresBehind_50 : decode cX12_coresBehind 50 = .ok (.iconst 0, 1) := by decide +kernel
theorem dX12_coresBehind_51 : decode cX12_coresBehind 51 = .ok (.isub, 1) := by decide +kernel
theorem dX12_coresBehind_52 : decode cX12_coresBehind 52 = .ok (.istore 8, 2) := by decide +kernel
theorem dX12_coresBehind_54 : decode cX12_coresBehind 54 = .ok (.aload_n 0, 1) := by decide +kernel
theorem dX12_coresBehind_55 : decode cX12_coresBehind 55 = .ok (.iload 6, 2) := by decide +kernel
theorem dX12_coresBehind_57 : decode cX12_coresBehind 57 = .ok (.iload 7, 2) := by decide +kernel
theorem dX12_coresBehind_59 : decode cX12_coresBehind 59 = .ok (.invokevirtual 288, 3) := by decide +kernel
theorem dX12_coresBehind_62 : decode cX12_coresBehind 62 = .ok (.ifCond .eq 84, 3) := by decide +kernel
theorem dX12_coresBehind_65 : decode cX12_coresBehind 65 = .ok (.aload_n 0, 1) := by decide +kernel
theorem dX12_coresBehind_66 : decode cX12_coresBehind 66 = .ok (.iload 6, 2) := by decide +kernel
theorem dX12_coresBehind_68 : decode cX12_coresBehind 68 = .ok (.iload 7, 2) := by decide +kernel
theorem dX12_coresBehind_70 : decode cX12_coresBehind 70 = .ok (.invokevirtual 244, 3) := by decide +kernel
theorem dX12_coresBehind_73 : decode cX12_coresBehind 73 = .ok (.istore 9, 2) := by decide +kernel
theorem dX12_coresBehind_75 : decode cX12_coresBehind 75 = .ok (.aload_n 0, 1) := by decide +kernel
theorem dX12_coresBehind_76 : decode cX12_coresBehind 76 = .ok (.iload 6, 2) := by decide +kernel
theorem dX12_coresBehind_78 : decode cX12_coresBehind 78 = .ok (.iload 7, 2) := by decide +kernel
theorem dX12_coresBehind_80 : decode cX12_coresBehind 80 = .ok (.iconst 0, 1) := by decide +kernel
theorem dX12_coresBehind_81 : decode cX12_coresBehind 81 = .ok (.invokevirtual 221, 3) := by decide +kernel
theorem dX12_coresBehind_84 : decode cX12_coresBehind 84 = .ok (.iload 4, 2) := by decide +kernel
theorem dX12_coresBehind_86 : decode cX12_coresBehind 86 = .ok (.iadd, 1) := by decide +kernel
theorem dX12_coresBehind_87 : decode cX12_coresBehind 87 = .ok (.ifCond .ne 18, 3) := by decide +kernel
theorem dX12_coresBehind_90 : decode cX12_coresBehind 90 = .ok (.aload_n 0, 1) := by decide +kernel
theorem dX12_coresBehind_91 : decode cX12_coresBehind 91 = .ok (.iload 6, 2) := by decide +kernel
theorem dX12_coresBehind_93 : decode cX12_coresBehind 93 = .ok (.iload 7, 2) := by decide +kernel
theorem dX12_coresBehind_95 : decode cX12_coresBehind 95 = .ok (.iconst 1, 1) := by decide +kernel
theorem dX12_coresBehind_96 : decode cX12_coresBehind 96 = .ok (.invokevirtual 221, 3) := by decide +kernel
theorem dX12_coresBehind_99 : decode cX12_coresBehind 99 = .ok (.iload 5, 2) := by decide +kernel
theorem dX12_coresBehind_101 : decode cX12_coresBehind 101 = .ok (.iadd, 1) := by decide +kernel
theorem dX12_coresBehind_102 : decode cX12_coresBehind 102 = .ok (.ifCond .eq 7, 3) := by decide +kernel
theorem dX12_coresBehind_105 : decode cX12_coresBehind 105 = .ok (.iconst 1, 1) := by decide +kernel
theorem dX12_coresBehind_106 : decode cX12_coresBehind 106 = .ok (.goto 4, 3) := by decide +kernel
theorem dX12_coresBehind_109 : decode cX12_coresBehind 109 = .ok (.iconst 0, 1) := by decide +kernel
theorem dX12_coresBehind_110 : decode cX12_coresBehind 110 = .ok (.istore 10, 2) := by decide +kernel
theorem dX12_coresBehind_112 : decode cX12_coresBehind 112 = .ok (.iload 8, 2) := by decide +kernel
theorem dX12_coresBehind_114 : decode cX12_coresBehind 114 = .ok (.iload 10, 2) := by decide +kernel
theorem dX12_coresBehind_116 : decode cX12_coresBehind 116 = .ok (.ifCond .eq 12, 3) := by decide +kernel
theorem dX12_coresBehind_119 : decode cX12_coresBehind 119 = .ok (.iload 9, 2) := by decide +kernel
theorem dX12_coresBehind_121 : decode cX12_coresBehind 121 = .ok (.ifCond .ne 7, 3) := by decide +kernel
theorem dX12_coresBehind_124 : decode cX12_coresBehind 124 = .ok (.iconst 1, 1) := by decide +kernel
theorem dX12_coresBehind_125 : decode cX12_coresBehind 125 = .ok (.goto 18, 3) := by decide +kernel
theorem dX12_coresBehind_128 : decode cX12_coresBehind 128 = .ok (.iload 10, 2) := by decide +kernel
theorem dX12_coresBehind_130 : decode cX12_coresBehind 130 = .ok (.ifCond .ne 12, 3) := by decide +kernel
theorem dX12_coresBehind_133 : decode cX12_coresBehind 133 = .ok (.iload 9, 2) := by decide +kernel
theorem dX12_coresBehind_135 : decode cX12_coresBehind 135 = .ok (.ifCond .eq 7, 3) := by decide +kernel
theorem dX12_coresBehind_138 : decode cX12_coresBehind 138 = .ok (.iconst (-1), 1) := by decide +kernel
theorem dX12_coresBehind_139 : decode cX12_coresBehind 139 = .ok (.goto 4, 3) := by decide +kernel
theorem dX12_coresBehind_142 : decode cX12_coresBehind 142 = .ok (.iconst 0, 1) := by decide +kernel
theorem dX12_coresBehind_143 : decode cX12_coresBehind 143 = .ok (.iadd, 1) := by decide +kernel
theorem dX12_coresBehind_144 : decode cX12_coresBehind 144 = .ok (.istore 8, 2) := by decide +kernel
theorem dX12_coresBehind_146 : decode cX12_coresBehind 146 = .ok (.iload 8, 2) := by decide +kernel
theorem dX12_coresBehind_148 : decode cX12_coresBehind 148 = .ok (.ireturn, 1) := by decide +kernel
theorem dX12_linkOf_0 : decode cX12_linkOf 0 = .ok (.iconst 2, 1) := by decide +kernel
theorem dX12_linkOf_1 : decode cX12_linkOf 1 = .ok (.bipush 9, 2) := by decide +kernel
theorem dX12_linkOf_3 : decode cX12_linkOf 3 = .ok (.iload_n 1, 1) := by decide +kernel
theorem dX12_linkOf_4 : decode cX12_linkOf 4 = .ok (.imul, 1) := by decide +kernel
theorem dX12_linkOf_5 : decode cX12_linkOf 5 = .ok (.iload_n 0, 1) := by decide +kernel
theorem dX12_linkOf_6 : decode cX12_linkOf 6 = .ok (.iadd, 1) := by decide +kernel
theorem dX12_linkOf_7 : decode cX12_linkOf 7 = .ok (.imul, 1) := by decide +kernel
theorem dX12_linkOf_8 : decode cX12_linkOf 8 = .ok (.iload_n 2, 1) := by decide +kernel
theorem dX12_linkOf_9 : decode cX12_linkOf 9 = .ok (.ifCond .eq 7, 3) := by decide +kernel
theorem dX12_linkOf_12 : decode cX12_linkOf 12 = .ok (.iconst 1, 1) := by decide +kernel
theorem dX12_linkOf_13 : decode cX12_linkOf 13 = .ok (.goto 4, 3) := by decide +kernel
theorem dX12_linkOf_16 : decode cX12_linkOf 16 = .ok (.iconst 0, 1) := by decide +kernel
theorem dX12_linkOf_17 : decode cX12_linkOf 17 = .ok (.iadd, 1) := by decide +kernel
theorem dX12_linkOf_18 : decode cX12_linkOf 18 = .ok (.ireturn, 1) := by decide +kernel
theorem dX12_ofFace_0 : decode cX12_ofFace 0 = .ok (.iload_n 3, 1) := by decide +kernel
theorem dX12_ofFace_1 : decode cX12_ofFace 1 = .ok (.ifCond .ne 12, 3) := by decide +kernel
theorem dX12_ofFace_4 : decode cX12_ofFace 4 = .ok (.iload_n 1, 1) := by decide +kernel
theorem dX12_ofFace_5 : decode cX12_ofFace 5 = .ok (.iload_n 2, 1) := by decide +kernel
theorem dX12_ofFace_6 : decode cX12_ofFace 6 = .ok (.iconst 0, 1) := by decide +kernel
theorem dX12_ofFace_7 : decode cX12_ofFace 7 = .ok (.invokestatic 421, 3) := by decide +kernel
theorem dX12_ofFace_10 : decode cX12_ofFace 10 = .ok (.goto 41, 3) := by decide +kernel
theorem dX12_ofFace_13 : decode cX12_ofFace 13 = .ok (.iload_n 3, 1) := by decide +kernel
theorem dX12_ofFace_14 : decode cX12_ofFace 14 = .ok (.iconst 1, 1) := by decide +kernel
theorem dX12_ofFace_15 : decode cX12_ofFace 15 = .ok (.if_icmp .ne 12, 3) := by decide +kernel
theorem dX12_ofFace_18 : decode cX12_ofFace 18 = .ok (.iload_n 1, 1) := by decide +kernel
theorem dX12_ofFace_19 : decode cX12_ofFace 19 = .ok (.iload_n 2, 1) := by decide +kernel
theorem dX12_ofFace_20 : decode cX12_ofFace 20 = .ok (.iconst 1, 1) := by decide +kernel
theorem dX12_ofFace_21 : decode cX12_ofFace 21 = .ok (.invokestatic 421, 3) := by decide +kernel
theorem dX12_ofFace_24 : decode cX12_ofFace 24 = .ok (.goto 27, 3) := by decide +kernel
theorem dX12_ofFace_27 : decode cX12_ofFace 27 = .ok (.iload_n 3, 1) := by decide +kernel
theorem dX12_ofFace_28 : decode cX12_ofFace 28 = .ok (.iconst 2, 1) := by decide +kernel
theorem dX12_ofFace_29 : decode cX12_ofFace 29 = .ok (.if_icmp .ne 14, 3) := by decide +kernel
theorem dX12_ofFace_32 : decode cX12_ofFace 32 = .ok (.iload_n 1, 1) := by decide +kernel
theorem dX12_ofFace_33 : decode cX12_ofFace 33 = .ok (.iconst 1, 1) := by decide +kernel
theorem dX12_ofFace_34 : decode cX12_ofFace 34 = .ok (.iadd, 1) := by decide +kernel
theorem dX12_ofFace_35 : decode cX12_ofFace 35 = .ok (.iload_n 2, 1) := by decide +kernel
theorem dX12_ofFace_36 : decode cX12_ofFace 36 = .ok (.iconst 1, 1) := by decide +kernel
theorem dX12_ofFace_37 : decode cX12_ofFace 37 = .ok (.invokestatic 421, 3) := by decide +kernel
theorem dX12_ofFace_40 : decode cX12_ofFace 40 = .ok (.goto 11, 3) := by decide +kernel
theorem dX12_ofFace_43 : decode cX12_ofFace 43 = .ok (.iload_n 1, 1) := by decide +kernel
theorem dX12_ofFace_44 : decode cX12_ofFace 44 = .ok (.iload_n 2, 1) := by decide +kernel
theorem dX12_ofFace_45 : decode cX12_ofFace 45 = .ok (.iconst 1, 1) := by decide +kernel
theorem dX12_ofFace_46 : decode cX12_ofFace 46 = .ok (.iadd, 1) := by decide +kernel
theorem dX12_ofFace_47 : decode cX12_ofFace 47 = .ok (.iconst 0, 1) := by decide +kernel
theorem dX12_ofFace_48 : decode cX12_ofFace 48 = .ok (.invokestatic 421, 3) := by decide +kernel
theorem dX12_ofFace_51 : decode cX12_ofFace 51 = .ok (.ireturn, 1) := by decide +kernel
theorem dX12_coresBeside_0 : decode cX12_coresBeside 0 = .ok (.iconst 0, 1) := by decide +kernel
theorem dX12_coresBeside_1 : decode cX12_coresBeside 1 = .ok (.istore_n 2, 1) := by decide +kernel
theorem dX12_coresBeside_2 : decode cX12_coresBeside 2 = .ok (.iconst 0, 1) := by decide +kernel
theorem dX12_coresBeside_3 : decode cX12_coresBeside 3 = .ok (.istore_n 3, 1) := by decide +kernel
theorem dX12_coresBeside_4 : decode cX12_coresBeside 4 = .ok (.iload_n 3, 1) := by decide +kernel
theorem dX12_coresBeside_5 : decode cX12_coresBeside 5 = .ok (.aload_n 0, 1) := by decide +kernel
theorem dX12_coresBeside_6 : decode cX12_coresBeside 6 = .ok (.getfield 208, 3) := by decide +kernel
theorem dX12_coresBeside_9 : decode cX12_coresBeside 9 = .ok (.iconst 1, 1) := by decide +kernel
theorem dX12_coresBeside_10 : decode cX12_coresBeside 10 = .ok (.isub, 1) := by decide +kernel
theorem dX12_coresBeside_11 : decode cX12_coresBeside 11 = .ok (.if_icmp .ge 113, 3) := by decide +kernel
theorem dX12_coresBeside_14 : decode cX12_coresBeside 14 = .ok (.iconst 0, 1) := by decide +kernel
theorem dX12_coresBeside_15 : decode cX12_coresBeside 15 = .ok (.istore 4, 2) := by decide +kernel
theorem dX12_coresBeside_17 : decode cX12_coresBeside 17 = .ok (.iload 4, 2) := by decide +kernel
theorem dX12_coresBeside_19 : decode cX12_coresBeside 19 = .ok (.aload_n 0, 1) := by decide +kernel
theorem dX12_coresBeside_20 : decode cX12_coresBeside 20 = .ok (.getfield 205, 3) := by decide +kernel
theorem dX12_coresBeside_23 : decode cX12_coresBeside 23 = .ok (.iconst 1, 1) := by decide +kernel
theorem dX12_coresBeside_24 : decode cX12_coresBeside 24 = .ok (.isub, 1) := by decide +kernel
theorem dX12_coresBeside_25 : decode cX12_coresBeside 25 = .ok (.if_icmp .ge 93, 3) := by decide +kernel
theorem dX12_coresBeside_28 : decode cX12_coresBeside 28 = .ok (.iconst 0, 1) := by decide +kernel
theorem dX12_coresBeside_29 : decode cX12_coresBeside 29 = .ok (.istore 5, 2) := by decide +kernel
theorem dX12_coresBeside_31 : decode cX12_coresBeside 31 = .ok (.iconst 0, 1) := by decide +kernel
theorem dX12_coresBeside_32 : decode cX12_coresBeside 32 = .ok (.istore 6, 2) := by decide +kernel
theorem dX12_coresBeside_34 : decode cX12_coresBeside 34 = .ok (.iload 6, 2) := by decide +kernel
theorem dX12_coresBeside_36 : decode cX12_coresBeside 36 = .ok (.iconst 4, 1) := by decide +kernel
theorem dX12_coresBeside_37 : decode cX12_coresBeside 37 = .ok (.if_icmp .ge 52, 3) := by decide +kernel
theorem dX12_coresBeside_40 : decode cX12_coresBeside 40 = .ok (.aload_n 0, 1) := by decide +kernel
theorem dX12_coresBeside_41 : decode cX12_coresBeside 41 = .ok (.iload 4, 2) := by decide +kernel
theorem dX12_coresBeside_43 : decode cX12_coresBeside 43 = .ok (.iload_n 3, 1) := by decide +kernel
theorem dX12_coresBeside_44 : decode cX12_coresBeside 44 = .ok (.iload 6, 2) := by decide +kernel
theorem dX12_coresBeside_46 : decode cX12_coresBeside 46 = .ok (.invokevirtual 425, 3) := by decide +kernel
theorem dX12_coresBeside_49 : decode cX12_coresBeside 49 = .ok (.istore 7, 2) := by decide +kernel
theorem dX12_coresBeside_51 : decode cX12_coresBeside 51 = .ok (.iload 5, 2) := by decide +kernel
theorem dX12_coresBeside_53 : decode cX12_coresBeside 53 = .ok (.ifCond .ne 23, 3) := by decide +kernel
theorem dX12_coresBeside_56 : decode cX12_coresBeside 56 = .ok (.aload_n 0, 1) := by decide +kernel
theorem dX12_coresBeside_57 : decode cX12_coresBeside 57 = .ok (.iload 7, 2) := by decide +kernel
theorem dX12_coresBeside_59 : decode cX12_coresBeside 59 = .ok (.invokevirtual 293, 3) := by decide +kernel
theorem dX12_coresBeside_62 : decode cX12_coresBeside 62 = .ok (.ifCond .eq 18, 3) := by decide +kernel
theorem dX12_coresBeside_65 : decode cX12_coresBeside 65 = .ok (.aload_n 0, 1) := by decide +kernel
theorem dX12_coresBeside_66 : decode cX12_coresBeside 66 = .ok (.getfield 65, 3) := by decide +kernel
theorem dX12_coresBeside_69 : decode cX12_coresBeside 69 = .ok (.iload 7, 2) := by decide +kernel
theorem dX12_coresBeside_71 : decode cX12_coresBeside 71 = .ok (.iaload, 1) := by decide +kernel
theorem dX12_coresBeside_72 : decode cX12_coresBeside 72 = .ok (.iload_n 1, 1) := by decide +kernel
theorem dX12_coresBeside_73 : decode cX12_coresBeside 73 = .ok (.if_icmp .ne 7, 3) := by decide +kernel
theorem dX12_coresBeside_76 : decode cX12_coresBeside 76 = .ok (.iconst 1, 1) := by decide +kernel
theorem dX12_coresBeside_77 : decode cX12_coresBeside 77 = .ok (.goto 4, 3) := by decide +kernel
theorem dX12_coresBeside_80 : decode cX12_coresBeside 80 = .ok (.iconst 0, 1) := by decide +kernel
theorem dX12_coresBeside_81 : decode cX12_coresBeside 81 = .ok (.istore 5, 2) := by decide +kernel
theorem dX12_coresBeside_83 : decode cX12_coresBeside 83 = .ok (.iinc 6 1, 3) := by decide +kernel
theorem dX12_coresBeside_86 : decode cX12_coresBeside 86 = .ok (.goto (-52), 3) := by decide +kernel
theorem dX12_coresBeside_89 : decode cX12_coresBeside 89 = .ok (.iload_n 2, 1) := by decide +kernel
theorem dX12_coresBeside_90 : decode cX12_coresBeside 90 = .ok (.iload 5, 2) := by decide +kernel
theorem dX12_coresBeside_92 : decode cX12_coresBeside 92 = .ok (.ifCond .eq 17, 3) := by decide +kernel
theorem dX12_coresBeside_95 : decode cX12_coresBeside 95 = .ok (.aload_n 0, 1) := by decide +kernel
theorem dX12_coresBeside_96 : decode cX12_coresBeside 96 = .ok (.iload 4, 2) := by decide +kernel
theorem dX12_coresBeside_98 : decode cX12_coresBeside 98 = .ok (.iload_n 3, 1) := by decide +kernel
theorem dX12_coresBeside_99 : decode cX12_coresBeside 99 = .ok (.invokevirtual 244, 3) := by decide +kernel
theorem dX12_coresBeside_102 : decode cX12_coresBeside 102 = .ok (.ifCond .eq 7, 3) := by decide +kernel
theorem dX12_coresBeside_105 : decode cX12_coresBeside 105 = .ok (.iconst 1, 1) := by decide +kernel
theorem dX12_coresBeside_106 : decode cX12_coresBeside 106 = .ok (.goto 4, 3) := by decide +kernel
theorem dX12_coresBeside_109 : decode cX12_coresBeside 109 = .ok (.iconst 0, 1) := by decide +kernel
theorem dX12_coresBeside_110 : decode cX12_coresBeside 110 = .ok (.iadd, 1) := by decide +kernel
theorem dX12_coresBeside_111 : decode cX12_coresBeside 111 = .ok (.istore_n 2, 1) := by decide +kernel
theorem dX12_coresBeside_112 : decode cX12_coresBeside 112 = .ok (.iinc 4 1, 3) := by decide +kernel
theorem dX12_coresBeside_115 : decode cX12_coresBeside 115 = .ok (.goto (-98), 3) := by decide +kernel
theorem dX12_coresBeside_118 : decode cX12_coresBeside 118 = .ok (.iinc 3 1, 3) := by decide +kernel
theorem dX12_coresBeside_121 : decode cX12_coresBeside 121 = .ok (.goto (-117), 3) := by decide +kernel
theorem dX12_coresBeside_124 : decode cX12_coresBeside 124 = .ok (.iload_n 2, 1) := by decide +kernel
theorem dX12_coresBeside_125 : decode cX12_coresBeside 125 = .ok (.ireturn, 1) := by decide +kernel
theorem dX12_costAlong_0 : decode cX12_costAlong 0 = .ok (.aload_n 0, 1) := by decide +kernel
theorem dX12_costAlong_1 : decode cX12_costAlong 1 = .ok (.iload_n 1, 1) := by decide +kernel
theorem dX12_costAlong_2 : decode cX12_costAlong 2 = .ok (.invokevirtual 269, 3) := by decide +kernel
theorem dX12_costAlong_5 : decode cX12_costAlong 5 = .ok (.iload_n 2, 1) := by decide +kernel
theorem dX12_costAlong_6 : decode cX12_costAlong 6 = .ok (.if_icmp .ne 7, 3) := by decide +kernel
theorem dX12_costAlong_9 : decode cX12_costAlong 9 = .ok (.iconst 1, 1) := by decide +kernel
theorem dX12_costAlong_10 : decode cX12_costAlong 10 = .ok (.goto 4, 3) := by decide +kernel
theorem dX12_costAlong_13 : decode cX12_costAlong 13 = .ok (.iload_n 3, 1) := by decide +kernel
theorem dX12_costAlong_14 : decode cX12_costAlong 14 = .ok (.ireturn, 1) := by decide +kernel
theorem dX12_costMeeting_0 : decode cX12_costMeeting 0 = .ok (.aload_n 0, 1) := by decide +kernel
theorem dX12_costMeeting_1 : decode cX12_costMeeting 1 = .ok (.getfield 34, 3) := by decide +kernel
theorem dX12_costMeeting_4 : decode cX12_costMeeting 4 = .ok (.iload_n 1, 1) := by decide +kernel
theorem dX12_costMeeting_5 : decode cX12_costMeeting 5 = .ok (.iaload, 1) := by decide +kernel
theorem dX12_costMeeting_6 : decode cX12_costMeeting 6 = .ok (.aload_n 0, 1) := by decide +kernel
theorem dX12_costMeeting_7 : decode cX12_costMeeting 7 = .ok (.getfield 34, 3) := by decide +kernel
theorem dX12_costMeeting_10 : decode cX12_costMeeting 10 = .ok (.iload_n 2, 1) := by decide +kernel
theorem dX12_costMeeting_11 : decode cX12_costMeeting 11 = .ok (.iaload, 1) := by decide +kernel
theorem dX12_costMeeting_12 : decode cX12_costMeeting 12 = .ok (.isub, 1) := by decide +kernel
theorem dX12_costMeeting_13 : decode cX12_costMeeting 13 = .ok (.invokestatic 370, 3) := by decide +kernel
theorem dX12_costMeeting_16 : decode cX12_costMeeting 16 = .ok (.aload_n 0, 1) := by decide +kernel
theorem dX12_costMeeting_17 : decode cX12_costMeeting 17 = .ok (.iload_n 1, 1) := by decide +kernel
theorem dX12_costMeeting_18 : decode cX12_costMeeting 18 = .ok (.iconst 0, 1) := by decide +kernel
theorem dX12_costMeeting_19 : decode cX12_costMeeting 19 = .ok (.iload_n 3, 1) := by decide +kernel
theorem dX12_costMeeting_20 : decode cX12_costMeeting 20 = .ok (.invokevirtual 440, 3) := by decide +kernel
theorem dX12_costMeeting_23 : decode cX12_costMeeting 23 = .ok (.imul, 1) := by decide +kernel
theorem dX12_costMeeting_24 : decode cX12_costMeeting 24 = .ok (.aload_n 0, 1) := by decide +kernel
theorem dX12_costMeeting_25 : decode cX12_costMeeting 25 = .ok (.getfield 37, 3) := by decide +kernel
theorem dX12_costMeeting_28 : decode cX12_costMeeting 28 = .ok (.iload_n 1, 1) := by decide +kernel
theorem dX12_costMeeting_29 : decode cX12_costMeeting 29 = .ok (.iaload, 1) := by decide +kernel
theorem dX12_costMeeting_30 : decode cX12_costMeeting 30 = .ok (.aload_n 0, 1) := by decide +kernel
theorem dX12_costMeeting_31 : decode cX12_costMeeting 31 = .ok (.getfield 37, 3) := by decide +kernel
theorem dX12_costMeeting_34 : decode cX12_costMeeting 34 = .ok (.iload_n 2, 1) := by decide +kernel
theorem dX12_costMeeting_35 : decode cX12_costMeeting 35 = .ok (.iaload, 1) := by decide +kernel
theorem dX12_costMeeting_36 : decode cX12_costMeeting 36 = .ok (.isub, 1) := by decide +kernel
theorem dX12_costMeeting_37 : decode cX12_costMeeting 37 = .ok (.invokestatic 370, 3) := by decide +kernel
theorem dX12_costMeeting_40 : decode cX12_costMeeting 40 = .ok (.aload_n 0, 1) := by decide +kernel
theorem dX12_costMeeting_41 : decode cX12_costMeeting 41 = .ok (.iload_n 1, 1) := by decide +kernel
theorem dX12_costMeeting_42 : decode cX12_costMeeting 42 = .ok (.iconst 1, 1) := by decide +kernel
theorem dX12_costMeeting_43 : decode cX12_costMeeting 43 = .ok (.iload_n 3, 1) := by decide +kernel
theorem dX12_costMeeting_44 : decode cX12_costMeeting 44 = .ok (.invokevirtual 440, 3) := by decide +kernel
theorem dX12_costMeeting_47 : decode cX12_costMeeting 47 = .ok (.imul, 1) := by decide +kernel
theorem dX12_costMeeting_48 : decode cX12_costMeeting 48 = .ok (.iadd, 1) := by decide +kernel
theorem dX12_costMeeting_49 : decode cX12_costMeeting 49 = .ok (.ireturn, 1) := by decide +kernel
theorem dX12_costOut_0 : decode cX12_costOut 0 = .ok (.aload_n 0, 1) := by decide +kernel
theorem dX12_costOut_1 : decode cX12_costOut 1 = .ok (.getfield 34, 3) := by decide +kernel
theorem dX12_costOut_4 : decode cX12_costOut 4 = .ok (.iload_n 1, 1) := by decide +kernel
theorem dX12_costOut_5 : decode cX12_costOut 5 = .ok (.iaload, 1) := by decide +kernel
theorem dX12_costOut_6 : decode cX12_costOut 6 = .ok (.iconst 1, 1) := by decide +kernel
theorem dX12_costOut_7 : decode cX12_costOut 7 = .ok (.iadd, 1) := by decide +kernel
theorem dX12_costOut_8 : decode cX12_costOut 8 = .ok (.aload_n 0, 1) := by decide +kernel
theorem dX12_costOut_9 : decode cX12_costOut 9 = .ok (.getfield 205, 3) := by decide +kernel
theorem dX12_costOut_12 : decode cX12_costOut 12 = .ok (.iconst 1, 1) := by decide +kernel
theorem dX12_costOut_13 : decode cX12_costOut 13 = .ok (.isub, 1) := by decide +kernel
theorem dX12_costOut_14 : decode cX12_costOut 14 = .ok (.aload_n 0, 1) := by decide +kernel
theorem dX12_costOut_15 : decode cX12_costOut 15 = .ok (.getfield 34, 3) := by decide +kernel
theorem dX12_costOut_18 : decode cX12_costOut 18 = .ok (.iload_n 1, 1) := by decide +kernel
theorem dX12_costOut_19 : decode cX12_costOut 19 = .ok (.iaload, 1) := by decide +kernel
theorem dX12_costOut_20 : decode cX12_costOut 20 = .ok (.isub, 1) := by decide +kernel
theorem dX12_costOut_21 : decode cX12_costOut 21 = .ok (.invokestatic 128, 3) := by decide +kernel
theorem dX12_costOut_24 : decode cX12_costOut 24 = .ok (.aload_n 0, 1) := by decide +kernel
theorem dX12_costOut_25 : decode cX12_costOut 25 = .ok (.iload_n 1, 1) := by decide +kernel
theorem dX12_costOut_26 : decode cX12_costOut 26 = .ok (.iconst 0, 1) := by decide +kernel
theorem dX12_costOut_27 : decode cX12_costOut 27 = .ok (.iload_n 2, 1) := by decide +kernel
theorem dX12_costOut_28 : decode cX12_costOut 28 = .ok (.invokevirtual 440, 3) := by decide +kernel
theorem dX12_costOut_31 : decode cX12_costOut 31 = .ok (.imul, 1) := by decide +kernel
theorem dX12_costOut_32 : decode cX12_costOut 32 = .ok (.istore_n 3, 1) := by decide +kernel
theorem dX12_costOut_33 : decode cX12_costOut 33 = .ok (.aload_n 0, 1) := by decide +kernel
theorem dX12_costOut_34 : decode cX12_costOut 34 = .ok (.getfield 37, 3) := by decide +kernel
theorem dX12_costOut_37 : decode cX12_costOut 37 = .ok (.iload_n 1, 1) := by decide +kernel
theorem dX12_costOut_38 : decode cX12_costOut 38 = .ok (.iaload, 1) := by decide +kernel
theorem dX12_costOut_39 : decode cX12_costOut 39 = .ok (.iconst 1, 1) := by decide +kernel
theorem dX12_costOut_40 : decode cX12_costOut 40 = .ok (.iadd, 1) := by decide +kernel
theorem dX12_costOut_41 : decode cX12_costOut 41 = .ok (.aload_n 0, 1) := by decide +kernel
theorem dX12_costOut_42 : decode cX12_costOut 42 = .ok (.getfield 208, 3) := by decide +kernel
theorem dX12_costOut_45 : decode cX12_costOut 45 = .ok (.iconst 1, 1) := by decide +kernel
theorem dX12_costOut_46 : decode cX12_costOut 46 = .ok (.isub, 1) := by decide +kernel
theorem dX12_costOut_47 : decode cX12_costOut 47 = .ok (.aload_n 0, 1) := by decide +kernel
theorem dX12_costOut_48 : decode cX12_costOut 48 = .ok (.getfield 37, 3) := by decide +kernel
theorem dX12_costOut_51 : decode cX12_costOut 51 = .ok (.iload_n 1, 1) := by decide +kernel
theorem dX12_costOut_52 : decode cX12_costOut 52 = .ok (.iaload, 1) := by decide +kernel
theorem dX12_costOut_53 : decode cX12_costOut 53 = .ok (.isub, 1) := by decide +kernel
theorem dX12_costOut_54 : decode cX12_costOut 54 = .ok (.invokestatic 128, 3) := by decide +kernel
theorem dX12_costOut_57 : decode cX12_costOut 57 = .ok (.aload_n 0, 1) := by decide +kernel
theorem dX12_costOut_58 : decode cX12_costOut 58 = .ok (.iload_n 1, 1) := by decide +kernel
theorem dX12_costOut_59 : decode cX12_costOut 59 = .ok (.iconst 1, 1) := by decide +kernel
theorem dX12_costOut_60 : decode cX12_costOut 60 = .ok (.iload_n 2, 1) := by decide +kernel
theorem dX12_costOut_61 : decode cX12_costOut 61 = .ok (.invokevirtual 440, 3) := by decide +kernel
theorem dX12_costOut_64 : decode cX12_costOut 64 = .ok (.imul, 1) := by decide +kernel
theorem dX12_costOut_65 : decode cX12_costOut 65 = .ok (.istore 4, 2) := by decide +kernel
theorem dX12_costOut_67 : decode cX12_costOut 67 = .ok (.iload_n 3, 1) := by decide +kernel
theorem dX12_costOut_68 : decode cX12_costOut 68 = .ok (.iload 4, 2) := by decide +kernel
theorem dX12_costOut_70 : decode cX12_costOut 70 = .ok (.invokestatic 128, 3) := by decide +kernel
theorem dX12_costOut_73 : decode cX12_costOut 73 = .ok (.ireturn, 1) := by decide +kernel
theorem dX12_count_0 : decode cX12_count 0 = .ok (.aload_n 0, 1) := by decide +kernel
theorem dX12_count_1 : decode cX12_count 1 = .ok (.iconst 0, 1) := by decide +kernel
theorem dX12_count_2 : decode cX12_count 2 = .ok (.putfield 86, 3) := by decide +kernel
theorem dX12_count_5 : decode cX12_count 5 = .ok (.iload_n 1, 1) := by decide +kernel
theorem dX12_count_6 : decode cX12_count 6 = .ok (.ifCond .ne 10, 3) := by decide +kernel
theorem dX12_count_9 : decode cX12_count 9 = .ok (.aload_n 0, 1) := by decide +kernel
theorem dX12_count_10 : decode cX12_count 10 = .ok (.getfield 94, 3) := by decide +kernel
theorem dX12_count_13 : decode cX12_count 13 = .ok (.goto 32, 3) := by decide +kernel
theorem dX12_count_16 : decode cX12_count 16 = .ok (.iload_n 1, 1) := by decide +kernel
theorem dX12_count_17 : decode cX12_count 17 = .ok (.iconst 1, 1) := by decide +kernel
theorem dX12_count_18 : decode cX12_count 18 = .ok (.if_icmp .ne 10, 3) := by decide +kernel
theorem dX12_count_21 : decode cX12_count 21 = .ok (.aload_n 0, 1) := by decide +kernel
theorem dX12_count_22 : decode cX12_count 22 = .ok (.getfield 229, 3) := by decide +kernel
theorem dX12_count_25 : decode cX12_count 25 = .ok (.goto 20, 3) := by decide +kernel
theorem dX12_count_28 : decode cX12_count 28 = .ok (.iload_n 1, 1) := by decide +kernel
theorem dX12_count_29 : decode cX12_count 29 = .ok (.iconst 2, 1) := by decide +kernel
theorem dX12_count_30 : decode cX12_count 30 = .ok (.if_icmp .ne 14, 3) := by decide +kernel
theorem dX12_count_33 : decode cX12_count 33 = .ok (.aload_n 0, 1) := by decide +kernel
theorem dX12_count_34 : decode cX12_count 34 = .ok (.getfield 28, 3) := by decide +kernel
theorem dX12_count_37 : decode cX12_count 37 = .ok (.sipush 324, 3) := by decide +kernel
theorem dX12_count_40 : decode cX12_count 40 = .ok (.iaload, 1) := by decide +kernel
theorem dX12_count_41 : decode cX12_count 41 = .ok (.goto 4, 3) := by decide +kernel
theorem dX12_count_44 : decode cX12_count 44 = .ok (.iconst (-1), 1) := by decide +kernel
theorem dX12_count_45 : decode cX12_count 45 = .ok (.ireturn, 1) := by decide +kernel
theorem dX12_draw_0 : decode cX12_draw 0 = .ok (.aload_n 0, 1) := by decide +kernel
theorem dX12_draw_1 : decode cX12_draw 1 = .ok (.aload_n 0, 1) := by decide +kernel
theorem dX12_draw_2 : decode cX12_draw 2 = .ok (.getfield 401, 3) := by decide +kernel
theorem dX12_draw_5 : decode cX12_draw 5 = .ok (.ldc2_w 405, 3) := by decide +kernel
theorem dX12_draw_8 : decode cX12_draw 8 = .ok (.lmul, 1) := by decide +kernel
theorem dX12_draw_9 : decode cX12_draw 9 = .ok (.ldc2_w 407, 3) := by decide +kernel
theorem dX12_draw_12 : decode cX12_draw 12 = .ok (.ladd, 1) := by decide +kernel
theorem dX12_draw_13 : decode cX12_draw 13 = .ok (.putfield 401, 3) := by decide +kernel
theorem dX12_draw_16 : decode cX12_draw 16 = .ok (.aload_n 0, 1) := by decide +kernel
theorem dX12_draw_17 : decode cX12_draw 17 = .ok (.getfield 401, 3) := by decide +kernel
theorem dX12_draw_20 : decode cX12_draw 20 = .ok (.bipush 33, 2) := by decide +kernel
theorem dX12_draw_22 : decode cX12_draw 22 = .ok (.lushr, 1) := by decide +kernel
theorem dX12_draw_23 : decode cX12_draw 23 = .ok (.iload_n 1, 1) := by decide +kernel
theorem dX12_draw_24 : decode cX12_draw 24 = .ok (.i2l, 1) := by decide +kernel
theorem dX12_draw_25 : decode cX12_draw 25 = .ok (.lrem, 1) := by decide +kernel
theorem dX12_draw_26 : decode cX12_draw 26 = .ok (.l2i, 1) := by decide +kernel
theorem dX12_draw_27 : decode cX12_draw 27 = .ok (.ireturn, 1) := by decide +kernel
theorem dX12_end_0 : decode cX12_end 0 = .ok (.aload_n 0, 1) := by decide +kernel
theorem dX12_end_1 : decode cX12_end 1 = .ok (.iconst 0, 1) := by decide +kernel
theorem dX12_end_2 : decode cX12_end 2 = .ok (.putfield 86, 3) := by decide +kernel
theorem dX12_end_5 : decode cX12_end 5 = .ok (.iload_n 1, 1) := by decide +kernel
theorem dX12_end_6 : decode cX12_end 6 = .ok (.i2l, 1) := by decide +kernel
theorem dX12_end_7 : decode cX12_end 7 = .ok (.lconst 0, 1) := by decide +kernel
theorem dX12_end_8 : decode cX12_end 8 = .ok (.aload_n 0, 1) := by decide +kernel
theorem dX12_end_9 : decode cX12_end 9 = .ok (.getfield 94, 3) := by decide +kernel
theorem dX12_end_12 : decode cX12_end 12 = .ok (.i2l, 1) := by decide +kernel
theorem dX12_end_13 : decode cX12_end 13 = .ok (.invokestatic 97, 3) := by decide +kernel
theorem dX12_end_16 : decode cX12_end 16 = .ok (.ifCond .ne 5, 3) := by decide +kernel
theorem dX12_end_19 : decode cX12_end 19 = .ok (.iconst 0, 1) := by decide +kernel
theorem dX12_end_20 : decode cX12_end 20 = .ok (.ireturn, 1) := by decide +kernel
theorem dX12_end_21 : decode cX12_end 21 = .ok (.aload_n 0, 1) := by decide +kernel
theorem dX12_end_22 : decode cX12_end 22 = .ok (.iload_n 1, 1) := by decide +kernel
theorem dX12_end_23 : decode cX12_end 23 = .ok (.putfield 94, 3) := by decide +kernel
theorem dX12_end_26 : decode cX12_end 26 = .ok (.iconst 1, 1) := by decide +kernel
theorem dX12_end_27 : decode cX12_end 27 = .ok (.ireturn, 1) := by decide +kernel
theorem dX12_face_0 : decode cX12_face 0 = .ok (.aload_n 0, 1) := by decide +kernel
theorem dX12_face_1 : decode cX12_face 1 = .ok (.iconst 0, 1) := by decide +kernel
theorem dX12_face_2 : decode cX12_face 2 = .ok (.putfield 86, 3) := by decide +kernel
theorem dX12_face_5 : decode cX12_face 5 = .ok (.aload_n 0, 1) := by decide +kernel
theorem dX12_face_6 : decode cX12_face 6 = .ok (.invokevirtual 306, 3) := by decide +kernel
theorem dX12_face_9 : decode cX12_face 9 = .ok (.ifCond .eq 24, 3) := by decide +kernel
theorem dX12_face_12 : decode cX12_face 12 = .ok (.aload_n 0, 1) := by decide +kernel
theorem dX12_face_13 : decode cX12_face 13 = .ok (.iload_n 1, 1) := by decide +kernel
theorem dX12_face_14 : decode cX12_face 14 = .ok (.iload_n 2, 1) := by decide +kernel
theorem dX12_face_15 : decode cX12_face 15 = .ok (.invokevirtual 288, 3) := by decide +kernel
theorem dX12_face_18 : decode cX12_face 18 = .ok (.ifCond .eq 15, 3) := by decide +kernel
theorem dX12_face_21 : decode cX12_face 21 = .ok (.iload_n 3, 1) := by decide +kernel
theorem dX12_face_22 : decode cX12_face 22 = .ok (.i2l, 1) := by decide +kernel
theorem dX12_face_23 : decode cX12_face 23 = .ok (.lconst 0, 1) := by decide +kernel
theorem dX12_face_24 : decode cX12_face 24 = .ok (.ldc2_w 329, 3) := by decide +kernel
theorem dX12_face_27 : decode cX12_face 27 = .ok (.invokestatic 97, 3) := by decide +kernel
theorem dX12_face_30 : decode cX12_face 30 = .ok (.ifCond .ne 7, 3) := by decide +kernel
theorem dX12_face_33 : decode cX12_face 33 = .ok (.ldc_w 310, 3) := by decide +kernel
theorem dX12_face_36 : decode cX12_face 36 = .ok (.ireturn, 1) := by decide +kernel
theorem dX12_face_37 : decode cX12_face 37 = .ok (.aload_n 0, 1) := by decide +kernel
theorem dX12_face_38 : decode cX12_face 38 = .ok (.invokevirtual 238, 3) := by decide +kernel
theorem dX12_face_41 : decode cX12_face 41 = .ok (.pop, 1) := by decide +kernel
theorem dX12_face_42 : decode cX12_face 42 = .ok (.iload_n 3, 1) := by decide +kernel
theorem dX12_face_43 : decode cX12_face 43 = .ok (.iconst 2, 1) := by decide +kernel
theorem dX12_face_44 : decode cX12_face 44 = .ok (.if_icmp .ne 12, 3) := by decide +kernel
theorem dX12_face_47 : decode cX12_face 47 = .ok (.aload_n 0, 1) := by decide +kernel
theorem dX12_face_48 : decode cX12_face 48 = .ok (.iload_n 1, 1) := by decide +kernel
theorem dX12_face_49 : decode cX12_face 49 = .ok (.iload_n 2, 1) := by decide +kernel
theorem dX12_face_50 : decode cX12_face 50 = .ok (.invokevirtual 331, 3) := by decide +kernel
theorem dX12_face_53 : decode cX12_face 53 = .ok (.goto 10, 3) := by decide +kernel
theorem dX12_face_56 : decode cX12_face 56 = .ok (.aload_n 0, 1) := by decide +kernel
theorem dX12_face_57 : decode cX12_face 57 = .ok (.iload_n 1, 1) := by decide +kernel
theorem dX12_face_58 : decode cX12_face 58 = .ok (.iload_n 2, 1) := by decide +kernel
theorem dX12_face_59 : decode cX12_face 59 = .ok (.iload_n 3, 1) := by decide +kernel
theorem dX12_face_60 : decode cX12_face 60 = .ok (.invokevirtual 221, 3) := by decide +kernel
theorem dX12_face_63 : decode cX12_face 63 = .ok (.ireturn, 1) := by decide +kernel
theorem dX12_see_0 : decode cX12_see 0 = .ok (.iload_n 1, 1) := by decide +kernel
theorem dX12_see_1 : decode cX12_see 1 = .ok (.aload_n 0, 1) := by decide +kernel
theorem dX12_see_2 : decode cX12_see 2 = .ok (.getfield 94, 3) := by decide +kernel
theorem dX12_see_5 : decode cX12_see 5 = .ok (.if_icmp .ge 12, 3) := by decide +kernel
theorem dX12_see_8 : decode cX12_see 8 = .ok (.aload_n 0, 1) := by decide +kernel
theorem dX12_see_9 : decode cX12_see 9 = .ok (.getfield 9, 3) := by decide +kernel
theorem dX12_see_12 : decode cX12_see 12 = .ok (.iload_n 1, 1) := by decide +kernel
theorem dX12_see_13 : decode cX12_see 13 = .ok (.iaload, 1) := by decide +kernel
theorem dX12_see_14 : decode cX12_see 14 = .ok (.goto 4, 3) := by decide +kernel
theorem dX12_see_17 : decode cX12_see 17 = .ok (.iconst (-1), 1) := by decide +kernel
theorem dX12_see_18 : decode cX12_see 18 = .ok (.ireturn, 1) := by decide +kernel
theorem dX12_isSmall_0 : decode cX12_isSmall 0 = .ok (.iload_n 0, 1) := by decide +kernel
theorem dX12_isSmall_1 : decode cX12_isSmall 1 = .ok (.bipush 97, 2) := by decide +kernel
theorem dX12_isSmall_3 : decode cX12_isSmall 3 = .ok (.if_icmp .lt 13, 3) := by decide +kernel
theorem dX12_isSmall_6 : decode cX12_isSmall 6 = .ok (.iload_n 0, 1) := by decide +kernel
theorem dX12_isSmall_7 : decode cX12_isSmall 7 = .ok (.bipush 122, 2) := by decide +kernel
theorem dX12_isSmall_9 : decode cX12_isSmall 9 = .ok (.if_icmp .gt 7, 3) := by decide +kernel
theorem dX12_isSmall_12 : decode cX12_isSmall 12 = .ok (.iconst 1, 1) := by decide +kernel
theorem dX12_isSmall_13 : decode cX12_isSmall 13 = .ok (.goto 4, 3) := by decide +kernel
theorem dX12_isSmall_16 : decode cX12_isSmall 16 = .ok (.iconst 0, 1) := by decide +kernel
theorem dX12_isSmall_17 : decode cX12_isSmall 17 = .ok (.ireturn, 1) := by decide +kernel
theorem dX12_isDigit_0 : decode cX12_isDigit 0 = .ok (.iload_n 0, 1) := by decide +kernel
theorem dX12_isDigit_1 : decode cX12_isDigit 1 = .ok (.bipush 48, 2) := by decide +kernel
theorem dX12_isDigit_3 : decode cX12_isDigit 3 = .ok (.if_icmp .lt 13, 3) := by decide +kernel
theorem dX12_isDigit_6 : decode cX12_isDigit 6 = .ok (.iload_n 0, 1) := by decide +kernel
theorem dX12_isDigit_7 : decode cX12_isDigit 7 = .ok (.bipush 57, 2) := by decide +kernel
theorem dX12_isDigit_9 : decode cX12_isDigit 9 = .ok (.if_icmp .gt 7, 3) := by decide +kernel
theorem dX12_isDigit_12 : decode cX12_isDigit 12 = .ok (.iconst 1, 1) := by decide +kernel
theorem dX12_isDigit_13 : decode cX12_isDigit 13 = .ok (.goto 4, 3) := by decide +kernel
theorem dX12_isDigit_16 : decode cX12_isDigit 16 = .ok (.iconst 0, 1) := by decide +kernel
theorem dX12_isDigit_17 : decode cX12_isDigit 17 = .ok (.ireturn, 1) := by decide +kernel
theorem dX12_readsNumber_0 : decode cX12_readsNumber 0 = .ok (.aload_n 0, 1) := by decide +kernel
theorem dX12_readsNumber_1 : decode cX12_readsNumber 1 = .ok (.iconst 2, 1) := by decide +kernel
theorem dX12_readsNumber_2 : decode cX12_readsNumber 2 = .ok (.putfield 111, 3) := by decide +kernel
theorem dX12_readsNumber_5 : decode cX12_readsNumber 5 = .ok (.aload_n 0, 1) := by decide +kernel
theorem dX12_readsNumber_6 : decode cX12_readsNumber 6 = .ok (.dup, 1) := by decide +kernel
theorem dX12_readsNumber_7 : decode cX12_readsNumber 7 = .ok (.getfield 101, 3) := by decide +kernel
theorem dX12_readsNumber_10 : decode cX12_readsNumber 10 = .ok (.iload_n 1, 1) := by decide +kernel
theorem dX12_readsNumber_11 : decode cX12_readsNumber 11 = .ok (.ifCond .eq 7, 3) := by decide +kernel
theorem dX12_readsNumber_14 : decode cX12_readsNumber 14 = .ok (.iconst 1, 1) := by decide +kernel
theorem dX12_readsNumber_15 : decode cX12_readsNumber 15 = .ok (.goto 4, 3) := by decide +kernel
theorem dX12_readsNumber_18 : decode cX12_readsNumber 18 = .ok (.iconst 0, 1) := by decide +kernel
theorem dX12_readsNumber_19 : decode cX12_readsNumber 19 = .ok (.iadd, 1) := by decide +kernel
theorem dX12_readsNumber_20 : decode cX12_readsNumber 20 = .ok (.putfield 101, 3) := by decide +kernel
theorem dX12_readsNumber_23 : decode cX12_readsNumber 23 = .ok (.aload_n 0, 1) := by decide +kernel
theorem dX12_readsNumber_24 : decode cX12_readsNumber 24 = .ok (.getfield 101, 3) := by decide +kernel
theorem dX12_readsNumber_27 : decode cX12_readsNumber 27 = .ok (.istore_n 2, 1) := by decide +kernel
theorem dX12_readsNumber_28 : decode cX12_readsNumber 28 = .ok (.aload_n 0, 1) := by decide +kernel
theorem dX12_readsNumber_29 : decode cX12_readsNumber 29 = .ok (.iconst 0, 1) := by decide +kernel
theorem dX12_readsNumber_30 : decode cX12_readsNumber 30 = .ok (.putfield 125, 3) := by decide +kernel
theorem dX12_readsNumber_33 : decode cX12_readsNumber 33 = .ok (.aload_n 0, 1) := by decide +kernel
theorem dX12_readsNumber_34 : decode cX12_readsNumber 34 = .ok (.aload_n 0, 1) := by decide +kernel
theorem dX12_readsNumber_35 : decode cX12_readsNumber 35 = .ok (.getfield 101, 3) := by decide +kernel
theorem dX12_readsNumber_38 : decode cX12_readsNumber 38 = .ok (.invokevirtual 104, 3) := by decide +kernel
theorem dX12_readsNumber_41 : decode cX12_readsNumber 41 = .ok (.invokestatic 118, 3) := by decide +kernel
theorem dX12_readsNumber_44 : decode cX12_readsNumber 44 = .ok (.ifCond .eq 45, 3) := by decide +kernel
theorem dX12_readsNumber_47 : decode cX12_readsNumber 47 = .ok (.aload_n 0, 1) := by decide +kernel
theorem dX12_readsNumber_48 : decode cX12_readsNumber 48 = .ok (.sipush 1000, 3) := by decide +kernel
theorem dX12_readsNumber_51 : decode cX12_readsNumber 51 = .ok (.bipush 10, 2) := by decide +kernel
theorem dX12_readsNumber_53 : decode cX12_readsNumber 53 = .ok (.aload_n 0, 1) := by decide +kernel
theorem dX12_readsNumber_54 : decode cX12_readsNumber 54 = .ok (.getfield 125, 3) := by decide +kernel
theorem dX12_readsNumber_57 : decode cX12_readsNumber 57 = .ok (.imul, 1) := by decide +kernel
theorem dX12_readsNumber_58 : decode cX12_readsNumber 58 = .ok (.aload_n 0, 1) := by decide +kernel
theorem dX12_readsNumber_59 : decode cX12_readsNumber 59 = .ok (.aload_n 0, 1) := by decide +kernel
theorem dX12_readsNumber_60 : decode cX12_readsNumber 60 = .ok (.getfield 101, 3) := by decide +kernel
theorem dX12_readsNumber_63 : decode cX12_readsNumber 63 = .ok (.invokevirtual 104, 3) := by decide +kernel
theorem dX12_readsNumber_66 : decode cX12_readsNumber 66 = .ok (.iadd, 1) := by decide +kernel
theorem dX12_readsNumber_67 : decode cX12_readsNumber 67 = .ok (.bipush 48, 2) := by decide +kernel
theorem dX12_readsNumber_69 : decode cX12_readsNumber 69 = .ok (.isub, 1) := by decide +kernel
theorem dX12_readsNumber_70 : decode cX12_readsNumber 70 = .ok (.invokestatic 128, 3) := by decide +kernel
theorem dX12_readsNumber_73 : decode cX12_readsNumber 73 = .ok (.putfield 125, 3) := by decide +kernel
theorem dX12_readsNumber_76 : decode cX12_readsNumber 76 = .ok (.aload_n 0, 1) := by decide +kernel
theorem dX12_readsNumber_77 : decode cX12_readsNumber 77 = .ok (.dup, 1) := by decide +kernel
theorem dX12_readsNumber_78 : decode cX12_readsNumber 78 = .ok (.getfield 101, 3) := by decide +kernel
theorem dX12_readsNumber_81 : decode cX12_readsNumber 81 = .ok (.iconst 1, 1) := by decide +kernel
theorem dX12_readsNumber_82 : decode cX12_readsNumber 82 = .ok (.iadd, 1) := by decide +kernel
theorem dX12_readsNumber_83 : decode cX12_readsNumber 83 = .ok (.putfield 101, 3) := by decide +kernel
theorem dX12_readsNumber_86 : decode cX12_readsNumber 86 = .ok (.goto (-53), 3) := by decide +kernel
theorem dX12_readsNumber_89 : decode cX12_readsNumber 89 = .ok (.aload_n 0, 1) := by decide +kernel
theorem dX12_readsNumber_90 : decode cX12_readsNumber 90 = .ok (.aload_n 0, 1) := by decide +kernel
theorem dX12_readsNumber_91 : decode cX12_readsNumber 91 = .ok (.getfield 101, 3) := by decide +kernel
theorem dX12_readsNumber_94 : decode cX12_readsNumber 94 = .ok (.iload_n 2, 1) := by decide +kernel
theorem dX12_readsNumber_95 : decode cX12_readsNumber 95 = .ok (.isub, 1) := by decide +kernel
theorem dX12_readsNumber_96 : decode cX12_readsNumber 96 = .ok (.iconst 2, 1) := by decide +kernel
theorem dX12_readsNumber_97 : decode cX12_readsNumber 97 = .ok (.if_icmp .le 9, 3) := by decide +kernel
theorem dX12_readsNumber_100 : decode cX12_readsNumber 100 = .ok (.sipush 10000, 3) := by decide +kernel
theorem dX12_readsNumber_103 : decode cX12_readsNumber 103 = .ok (.goto 19, 3) := by decide +kernel
theorem dX12_readsNumber_106 : decode cX12_readsNumber 106 = .ok (.iload_n 1, 1) := by decide +kernel
theorem dX12_readsNumber_107 : decode cX12_readsNumber 107 = .ok (.ifCond .eq 11, 3) := by decide +kernel
theorem dX12_readsNumber_110 : decode cX12_readsNumber 110 = .ok (.aload_n 0, 1) := by decide +kernel
theorem dX12_readsNumber_111 : decode cX12_readsNumber 111 = .ok (.getfield 125, 3) := by decide +kernel
theorem dX12_readsNumber_114 : decode cX12_readsNumber 114 = .ok (.ineg, 1) := by decide +kernel
theorem dX12_readsNumber_115 : decode cX12_readsNumber 115 = .ok (.goto 7, 3) := by decide +kernel
theorem dX12_readsNumber_118 : decode cX12_readsNumber 118 = .ok (.aload_n 0, 1) := by decide +kernel
theorem dX12_readsNumber_119 : decode cX12_readsNumber 119 = .ok (.getfield 125, 3) := by decide +kernel
theorem dX12_readsNumber_122 : decode cX12_readsNumber 122 = .ok (.putfield 125, 3) := by decide +kernel
theorem dX12_readsNumber_125 : decode cX12_readsNumber 125 = .ok (.return_, 1) := by decide +kernel
theorem dX12_next_0 : decode cX12_next 0 = .ok (.aload_n 0, 1) := by decide +kernel
theorem dX12_next_1 : decode cX12_next 1 = .ok (.aload_n 0, 1) := by decide +kernel
theorem dX12_next_2 : decode cX12_next 2 = .ok (.getfield 101, 3) := by decide +kernel
theorem dX12_next_5 : decode cX12_next 5 = .ok (.invokevirtual 104, 3) := by decide +kernel
theorem dX12_next_8 : decode cX12_next 8 = .ok (.bipush 32, 2) := by decide +kernel
theorem dX12_next_10 : decode cX12_next 10 = .ok (.if_icmp .ne 16, 3) := by decide +kernel
theorem dX12_next_13 : decode cX12_next 13 = .ok (.aload_n 0, 1) := by decide +kernel
theorem dX12_next_14 : decode cX12_next 14 = .ok (.dup, 1) := by decide +kernel
theorem dX12_next_15 : decode cX12_next 15 = .ok (.getfield 101, 3) := by decide +kernel
theorem dX12_next_18 : decode cX12_next 18 = .ok (.iconst 1, 1) := by decide +kernel
theorem dX12_next_19 : decode cX12_next 19 = .ok (.iadd, 1) := by decide +kernel
theorem dX12_next_20 : decode cX12_next 20 = .ok (.putfield 101, 3) := by decide +kernel
theorem dX12_next_23 : decode cX12_next 23 = .ok (.goto (-23), 3) := by decide +kernel
theorem dX12_next_26 : decode cX12_next 26 = .ok (.aload_n 0, 1) := by decide +kernel
theorem dX12_next_27 : decode cX12_next 27 = .ok (.aload_n 0, 1) := by decide +kernel
theorem dX12_next_28 : decode cX12_next 28 = .ok (.getfield 101, 3) := by decide +kernel
theorem dX12_next_31 : decode cX12_next 31 = .ok (.putfield 108, 3) := by decide +kernel
theorem dX12_next_34 : decode cX12_next 34 = .ok (.aload_n 0, 1) := by decide +kernel
theorem dX12_next_35 : decode cX12_next 35 = .ok (.aload_n 0, 1) := by decide +kernel
theorem dX12_next_36 : decode cX12_next 36 = .ok (.getfield 101, 3) := by decide +kernel
theorem dX12_next_39 : decode cX12_next 39 = .ok (.invokevirtual 104, 3) := by decide +kernel
theorem dX12_next_42 : decode cX12_next 42 = .ok (.istore_n 1, 1) := by decide +kernel
theorem dX12_next_43 : decode cX12_next 43 = .ok (.iload_n 1, 1) := by decide +kernel
theorem dX12_next_44 : decode cX12_next 44 = .ok (.iconst (-1), 1) := by decide +kernel
theorem dX12_next_45 : decode cX12_next 45 = .ok (.if_icmp .ne 11, 3) := by decide +kernel
theorem dX12_next_48 : decode cX12_next 48 = .ok (.aload_n 0, 1) := by decide +kernel
theorem dX12_next_49 : decode cX12_next 49 = .ok (.iconst 0, 1) := by decide +kernel
theorem dX12_next_50 : decode cX12_next 50 = .ok (.putfield 111, 3) := by decide +kernel
theorem dX12_next_53 : decode cX12_next 53 = .ok (.goto 104, 3) := by decide +kernel
theorem dX12_next_56 : decode cX12_next 56 = .ok (.iload_n 1, 1) := by decide +kernel
theorem dX12_next_57 : decode cX12_next 57 = .ok (.invokestatic 114, 3) := by decide +kernel
theorem dX12_next_60 : decode cX12_next 60 = .ok (.ifCond .eq 35, 3) := by decide +kernel
theorem dX12_next_63 : decode cX12_next 63 = .ok (.aload_n 0, 1) := by decide +kernel
theorem dX12_next_64 : decode cX12_next 64 = .ok (.iconst 1, 1) := by decide +kernel
theorem dX12_next_65 : decode cX12_next 65 = .ok (.putfield 111, 3) := by decide +kernel
theorem dX12_next_68 : decode cX12_next 68 = .ok (.aload_n 0, 1) := by decide +kernel
theorem dX12_next_69 : decode cX12_next 69 = .ok (.aload_n 0, 1) := by decide +kernel
theorem dX12_next_70 : decode cX12_next 70 = .ok (.getfield 101, 3) := by decide +kernel
theorem dX12_next_73 : decode cX12_next 73 = .ok (.invokevirtual 104, 3) := by decide +kernel
theorem dX12_next_76 : decode cX12_next 76 = .ok (.invokestatic 114, 3) := by decide +kernel
theorem dX12_next_79 : decode cX12_next 79 = .ok (.ifCond .eq 78, 3) := by decide +kernel
theorem dX12_next_82 : decode cX12_next 82 = .ok (.aload_n 0, 1) := by decide +kernel
theorem dX12_next_83 : decode cX12_next 83 = .ok (.dup, 1) := by decide +kernel
theorem dX12_next_84 : decode cX12_next 84 = .ok (.getfield 101, 3) := by decide +kernel
theorem dX12_next_87 : decode cX12_next 87 = .ok (.iconst 1, 1) := by decide +kernel
theorem dX12_next_88 : decode cX12_next 88 = .ok (.iadd, 1) := by decide +kernel
theorem dX12_next_89 : decode cX12_next 89 = .ok (.putfield 101, 3) := by decide +kernel
theorem dX12_next_92 : decode cX12_next 92 = .ok (.goto (-24), 3) := by decide +kernel
theorem dX12_next_95 : decode cX12_next 95 = .ok (.iload_n 1, 1) := by decide +kernel
theorem dX12_next_96 : decode cX12_next 96 = .ok (.invokestatic 118, 3) := by decide +kernel
theorem dX12_next_99 : decode cX12_next 99 = .ok (.ifCond .ne 25, 3) := by decide +kernel
theorem dX12_next_102 : decode cX12_next 102 = .ok (.iload_n 1, 1) := by decide +kernel
theorem dX12_next_103 : decode cX12_next 103 = .ok (.bipush 45, 2) := by decide +kernel
theorem dX12_next_105 : decode cX12_next 105 = .ok (.if_icmp .ne 37, 3) := by decide +kernel
theorem dX12_next_108 : decode cX12_next 108 = .ok (.aload_n 0, 1) := by decide +kernel
theorem dX12_next_109 : decode cX12_next 109 = .ok (.aload_n 0, 1) := by decide +kernel
theorem dX12_next_110 : decode cX12_next 110 = .ok (.getfield 101, 3) := by decide +kernel
theorem dX12_next_113 : decode cX12_next 113 = .ok (.iconst 1, 1) := by decide +kernel
theorem dX12_next_114 : decode cX12_next 114 = .ok (.iadd, 1) := by decide +kernel
theorem dX12_next_115 : decode cX12_next 115 = .ok (.invokevirtual 104, 3) := by decide +kernel
theorem dX12_next_118 : decode cX12_next 118 = .ok (.invokestatic 118, 3) := by decide +kernel
theorem dX12_next_121 : decode cX12_next 121 = .ok (.ifCond .eq 21, 3) := by decide +kernel
theorem dX12_next_124 : decode cX12_next 124 = .ok (.aload_n 0, 1) := by decide +kernel
theorem dX12_next_125 : decode cX12_next 125 = .ok (.iload_n 1, 1) := by decide +kernel
theorem dX12_next_126 : decode cX12_next 126 = .ok (.bipush 45, 2) := by decide +kernel
theorem dX12_next_128 : decode cX12_next 128 = .ok (.if_icmp .ne 7, 3) := by decide +kernel
theorem dX12_next_131 : decode cX12_next 131 = .ok (.iconst 1, 1) := by decide +kernel
theorem dX12_next_132 : decode cX12_next 132 = .ok (.goto 4, 3) := by decide +kernel
theorem dX12_next_135 : decode cX12_next 135 = .ok (.iconst 0, 1) := by decide +kernel
theorem dX12_next_136 : decode cX12_next 136 = .ok (.invokevirtual 121, 3) := by decide +kernel
theorem dX12_next_139 : decode cX12_next 139 = .ok (.goto 18, 3) := by decide +kernel
theorem dX12_next_142 : decode cX12_next 142 = .ok (.aload_n 0, 1) := by decide +kernel
theorem dX12_next_143 : decode cX12_next 143 = .ok (.iconst 3, 1) := by decide +kernel
theorem dX12_next_144 : decode cX12_next 144 = .ok (.putfield 111, 3) := by decide +kernel
theorem dX12_next_147 : decode cX12_next 147 = .ok (.aload_n 0, 1) := by decide +kernel
theorem dX12_next_148 : decode cX12_next 148 = .ok (.dup, 1) := by decide +kernel
theorem dX12_next_149 : decode cX12_next 149 = .ok (.getfield 101, 3) := by decide +kernel
theorem dX12_next_152 : decode cX12_next 152 = .ok (.iconst 1, 1) := by decide +kernel
theorem dX12_next_153 : decode cX12_next 153 = .ok (.iadd, 1) := by decide +kernel
theorem dX12_next_154 : decode cX12_next 154 = .ok (.putfield 101, 3) := by decide +kernel
theorem dX12_next_157 : decode cX12_next 157 = .ok (.return_, 1) := by decide +kernel
theorem dX12_feed_0 : decode cX12_feed 0 = .ok (.aload_n 0, 1) := by decide +kernel
theorem dX12_feed_1 : decode cX12_feed 1 = .ok (.iconst 0, 1) := by decide +kernel
theorem dX12_feed_2 : decode cX12_feed 2 = .ok (.putfield 86, 3) := by decide +kernel
theorem dX12_feed_5 : decode cX12_feed 5 = .ok (.iconst 0, 1) := by decide +kernel
theorem dX12_feed_6 : decode cX12_feed 6 = .ok (.istore 6, 2) := by decide +kernel
theorem dX12_feed_8 : decode cX12_feed 8 = .ok (.iconst 0, 1) := by decide +kernel
theorem dX12_feed_9 : decode cX12_feed 9 = .ok (.istore 7, 2) := by decide +kernel
theorem dX12_feed_11 : decode cX12_feed 11 = .ok (.iload 7, 2) := by decide +kernel
theorem dX12_feed_13 : decode cX12_feed 13 = .ok (.bipush 20, 2) := by decide +kernel
theorem dX12_feed_15 : decode cX12_feed 15 = .ok (.if_icmp .ge 34, 3) := by decide +kernel
theorem dX12_feed_18 : decode cX12_feed 18 = .ok (.iload 6, 2) := by decide +kernel
theorem dX12_feed_20 : decode cX12_feed 20 = .ok (.iload_n 1, 1) := by decide +kernel
theorem dX12_feed_21 : decode cX12_feed 21 = .ok (.iload_n 2, 1) := by decide +kernel
theorem dX12_feed_22 : decode cX12_feed 22 = .ok (.iload_n 3, 1) := by decide +kernel
theorem dX12_feed_23 : decode cX12_feed 23 = .ok (.iload 4, 2) := by decide +kernel
theorem dX12_feed_25 : decode cX12_feed 25 = .ok (.iload 5, 2) := by decide +kernel
theorem dX12_feed_27 : decode cX12_feed 27 = .ok (.iload 7, 2) := by decide +kernel
theorem dX12_feed_29 : decode cX12_feed 29 = .ok (.invokestatic 90, 3) := by decide +kernel
theorem dX12_feed_32 : decode cX12_feed 32 = .ok (.ifCond .eq 7, 3) := by decide +kernel
theorem dX12_feed_35 : decode cX12_feed 35 = .ok (.iconst 1, 1) := by decide +kernel
theorem dX12_feed_36 : decode cX12_feed 36 = .ok (.goto 4, 3) := by decide +kernel
theorem dX12_feed_39 : decode cX12_feed 39 = .ok (.iconst 0, 1) := by decide +kernel
theorem dX12_feed_40 : decode cX12_feed 40 = .ok (.iadd, 1) := by decide +kernel
theorem dX12_feed_41 : decode cX12_feed 41 = .ok (.istore 6, 2) := by decide +kernel
theorem dX12_feed_43 : decode cX12_feed 43 = .ok (.iinc 7 1, 3) := by decide +kernel
theorem dX12_feed_46 : decode cX12_feed 46 = .ok (.goto (-35), 3) := by decide +kernel
theorem dX12_feed_49 : decode cX12_feed 49 = .ok (.aload_n 0, 1) := by decide +kernel
theorem dX12_feed_50 : decode cX12_feed 50 = .ok (.getfield 94, 3) := by decide +kernel
theorem dX12_feed_53 : decode cX12_feed 53 = .ok (.iload 6, 2) := by decide +kernel
theorem dX12_feed_55 : decode cX12_feed 55 = .ok (.iadd, 1) := by decide +kernel
theorem dX12_feed_56 : decode cX12_feed 56 = .ok (.sipush 300, 3) := by decide +kernel
theorem dX12_feed_59 : decode cX12_feed 59 = .ok (.if_icmp .le 5, 3) := by decide +kernel
theorem dX12_feed_62 : decode cX12_feed 62 = .ok (.iconst (-1), 1) := by decide +kernel
theorem dX12_feed_63 : decode cX12_feed 63 = .ok (.ireturn, 1) := by decide +kernel
theorem dX12_feed_64 : decode cX12_feed 64 = .ok (.iconst 0, 1) := by decide +kernel
theorem dX12_feed_65 : decode cX12_feed 65 = .ok (.istore 7, 2) := by decide +kernel
theorem dX12_feed_67 : decode cX12_feed 67 = .ok (.iload 7, 2) := by decide +kernel
theorem dX12_feed_69 : decode cX12_feed 69 = .ok (.bipush 20, 2) := by decide +kernel
theorem dX12_feed_71 : decode cX12_feed 71 = .ok (.if_icmp .ge 49, 3) := by decide +kernel
theorem dX12_feed_74 : decode cX12_feed 74 = .ok (.iload_n 1, 1) := by decide +kernel
theorem dX12_feed_75 : decode cX12_feed 75 = .ok (.iload_n 2, 1) := by decide +kernel
theorem dX12_feed_76 : decode cX12_feed 76 = .ok (.iload_n 3, 1) := by decide +kernel
theorem dX12_feed_77 : decode cX12_feed 77 = .ok (.iload 4, 2) := by decide +kernel
theorem dX12_feed_79 : decode cX12_feed 79 = .ok (.iload 5, 2) := by decide +kernel
theorem dX12_feed_81 : decode cX12_feed 81 = .ok (.iload 7, 2) := by decide +kernel
theorem dX12_feed_83 : decode cX12_feed 83 = .ok (.invokestatic 90, 3) := by decide +kernel
theorem dX12_feed_86 : decode cX12_feed 86 = .ok (.istore 8, 2) := by decide +kernel
theorem dX12_feed_88 : decode cX12_feed 88 = .ok (.iload 8, 2) := by decide +kernel
theorem dX12_feed_90 : decode cX12_feed 90 = .ok (.ifCond .eq 24, 3) := by decide +kernel
theorem dX12_feed_93 : decode cX12_feed 93 = .ok (.aload_n 0, 1) := by decide +kernel
theorem dX12_feed_94 : decode cX12_feed 94 = .ok (.getfield 9, 3) := by decide +kernel
theorem dX12_feed_97 : decode cX12_feed 97 = .ok (.aload_n 0, 1) := by decide +kernel
theorem dX12_feed_98 : decode cX12_feed 98 = .ok (.getfield 94, 3) := by decide +kernel
theorem dX12_feed_101 : decode cX12_feed 101 = .ok (.iload 8, 2) := by decide +kernel
theorem dX12_feed_103 : decode cX12_feed 103 = .ok (.iastore, 1) := by decide +kernel
theorem dX12_feed_104 : decode cX12_feed 104 = .ok (.aload_n 0, 1) := by decide +kernel
theorem dX12_feed_105 : decode cX12_feed 105 = .ok (.dup, 1) := by decide +kernel
theorem dX12_feed_106 : decode cX12_feed 106 = .ok (.getfield 94, 3) := by decide +kernel
theorem dX12_feed_109 : decode cX12_feed 109 = .ok (.iconst 1, 1) := by decide +kernel
theorem dX12_feed_110 : decode cX12_feed 110 = .ok (.iadd, 1) := by decide +kernel
theorem dX12_feed_111 : decode cX12_feed 111 = .ok (.putfield 94, 3) := by decide +kernel
theorem dX12_feed_114 : decode cX12_feed 114 = .ok (.iinc 7 1, 3) := by decide +kernel
theorem dX12_feed_117 : decode cX12_feed 117 = .ok (.goto (-50), 3) := by decide +kernel
theorem dX12_feed_120 : decode cX12_feed 120 = .ok (.aload_n 0, 1) := by decide +kernel
theorem dX12_feed_121 : decode cX12_feed 121 = .ok (.getfield 94, 3) := by decide +kernel
theorem dX12_feed_124 : decode cX12_feed 124 = .ok (.ireturn, 1) := by decide +kernel
theorem dX12_keeps_0 : decode cX12_keeps 0 = .ok (.aload_n 0, 1) := by decide +kernel
theorem dX12_keeps_1 : decode cX12_keeps 1 = .ok (.getfield 229, 3) := by decide +kernel
theorem dX12_keeps_4 : decode cX12_keeps 4 = .ok (.bipush 20, 2) := by decide +kernel
theorem dX12_keeps_6 : decode cX12_keeps 6 = .ok (.if_icmp .ne 46, 3) := by decide +kernel
theorem dX12_keeps_9 : decode cX12_keeps 9 = .ok (.sipush 486, 3) := by decide +kernel
theorem dX12_keeps_12 : decode cX12_keeps 12 = .ok (.istore_n 1, 1) := by decide +kernel
theorem dX12_keeps_13 : decode cX12_keeps 13 = .ok (.iload_n 1, 1) := by decide +kernel
theorem dX12_keeps_14 : decode cX12_keeps 14 = .ok (.sipush 9720, 3) := by decide +kernel
theorem dX12_keeps_17 : decode cX12_keeps 17 = .ok (.if_icmp .ge 25, 3) := by decide +kernel
theorem dX12_keeps_20 : decode cX12_keeps 20 = .ok (.aload_n 0, 1) := by decide +kernel
theorem dX12_keeps_21 : decode cX12_keeps 21 = .ok (.getfield 49, 3) := by decide +kernel
theorem dX12_keeps_24 : decode cX12_keeps 24 = .ok (.iload_n 1, 1) := by decide +kernel
theorem dX12_keeps_25 : decode cX12_keeps 25 = .ok (.sipush 486, 3) := by decide +kernel
theorem dX12_keeps_28 : decode cX12_keeps 28 = .ok (.isub, 1) := by decide +kernel
theorem dX12_keeps_29 : decode cX12_keeps 29 = .ok (.aload_n 0, 1) := by decide +kernel
theorem dX12_keeps_30 : decode cX12_keeps 30 = .ok (.getfield 49, 3) := by decide +kernel
theorem dX12_keeps_33 : decode cX12_keeps 33 = .ok (.iload_n 1, 1) := by decide +kernel
theorem dX12_keeps_34 : decode cX12_keeps 34 = .ok (.iaload, 1) := by decide +kernel
theorem dX12_keeps_35 : decode cX12_keeps 35 = .ok (.iastore, 1) := by decide +kernel
theorem dX12_keeps_36 : decode cX12_keeps 36 = .ok (.iinc 1 1, 3) := by decide +kernel
theorem dX12_keeps_39 : decode cX12_keeps 39 = .ok (.goto (-26), 3) := by decide +kernel
theorem dX12_keeps_42 : decode cX12_keeps 42 = .ok (.aload_n 0, 1) := by decide +kernel
theorem dX12_keeps_43 : decode cX12_keeps 43 = .ok (.dup, 1) := by decide +kernel
theorem dX12_keeps_44 : decode cX12_keeps 44 = .ok (.getfield 229, 3) := by decide +kernel
theorem dX12_keeps_47 : decode cX12_keeps 47 = .ok (.iconst 1, 1) := by decide +kernel
theorem dX12_keeps_48 : decode cX12_keeps 48 = .ok (.isub, 1) := by decide +kernel
theorem dX12_keeps_49 : decode cX12_keeps 49 = .ok (.putfield 229, 3) := by decide +kernel
theorem dX12_keeps_52 : decode cX12_keeps 52 = .ok (.iconst 0, 1) := by decide +kernel
theorem dX12_keeps_53 : decode cX12_keeps 53 = .ok (.istore_n 1, 1) := by decide +kernel
theorem dX12_keeps_54 : decode cX12_keeps 54 = .ok (.iload_n 1, 1) := by decide +kernel
theorem dX12_keeps_55 : decode cX12_keeps 55 = .ok (.sipush 486, 3) := by decide +kernel
theorem dX12_keeps_58 : decode cX12_keeps 58 = .ok (.if_icmp .ge 30, 3) := by decide +kernel
theorem dX12_keeps_61 : decode cX12_keeps 61 = .ok (.aload_n 0, 1) := by decide +kernel
theorem dX12_keeps_62 : decode cX12_keeps 62 = .ok (.getfield 49, 3) := by decide +kernel
theorem dX12_keeps_65 : decode cX12_keeps 65 = .ok (.sipush 486, 3) := by decide +kernel
theorem dX12_keeps_68 : decode cX12_keeps 68 = .ok (.aload_n 0, 1) := by decide +kernel
theorem dX12_keeps_69 : decode cX12_keeps 69 = .ok (.getfield 229, 3) := by decide +kernel
theorem dX12_keeps_72 : decode cX12_keeps 72 = .ok (.imul, 1) := by decide +kernel
theorem dX12_keeps_73 : decode cX12_keeps 73 = .ok (.iload_n 1, 1) := by decide +kernel
theorem dX12_keeps_74 : decode cX12_keeps 74 = .ok (.iadd, 1) := by decide +kernel
theorem dX12_keeps_75 : decode cX12_keeps 75 = .ok (.aload_n 0, 1) := by decide +kernel
theorem dX12_keeps_76 : decode cX12_keeps 76 = .ok (.getfield 28, 3) := by decide +kernel
theorem dX12_keeps_79 : decode cX12_keeps 79 = .ok (.iload_n 1, 1) := by decide +kernel
theorem dX12_keeps_80 : decode cX12_keeps 80 = .ok (.iaload, 1) := by decide +kernel
theorem dX12_keeps_81 : decode cX12_keeps 81 = .ok (.iastore, 1) := by decide +kernel
theorem dX12_keeps_82 : decode cX12_keeps 82 = .ok (.iinc 1 1, 3) := by decide +kernel
theorem dX12_keeps_85 : decode cX12_keeps 85 = .ok (.goto (-31), 3) := by decide +kernel
theorem dX12_keeps_88 : decode cX12_keeps 88 = .ok (.aload_n 0, 1) := by decide +kernel
theorem dX12_keeps_89 : decode cX12_keeps 89 = .ok (.dup, 1) := by decide +kernel
theorem dX12_keeps_90 : decode cX12_keeps 90 = .ok (.getfield 229, 3) := by decide +kernel
theorem dX12_keeps_93 : decode cX12_keeps 93 = .ok (.iconst 1, 1) := by decide +kernel
theorem dX12_keeps_94 : decode cX12_keeps 94 = .ok (.iadd, 1) := by decide +kernel
theorem dX12_keeps_95 : decode cX12_keeps 95 = .ok (.putfield 229, 3) := by decide +kernel
theorem dX12_keeps_98 : decode cX12_keeps 98 = .ok (.return_, 1) := by decide +kernel
theorem dX12_logs_0 : decode cX12_logs 0 = .ok (.aload_n 0, 1) := by decide +kernel
theorem dX12_logs_1 : decode cX12_logs 1 = .ok (.getfield 28, 3) := by decide +kernel
theorem dX12_logs_4 : decode cX12_logs 4 = .ok (.sipush 324, 3) := by decide +kernel
theorem dX12_logs_7 : decode cX12_logs 7 = .ok (.iaload, 1) := by decide +kernel
theorem dX12_logs_8 : decode cX12_logs 8 = .ok (.bipush 40, 2) := by decide +kernel
theorem dX12_logs_10 : decode cX12_logs 10 = .ok (.if_icmp .ne 56, 3) := by decide +kernel
theorem dX12_logs_13 : decode cX12_logs 13 = .ok (.iconst 4, 1) := by decide +kernel
theorem dX12_logs_14 : decode cX12_logs 14 = .ok (.istore 4, 2) := by decide +kernel
theorem dX12_logs_16 : decode cX12_logs 16 = .ok (.iload 4, 2) := by decide +kernel
theorem dX12_logs_18 : decode cX12_logs 18 = .ok (.sipush 160, 3) := by decide +kernel
theorem dX12_logs_21 : decode cX12_logs 21 = .ok (.if_icmp .ge 33, 3) := by decide +kernel
theorem dX12_logs_24 : decode cX12_logs 24 = .ok (.aload_n 0, 1) := by decide +kernel
theorem dX12_logs_25 : decode cX12_logs 25 = .ok (.getfield 28, 3) := by decide +kernel
theorem dX12_logs_28 : decode cX12_logs 28 = .ok (.sipush 326, 3) := by decide +kernel
theorem dX12_logs_31 : decode cX12_logs 31 = .ok (.iload 4, 2) := by decide +kernel
theorem dX12_logs_33 : decode cX12_logs 33 = .ok (.iadd, 1) := by decide +kernel
theorem dX12_logs_34 : decode cX12_logs 34 = .ok (.iconst 4, 1) := by decide +kernel
theorem dX12_logs_35 : decode cX12_logs 35 = .ok (.isub, 1) := by decide +kernel
theorem dX12_logs_36 : decode cX12_logs 36 = .ok (.aload_n 0, 1) := by decide +kernel
theorem dX12_logs_37 : decode cX12_logs 37 = .ok (.getfield 28, 3) := by decide +kernel
theorem dX12_logs_40 : decode cX12_logs 40 = .ok (.sipush 326, 3) := by decide +kernel
theorem dX12_logs_43 : decode cX12_logs 43 = .ok (.iload 4, 2) := by decide +kernel
theorem dX12_logs_45 : decode cX12_logs 45 = .ok (.iadd, 1) := by decide +kernel
theorem dX12_logs_46 : decode cX12_logs 46 = .ok (.iaload, 1) := by decide +kernel
theorem dX12_logs_47 : decode cX12_logs 47 = .ok (.iastore, 1) := by decide +kernel
theorem dX12_logs_48 : decode cX12_logs 48 = .ok (.iinc 4 1, 3) := by decide +kernel
theorem dX12_logs_51 : decode cX12_logs 51 = .ok (.goto (-35), 3) := by decide +kernel
theorem dX12_logs_54 : decode cX12_logs 54 = .ok (.aload_n 0, 1) := by decide +kernel
theorem dX12_logs_55 : decode cX12_logs 55 = .ok (.getfield 28, 3) := by decide +kernel
theorem dX12_logs_58 : decode cX12_logs 58 = .ok (.sipush 324, 3) := by decide +kernel
theorem dX12_logs_61 : decode cX12_logs 61 = .ok (.dup2, 1) := by decide +kernel
theorem dX12_logs_62 : decode cX12_logs 62 = .ok (.iaload, 1) := by decide +kernel
theorem dX12_logs_63 : decode cX12_logs 63 = .ok (.iconst 1, 1) := by decide +kernel
theorem dX12_logs_64 : decode cX12_logs 64 = .ok (.isub, 1) := by decide +kernel
theorem dX12_logs_65 : decode cX12_logs 65 = .ok (.iastore, 1) := by decide +kernel
theorem dX12_logs_66 : decode cX12_logs 66 = .ok (.sipush 326, 3) := by decide +kernel
theorem dX12_logs_69 : decode cX12_logs 69 = .ok (.iconst 4, 1) := by decide +kernel
theorem dX12_logs_70 : decode cX12_logs 70 = .ok (.aload_n 0, 1) := by decide +kernel
theorem dX12_logs_71 : decode cX12_logs 71 = .ok (.getfield 28, 3) := by decide +kernel
theorem dX12_logs_74 : decode cX12_logs 74 = .ok (.sipush 324, 3) := by decide +kernel
theorem dX12_logs_77 : decode cX12_logs 77 = .ok (.iaload, 1) := by decide +kernel
theorem dX12_logs_78 : decode cX12_logs 78 = .ok (.imul, 1) := by decide +kernel
theorem dX12_logs_79 : decode cX12_logs 79 = .ok (.iadd, 1) := by decide +kernel
theorem dX12_logs_80 : decode cX12_logs 80 = .ok (.istore 4, 2) := by decide +kernel
theorem dX12_logs_82 : decode cX12_logs 82 = .ok (.aload_n 0, 1) := by decide +kernel
theorem dX12_logs_83 : decode cX12_logs 83 = .ok (.getfield 28, 3) := by decide +kernel
theorem dX12_logs_86 : decode cX12_logs 86 = .ok (.iload 4, 2) := by decide +kernel
theorem dX12_logs_88 : decode cX12_logs 88 = .ok (.iload_n 1, 1) := by decide +kernel
theorem dX12_logs_89 : decode cX12_logs 89 = .ok (.iastore, 1) := by decide +kernel
theorem dX12_logs_90 : decode cX12_logs 90 = .ok (.aload_n 0, 1) := by decide +kernel
theorem dX12_logs_91 : decode cX12_logs 91 = .ok (.getfield 28, 3) := by decide +kernel
theorem dX12_logs_94 : decode cX12_logs 94 = .ok (.iload 4, 2) := by decide +kernel
theorem dX12_logs_96 : decode cX12_logs 96 = .ok (.iconst 1, 1) := by decide +kernel
theorem dX12_logs_97 : decode cX12_logs 97 = .ok (.iadd, 1) := by decide +kernel
theorem dX12_logs_98 : decode cX12_logs 98 = .ok (.iload_n 2, 1) := by decide +kernel
theorem dX12_logs_99 : decode cX12_logs 99 = .ok (.iastore, 1) := by decide +kernel
theorem dX12_logs_100 : decode cX12_logs 100 = .ok (.aload_n 0, 1) := by decide +kernel
theorem dX12_logs_101 : decode cX12_logs 101 = .ok (.getfield 28, 3) := by decide +kernel
theorem dX12_logs_104 : decode cX12_logs 104 = .ok (.iload 4, 2) := by decide +kernel
theorem dX12_logs_106 : decode cX12_logs 106 = .ok (.iconst 2, 1) := by decide +kernel
theorem dX12_logs_107 : decode cX12_logs 107 = .ok (.iadd, 1) := by decide +kernel
theorem dX12_logs_108 : decode cX12_logs 108 = .ok (.iload_n 3, 1) := by decide +kernel
theorem dX12_logs_109 : decode cX12_logs 109 = .ok (.iastore, 1) := by decide +kernel
theorem dX12_logs_110 : decode cX12_logs 110 = .ok (.aload_n 0, 1) := by decide +kernel
theorem dX12_logs_111 : decode cX12_logs 111 = .ok (.getfield 28, 3) := by decide +kernel
theorem dX12_logs_114 : decode cX12_logs 114 = .ok (.iload 4, 2) := by decide +kernel
theorem dX12_logs_116 : decode cX12_logs 116 = .ok (.iconst 3, 1) := by decide +kernel
theorem dX12_logs_117 : decode cX12_logs 117 = .ok (.iadd, 1) := by decide +kernel
theorem dX12_logs_118 : decode cX12_logs 118 = .ok (.aload_n 0, 1) := by decide +kernel
theorem dX12_logs_119 : decode cX12_logs 119 = .ok (.iconst 0, 1) := by decide +kernel
theorem dX12_logs_120 : decode cX12_logs 120 = .ok (.iconst 0, 1) := by decide +kernel
theorem dX12_logs_121 : decode cX12_logs 121 = .ok (.aload_n 0, 1) := by decide +kernel
theorem dX12_logs_122 : decode cX12_logs 122 = .ok (.getfield 205, 3) := by decide +kernel
theorem dX12_logs_125 : decode cX12_logs 125 = .ok (.iconst 1, 1) := by decide +kernel
theorem dX12_logs_126 : decode cX12_logs 126 = .ok (.isub, 1) := by decide +kernel
theorem dX12_logs_127 : decode cX12_logs 127 = .ok (.aload_n 0, 1) := by decide +kernel
theorem dX12_logs_128 : decode cX12_logs 128 = .ok (.getfield 208, 3) := by decide +kernel
theorem dX12_logs_131 : decode cX12_logs 131 = .ok (.iconst 1, 1) := by decide +kernel
theorem dX12_logs_132 : decode cX12_logs 132 = .ok (.isub, 1) := by decide +kernel
theorem dX12_logs_133 : decode cX12_logs 133 = .ok (.invokevirtual 334, 3) := by decide +kernel
theorem dX12_logs_136 : decode cX12_logs 136 = .ok (.iastore, 1) := by decide +kernel
theorem dX12_logs_137 : decode cX12_logs 137 = .ok (.aload_n 0, 1) := by decide +kernel
theorem dX12_logs_138 : decode cX12_logs 138 = .ok (.getfield 28, 3) := by decide +kernel
theorem dX12_logs_141 : decode cX12_logs 141 = .ok (.sipush 324, 3) := by decide +kernel
theorem dX12_logs_144 : decode cX12_logs 144 = .ok (.dup2, 1) := by decide +kernel
theorem dX12_logs_145 : decode cX12_logs 145 = .ok (.iaload, 1) := by decide +kernel
theorem dX12_logs_146 : decode cX12_logs 146 = .ok (.iconst 1, 1) := by decide +kernel
theorem dX12_logs_147 : decode cX12_logs 147 = .ok (.iadd, 1) := by decide +kernel
theorem dX12_logs_148 : decode cX12_logs 148 = .ok (.iastore, 1) := by decide +kernel
theorem dX12_logs_149 : decode cX12_logs 149 = .ok (.return_, 1) := by decide +kernel
theorem dX12_refuses_0 : decode cX12_refuses 0 = .ok (.aload_n 0, 1) := by decide +kernel
theorem dX12_refuses_1 : decode cX12_refuses 1 = .ok (.getfield 52, 3) := by decide +kernel
theorem dX12_refuses_4 : decode cX12_refuses 4 = .ok (.iload_n 1, 1) := by decide +kernel
theorem dX12_refuses_5 : decode cX12_refuses 5 = .ok (.dup2, 1) := by decide +kernel
theorem dX12_refuses_6 : decode cX12_refuses 6 = .ok (.iaload, 1) := by decide +kernel
theorem dX12_refuses_7 : decode cX12_refuses 7 = .ok (.iconst 1, 1) := by decide +kernel
theorem dX12_refuses_8 : decode cX12_refuses 8 = .ok (.iadd, 1) := by decide +kernel
theorem dX12_refuses_9 : decode cX12_refuses 9 = .ok (.iastore, 1) := by decide +kernel
theorem dX12_refuses_10 : decode cX12_refuses 10 = .ok (.iconst (-1), 1) := by decide +kernel
theorem dX12_refuses_11 : decode cX12_refuses 11 = .ok (.ireturn, 1) := by decide +kernel
theorem dX12_go_0 : decode cX12_go 0 = .ok (.aload_n 0, 1) := by decide +kernel
theorem dX12_go_1 : decode cX12_go 1 = .ok (.iconst 0, 1) := by decide +kernel
theorem dX12_go_2 : decode cX12_go 2 = .ok (.putfield 86, 3) := by decide +kernel
theorem dX12_go_5 : decode cX12_go 5 = .ok (.aload_n 0, 1) := by decide +kernel
theorem dX12_go_6 : decode cX12_go 6 = .ok (.invokevirtual 306, 3) := by decide +kernel
theorem dX12_go_9 : decode cX12_go 9 = .ok (.ifCond .ne 9, 3) := by decide +kernel
theorem dX12_go_12 : decode cX12_go 12 = .ok (.aload_n 0, 1) := by decide +kernel
theorem dX12_go_13 : decode cX12_go 13 = .ok (.iconst 0, 1) := by decide +kernel
theorem dX12_go_14 : decode cX12_go 14 = .ok (.invokevirtual 354, 3) := by decide +kernel
theorem dX12_go_17 : decode cX12_go 17 = .ok (.ireturn, 1) := by decide +kernel
theorem dX12_go_18 : decode cX12_go 18 = .ok (.iload_n 1, 1) := by decide +kernel
theorem dX12_go_19 : decode cX12_go 19 = .ok (.i2l, 1) := by decide +kernel
theorem dX12_go_20 : decode cX12_go 20 = .ok (.lconst 1, 1) := by decide +kernel
theorem dX12_go_21 : decode cX12_go 21 = .ok (.ldc2_w 385, 3) := by decide +kernel
theorem dX12_go_24 : decode cX12_go 24 = .ok (.invokestatic 97, 3) := by decide +kernel
theorem dX12_go_27 : decode cX12_go 27 = .ok (.ifCond .ne 9, 3) := by decide +kernel
theorem dX12_go_30 : decode cX12_go 30 = .ok (.aload_n 0, 1) := by decide +kernel
theorem dX12_go_31 : decode cX12_go 31 = .ok (.iconst 2, 1) := by decide +kernel
theorem dX12_go_32 : decode cX12_go 32 = .ok (.invokevirtual 354, 3) := by decide +kernel
theorem dX12_go_35 : decode cX12_go 35 = .ok (.ireturn, 1) := by decide +kernel
theorem dX12_go_36 : decode cX12_go 36 = .ok (.iconst 0, 1) := by decide +kernel
theorem dX12_go_37 : decode cX12_go 37 = .ok (.istore_n 2, 1) := by decide +kernel
theorem dX12_go_38 : decode cX12_go 38 = .ok (.iconst 0, 1) := by decide +kernel
theorem dX12_go_39 : decode cX12_go 39 = .ok (.istore_n 3, 1) := by decide +kernel
theorem dX12_go_40 : decode cX12_go 40 = .ok (.iload_n 3, 1) := by decide +kernel
theorem dX12_go_41 : decode cX12_go 41 = .ok (.iload_n 1, 1) := by decide +kernel
theorem dX12_go_42 : decode cX12_go 42 = .ok (.if_icmp .ge 44, 3) := by decide +kernel
theorem dX12_go_45 : decode cX12_go 45 = .ok (.aload_n 0, 1) := by decide +kernel
theorem dX12_go_46 : decode cX12_go 46 = .ok (.invokevirtual 364, 3) := by decide +kernel
theorem dX12_go_49 : decode cX12_go 49 = .ok (.aload_n 0, 1) := by decide +kernel
theorem dX12_go_50 : decode cX12_go 50 = .ok (.invokevirtual 387, 3) := by decide +kernel
theorem dX12_go_53 : decode cX12_go 53 = .ok (.aload_n 0, 1) := by decide +kernel
theorem dX12_go_54 : decode cX12_go 54 = .ok (.invokevirtual 390, 3) := by decide +kernel
theorem dX12_go_57 : decode cX12_go 57 = .ok (.iload_n 2, 1) := by decide +kernel
theorem dX12_go_58 : decode cX12_go 58 = .ok (.aload_n 0, 1) := by decide +kernel
theorem dX12_go_59 : decode cX12_go 59 = .ok (.getfield 376, 3) := by decide +kernel
theorem dX12_go_62 : decode cX12_go 62 = .ok (.iadd, 1) := by decide +kernel
theorem dX12_go_63 : decode cX12_go 63 = .ok (.istore_n 2, 1) := by decide +kernel
theorem dX12_go_64 : decode cX12_go 64 = .ok (.aload_n 0, 1) := by decide +kernel
theorem dX12_go_65 : decode cX12_go 65 = .ok (.aload_n 0, 1) := by decide +kernel
theorem dX12_go_66 : decode cX12_go 66 = .ok (.getfield 376, 3) := by decide +kernel
theorem dX12_go_69 : decode cX12_go 69 = .ok (.aload_n 0, 1) := by decide +kernel
theorem dX12_go_70 : decode cX12_go 70 = .ok (.getfield 379, 3) := by decide +kernel
theorem dX12_go_73 : decode cX12_go 73 = .ok (.aload_n 0, 1) := by decide +kernel
theorem dX12_go_74 : decode cX12_go 74 = .ok (.getfield 382, 3) := by decide +kernel
theorem dX12_go_77 : decode cX12_go 77 = .ok (.invokevirtual 393, 3) := by decide +kernel
theorem dX12_go_80 : decode cX12_go 80 = .ok (.iinc 3 1, 3) := by decide +kernel
theorem dX12_go_83 : decode cX12_go 83 = .ok (.goto (-43), 3) := by decide +kernel
theorem dX12_go_86 : decode cX12_go 86 = .ok (.iload_n 2, 1) := by decide +kernel
theorem dX12_go_87 : decode cX12_go 87 = .ok (.ireturn, 1) := by decide +kernel
theorem dX12_gone_0 : decode cX12_gone 0 = .ok (.aload_n 0, 1) := by decide +kernel
theorem dX12_gone_1 : decode cX12_gone 1 = .ok (.iconst 0, 1) := by decide +kernel
theorem dX12_gone_2 : decode cX12_gone 2 = .ok (.putfield 86, 3) := by decide +kernel
theorem dX12_gone_5 : decode cX12_gone 5 = .ok (.aload_n 0, 1) := by decide +kernel
theorem dX12_gone_6 : decode cX12_gone 6 = .ok (.getfield 235, 3) := by decide +kernel
theorem dX12_gone_9 : decode cX12_gone 9 = .ok (.ifCond .eq 24, 3) := by decide +kernel
theorem dX12_gone_12 : decode cX12_gone 12 = .ok (.iload_n 1, 1) := by decide +kernel
theorem dX12_gone_13 : decode cX12_gone 13 = .ok (.i2l, 1) := by decide +kernel
theorem dX12_gone_14 : decode cX12_gone 14 = .ok (.lconst 0, 1) := by decide +kernel
theorem dX12_gone_15 : decode cX12_gone 15 = .ok (.ldc2_w 352, 3) := by decide +kernel
theorem dX12_gone_18 : decode cX12_gone 18 = .ok (.invokestatic 97, 3) := by decide +kernel
theorem dX12_gone_21 : decode cX12_gone 21 = .ok (.ifCond .eq 12, 3) := by decide +kernel
theorem dX12_gone_24 : decode cX12_gone 24 = .ok (.aload_n 0, 1) := by decide +kernel
theorem dX12_gone_25 : decode cX12_gone 25 = .ok (.getfield 62, 3) := by decide +kernel
theorem dX12_gone_28 : decode cX12_gone 28 = .ok (.iload_n 1, 1) := by decide +kernel
theorem dX12_gone_29 : decode cX12_gone 29 = .ok (.iaload, 1) := by decide +kernel
theorem dX12_gone_30 : decode cX12_gone 30 = .ok (.goto 6, 3) := by decide +kernel
theorem dX12_gone_33 : decode cX12_gone 33 = .ok (.ldc_w 310, 3) := by decide +kernel
theorem dX12_gone_36 : decode cX12_gone 36 = .ok (.ireturn, 1) := by decide +kernel
theorem dX12_greatestForce_0 : decode cX12_greatestForce 0 = .ok (.iconst 0, 1) := by decide +kernel
theorem dX12_greatestForce_1 : decode cX12_greatestForce 1 = .ok (.istore_n 1, 1) := by decide +kernel
theorem dX12_greatestForce_2 : decode cX12_greatestForce 2 = .ok (.aload_n 0, 1) := by decide +kernel
theorem dX12_greatestForce_3 : decode cX12_greatestForce 3 = .ok (.invokevirtual 238, 3) := by decide +kernel
theorem dX12_greatestForce_6 : decode cX12_greatestForce 6 = .ok (.pop, 1) := by decide +kernel
theorem dX12_greatestForce_7 : decode cX12_greatestForce 7 = .ok (.iconst 0, 1) := by decide +kernel
theorem dX12_greatestForce_8 : decode cX12_greatestForce 8 = .ok (.istore_n 2, 1) := by decide +kernel
theorem dX12_greatestForce_9 : decode cX12_greatestForce 9 = .ok (.iload_n 2, 1) := by decide +kernel
theorem dX12_greatestForce_10 : decode cX12_greatestForce 10 = .ok (.aload_n 0, 1) := by decide +kernel
theorem dX12_greatestForce_11 : decode cX12_greatestForce 11 = .ok (.getfield 241, 3) := by decide +kernel
theorem dX12_greatestForce_14 : decode cX12_greatestForce 14 = .ok (.if_icmp .ge 23, 3) := by decide +kernel
theorem dX12_greatestForce_17 : decode cX12_greatestForce 17 = .ok (.iload_n 1, 1) := by decide +kernel
theorem dX12_greatestForce_18 : decode cX12_greatestForce 18 = .ok (.aload_n 0, 1) := by decide +kernel
theorem dX12_greatestForce_19 : decode cX12_greatestForce 19 = .ok (.getfield 46, 3) := by decide +kernel
theorem dX12_greatestForce_22 : decode cX12_greatestForce 22 = .ok (.iload_n 2, 1) := by decide +kernel
theorem dX12_greatestForce_23 : decode cX12_greatestForce 23 = .ok (.iaload, 1) := by decide +kernel
theorem dX12_greatestForce_24 : decode cX12_greatestForce 24 = .ok (.invokestatic 370, 3) := by decide +kernel
theorem dX12_greatestForce_27 : decode cX12_greatestForce 27 = .ok (.invokestatic 464, 3) := by decide +kernel
theorem dX12_greatestForce_30 : decode cX12_greatestForce 30 = .ok (.istore_n 1, 1) := by decide +kernel
theorem dX12_greatestForce_31 : decode cX12_greatestForce 31 = .ok (.iinc 2 1, 3) := by decide +kernel
theorem dX12_greatestForce_34 : decode cX12_greatestForce 34 = .ok (.goto (-25), 3) := by decide +kernel
theorem dX12_greatestForce_37 : decode cX12_greatestForce 37 = .ok (.iload_n 1, 1) := by decide +kernel
theorem dX12_greatestForce_38 : decode cX12_greatestForce 38 = .ok (.ireturn, 1) := by decide +kernel
theorem dX12_greatestNumber_0 : decode cX12_greatestNumber 0 = .ok (.iconst 0, 1) := by decide +kernel
theorem dX12_greatestNumber_1 : decode cX12_greatestNumber 1 = .ok (.istore_n 1, 1) := by decide +kernel
theorem dX12_greatestNumber_2 : decode cX12_greatestNumber 2 = .ok (.iconst 0, 1) := by decide +kernel
theorem dX12_greatestNumber_3 : decode cX12_greatestNumber 3 = .ok (.istore_n 2, 1) := by decide +kernel
theorem dX12_greatestNumber_4 : decode cX12_greatestNumber 4 = .ok (.iload_n 2, 1) := by decide +kernel
theorem dX12_greatestNumber_5 : decode cX12_greatestNumber 5 = .ok (.aload_n 0, 1) := by decide +kernel
theorem dX12_greatestNumber_6 : decode cX12_greatestNumber 6 = .ok (.getfield 241, 3) := by decide +kernel
theorem dX12_greatestNumber_9 : decode cX12_greatestNumber 9 = .ok (.if_icmp .ge 35, 3) := by decide +kernel
theorem dX12_greatestNumber_12 : decode cX12_greatestNumber 12 = .ok (.iload_n 1, 1) := by decide +kernel
theorem dX12_greatestNumber_13 : decode cX12_greatestNumber 13 = .ok (.aload_n 0, 1) := by decide +kernel
theorem dX12_greatestNumber_14 : decode cX12_greatestNumber 14 = .ok (.getfield 40, 3) := by decide +kernel
theorem dX12_greatestNumber_17 : decode cX12_greatestNumber 17 = .ok (.iload_n 2, 1) := by decide +kernel
theorem dX12_greatestNumber_18 : decode cX12_greatestNumber 18 = .ok (.iaload, 1) := by decide +kernel
theorem dX12_greatestNumber_19 : decode cX12_greatestNumber 19 = .ok (.invokestatic 370, 3) := by decide +kernel
theorem dX12_greatestNumber_22 : decode cX12_greatestNumber 22 = .ok (.aload_n 0, 1) := by decide +kernel
theorem dX12_greatestNumber_23 : decode cX12_greatestNumber 23 = .ok (.getfield 43, 3) := by decide +kernel
theorem dX12_greatestNumber_26 : decode cX12_greatestNumber 26 = .ok (.iload_n 2, 1) := by decide +kernel
theorem dX12_greatestNumber_27 : decode cX12_greatestNumber 27 = .ok (.iaload, 1) := by decide +kernel
theorem dX12_greatestNumber_28 : decode cX12_greatestNumber 28 = .ok (.invokestatic 370, 3) := by decide +kernel
theorem dX12_greatestNumber_31 : decode cX12_greatestNumber 31 = .ok (.invokestatic 464, 3) := by decide +kernel
theorem dX12_greatestNumber_34 : decode cX12_greatestNumber 34 = .ok (.invokestatic 464, 3) := by decide +kernel
theorem dX12_greatestNumber_37 : decode cX12_greatestNumber 37 = .ok (.istore_n 1, 1) := by decide +kernel
theorem dX12_greatestNumber_38 : decode cX12_greatestNumber 38 = .ok (.iinc 2 1, 3) := by decide +kernel
theorem dX12_greatestNumber_41 : decode cX12_greatestNumber 41 = .ok (.goto (-37), 3) := by decide +kernel
theorem dX12_greatestNumber_44 : decode cX12_greatestNumber 44 = .ok (.iload_n 1, 1) := by decide +kernel
theorem dX12_greatestNumber_45 : decode cX12_greatestNumber 45 = .ok (.ireturn, 1) := by decide +kernel
theorem dX12_hasSum_0 : decode cX12_hasSum 0 = .ok (.aload_n 0, 1) := by decide +kernel
theorem dX12_hasSum_1 : decode cX12_hasSum 1 = .ok (.iload_n 1, 1) := by decide +kernel
theorem dX12_hasSum_2 : decode cX12_hasSum 2 = .ok (.iload_n 2, 1) := by decide +kernel
theorem dX12_hasSum_3 : decode cX12_hasSum 3 = .ok (.iload_n 3, 1) := by decide +kernel
theorem dX12_hasSum_4 : decode cX12_hasSum 4 = .ok (.iload 4, 2) := by decide +kernel
theorem dX12_hasSum_6 : decode cX12_hasSum 6 = .ok (.iconst 0, 1) := by decide +kernel
theorem dX12_hasSum_7 : decode cX12_hasSum 7 = .ok (.invokevirtual 314, 3) := by decide +kernel
theorem dX12_hasSum_10 : decode cX12_hasSum 10 = .ok (.ifCond .ne 16, 3) := by decide +kernel
theorem dX12_hasSum_13 : decode cX12_hasSum 13 = .ok (.aload_n 0, 1) := by decide +kernel
theorem dX12_hasSum_14 : decode cX12_hasSum 14 = .ok (.iload_n 1, 1) := by decide +kernel
theorem dX12_hasSum_15 : decode cX12_hasSum 15 = .ok (.iload_n 2, 1) := by decide +kernel
theorem dX12_hasSum_16 : decode cX12_hasSum 16 = .ok (.iload_n 3, 1) := by decide +kernel
theorem dX12_hasSum_17 : decode cX12_hasSum 17 = .ok (.iload 4, 2) := by decide +kernel
theorem dX12_hasSum_19 : decode cX12_hasSum 19 = .ok (.iconst 1, 1) := by decide +kernel
theorem dX12_hasSum_20 : decode cX12_hasSum 20 = .ok (.invokevirtual 314, 3) := by decide +kernel
theorem dX12_hasSum_23 : decode cX12_hasSum 23 = .ok (.ifCond .eq 7, 3) := by decide +kernel
theorem dX12_hasSum_26 : decode cX12_hasSum 26 = .ok (.iconst 1, 1) := by decide +kernel
theorem dX12_hasSum_27 : decode cX12_hasSum 27 = .ok (.goto 4, 3) := by decide +kernel
theorem dX12_hasSum_30 : decode cX12_hasSum 30 = .ok (.iconst 0, 1) := by decide +kernel
theorem dX12_hasSum_31 : decode cX12_hasSum 31 = .ok (.ireturn, 1) := by decide +kernel
theorem dX12_laysBoxes_0 : decode cX12_laysBoxes 0 = .ok (.aload_n 0, 1) := by decide +kernel
theorem dX12_laysBoxes_1 : decode cX12_laysBoxes 1 = .ok (.iconst 0, 1) := by decide +kernel
theorem dX12_laysBoxes_2 : decode cX12_laysBoxes 2 = .ok (.putfield 338, 3) := by decide +kernel
theorem dX12_laysBoxes_5 : decode cX12_laysBoxes 5 = .ok (.iconst 0, 1) := by decide +kernel
theorem dX12_laysBoxes_6 : decode cX12_laysBoxes 6 = .ok (.istore_n 1, 1) := by decide +kernel
theorem dX12_laysBoxes_7 : decode cX12_laysBoxes 7 = .ok (.iconst 0, 1) := by decide +kernel
theorem dX12_laysBoxes_8 : decode cX12_laysBoxes 8 = .ok (.istore_n 2, 1) := by decide +kernel
theorem dX12_laysBoxes_9 : decode cX12_laysBoxes 9 = .ok (.aload_n 0, 1) := by decide +kernel
theorem dX12_laysBoxes_10 : decode cX12_laysBoxes 10 = .ok (.getfield 205, 3) := by decide +kernel
theorem dX12_laysBoxes_13 : decode cX12_laysBoxes 13 = .ok (.iconst 1, 1) := by decide +kernel
theorem dX12_laysBoxes_14 : decode cX12_laysBoxes 14 = .ok (.isub, 1) := by decide +kernel
theorem dX12_laysBoxes_15 : decode cX12_laysBoxes 15 = .ok (.istore_n 3, 1) := by decide +kernel
theorem dX12_laysBoxes_16 : decode cX12_laysBoxes 16 = .ok (.aload_n 0, 1) := by decide +kernel
theorem dX12_laysBoxes_17 : decode cX12_laysBoxes 17 = .ok (.getfield 208, 3) := by decide +kernel
theorem dX12_laysBoxes_20 : decode cX12_laysBoxes 20 = .ok (.iconst 1, 1) := by decide +kernel
theorem dX12_laysBoxes_21 : decode cX12_laysBoxes 21 = .ok (.isub, 1) := by decide +kernel
theorem dX12_laysBoxes_22 : decode cX12_laysBoxes 22 = .ok (.istore 4, 2) := by decide +kernel
theorem dX12_laysBoxes_24 : decode cX12_laysBoxes 24 = .ok (.aload_n 0, 1) := by decide +kernel
theorem dX12_laysBoxes_25 : decode cX12_laysBoxes 25 = .ok (.iload_n 1, 1) := by decide +kernel
theorem dX12_laysBoxes_26 : decode cX12_laysBoxes 26 = .ok (.iload_n 2, 1) := by decide +kernel
theorem dX12_laysBoxes_27 : decode cX12_laysBoxes 27 = .ok (.iload_n 3, 1) := by decide +kernel
theorem dX12_laysBoxes_28 : decode cX12_laysBoxes 28 = .ok (.iload 4, 2) := by decide +kernel
theorem dX12_laysBoxes_30 : decode cX12_laysBoxes 30 = .ok (.invokevirtual 341, 3) := by decide +kernel
theorem dX12_laysBoxes_33 : decode cX12_laysBoxes 33 = .ok (.ifCond .ne 4, 3) := by decide +kernel
theorem dX12_laysBoxes_36 : decode cX12_laysBoxes 36 = .ok (.return_, 1) := by decide +kernel
theorem dX12_laysBoxes_37 : decode cX12_laysBoxes 37 = .ok (.aload_n 0, 1) := by decide +kernel
theorem dX12_laysBoxes_38 : decode cX12_laysBoxes 38 = .ok (.iload_n 1, 1) := by decide +kernel
theorem dX12_laysBoxes_39 : decode cX12_laysBoxes 39 = .ok (.iload_n 2, 1) := by decide +kernel
theorem dX12_laysBoxes_40 : decode cX12_laysBoxes 40 = .ok (.iload_n 3, 1) := by decide +kernel
theorem dX12_laysBoxes_41 : decode cX12_laysBoxes 41 = .ok (.iload 4, 2) := by decide +kernel
theorem dX12_laysBoxes_43 : decode cX12_laysBoxes 43 = .ok (.invokevirtual 345, 3) := by decide +kernel
theorem dX12_laysBoxes_46 : decode cX12_laysBoxes 46 = .ok (.iload_n 3, 1) := by decide +kernel
theorem dX12_laysBoxes_47 : decode cX12_laysBoxes 47 = .ok (.iload_n 1, 1) := by decide +kernel
theorem dX12_laysBoxes_48 : decode cX12_laysBoxes 48 = .ok (.isub, 1) := by decide +kernel
theorem dX12_laysBoxes_49 : decode cX12_laysBoxes 49 = .ok (.iconst 1, 1) := by decide +kernel
theorem dX12_laysBoxes_50 : decode cX12_laysBoxes 50 = .ok (.if_icmp .gt 11, 3) := by decide +kernel
theorem dX12_laysBoxes_53 : decode cX12_laysBoxes 53 = .ok (.iload 4, 2) := by decide +kernel
theorem dX12_laysBoxes_55 : decode cX12_laysBoxes 55 = .ok (.iload_n 2, 1) := by decide +kernel
theorem dX12_laysBoxes_56 : decode cX12_laysBoxes 56 = .ok (.isub, 1) := by decide +kernel
theorem dX12_laysBoxes_57 : decode cX12_laysBoxes 57 = .ok (.iconst 1, 1) := by decide +kernel
theorem dX12_laysBoxes_58 : decode cX12_laysBoxes 58 = .ok (.if_icmp .le 120, 3) := by decide +kernel
theorem dX12_laysBoxes_61 : decode cX12_laysBoxes 61 = .ok (.iload_n 3, 1) := by decide +kernel
theorem dX12_laysBoxes_62 : decode cX12_laysBoxes 62 = .ok (.iload_n 1, 1) := by decide +kernel
theorem dX12_laysBoxes_63 : decode cX12_laysBoxes 63 = .ok (.isub, 1) := by decide +kernel
theorem dX12_laysBoxes_64 : decode cX12_laysBoxes 64 = .ok (.iload 4, 2) := by decide +kernel
theorem dX12_laysBoxes_66 : decode cX12_laysBoxes 66 = .ok (.iload_n 2, 1) := by decide +kernel
theorem dX12_laysBoxes_67 : decode cX12_laysBoxes 67 = .ok (.isub, 1) := by decide +kernel
theorem dX12_laysBoxes_68 : decode cX12_laysBoxes 68 = .ok (.if_icmp .lt 51, 3) := by decide +kernel
theorem dX12_laysBoxes_71 : decode cX12_laysBoxes 71 = .ok (.iload_n 1, 1) := by decide +kernel
theorem dX12_laysBoxes_72 : decode cX12_laysBoxes 72 = .ok (.iload_n 3, 1) := by decide +kernel
theorem dX12_laysBoxes_73 : decode cX12_laysBoxes 73 = .ok (.iload_n 1, 1) := by decide +kernel
theorem dX12_laysBoxes_74 : decode cX12_laysBoxes 74 = .ok (.isub, 1) := by decide +kernel
theorem dX12_laysBoxes_75 : decode cX12_laysBoxes 75 = .ok (.iconst 2, 1) := by decide +kernel
theorem dX12_laysBoxes_76 : decode cX12_laysBoxes 76 = .ok (.idiv, 1) := by decide +kernel
theorem dX12_laysBoxes_77 : decode cX12_laysBoxes 77 = .ok (.iadd, 1) := by decide +kernel
theorem dX12_laysBoxes_78 : decode cX12_laysBoxes 78 = .ok (.istore 5, 2) := by decide +kernel
theorem dX12_laysBoxes_80 : decode cX12_laysBoxes 80 = .ok (.aload_n 0, 1) := by decide +kernel
theorem dX12_laysBoxes_81 : decode cX12_laysBoxes 81 = .ok (.iload_n 1, 1) := by decide +kernel
theorem dX12_laysBoxes_82 : decode cX12_laysBoxes 82 = .ok (.iload_n 2, 1) := by decide +kernel
theorem dX12_laysBoxes_83 : decode cX12_laysBoxes 83 = .ok (.iload 5, 2) := by decide +kernel
theorem dX12_laysBoxes_85 : decode cX12_laysBoxes 85 = .ok (.iload 4, 2) := by decide +kernel
theorem dX12_laysBoxes_87 : decode cX12_laysBoxes 87 = .ok (.invokevirtual 341, 3) := by decide +kernel
theorem dX12_laysBoxes_90 : decode cX12_laysBoxes 90 = .ok (.istore 6, 2) := by decide +kernel
theorem dX12_laysBoxes_92 : decode cX12_laysBoxes 92 = .ok (.iload 6, 2) := by decide +kernel
theorem dX12_laysBoxes_94 : decode cX12_laysBoxes 94 = .ok (.ifCond .eq 8, 3) := by decide +kernel
theorem dX12_laysBoxes_97 : decode cX12_laysBoxes 97 = .ok (.iload 5, 2) := by decide +kernel
theorem dX12_laysBoxes_99 : decode cX12_laysBoxes 99 = .ok (.goto 4, 3) := by decide +kernel
theorem dX12_laysBoxes_102 : decode cX12_laysBoxes 102 = .ok (.iload_n 3, 1) := by decide +kernel
theorem dX12_laysBoxes_103 : decode cX12_laysBoxes 103 = .ok (.istore_n 3, 1) := by decide +kernel
theorem dX12_laysBoxes_104 : decode cX12_laysBoxes 104 = .ok (.iload 6, 2) := by decide +kernel
theorem dX12_laysBoxes_106 : decode cX12_laysBoxes 106 = .ok (.ifCond .eq 7, 3) := by decide +kernel
theorem dX12_laysBoxes_109 : decode cX12_laysBoxes 109 = .ok (.iload_n 1, 1) := by decide +kernel
theorem dX12_laysBoxes_110 : decode cX12_laysBoxes 110 = .ok (.goto 5, 3) := by decide +kernel
theorem dX12_laysBoxes_113 : decode cX12_laysBoxes 113 = .ok (.iload 5, 2) := by decide +kernel
theorem dX12_laysBoxes_115 : decode cX12_laysBoxes 115 = .ok (.istore_n 1, 1) := by decide +kernel
theorem dX12_laysBoxes_116 : decode cX12_laysBoxes 116 = .ok (.goto 50, 3) := by decide +kernel
theorem dX12_laysBoxes_119 : decode cX12_laysBoxes 119 = .ok (.iload_n 2, 1) := by decide +kernel
theorem dX12_laysBoxes_120 : decode cX12_laysBoxes 120 = .ok (.iload 4, 2) := by decide +kernel
theorem dX12_laysBoxes_122 : decode cX12_laysBoxes 122 = .ok (.iload_n 2, 1) := by decide +kernel
theorem dX12_laysBoxes_123 : decode cX12_laysBoxes 123 = .ok (.isub, 1) := by decide +kernel
theorem dX12_laysBoxes_124 : decode cX12_laysBoxes 124 = .ok (.iconst 2, 1) := by decide +kernel
theorem dX12_laysBoxes_125 : decode cX12_laysBoxes 125 = .ok (.idiv, 1) := by decide +kernel
theorem dX12_laysBoxes_126 : decode cX12_laysBoxes 126 = .ok (.iadd, 1) := by decide +kernel
theorem dX12_laysBoxes_127 : decode cX12_laysBoxes 127 = .ok (.istore 5, 2) := by decide +kernel
theorem dX12_laysBoxes_129 : decode cX12_laysBoxes 129 = .ok (.aload_n 0, 1) := by decide +kernel
theorem dX12_laysBoxes_130 : decode cX12_laysBoxes 130 = .ok (.iload_n 1, 1) := by decide +kernel
theorem dX12_laysBoxes_131 : decode cX12_laysBoxes 131 = .ok (.iload_n 2, 1) := by decide +kernel
theorem dX12_laysBoxes_132 : decode cX12_laysBoxes 132 = .ok (.iload_n 3, 1) := by decide +kernel
theorem dX12_laysBoxes_133 : decode cX12_laysBoxes 133 = .ok (.iload 5, 2) := by decide +kernel
theorem dX12_laysBoxes_135 : decode cX12_laysBoxes 135 = .ok (.invokevirtual 341, 3) := by decide +kernel
theorem dX12_laysBoxes_138 : decode cX12_laysBoxes 138 = .ok (.istore 6, 2) := by decide +kernel
theorem dX12_laysBoxes_140 : decode cX12_laysBoxes 140 = .ok (.iload 6, 2) := by decide +kernel
theorem dX12_laysBoxes_142 : decode cX12_laysBoxes 142 = .ok (.ifCond .eq 8, 3) := by decide +kernel
theorem dX12_laysBoxes_145 : decode cX12_laysBoxes 145 = .ok (.iload 5, 2) := by decide +kernel
theorem dX12_laysBoxes_147 : decode cX12_laysBoxes 147 = .ok (.goto 5, 3) := by decide +kernel
theorem dX12_laysBoxes_150 : decode cX12_laysBoxes 150 = .ok (.iload 4, 2) := by decide +kernel
theorem dX12_laysBoxes_152 : decode cX12_laysBoxes 152 = .ok (.istore 4, 2) := by decide +kernel
theorem dX12_laysBoxes_154 : decode cX12_laysBoxes 154 = .ok (.iload 6, 2) := by decide +kernel
theorem dX12_laysBoxes_156 : decode cX12_laysBoxes 156 = .ok (.ifCond .eq 7, 3) := by decide +kernel
theorem dX12_laysBoxes_159 : decode cX12_laysBoxes 159 = .ok (.iload_n 2, 1) := by decide +kernel
theorem dX12_laysBoxes_160 : decode cX12_laysBoxes 160 = .ok (.goto 5, 3) := by decide +kernel
theorem dX12_laysBoxes_163 : decode cX12_laysBoxes 163 = .ok (.iload 5, 2) := by decide +kernel
theorem dX12_laysBoxes_165 : decode cX12_laysBoxes 165 = .ok (.istore_n 2, 1) := by decide +kernel
theorem dX12_laysBoxes_166 : decode cX12_laysBoxes 166 = .ok (.aload_n 0, 1) := by decide +kernel
theorem dX12_laysBoxes_167 : decode cX12_laysBoxes 167 = .ok (.iload_n 1, 1) := by decide +kernel
theorem dX12_laysBoxes_168 : decode cX12_laysBoxes 168 = .ok (.iload_n 2, 1) := by decide +kernel
theorem dX12_laysBoxes_169 : decode cX12_laysBoxes 169 = .ok (.iload_n 3, 1) := by decide +kernel
theorem dX12_laysBoxes_170 : decode cX12_laysBoxes 170 = .ok (.iload 4, 2) := by decide +kernel
theorem dX12_laysBoxes_172 : decode cX12_laysBoxes 172 = .ok (.invokevirtual 345, 3) := by decide +kernel
theorem dX12_laysBoxes_175 : decode cX12_laysBoxes 175 = .ok (.goto (-129), 3) := by decide +kernel
theorem dX12_laysBoxes_178 : decode cX12_laysBoxes 178 = .ok (.return_, 1) := by decide +kernel
theorem dX12_halved_0 : decode cX12_halved 0 = .ok (.aload_n 0, 1) := by decide +kernel
theorem dX12_halved_1 : decode cX12_halved 1 = .ok (.iconst 0, 1) := by decide +kernel
theorem dX12_halved_2 : decode cX12_halved 2 = .ok (.putfield 86, 3) := by decide +kernel
theorem dX12_halved_5 : decode cX12_halved 5 = .ok (.aload_n 0, 1) := by decide +kernel
theorem dX12_halved_6 : decode cX12_halved 6 = .ok (.invokevirtual 306, 3) := by decide +kernel
theorem dX12_halved_9 : decode cX12_halved 9 = .ok (.ifCond .ne 5, 3) := by decide +kernel
theorem dX12_halved_12 : decode cX12_halved 12 = .ok (.iconst (-1), 1) := by decide +kernel
theorem dX12_halved_13 : decode cX12_halved 13 = .ok (.ireturn, 1) := by decide +kernel
theorem dX12_halved_14 : decode cX12_halved 14 = .ok (.aload_n 0, 1) := by decide +kernel
theorem dX12_halved_15 : decode cX12_halved 15 = .ok (.invokevirtual 349, 3) := by decide +kernel
theorem dX12_halved_18 : decode cX12_halved 18 = .ok (.iload_n 1, 1) := by decide +kernel
theorem dX12_halved_19 : decode cX12_halved 19 = .ok (.iconst (-1), 1) := by decide +kernel
theorem dX12_halved_20 : decode cX12_halved 20 = .ok (.if_icmp .ne 10, 3) := by decide +kernel
theorem dX12_halved_23 : decode cX12_halved 23 = .ok (.aload_n 0, 1) := by decide +kernel
theorem dX12_halved_24 : decode cX12_halved 24 = .ok (.getfield 338, 3) := by decide +kernel
theorem dX12_halved_27 : decode cX12_halved 27 = .ok (.goto 45, 3) := by decide +kernel
theorem dX12_halved_30 : decode cX12_halved 30 = .ok (.iload_n 1, 1) := by decide +kernel
theorem dX12_halved_31 : decode cX12_halved 31 = .ok (.i2l, 1) := by decide +kernel
theorem dX12_halved_32 : decode cX12_halved 32 = .ok (.lconst 0, 1) := by decide +kernel
theorem dX12_halved_33 : decode cX12_halved 33 = .ok (.aload_n 0, 1) := by decide +kernel
theorem dX12_halved_34 : decode cX12_halved 34 = .ok (.getfield 338, 3) := by decide +kernel
theorem dX12_halved_37 : decode cX12_halved 37 = .ok (.iconst 1, 1) := by decide +kernel
theorem dX12_halved_38 : decode cX12_halved 38 = .ok (.isub, 1) := by decide +kernel
theorem dX12_halved_39 : decode cX12_halved 39 = .ok (.i2l, 1) := by decide +kernel
theorem dX12_halved_40 : decode cX12_halved 40 = .ok (.invokestatic 97, 3) := by decide +kernel
theorem dX12_halved_43 : decode cX12_halved 43 = .ok (.ifCond .eq 28, 3) := by decide +kernel
theorem dX12_halved_46 : decode cX12_halved 46 = .ok (.iload_n 2, 1) := by decide +kernel
theorem dX12_halved_47 : decode cX12_halved 47 = .ok (.i2l, 1) := by decide +kernel
theorem dX12_halved_48 : decode cX12_halved 48 = .ok (.lconst 0, 1) := by decide +kernel
theorem dX12_halved_49 : decode cX12_halved 49 = .ok (.ldc2_w 291, 3) := by decide +kernel
theorem dX12_halved_52 : decode cX12_halved 52 = .ok (.invokestatic 97, 3) := by decide +kernel
theorem dX12_halved_55 : decode cX12_halved 55 = .ok (.ifCond .eq 16, 3) := by decide +kernel
theorem dX12_halved_58 : decode cX12_halved 58 = .ok (.aload_n 0, 1) := by decide +kernel
theorem dX12_halved_59 : decode cX12_halved 59 = .ok (.getfield 59, 3) := by decide +kernel
theorem dX12_halved_62 : decode cX12_halved 62 = .ok (.iconst 4, 1) := by decide +kernel
theorem dX12_halved_63 : decode cX12_halved 63 = .ok (.iload_n 1, 1) := by decide +kernel
