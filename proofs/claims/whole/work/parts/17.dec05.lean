theorem dX12_line_0 : decode cX12_line 0 = .ok (.aload_n 0, 1) := by decide +kernel
theorem dX12_line_1 : decode cX12_line 1 = .ok (.iconst 0, 1) := by decide +kernel
theorem dX12_line_2 : decode cX12_line 2 = .ok (.putfield 86, 3) := by decide +kernel
theorem dX12_line_5 : decode cX12_line 5 = .ok (.aload_n 0, 1) := by decide +kernel
theorem dX12_line_6 : decode cX12_line 6 = .ok (.invokevirtual 306, 3) := by decide +kernel
theorem dX12_line_9 : decode cX12_line 9 = .ok (.ifCond .eq 15, 3) := by decide +kernel
theorem dX12_line_12 : decode cX12_line 12 = .ok (.iload_n 2, 1) := by decide +kernel
theorem dX12_line_13 : decode cX12_line 13 = .ok (.i2l, 1) := by decide +kernel
theorem dX12_line_14 : decode cX12_line 14 = .ok (.lconst 0, 1) := by decide +kernel
theorem dX12_line_15 : decode cX12_line 15 = .ok (.ldc2_w 291, 3) := by decide +kernel
theorem dX12_line_18 : decode cX12_line 18 = .ok (.invokestatic 97, 3) := by decide +kernel
theorem dX12_line_21 : decode cX12_line 21 = .ok (.ifCond .ne 7, 3) := by decide +kernel
theorem dX12_line_24 : decode cX12_line 24 = .ok (.ldc_w 310, 3) := by decide +kernel
theorem dX12_line_27 : decode cX12_line 27 = .ok (.ireturn, 1) := by decide +kernel
theorem dX12_line_28 : decode cX12_line 28 = .ok (.aload_n 0, 1) := by decide +kernel
theorem dX12_line_29 : decode cX12_line 29 = .ok (.invokevirtual 238, 3) := by decide +kernel
theorem dX12_line_32 : decode cX12_line 32 = .ok (.pop, 1) := by decide +kernel
theorem dX12_line_33 : decode cX12_line 33 = .ok (.iload_n 1, 1) := by decide +kernel
theorem dX12_line_34 : decode cX12_line 34 = .ok (.i2l, 1) := by decide +kernel
theorem dX12_line_35 : decode cX12_line 35 = .ok (.lconst 0, 1) := by decide +kernel
theorem dX12_line_36 : decode cX12_line 36 = .ok (.aload_n 0, 1) := by decide +kernel
theorem dX12_line_37 : decode cX12_line 37 = .ok (.getfield 241, 3) := by decide +kernel
theorem dX12_line_40 : decode cX12_line 40 = .ok (.iconst 1, 1) := by decide +kernel
theorem dX12_line_41 : decode cX12_line 41 = .ok (.isub, 1) := by decide +kernel
theorem dX12_line_42 : decode cX12_line 42 = .ok (.i2l, 1) := by decide +kernel
theorem dX12_line_43 : decode cX12_line 43 = .ok (.invokestatic 97, 3) := by decide +kernel
theorem dX12_line_46 : decode cX12_line 46 = .ok (.ifCond .eq 12, 3) := by decide +kernel
theorem dX12_line_49 : decode cX12_line 49 = .ok (.aload_n 0, 1) := by decide +kernel
theorem dX12_line_50 : decode cX12_line 50 = .ok (.iload_n 1, 1) := by decide +kernel
theorem dX12_line_51 : decode cX12_line 51 = .ok (.invokevirtual 269, 3) := by decide +kernel
theorem dX12_line_54 : decode cX12_line 54 = .ok (.iconst (-1), 1) := by decide +kernel
theorem dX12_line_55 : decode cX12_line 55 = .ok (.if_icmp .ne 7, 3) := by decide +kernel
theorem dX12_line_58 : decode cX12_line 58 = .ok (.ldc_w 310, 3) := by decide +kernel
theorem dX12_line_61 : decode cX12_line 61 = .ok (.ireturn, 1) := by decide +kernel
theorem dX12_line_62 : decode cX12_line 62 = .ok (.aload_n 0, 1) := by decide +kernel
theorem dX12_line_63 : decode cX12_line 63 = .ok (.iload_n 1, 1) := by decide +kernel
theorem dX12_line_64 : decode cX12_line 64 = .ok (.invokevirtual 269, 3) := by decide +kernel
theorem dX12_line_67 : decode cX12_line 67 = .ok (.istore_n 3, 1) := by decide +kernel
theorem dX12_line_68 : decode cX12_line 68 = .ok (.aload_n 0, 1) := by decide +kernel
theorem dX12_line_69 : decode cX12_line 69 = .ok (.iload_n 1, 1) := by decide +kernel
theorem dX12_line_70 : decode cX12_line 70 = .ok (.iload_n 3, 1) := by decide +kernel
theorem dX12_line_71 : decode cX12_line 71 = .ok (.iload_n 2, 1) := by decide +kernel
theorem dX12_line_72 : decode cX12_line 72 = .ok (.iconst 2, 1) := by decide +kernel
theorem dX12_line_73 : decode cX12_line 73 = .ok (.if_icmp .ge 7, 3) := by decide +kernel
theorem dX12_line_76 : decode cX12_line 76 = .ok (.iconst 1, 1) := by decide +kernel
theorem dX12_line_77 : decode cX12_line 77 = .ok (.goto 4, 3) := by decide +kernel
theorem dX12_line_80 : decode cX12_line 80 = .ok (.iconst 0, 1) := by decide +kernel
theorem dX12_line_81 : decode cX12_line 81 = .ok (.invokevirtual 470, 3) := by decide +kernel
theorem dX12_line_84 : decode cX12_line 84 = .ok (.istore 4, 2) := by decide +kernel
theorem dX12_line_86 : decode cX12_line 86 = .ok (.iload 4, 2) := by decide +kernel
theorem dX12_line_88 : decode cX12_line 88 = .ok (.iconst (-1), 1) := by decide +kernel
theorem dX12_line_89 : decode cX12_line 89 = .ok (.if_icmp .eq 9, 3) := by decide +kernel
theorem dX12_line_92 : decode cX12_line 92 = .ok (.iload_n 2, 1) := by decide +kernel
theorem dX12_line_93 : decode cX12_line 93 = .ok (.iconst 2, 1) := by decide +kernel
theorem dX12_line_94 : decode cX12_line 94 = .ok (.irem, 1) := by decide +kernel
theorem dX12_line_95 : decode cX12_line 95 = .ok (.ifCond .ne 8, 3) := by decide +kernel
theorem dX12_line_98 : decode cX12_line 98 = .ok (.iload 4, 2) := by decide +kernel
theorem dX12_line_100 : decode cX12_line 100 = .ok (.goto 20, 3) := by decide +kernel
theorem dX12_line_103 : decode cX12_line 103 = .ok (.aload_n 0, 1) := by decide +kernel
theorem dX12_line_104 : decode cX12_line 104 = .ok (.iload 4, 2) := by decide +kernel
theorem dX12_line_106 : decode cX12_line 106 = .ok (.iload_n 3, 1) := by decide +kernel
theorem dX12_line_107 : decode cX12_line 107 = .ok (.invokevirtual 275, 3) := by decide +kernel
theorem dX12_line_110 : decode cX12_line 110 = .ok (.aload_n 0, 1) := by decide +kernel
theorem dX12_line_111 : decode cX12_line 111 = .ok (.iload_n 1, 1) := by decide +kernel
theorem dX12_line_112 : decode cX12_line 112 = .ok (.iload_n 3, 1) := by decide +kernel
theorem dX12_line_113 : decode cX12_line 113 = .ok (.invokevirtual 275, 3) := by decide +kernel
theorem dX12_line_116 : decode cX12_line 116 = .ok (.isub, 1) := by decide +kernel
theorem dX12_line_117 : decode cX12_line 117 = .ok (.invokestatic 370, 3) := by decide +kernel
theorem dX12_line_120 : decode cX12_line 120 = .ok (.ireturn, 1) := by decide +kernel
theorem dX12_link_0 : decode cX12_link 0 = .ok (.aload_n 0, 1) := by decide +kernel
theorem dX12_link_1 : decode cX12_link 1 = .ok (.iconst 0, 1) := by decide +kernel
theorem dX12_link_2 : decode cX12_link 2 = .ok (.putfield 86, 3) := by decide +kernel
theorem dX12_link_5 : decode cX12_link 5 = .ok (.aload_n 0, 1) := by decide +kernel
theorem dX12_link_6 : decode cX12_link 6 = .ok (.invokevirtual 306, 3) := by decide +kernel
theorem dX12_link_9 : decode cX12_link 9 = .ok (.ifCond .eq 36, 3) := by decide +kernel
theorem dX12_link_12 : decode cX12_link 12 = .ok (.aload_n 0, 1) := by decide +kernel
theorem dX12_link_13 : decode cX12_link 13 = .ok (.iload_n 1, 1) := by decide +kernel
theorem dX12_link_14 : decode cX12_link 14 = .ok (.iload_n 2, 1) := by decide +kernel
theorem dX12_link_15 : decode cX12_link 15 = .ok (.iload_n 3, 1) := by decide +kernel
theorem dX12_link_16 : decode cX12_link 16 = .ok (.invokevirtual 296, 3) := by decide +kernel
theorem dX12_link_19 : decode cX12_link 19 = .ok (.ifCond .eq 26, 3) := by decide +kernel
theorem dX12_link_22 : decode cX12_link 22 = .ok (.iload 4, 2) := by decide +kernel
theorem dX12_link_24 : decode cX12_link 24 = .ok (.i2l, 1) := by decide +kernel
theorem dX12_link_25 : decode cX12_link 25 = .ok (.lconst 0, 1) := by decide +kernel
theorem dX12_link_26 : decode cX12_link 26 = .ok (.lconst 1, 1) := by decide +kernel
theorem dX12_link_27 : decode cX12_link 27 = .ok (.invokestatic 97, 3) := by decide +kernel
theorem dX12_link_30 : decode cX12_link 30 = .ok (.ifCond .eq 15, 3) := by decide +kernel
theorem dX12_link_33 : decode cX12_link 33 = .ok (.aload_n 0, 1) := by decide +kernel
theorem dX12_link_34 : decode cX12_link 34 = .ok (.iload_n 1, 1) := by decide +kernel
theorem dX12_link_35 : decode cX12_link 35 = .ok (.iload_n 2, 1) := by decide +kernel
theorem dX12_link_36 : decode cX12_link 36 = .ok (.iload_n 3, 1) := by decide +kernel
theorem dX12_link_37 : decode cX12_link 37 = .ok (.iload 4, 2) := by decide +kernel
theorem dX12_link_39 : decode cX12_link 39 = .ok (.invokevirtual 218, 3) := by decide +kernel
theorem dX12_link_42 : decode cX12_link 42 = .ok (.goto 6, 3) := by decide +kernel
theorem dX12_link_45 : decode cX12_link 45 = .ok (.ldc_w 310, 3) := by decide +kernel
theorem dX12_link_48 : decode cX12_link 48 = .ok (.ireturn, 1) := by decide +kernel
theorem dX12_linkAt_0 : decode cX12_linkAt 0 = .ok (.iconst 4, 1) := by decide +kernel
theorem dX12_linkAt_1 : decode cX12_linkAt 1 = .ok (.bipush 9, 2) := by decide +kernel
theorem dX12_linkAt_3 : decode cX12_linkAt 3 = .ok (.iload_n 1, 1) := by decide +kernel
theorem dX12_linkAt_4 : decode cX12_linkAt 4 = .ok (.imul, 1) := by decide +kernel
theorem dX12_linkAt_5 : decode cX12_linkAt 5 = .ok (.iload_n 0, 1) := by decide +kernel
theorem dX12_linkAt_6 : decode cX12_linkAt 6 = .ok (.iadd, 1) := by decide +kernel
theorem dX12_linkAt_7 : decode cX12_linkAt 7 = .ok (.imul, 1) := by decide +kernel
theorem dX12_linkAt_8 : decode cX12_linkAt 8 = .ok (.iload_n 2, 1) := by decide +kernel
theorem dX12_linkAt_9 : decode cX12_linkAt 9 = .ok (.ifCond .eq 7, 3) := by decide +kernel
theorem dX12_linkAt_12 : decode cX12_linkAt 12 = .ok (.iconst 2, 1) := by decide +kernel
theorem dX12_linkAt_13 : decode cX12_linkAt 13 = .ok (.goto 4, 3) := by decide +kernel
theorem dX12_linkAt_16 : decode cX12_linkAt 16 = .ok (.iconst 0, 1) := by decide +kernel
theorem dX12_linkAt_17 : decode cX12_linkAt 17 = .ok (.iadd, 1) := by decide +kernel
theorem dX12_linkAt_18 : decode cX12_linkAt 18 = .ok (.iload_n 3, 1) := by decide +kernel
theorem dX12_linkAt_19 : decode cX12_linkAt 19 = .ok (.iadd, 1) := by decide +kernel
theorem dX12_linkAt_20 : decode cX12_linkAt 20 = .ok (.ireturn, 1) := by decide +kernel
theorem dX12_linkOf_0 : decode cX12_linkOf 0 = .ok (.iconst 2, 1) := by decide +kernel
theorem dX12_linkOf_1 : decode cX12_linkOf 1 = .ok (.bipush 9, 2) := by decide +kernel
theorem dX12_linkOf_3 : decode cX12_linkOf 3 = .ok (.iload_n 1, 1) := by decide +kernel
theorem dX12_linkOf_4 : decode cX12_linkOf 4 = .ok (.imul, 1) := by decide +kernel
theorem dX12_linkOf_5 : decode cX12_linkOf 5 = .ok (.iload_n 0, 1) := by decide +kernel
theorem dX12_linkOf_6 : decode cX12_linkOf 6 = .ok (.iadd, 1) := by decide +kernel
theorem dX12_linkOf_7 : decode cX12_linkOf 7 = .ok (.imul, 1) := by decide +kernel
theorem dX12_linkOf_8 : decode cX12_linkOf 8 = .ok (.iload_n 2, 1) := by decide +kernel
theorem dX12_linkOf_9 : decode cX12_linkOf 9 = .ok (.ifCond .eq 7, 3) := by decide +kernel
theorem dX12_linkOf_12 : decode cX12_linkOf 12 = .ok (.iconst 1, 1) := by decide +kernel
theorem dX12_linkOf_13 : decode cX12_linkOf 13 = .ok (.goto 4, 3) := by decide +kernel
theorem dX12_linkOf_16 : decode cX12_linkOf 16 = .ok (.iconst 0, 1) := by decide +kernel
theorem dX12_linkOf_17 : decode cX12_linkOf 17 = .ok (.iadd, 1) := by decide +kernel
theorem dX12_linkOf_18 : decode cX12_linkOf 18 = .ok (.ireturn, 1) := by decide +kernel
theorem dX12_linksOf_0 : decode cX12_linksOf 0 = .ok (.iconst 0, 1) := by decide +kernel
theorem dX12_linksOf_1 : decode cX12_linksOf 1 = .ok (.istore_n 2, 1) := by decide +kernel
theorem dX12_linksOf_2 : decode cX12_linksOf 2 = .ok (.iconst 0, 1) := by decide +kernel
theorem dX12_linksOf_3 : decode cX12_linksOf 3 = .ok (.istore_n 3, 1) := by decide +kernel
theorem dX12_linksOf_4 : decode cX12_linksOf 4 = .ok (.iload_n 3, 1) := by decide +kernel
theorem dX12_linksOf_5 : decode cX12_linksOf 5 = .ok (.sipush 162, 3) := by decide +kernel
theorem dX12_linksOf_8 : decode cX12_linksOf 8 = .ok (.if_icmp .ge 35, 3) := by decide +kernel
theorem dX12_linksOf_11 : decode cX12_linksOf 11 = .ok (.iload_n 2, 1) := by decide +kernel
theorem dX12_linksOf_12 : decode cX12_linksOf 12 = .ok (.aload_n 0, 1) := by decide +kernel
theorem dX12_linksOf_13 : decode cX12_linksOf 13 = .ok (.iload_n 3, 1) := by decide +kernel
theorem dX12_linksOf_14 : decode cX12_linksOf 14 = .ok (.invokevirtual 293, 3) := by decide +kernel
theorem dX12_linksOf_17 : decode cX12_linksOf 17 = .ok (.ifCond .eq 17, 3) := by decide +kernel
theorem dX12_linksOf_20 : decode cX12_linksOf 20 = .ok (.aload_n 0, 1) := by decide +kernel
theorem dX12_linksOf_21 : decode cX12_linksOf 21 = .ok (.getfield 65, 3) := by decide +kernel
theorem dX12_linksOf_24 : decode cX12_linksOf 24 = .ok (.iload_n 3, 1) := by decide +kernel
theorem dX12_linksOf_25 : decode cX12_linksOf 25 = .ok (.iaload, 1) := by decide +kernel
theorem dX12_linksOf_26 : decode cX12_linksOf 26 = .ok (.iload_n 1, 1) := by decide +kernel
theorem dX12_linksOf_27 : decode cX12_linksOf 27 = .ok (.if_icmp .ne 7, 3) := by decide +kernel
theorem dX12_linksOf_30 : decode cX12_linksOf 30 = .ok (.iconst 1, 1) := by decide +kernel
theorem dX12_linksOf_31 : decode cX12_linksOf 31 = .ok (.goto 4, 3) := by decide +kernel
theorem dX12_linksOf_34 : decode cX12_linksOf 34 = .ok (.iconst 0, 1) := by decide +kernel
theorem dX12_linksOf_35 : decode cX12_linksOf 35 = .ok (.iadd, 1) := by decide +kernel
theorem dX12_linksOf_36 : decode cX12_linksOf 36 = .ok (.istore_n 2, 1) := by decide +kernel
theorem dX12_linksOf_37 : decode cX12_linksOf 37 = .ok (.iinc 3 1, 3) := by decide +kernel
theorem dX12_linksOf_40 : decode cX12_linksOf 40 = .ok (.goto (-36), 3) := by decide +kernel
theorem dX12_linksOf_43 : decode cX12_linksOf 43 = .ok (.iload_n 2, 1) := by decide +kernel
theorem dX12_linksOf_44 : decode cX12_linksOf 44 = .ok (.ireturn, 1) := by decide +kernel
theorem dX12_log_0 : decode cX12_log 0 = .ok (.aload_n 0, 1) := by decide +kernel
theorem dX12_log_1 : decode cX12_log 1 = .ok (.iconst 0, 1) := by decide +kernel
theorem dX12_log_2 : decode cX12_log 2 = .ok (.putfield 86, 3) := by decide +kernel
theorem dX12_log_5 : decode cX12_log 5 = .ok (.iload_n 1, 1) := by decide +kernel
theorem dX12_log_6 : decode cX12_log 6 = .ok (.i2l, 1) := by decide +kernel
theorem dX12_log_7 : decode cX12_log 7 = .ok (.lconst 0, 1) := by decide +kernel
theorem dX12_log_8 : decode cX12_log 8 = .ok (.aload_n 0, 1) := by decide +kernel
theorem dX12_log_9 : decode cX12_log 9 = .ok (.getfield 28, 3) := by decide +kernel
theorem dX12_log_12 : decode cX12_log 12 = .ok (.sipush 324, 3) := by decide +kernel
theorem dX12_log_15 : decode cX12_log 15 = .ok (.iaload, 1) := by decide +kernel
theorem dX12_log_16 : decode cX12_log 16 = .ok (.iconst 1, 1) := by decide +kernel
theorem dX12_log_17 : decode cX12_log 17 = .ok (.isub, 1) := by decide +kernel
theorem dX12_log_18 : decode cX12_log 18 = .ok (.i2l, 1) := by decide +kernel
theorem dX12_log_19 : decode cX12_log 19 = .ok (.invokestatic 97, 3) := by decide +kernel
theorem dX12_log_22 : decode cX12_log 22 = .ok (.ifCond .eq 43, 3) := by decide +kernel
theorem dX12_log_25 : decode cX12_log 25 = .ok (.iload_n 2, 1) := by decide +kernel
theorem dX12_log_26 : decode cX12_log 26 = .ok (.i2l, 1) := by decide +kernel
theorem dX12_log_27 : decode cX12_log 27 = .ok (.lconst 0, 1) := by decide +kernel
theorem dX12_log_28 : decode cX12_log 28 = .ok (.ldc2_w 291, 3) := by decide +kernel
theorem dX12_log_31 : decode cX12_log 31 = .ok (.invokestatic 97, 3) := by decide +kernel
theorem dX12_log_34 : decode cX12_log 34 = .ok (.ifCond .eq 31, 3) := by decide +kernel
theorem dX12_log_37 : decode cX12_log 37 = .ok (.aload_n 0, 1) := by decide +kernel
theorem dX12_log_38 : decode cX12_log 38 = .ok (.getfield 28, 3) := by decide +kernel
theorem dX12_log_41 : decode cX12_log 41 = .ok (.sipush 326, 3) := by decide +kernel
theorem dX12_log_44 : decode cX12_log 44 = .ok (.iconst 4, 1) := by decide +kernel
theorem dX12_log_45 : decode cX12_log 45 = .ok (.aload_n 0, 1) := by decide +kernel
theorem dX12_log_46 : decode cX12_log 46 = .ok (.getfield 28, 3) := by decide +kernel
theorem dX12_log_49 : decode cX12_log 49 = .ok (.sipush 324, 3) := by decide +kernel
theorem dX12_log_52 : decode cX12_log 52 = .ok (.iaload, 1) := by decide +kernel
theorem dX12_log_53 : decode cX12_log 53 = .ok (.iconst 1, 1) := by decide +kernel
theorem dX12_log_54 : decode cX12_log 54 = .ok (.isub, 1) := by decide +kernel
theorem dX12_log_55 : decode cX12_log 55 = .ok (.iload_n 1, 1) := by decide +kernel
theorem dX12_log_56 : decode cX12_log 56 = .ok (.isub, 1) := by decide +kernel
theorem dX12_log_57 : decode cX12_log 57 = .ok (.imul, 1) := by decide +kernel
theorem dX12_log_58 : decode cX12_log 58 = .ok (.iadd, 1) := by decide +kernel
theorem dX12_log_59 : decode cX12_log 59 = .ok (.iload_n 2, 1) := by decide +kernel
theorem dX12_log_60 : decode cX12_log 60 = .ok (.iadd, 1) := by decide +kernel
theorem dX12_log_61 : decode cX12_log 61 = .ok (.iaload, 1) := by decide +kernel
theorem dX12_log_62 : decode cX12_log 62 = .ok (.goto 4, 3) := by decide +kernel
theorem dX12_log_65 : decode cX12_log 65 = .ok (.iconst (-1), 1) := by decide +kernel
theorem dX12_log_66 : decode cX12_log 66 = .ok (.ireturn, 1) := by decide +kernel
theorem dX12_logs_0 : decode cX12_logs 0 = .ok (.aload_n 0, 1) := by decide +kernel
theorem dX12_logs_1 : decode cX12_logs 1 = .ok (.getfield 28, 3) := by decide +kernel
theorem dX12_logs_4 : decode cX12_logs 4 = .ok (.sipush 324, 3) := by decide +kernel
theorem dX12_logs_7 : decode cX12_logs 7 = .ok (.iaload, 1) := by decide +kernel
theorem dX12_logs_8 : decode cX12_logs 8 = .ok (.bipush 40, 2) := by decide +kernel
theorem dX12_logs_10 : decode cX12_logs 10 = .ok (.if_icmp .ne 56, 3) := by decide +kernel
theorem dX12_logs_13 : decode cX12_logs 13 = .ok (.iconst 4, 1) := by decide +kernel
theorem dX12_logs_14 : decode cX12_logs 14 = .ok (.istore 4, 2) := by decide +kernel
theorem dX12_logs_16 : decode cX12_logs 16 = .ok (.iload 4, 2) := by decide +kernel
theorem dX12_logs_18 : decode cX12_logs 18 = .ok (.sipush 160, 3) := by decide +kernel
theorem dX12_logs_21 : decode cX12_logs 21 = .ok (.if_icmp .ge 33, 3) := by decide +kernel
theorem dX12_logs_24 : decode cX12_logs 24 = .ok (.aload_n 0, 1) := by decide +kernel
theorem dX12_logs_25 : decode cX12_logs 25 = .ok (.getfield 28, 3) := by decide +kernel
theorem dX12_logs_28 : decode cX12_logs 28 = .ok (.sipush 326, 3) := by decide +kernel
theorem dX12_logs_31 : decode cX12_logs 31 = .ok (.iload 4, 2) := by decide +kernel
theorem dX12_logs_33 : decode cX12_logs 33 = .ok (.iadd, 1) := by decide +kernel
theorem dX12_logs_34 : decode cX12_logs 34 = .ok (.iconst 4, 1) := by decide +kernel
theorem dX12_logs_35 : decode cX12_logs 35 = .ok (.isub, 1) := by decide +kernel
theorem dX12_logs_36 : decode cX12_logs 36 = .ok (.aload_n 0, 1) := by decide +kernel
theorem dX12_logs_37 : decode cX12_logs 37 = .ok (.getfield 28, 3) := by decide +kernel
theorem dX12_logs_40 : decode cX12_logs 40 = .ok (.sipush 326, 3) := by decide +kernel
theorem dX12_logs_43 : decode cX12_logs 43 = .ok (.iload 4, 2) := by decide +kernel
theorem dX12_logs_45 : decode cX12_logs 45 = .ok (.iadd, 1) := by decide +kernel
theorem dX12_logs_46 : decode cX12_logs 46 = .ok (.iaload, 1) := by decide +kernel
theorem dX12_logs_47 : decode cX12_logs 47 = .ok (.iastore, 1) := by decide +kernel
theorem dX12_logs_48 : decode cX12_logs 48 = .ok (.iinc 4 1, 3) := by decide +kernel
theorem dX12_logs_51 : decode cX12_logs 51 = .ok (.goto (-35), 3) := by decide +kernel
theorem dX12_logs_54 : decode cX12_logs 54 = .ok (.aload_n 0, 1) := by decide +kernel
theorem dX12_logs_55 : decode cX12_logs 55 = .ok (.getfield 28, 3) := by decide +kernel
theorem dX12_logs_58 : decode cX12_logs 58 = .ok (.sipush 324, 3) := by decide +kernel
theorem dX12_logs_61 : decode cX12_logs 61 = .ok (.dup2, 1) := by decide +kernel
theorem dX12_logs_62 : decode cX12_logs 62 = .ok (.iaload, 1) := by decide +kernel
theorem dX12_logs_63 : decode cX12_logs 63 = .ok (.iconst 1, 1) := by decide +kernel
theorem dX12_logs_64 : decode cX12_logs 64 = .ok (.isub, 1) := by decide +kernel
theorem dX12_logs_65 : decode cX12_logs 65 = .ok (.iastore, 1) := by decide +kernel
theorem dX12_logs_66 : decode cX12_logs 66 = .ok (.sipush 326, 3) := by decide +kernel
theorem dX12_logs_69 : decode cX12_logs 69 = .ok (.iconst 4, 1) := by decide +kernel
theorem dX12_logs_70 : decode cX12_logs 70 = .ok (.aload_n 0, 1) := by decide +kernel
theorem dX12_logs_71 : decode cX12_logs 71 = .ok (.getfield 28, 3) := by decide +kernel
theorem dX12_logs_74 : decode cX12_logs 74 = .ok (.sipush 324, 3) := by decide +kernel
theorem dX12_logs_77 : decode cX12_logs 77 = .ok (.iaload, 1) := by decide +kernel
theorem dX12_logs_78 : decode cX12_logs 78 = .ok (.imul, 1) := by decide +kernel
theorem dX12_logs_79 : decode cX12_logs 79 = .ok (.iadd, 1) := by decide +kernel
theorem dX12_logs_80 : decode cX12_logs 80 = .ok (.istore 4, 2) := by decide +kernel
theorem dX12_logs_82 : decode cX12_logs 82 = .ok (.aload_n 0, 1) := by decide +kernel
theorem dX12_logs_83 : decode cX12_logs 83 = .ok (.getfield 28, 3) := by decide +kernel
theorem dX12_logs_86 : decode cX12_logs 86 = .ok (.iload 4, 2) := by decide +kernel
theorem dX12_logs_88 : decode cX12_logs 88 = .ok (.iload_n 1, 1) := by decide +kernel
theorem dX12_logs_89 : decode cX12_logs 89 = .ok (.iastore, 1) := by decide +kernel
theorem dX12_logs_90 : decode cX12_logs 90 = .ok (.aload_n 0, 1) := by decide +kernel
theorem dX12_logs_91 : decode cX12_logs 91 = .ok (.getfield 28, 3) := by decide +kernel
theorem dX12_logs_94 : decode cX12_logs 94 = .ok (.iload 4, 2) := by decide +kernel
theorem dX12_logs_96 : decode cX12_logs 96 = .ok (.iconst 1, 1) := by decide +kernel
theorem dX12_logs_97 : decode cX12_logs 97 = .ok (.iadd, 1) := by decide +kernel
theorem dX12_logs_98 : decode cX12_logs 98 = .ok (.iload_n 2, 1) := by decide +kernel
theorem dX12_logs_99 : decode cX12_logs 99 = .ok (.iastore, 1) := by decide +kernel
theorem dX12_logs_100 : decode cX12_logs 100 = .ok (.aload_n 0, 1) := by decide +kernel
theorem dX12_logs_101 : decode cX12_logs 101 = .ok (.getfield 28, 3) := by decide +kernel
theorem dX12_logs_104 : decode cX12_logs 104 = .ok (.iload 4, 2) := by decide +kernel
theorem dX12_logs_106 : decode cX12_logs 106 = .ok (.iconst 2, 1) := by decide +kernel
theorem dX12_logs_107 : decode cX12_logs 107 = .ok (.iadd, 1) := by decide +kernel
theorem dX12_logs_108 : decode cX12_logs 108 = .ok (.iload_n 3, 1) := by decide +kernel
theorem dX12_logs_109 : decode cX12_logs 109 = .ok (.iastore, 1) := by decide +kernel
theorem dX12_logs_110 : decode cX12_logs 110 = .ok (.aload_n 0, 1) := by decide +kernel
theorem dX12_logs_111 : decode cX12_logs 111 = .ok (.getfield 28, 3) := by decide +kernel
theorem dX12_logs_114 : decode cX12_logs 114 = .ok (.iload 4, 2) := by decide +kernel
theorem dX12_logs_116 : decode cX12_logs 116 = .ok (.iconst 3, 1) := by decide +kernel
theorem dX12_logs_117 : decode cX12_logs 117 = .ok (.iadd, 1) := by decide +kernel
theorem dX12_logs_118 : decode cX12_logs 118 = .ok (.aload_n 0, 1) := by decide +kernel
theorem dX12_logs_119 : decode cX12_logs 119 = .ok (.iconst 0, 1) := by decide +kernel
theorem dX12_logs_120 : decode cX12_logs 120 = .ok (.iconst 0, 1) := by decide +kernel
theorem dX12_logs_121 : decode cX12_logs 121 = .ok (.aload_n 0, 1) := by decide +kernel
theorem dX12_logs_122 : decode cX12_logs 122 = .ok (.getfield 205, 3) := by decide +kernel
theorem dX12_logs_125 : decode cX12_logs 125 = .ok (.iconst 1, 1) := by decide +kernel
theorem dX12_logs_126 : decode cX12_logs 126 = .ok (.isub, 1) := by decide +kernel
theorem dX12_logs_127 : decode cX12_logs 127 = .ok (.aload_n 0, 1) := by decide +kernel
theorem dX12_logs_128 : decode cX12_logs 128 = .ok (.getfield 208, 3) := by decide +kernel
theorem dX12_logs_131 : decode cX12_logs 131 = .ok (.iconst 1, 1) := by decide +kernel
theorem dX12_logs_132 : decode cX12_logs 132 = .ok (.isub, 1) := by decide +kernel
theorem dX12_logs_133 : decode cX12_logs 133 = .ok (.invokevirtual 334, 3) := by decide +kernel
theorem dX12_logs_136 : decode cX12_logs 136 = .ok (.iastore, 1) := by decide +kernel
theorem dX12_logs_137 : decode cX12_logs 137 = .ok (.aload_n 0, 1) := by decide +kernel
theorem dX12_logs_138 : decode cX12_logs 138 = .ok (.getfield 28, 3) := by decide +kernel
theorem dX12_logs_141 : decode cX12_logs 141 = .ok (.sipush 324, 3) := by decide +kernel
theorem dX12_logs_144 : decode cX12_logs 144 = .ok (.dup2, 1) := by decide +kernel
theorem dX12_logs_145 : decode cX12_logs 145 = .ok (.iaload, 1) := by decide +kernel
theorem dX12_logs_146 : decode cX12_logs 146 = .ok (.iconst 1, 1) := by decide +kernel
theorem dX12_logs_147 : decode cX12_logs 147 = .ok (.iadd, 1) := by decide +kernel
theorem dX12_logs_148 : decode cX12_logs 148 = .ok (.iastore, 1) := by decide +kernel
theorem dX12_logs_149 : decode cX12_logs 149 = .ok (.return_, 1) := by decide +kernel
theorem dX12_longestWall_0 : decode cX12_longestWall 0 = .ok (.iconst 0, 1) := by decide +kernel
theorem dX12_longestWall_1 : decode cX12_longestWall 1 = .ok (.istore_n 1, 1) := by decide +kernel
theorem dX12_longestWall_2 : decode cX12_longestWall 2 = .ok (.aload_n 0, 1) := by decide +kernel
theorem dX12_longestWall_3 : decode cX12_longestWall 3 = .ok (.invokevirtual 321, 3) := by decide +kernel
theorem dX12_longestWall_6 : decode cX12_longestWall 6 = .ok (.istore_n 2, 1) := by decide +kernel
theorem dX12_longestWall_7 : decode cX12_longestWall 7 = .ok (.iconst 0, 1) := by decide +kernel
theorem dX12_longestWall_8 : decode cX12_longestWall 8 = .ok (.istore_n 3, 1) := by decide +kernel
theorem dX12_longestWall_9 : decode cX12_longestWall 9 = .ok (.iload_n 3, 1) := by decide +kernel
theorem dX12_longestWall_10 : decode cX12_longestWall 10 = .ok (.iload_n 2, 1) := by decide +kernel
theorem dX12_longestWall_11 : decode cX12_longestWall 11 = .ok (.if_icmp .ge 24, 3) := by decide +kernel
theorem dX12_longestWall_14 : decode cX12_longestWall 14 = .ok (.iload_n 1, 1) := by decide +kernel
theorem dX12_longestWall_15 : decode cX12_longestWall 15 = .ok (.aload_n 0, 1) := by decide +kernel
theorem dX12_longestWall_16 : decode cX12_longestWall 16 = .ok (.aload_n 0, 1) := by decide +kernel
theorem dX12_longestWall_17 : decode cX12_longestWall 17 = .ok (.getfield 68, 3) := by decide +kernel
theorem dX12_longestWall_20 : decode cX12_longestWall 20 = .ok (.iload_n 3, 1) := by decide +kernel
theorem dX12_longestWall_21 : decode cX12_longestWall 21 = .ok (.iaload, 1) := by decide +kernel
theorem dX12_longestWall_22 : decode cX12_longestWall 22 = .ok (.invokevirtual 434, 3) := by decide +kernel
theorem dX12_longestWall_25 : decode cX12_longestWall 25 = .ok (.invokestatic 464, 3) := by decide +kernel
theorem dX12_longestWall_28 : decode cX12_longestWall 28 = .ok (.istore_n 1, 1) := by decide +kernel
theorem dX12_longestWall_29 : decode cX12_longestWall 29 = .ok (.iinc 3 1, 3) := by decide +kernel
theorem dX12_longestWall_32 : decode cX12_longestWall 32 = .ok (.goto (-23), 3) := by decide +kernel
theorem dX12_longestWall_35 : decode cX12_longestWall 35 = .ok (.iload_n 1, 1) := by decide +kernel
theorem dX12_longestWall_36 : decode cX12_longestWall 36 = .ok (.ireturn, 1) := by decide +kernel
theorem dX12_meets_0 : decode cX12_meets 0 = .ok (.aload_n 0, 1) := by decide +kernel
theorem dX12_meets_1 : decode cX12_meets 1 = .ok (.iconst 0, 1) := by decide +kernel
theorem dX12_meets_2 : decode cX12_meets 2 = .ok (.putfield 86, 3) := by decide +kernel
theorem dX12_meets_5 : decode cX12_meets 5 = .ok (.aload_n 0, 1) := by decide +kernel
theorem dX12_meets_6 : decode cX12_meets 6 = .ok (.invokevirtual 306, 3) := by decide +kernel
theorem dX12_meets_9 : decode cX12_meets 9 = .ok (.ifCond .eq 15, 3) := by decide +kernel
theorem dX12_meets_12 : decode cX12_meets 12 = .ok (.iload_n 1, 1) := by decide +kernel
theorem dX12_meets_13 : decode cX12_meets 13 = .ok (.i2l, 1) := by decide +kernel
theorem dX12_meets_14 : decode cX12_meets 14 = .ok (.lconst 1, 1) := by decide +kernel
theorem dX12_meets_15 : decode cX12_meets 15 = .ok (.ldc2_w 399, 3) := by decide +kernel
theorem dX12_meets_18 : decode cX12_meets 18 = .ok (.invokestatic 97, 3) := by decide +kernel
theorem dX12_meets_21 : decode cX12_meets 21 = .ok (.ifCond .ne 5, 3) := by decide +kernel
theorem dX12_meets_24 : decode cX12_meets 24 = .ok (.iconst (-1), 1) := by decide +kernel
theorem dX12_meets_25 : decode cX12_meets 25 = .ok (.ireturn, 1) := by decide +kernel
theorem dX12_meets_26 : decode cX12_meets 26 = .ok (.aload_n 0, 1) := by decide +kernel
theorem dX12_meets_27 : decode cX12_meets 27 = .ok (.iload_n 1, 1) := by decide +kernel
theorem dX12_meets_28 : decode cX12_meets 28 = .ok (.invokevirtual 452, 3) := by decide +kernel
theorem dX12_meets_31 : decode cX12_meets 31 = .ok (.pop, 1) := by decide +kernel
theorem dX12_meets_32 : decode cX12_meets 32 = .ok (.iload_n 2, 1) := by decide +kernel
theorem dX12_meets_33 : decode cX12_meets 33 = .ok (.i2l, 1) := by decide +kernel
theorem dX12_meets_34 : decode cX12_meets 34 = .ok (.lconst 0, 1) := by decide +kernel
theorem dX12_meets_35 : decode cX12_meets 35 = .ok (.aload_n 0, 1) := by decide +kernel
theorem dX12_meets_36 : decode cX12_meets 36 = .ok (.getfield 241, 3) := by decide +kernel
theorem dX12_meets_39 : decode cX12_meets 39 = .ok (.iconst 1, 1) := by decide +kernel
theorem dX12_meets_40 : decode cX12_meets 40 = .ok (.isub, 1) := by decide +kernel
theorem dX12_meets_41 : decode cX12_meets 41 = .ok (.i2l, 1) := by decide +kernel
theorem dX12_meets_42 : decode cX12_meets 42 = .ok (.invokestatic 97, 3) := by decide +kernel
theorem dX12_meets_45 : decode cX12_meets 45 = .ok (.ifCond .eq 12, 3) := by decide +kernel
theorem dX12_meets_48 : decode cX12_meets 48 = .ok (.aload_n 0, 1) := by decide +kernel
theorem dX12_meets_49 : decode cX12_meets 49 = .ok (.getfield 77, 3) := by decide +kernel
theorem dX12_meets_52 : decode cX12_meets 52 = .ok (.iload_n 2, 1) := by decide +kernel
theorem dX12_meets_53 : decode cX12_meets 53 = .ok (.iaload, 1) := by decide +kernel
theorem dX12_meets_54 : decode cX12_meets 54 = .ok (.goto 4, 3) := by decide +kernel
theorem dX12_meets_57 : decode cX12_meets 57 = .ok (.iconst (-1), 1) := by decide +kernel
theorem dX12_meets_58 : decode cX12_meets 58 = .ok (.ireturn, 1) := by decide +kernel
theorem dX12_most_0 : decode cX12_most 0 = .ok (.aload_n 0, 1) := by decide +kernel
theorem dX12_most_1 : decode cX12_most 1 = .ok (.iconst 0, 1) := by decide +kernel
theorem dX12_most_2 : decode cX12_most 2 = .ok (.putfield 86, 3) := by decide +kernel
theorem dX12_most_5 : decode cX12_most 5 = .ok (.aload_n 0, 1) := by decide +kernel
theorem dX12_most_6 : decode cX12_most 6 = .ok (.invokevirtual 306, 3) := by decide +kernel
theorem dX12_most_9 : decode cX12_most 9 = .ok (.ifCond .ne 5, 3) := by decide +kernel
theorem dX12_most_12 : decode cX12_most 12 = .ok (.iconst (-1), 1) := by decide +kernel
theorem dX12_most_13 : decode cX12_most 13 = .ok (.ireturn, 1) := by decide +kernel
theorem dX12_most_14 : decode cX12_most 14 = .ok (.aload_n 0, 1) := by decide +kernel
theorem dX12_most_15 : decode cX12_most 15 = .ok (.invokevirtual 238, 3) := by decide +kernel
theorem dX12_most_18 : decode cX12_most 18 = .ok (.pop, 1) := by decide +kernel
theorem dX12_most_19 : decode cX12_most 19 = .ok (.iload_n 1, 1) := by decide +kernel
theorem dX12_most_20 : decode cX12_most 20 = .ok (.tableswitch 92 0 7 #[48, 54, 60, 65, 71, 77, 82, 87], 48) := by decide +kernel
theorem dX12_most_68 : decode cX12_most 68 = .ok (.aload_n 0, 1) := by decide +kernel
theorem dX12_most_69 : decode cX12_most 69 = .ok (.iconst 0, 1) := by decide +kernel
theorem dX12_most_70 : decode cX12_most 70 = .ok (.invokevirtual 476, 3) := by decide +kernel
theorem dX12_most_73 : decode cX12_most 73 = .ok (.ireturn, 1) := by decide +kernel
theorem dX12_most_74 : decode cX12_most 74 = .ok (.aload_n 0, 1) := by decide +kernel
theorem dX12_most_75 : decode cX12_most 75 = .ok (.iconst 1, 1) := by decide +kernel
theorem dX12_most_76 : decode cX12_most 76 = .ok (.invokevirtual 476, 3) := by decide +kernel
theorem dX12_most_79 : decode cX12_most 79 = .ok (.ireturn, 1) := by decide +kernel
theorem dX12_most_80 : decode cX12_most 80 = .ok (.aload_n 0, 1) := by decide +kernel
theorem dX12_most_81 : decode cX12_most 81 = .ok (.invokevirtual 480, 3) := by decide +kernel
theorem dX12_most_84 : decode cX12_most 84 = .ok (.ireturn, 1) := by decide +kernel
theorem dX12_most_85 : decode cX12_most 85 = .ok (.aload_n 0, 1) := by decide +kernel
theorem dX12_most_86 : decode cX12_most 86 = .ok (.iconst 0, 1) := by decide +kernel
theorem dX12_most_87 : decode cX12_most 87 = .ok (.invokevirtual 483, 3) := by decide +kernel
theorem dX12_most_90 : decode cX12_most 90 = .ok (.ireturn, 1) := by decide +kernel
theorem dX12_most_91 : decode cX12_most 91 = .ok (.aload_n 0, 1) := by decide +kernel
theorem dX12_most_92 : decode cX12_most 92 = .ok (.iconst 1, 1) := by decide +kernel
theorem dX12_most_93 : decode cX12_most 93 = .ok (.invokevirtual 483, 3) := by decide +kernel
theorem dX12_most_96 : decode cX12_most 96 = .ok (.ireturn, 1) := by decide +kernel
theorem dX12_most_97 : decode cX12_most 97 = .ok (.aload_n 0, 1) := by decide +kernel
theorem dX12_most_98 : decode cX12_most 98 = .ok (.invokevirtual 486, 3) := by decide +kernel
theorem dX12_most_101 : decode cX12_most 101 = .ok (.ireturn, 1) := by decide +kernel
theorem dX12_most_102 : decode cX12_most 102 = .ok (.aload_n 0, 1) := by decide +kernel
theorem dX12_most_103 : decode cX12_most 103 = .ok (.invokevirtual 489, 3) := by decide +kernel
theorem dX12_most_106 : decode cX12_most 106 = .ok (.ireturn, 1) := by decide +kernel
theorem dX12_most_107 : decode cX12_most 107 = .ok (.aload_n 0, 1) := by decide +kernel
theorem dX12_most_108 : decode cX12_most 108 = .ok (.invokevirtual 492, 3) := by decide +kernel
theorem dX12_most_111 : decode cX12_most 111 = .ok (.ireturn, 1) := by decide +kernel
theorem dX12_most_112 : decode cX12_most 112 = .ok (.iconst (-1), 1) := by decide +kernel
theorem dX12_most_113 : decode cX12_most 113 = .ok (.ireturn, 1) := by decide +kernel
theorem dX12_mostAlike_0 : decode cX12_mostAlike 0 = .ok (.iconst 0, 1) := by decide +kernel
theorem dX12_mostAlike_1 : decode cX12_mostAlike 1 = .ok (.istore_n 2, 1) := by decide +kernel
theorem dX12_mostAlike_2 : decode cX12_mostAlike 2 = .ok (.iconst (-1), 1) := by decide +kernel
theorem dX12_mostAlike_3 : decode cX12_mostAlike 3 = .ok (.istore_n 3, 1) := by decide +kernel
theorem dX12_mostAlike_4 : decode cX12_mostAlike 4 = .ok (.iconst 0, 1) := by decide +kernel
theorem dX12_mostAlike_5 : decode cX12_mostAlike 5 = .ok (.istore 4, 2) := by decide +kernel
theorem dX12_mostAlike_7 : decode cX12_mostAlike 7 = .ok (.iload 4, 2) := by decide +kernel
theorem dX12_mostAlike_9 : decode cX12_mostAlike 9 = .ok (.aload_n 0, 1) := by decide +kernel
theorem dX12_mostAlike_10 : decode cX12_mostAlike 10 = .ok (.getfield 241, 3) := by decide +kernel
theorem dX12_mostAlike_13 : decode cX12_mostAlike 13 = .ok (.if_icmp .ge 51, 3) := by decide +kernel
theorem dX12_mostAlike_16 : decode cX12_mostAlike 16 = .ok (.aload_n 0, 1) := by decide +kernel
theorem dX12_mostAlike_17 : decode cX12_mostAlike 17 = .ok (.iload 4, 2) := by decide +kernel
theorem dX12_mostAlike_19 : decode cX12_mostAlike 19 = .ok (.invokevirtual 473, 3) := by decide +kernel
theorem dX12_mostAlike_22 : decode cX12_mostAlike 22 = .ok (.istore 5, 2) := by decide +kernel
theorem dX12_mostAlike_24 : decode cX12_mostAlike 24 = .ok (.iload 5, 2) := by decide +kernel
theorem dX12_mostAlike_26 : decode cX12_mostAlike 26 = .ok (.iload_n 2, 1) := by decide +kernel
theorem dX12_mostAlike_27 : decode cX12_mostAlike 27 = .ok (.if_icmp .gt 20, 3) := by decide +kernel
theorem dX12_mostAlike_30 : decode cX12_mostAlike 30 = .ok (.iload 5, 2) := by decide +kernel
theorem dX12_mostAlike_32 : decode cX12_mostAlike 32 = .ok (.iload_n 2, 1) := by decide +kernel
theorem dX12_mostAlike_33 : decode cX12_mostAlike 33 = .ok (.if_icmp .ne 25, 3) := by decide +kernel
theorem dX12_mostAlike_36 : decode cX12_mostAlike 36 = .ok (.aload_n 0, 1) := by decide +kernel
theorem dX12_mostAlike_37 : decode cX12_mostAlike 37 = .ok (.getfield 34, 3) := by decide +kernel
theorem dX12_mostAlike_40 : decode cX12_mostAlike 40 = .ok (.iload 4, 2) := by decide +kernel
theorem dX12_mostAlike_42 : decode cX12_mostAlike 42 = .ok (.iaload, 1) := by decide +kernel
theorem dX12_mostAlike_43 : decode cX12_mostAlike 43 = .ok (.iload_n 3, 1) := by decide +kernel
theorem dX12_mostAlike_44 : decode cX12_mostAlike 44 = .ok (.if_icmp .ge 14, 3) := by decide +kernel
theorem dX12_mostAlike_47 : decode cX12_mostAlike 47 = .ok (.iload 5, 2) := by decide +kernel
theorem dX12_mostAlike_49 : decode cX12_mostAlike 49 = .ok (.istore_n 2, 1) := by decide +kernel
theorem dX12_mostAlike_50 : decode cX12_mostAlike 50 = .ok (.aload_n 0, 1) := by decide +kernel
theorem dX12_mostAlike_51 : decode cX12_mostAlike 51 = .ok (.getfield 34, 3) := by decide +kernel
theorem dX12_mostAlike_54 : decode cX12_mostAlike 54 = .ok (.iload 4, 2) := by decide +kernel
theorem dX12_mostAlike_56 : decode cX12_mostAlike 56 = .ok (.iaload, 1) := by decide +kernel
theorem dX12_mostAlike_57 : decode cX12_mostAlike 57 = .ok (.istore_n 3, 1) := by decide +kernel
theorem dX12_mostAlike_58 : decode cX12_mostAlike 58 = .ok (.iinc 4 1, 3) := by decide +kernel
theorem dX12_mostAlike_61 : decode cX12_mostAlike 61 = .ok (.goto (-54), 3) := by decide +kernel
theorem dX12_mostAlike_64 : decode cX12_mostAlike 64 = .ok (.iload_n 1, 1) := by decide +kernel
theorem dX12_mostAlike_65 : decode cX12_mostAlike 65 = .ok (.ifCond .eq 7, 3) := by decide +kernel
theorem dX12_mostAlike_68 : decode cX12_mostAlike 68 = .ok (.iload_n 3, 1) := by decide +kernel
theorem dX12_mostAlike_69 : decode cX12_mostAlike 69 = .ok (.goto 4, 3) := by decide +kernel
theorem dX12_mostAlike_72 : decode cX12_mostAlike 72 = .ok (.iload_n 2, 1) := by decide +kernel
theorem dX12_mostAlike_73 : decode cX12_mostAlike 73 = .ok (.ireturn, 1) := by decide +kernel
theorem dX12_move_0 : decode cX12_move 0 = .ok (.aload_n 0, 1) := by decide +kernel
theorem dX12_move_1 : decode cX12_move 1 = .ok (.iconst 0, 1) := by decide +kernel
theorem dX12_move_2 : decode cX12_move 2 = .ok (.putfield 86, 3) := by decide +kernel
theorem dX12_move_5 : decode cX12_move 5 = .ok (.aload_n 0, 1) := by decide +kernel
theorem dX12_move_6 : decode cX12_move 6 = .ok (.invokevirtual 306, 3) := by decide +kernel
theorem dX12_move_9 : decode cX12_move 9 = .ok (.ifCond .ne 9, 3) := by decide +kernel
theorem dX12_move_12 : decode cX12_move 12 = .ok (.aload_n 0, 1) := by decide +kernel
theorem dX12_move_13 : decode cX12_move 13 = .ok (.iconst 0, 1) := by decide +kernel
theorem dX12_move_14 : decode cX12_move 14 = .ok (.invokevirtual 354, 3) := by decide +kernel
theorem dX12_move_17 : decode cX12_move 17 = .ok (.ireturn, 1) := by decide +kernel
theorem dX12_move_18 : decode cX12_move 18 = .ok (.aload_n 0, 1) := by decide +kernel
theorem dX12_move_19 : decode cX12_move 19 = .ok (.iload_n 1, 1) := by decide +kernel
theorem dX12_move_20 : decode cX12_move 20 = .ok (.iload_n 2, 1) := by decide +kernel
theorem dX12_move_21 : decode cX12_move 21 = .ok (.invokevirtual 288, 3) := by decide +kernel
theorem dX12_move_24 : decode cX12_move 24 = .ok (.ifCond .eq 12, 3) := by decide +kernel
theorem dX12_move_27 : decode cX12_move 27 = .ok (.aload_n 0, 1) := by decide +kernel
theorem dX12_move_28 : decode cX12_move 28 = .ok (.iload_n 1, 1) := by decide +kernel
theorem dX12_move_29 : decode cX12_move 29 = .ok (.iload_n 2, 1) := by decide +kernel
theorem dX12_move_30 : decode cX12_move 30 = .ok (.invokevirtual 244, 3) := by decide +kernel
theorem dX12_move_33 : decode cX12_move 33 = .ok (.ifCond .ne 9, 3) := by decide +kernel
theorem dX12_move_36 : decode cX12_move 36 = .ok (.aload_n 0, 1) := by decide +kernel
theorem dX12_move_37 : decode cX12_move 37 = .ok (.iconst 1, 1) := by decide +kernel
theorem dX12_move_38 : decode cX12_move 38 = .ok (.invokevirtual 354, 3) := by decide +kernel
theorem dX12_move_41 : decode cX12_move 41 = .ok (.ireturn, 1) := by decide +kernel
theorem dX12_move_42 : decode cX12_move 42 = .ok (.iload_n 3, 1) := by decide +kernel
theorem dX12_move_43 : decode cX12_move 43 = .ok (.i2l, 1) := by decide +kernel
theorem dX12_move_44 : decode cX12_move 44 = .ok (.lconst 0, 1) := by decide +kernel
theorem dX12_move_45 : decode cX12_move 45 = .ok (.ldc2_w 329, 3) := by decide +kernel
theorem dX12_move_48 : decode cX12_move 48 = .ok (.invokestatic 97, 3) := by decide +kernel
theorem dX12_move_51 : decode cX12_move 51 = .ok (.ifCond .eq 26, 3) := by decide +kernel
theorem dX12_move_54 : decode cX12_move 54 = .ok (.iload 4, 2) := by decide +kernel
theorem dX12_move_56 : decode cX12_move 56 = .ok (.i2l, 1) := by decide +kernel
theorem dX12_move_57 : decode cX12_move 57 = .ok (.lconst 0, 1) := by decide +kernel
theorem dX12_move_58 : decode cX12_move 58 = .ok (.ldc2_w 291, 3) := by decide +kernel
theorem dX12_move_61 : decode cX12_move 61 = .ok (.invokestatic 97, 3) := by decide +kernel
theorem dX12_move_64 : decode cX12_move 64 = .ok (.ifCond .eq 13, 3) := by decide +kernel
theorem dX12_move_67 : decode cX12_move 67 = .ok (.aload_n 0, 1) := by decide +kernel
theorem dX12_move_68 : decode cX12_move 68 = .ok (.iload_n 1, 1) := by decide +kernel
theorem dX12_move_69 : decode cX12_move 69 = .ok (.iload_n 2, 1) := by decide +kernel
theorem dX12_move_70 : decode cX12_move 70 = .ok (.iload_n 3, 1) := by decide +kernel
theorem dX12_move_71 : decode cX12_move 71 = .ok (.invokevirtual 357, 3) := by decide +kernel
theorem dX12_move_74 : decode cX12_move 74 = .ok (.ifCond .ne 9, 3) := by decide +kernel
theorem dX12_move_77 : decode cX12_move 77 = .ok (.aload_n 0, 1) := by decide +kernel
theorem dX12_move_78 : decode cX12_move 78 = .ok (.iconst 2, 1) := by decide +kernel
theorem dX12_move_79 : decode cX12_move 79 = .ok (.invokevirtual 354, 3) := by decide +kernel
theorem dX12_move_82 : decode cX12_move 82 = .ok (.ireturn, 1) := by decide +kernel
theorem dX12_move_83 : decode cX12_move 83 = .ok (.aload_n 0, 1) := by decide +kernel
theorem dX12_move_84 : decode cX12_move 84 = .ok (.invokevirtual 238, 3) := by decide +kernel
theorem dX12_move_87 : decode cX12_move 87 = .ok (.pop, 1) := by decide +kernel
theorem dX12_move_88 : decode cX12_move 88 = .ok (.iload_n 3, 1) := by decide +kernel
theorem dX12_move_89 : decode cX12_move 89 = .ok (.iconst 2, 1) := by decide +kernel
theorem dX12_move_90 : decode cX12_move 90 = .ok (.if_icmp .ne 7, 3) := by decide +kernel
theorem dX12_move_93 : decode cX12_move 93 = .ok (.iconst 0, 1) := by decide +kernel
theorem dX12_move_94 : decode cX12_move 94 = .ok (.goto 10, 3) := by decide +kernel
theorem dX12_move_97 : decode cX12_move 97 = .ok (.aload_n 0, 1) := by decide +kernel
theorem dX12_move_98 : decode cX12_move 98 = .ok (.iload_n 1, 1) := by decide +kernel
theorem dX12_move_99 : decode cX12_move 99 = .ok (.iload_n 2, 1) := by decide +kernel
theorem dX12_move_100 : decode cX12_move 100 = .ok (.iconst 0, 1) := by decide +kernel
theorem dX12_move_101 : decode cX12_move 101 = .ok (.invokevirtual 221, 3) := by decide +kernel
theorem dX12_move_104 : decode cX12_move 104 = .ok (.istore 5, 2) := by decide +kernel
theorem dX12_move_106 : decode cX12_move 106 = .ok (.iload_n 3, 1) := by decide +kernel
theorem dX12_move_107 : decode cX12_move 107 = .ok (.iconst 1, 1) := by decide +kernel
theorem dX12_move_108 : decode cX12_move 108 = .ok (.if_icmp .ne 7, 3) := by decide +kernel
theorem dX12_move_111 : decode cX12_move 111 = .ok (.iconst 0, 1) := by decide +kernel
theorem dX12_move_112 : decode cX12_move 112 = .ok (.goto 10, 3) := by decide +kernel
theorem dX12_move_115 : decode cX12_move 115 = .ok (.aload_n 0, 1) := by decide +kernel
theorem dX12_move_116 : decode cX12_move 116 = .ok (.iload_n 1, 1) := by decide +kernel
theorem dX12_move_117 : decode cX12_move 117 = .ok (.iload_n 2, 1) := by decide +kernel
theorem dX12_move_118 : decode cX12_move 118 = .ok (.iconst 1, 1) := by decide +kernel
theorem dX12_move_119 : decode cX12_move 119 = .ok (.invokevirtual 221, 3) := by decide +kernel
theorem dX12_move_122 : decode cX12_move 122 = .ok (.istore 6, 2) := by decide +kernel
theorem dX12_move_124 : decode cX12_move 124 = .ok (.aload_n 0, 1) := by decide +kernel
theorem dX12_move_125 : decode cX12_move 125 = .ok (.iload_n 1, 1) := by decide +kernel
theorem dX12_move_126 : decode cX12_move 126 = .ok (.iload_n 2, 1) := by decide +kernel
theorem dX12_move_127 : decode cX12_move 127 = .ok (.iload 4, 2) := by decide +kernel
theorem dX12_move_129 : decode cX12_move 129 = .ok (.iload 5, 2) := by decide +kernel
theorem dX12_move_131 : decode cX12_move 131 = .ok (.iload 6, 2) := by decide +kernel
theorem dX12_move_133 : decode cX12_move 133 = .ok (.invokevirtual 361, 3) := by decide +kernel
theorem dX12_move_136 : decode cX12_move 136 = .ok (.bipush 12, 2) := by decide +kernel
theorem dX12_move_138 : decode cX12_move 138 = .ok (.if_icmp .le 9, 3) := by decide +kernel
theorem dX12_move_141 : decode cX12_move 141 = .ok (.aload_n 0, 1) := by decide +kernel
theorem dX12_move_142 : decode cX12_move 142 = .ok (.iconst 3, 1) := by decide +kernel
theorem dX12_move_143 : decode cX12_move 143 = .ok (.invokevirtual 354, 3) := by decide +kernel
theorem dX12_move_146 : decode cX12_move 146 = .ok (.ireturn, 1) := by decide +kernel
theorem dX12_move_147 : decode cX12_move 147 = .ok (.aload_n 0, 1) := by decide +kernel
theorem dX12_move_148 : decode cX12_move 148 = .ok (.invokevirtual 364, 3) := by decide +kernel
theorem dX12_move_151 : decode cX12_move 151 = .ok (.iload 5, 2) := by decide +kernel
theorem dX12_move_153 : decode cX12_move 153 = .ok (.iload 6, 2) := by decide +kernel
theorem dX12_move_155 : decode cX12_move 155 = .ok (.invokestatic 250, 3) := by decide +kernel
theorem dX12_move_158 : decode cX12_move 158 = .ok (.istore 7, 2) := by decide +kernel
theorem dX12_move_160 : decode cX12_move 160 = .ok (.aload_n 0, 1) := by decide +kernel
theorem dX12_move_161 : decode cX12_move 161 = .ok (.iload_n 1, 1) := by decide +kernel
theorem dX12_move_162 : decode cX12_move 162 = .ok (.iload_n 2, 1) := by decide +kernel
theorem dX12_move_163 : decode cX12_move 163 = .ok (.iload 4, 2) := by decide +kernel
theorem dX12_move_165 : decode cX12_move 165 = .ok (.iload 5, 2) := by decide +kernel
theorem dX12_move_167 : decode cX12_move 167 = .ok (.iload 6, 2) := by decide +kernel
theorem dX12_move_169 : decode cX12_move 169 = .ok (.invokevirtual 367, 3) := by decide +kernel
theorem dX12_move_172 : decode cX12_move 172 = .ok (.istore 8, 2) := by decide +kernel
theorem dX12_move_174 : decode cX12_move 174 = .ok (.iload 8, 2) := by decide +kernel
theorem dX12_move_176 : decode cX12_move 176 = .ok (.ifCond .eq 8, 3) := by decide +kernel
theorem dX12_move_179 : decode cX12_move 179 = .ok (.iload 8, 2) := by decide +kernel
theorem dX12_move_181 : decode cX12_move 181 = .ok (.goto 17, 3) := by decide +kernel
theorem dX12_move_184 : decode cX12_move 184 = .ok (.iload 7, 2) := by decide +kernel
theorem dX12_move_186 : decode cX12_move 186 = .ok (.iload 4, 2) := by decide +kernel
theorem dX12_move_188 : decode cX12_move 188 = .ok (.iconst 2, 1) := by decide +kernel
theorem dX12_move_189 : decode cX12_move 189 = .ok (.irem, 1) := by decide +kernel
theorem dX12_move_190 : decode cX12_move 190 = .ok (.if_icmp .ne 7, 3) := by decide +kernel
theorem dX12_move_193 : decode cX12_move 193 = .ok (.iconst 0, 1) := by decide +kernel
theorem dX12_move_194 : decode cX12_move 194 = .ok (.goto 4, 3) := by decide +kernel
theorem dX12_move_197 : decode cX12_move 197 = .ok (.iconst 1, 1) := by decide +kernel
theorem dX12_move_198 : decode cX12_move 198 = .ok (.ireturn, 1) := by decide +kernel
theorem dX12_moves_0 : decode cX12_moves 0 = .ok (.iload_n 3, 1) := by decide +kernel
theorem dX12_moves_1 : decode cX12_moves 1 = .ok (.tableswitch 75 0 2 #[27, 45, 61], 27) := by decide +kernel
theorem dX12_moves_28 : decode cX12_moves 28 = .ok (.aload_n 0, 1) := by decide +kernel
theorem dX12_moves_29 : decode cX12_moves 29 = .ok (.iload_n 1, 1) := by decide +kernel
theorem dX12_moves_30 : decode cX12_moves 30 = .ok (.iconst 1, 1) := by decide +kernel
theorem dX12_moves_31 : decode cX12_moves 31 = .ok (.iadd, 1) := by decide +kernel
theorem dX12_moves_32 : decode cX12_moves 32 = .ok (.iload_n 2, 1) := by decide +kernel
theorem dX12_moves_33 : decode cX12_moves 33 = .ok (.iconst 1, 1) := by decide +kernel
theorem dX12_moves_34 : decode cX12_moves 34 = .ok (.iload 4, 2) := by decide +kernel
theorem dX12_moves_36 : decode cX12_moves 36 = .ok (.ineg, 1) := by decide +kernel
theorem dX12_moves_37 : decode cX12_moves 37 = .ok (.iload 5, 2) := by decide +kernel
theorem dX12_moves_39 : decode cX12_moves 39 = .ok (.ineg, 1) := by decide +kernel
theorem dX12_moves_40 : decode cX12_moves 40 = .ok (.invokevirtual 225, 3) := by decide +kernel
theorem dX12_moves_43 : decode cX12_moves 43 = .ok (.goto 46, 3) := by decide +kernel
theorem dX12_moves_46 : decode cX12_moves 46 = .ok (.aload_n 0, 1) := by decide +kernel
theorem dX12_moves_47 : decode cX12_moves 47 = .ok (.iload_n 1, 1) := by decide +kernel
theorem dX12_moves_48 : decode cX12_moves 48 = .ok (.iload_n 2, 1) := by decide +kernel
theorem dX12_moves_49 : decode cX12_moves 49 = .ok (.iconst 1, 1) := by decide +kernel
theorem dX12_moves_50 : decode cX12_moves 50 = .ok (.iadd, 1) := by decide +kernel
theorem dX12_moves_51 : decode cX12_moves 51 = .ok (.iconst 0, 1) := by decide +kernel
theorem dX12_moves_52 : decode cX12_moves 52 = .ok (.iload 4, 2) := by decide +kernel
theorem dX12_moves_54 : decode cX12_moves 54 = .ok (.iload 5, 2) := by decide +kernel
theorem dX12_moves_56 : decode cX12_moves 56 = .ok (.invokevirtual 225, 3) := by decide +kernel
theorem dX12_moves_59 : decode cX12_moves 59 = .ok (.goto 30, 3) := by decide +kernel
theorem dX12_moves_62 : decode cX12_moves 62 = .ok (.aload_n 0, 1) := by decide +kernel
theorem dX12_moves_63 : decode cX12_moves 63 = .ok (.iload_n 1, 1) := by decide +kernel
theorem dX12_moves_64 : decode cX12_moves 64 = .ok (.iload_n 2, 1) := by decide +kernel
theorem dX12_moves_65 : decode cX12_moves 65 = .ok (.iconst 1, 1) := by decide +kernel
theorem dX12_moves_66 : decode cX12_moves 66 = .ok (.iload 4, 2) := by decide +kernel
theorem dX12_moves_68 : decode cX12_moves 68 = .ok (.iload 5, 2) := by decide +kernel
theorem dX12_moves_70 : decode cX12_moves 70 = .ok (.invokevirtual 225, 3) := by decide +kernel
theorem dX12_moves_73 : decode cX12_moves 73 = .ok (.goto 16, 3) := by decide +kernel
theorem dX12_moves_76 : decode cX12_moves 76 = .ok (.aload_n 0, 1) := by decide +kernel
theorem dX12_moves_77 : decode cX12_moves 77 = .ok (.iload_n 1, 1) := by decide +kernel
theorem dX12_moves_78 : decode cX12_moves 78 = .ok (.iload_n 2, 1) := by decide +kernel
theorem dX12_moves_79 : decode cX12_moves 79 = .ok (.iconst 0, 1) := by decide +kernel
theorem dX12_moves_80 : decode cX12_moves 80 = .ok (.iload 4, 2) := by decide +kernel
theorem dX12_moves_82 : decode cX12_moves 82 = .ok (.ineg, 1) := by decide +kernel
theorem dX12_moves_83 : decode cX12_moves 83 = .ok (.iload 5, 2) := by decide +kernel
theorem dX12_moves_85 : decode cX12_moves 85 = .ok (.ineg, 1) := by decide +kernel
theorem dX12_moves_86 : decode cX12_moves 86 = .ok (.invokevirtual 225, 3) := by decide +kernel
theorem dX12_moves_89 : decode cX12_moves 89 = .ok (.iload_n 1, 1) := by decide +kernel
theorem dX12_moves_90 : decode cX12_moves 90 = .ok (.iload_n 3, 1) := by decide +kernel
theorem dX12_moves_91 : decode cX12_moves 91 = .ok (.invokestatic 282, 3) := by decide +kernel
theorem dX12_moves_94 : decode cX12_moves 94 = .ok (.istore 6, 2) := by decide +kernel
theorem dX12_moves_96 : decode cX12_moves 96 = .ok (.iload_n 2, 1) := by decide +kernel
theorem dX12_moves_97 : decode cX12_moves 97 = .ok (.iload_n 3, 1) := by decide +kernel
theorem dX12_moves_98 : decode cX12_moves 98 = .ok (.invokestatic 285, 3) := by decide +kernel
theorem dX12_moves_101 : decode cX12_moves 101 = .ok (.istore 7, 2) := by decide +kernel
theorem dX12_moves_103 : decode cX12_moves 103 = .ok (.aload_n 0, 1) := by decide +kernel
theorem dX12_moves_104 : decode cX12_moves 104 = .ok (.iload 6, 2) := by decide +kernel
theorem dX12_moves_106 : decode cX12_moves 106 = .ok (.iload 7, 2) := by decide +kernel
theorem dX12_moves_108 : decode cX12_moves 108 = .ok (.invokevirtual 288, 3) := by decide +kernel
theorem dX12_moves_111 : decode cX12_moves 111 = .ok (.ifCond .ne 7, 3) := by decide +kernel
theorem dX12_moves_114 : decode cX12_moves 114 = .ok (.iconst 3, 1) := by decide +kernel
theorem dX12_moves_115 : decode cX12_moves 115 = .ok (.goto 19, 3) := by decide +kernel
theorem dX12_moves_118 : decode cX12_moves 118 = .ok (.aload_n 0, 1) := by decide +kernel
theorem dX12_moves_119 : decode cX12_moves 119 = .ok (.iload 6, 2) := by decide +kernel
theorem dX12_moves_121 : decode cX12_moves 121 = .ok (.iload 7, 2) := by decide +kernel
theorem dX12_moves_123 : decode cX12_moves 123 = .ok (.invokevirtual 244, 3) := by decide +kernel
theorem dX12_moves_126 : decode cX12_moves 126 = .ok (.ifCond .eq 7, 3) := by decide +kernel
theorem dX12_moves_129 : decode cX12_moves 129 = .ok (.iconst 0, 1) := by decide +kernel
theorem dX12_moves_130 : decode cX12_moves 130 = .ok (.goto 4, 3) := by decide +kernel
theorem dX12_moves_133 : decode cX12_moves 133 = .ok (.iconst 2, 1) := by decide +kernel
theorem dX12_moves_134 : decode cX12_moves 134 = .ok (.ireturn, 1) := by decide +kernel
theorem dX12_nearest_0 : decode cX12_nearest 0 = .ok (.iconst (-1), 1) := by decide +kernel
theorem dX12_nearest_1 : decode cX12_nearest 1 = .ok (.istore_n 2, 1) := by decide +kernel
theorem dX12_nearest_2 : decode cX12_nearest 2 = .ok (.iconst (-1), 1) := by decide +kernel
theorem dX12_nearest_3 : decode cX12_nearest 3 = .ok (.istore_n 3, 1) := by decide +kernel
theorem dX12_nearest_4 : decode cX12_nearest 4 = .ok (.iconst 0, 1) := by decide +kernel
theorem dX12_nearest_5 : decode cX12_nearest 5 = .ok (.istore 4, 2) := by decide +kernel
theorem dX12_nearest_7 : decode cX12_nearest 7 = .ok (.iload 4, 2) := by decide +kernel
theorem dX12_nearest_9 : decode cX12_nearest 9 = .ok (.aload_n 0, 1) := by decide +kernel
theorem dX12_nearest_10 : decode cX12_nearest 10 = .ok (.getfield 241, 3) := by decide +kernel
theorem dX12_nearest_13 : decode cX12_nearest 13 = .ok (.if_icmp .ge 65, 3) := by decide +kernel
theorem dX12_nearest_16 : decode cX12_nearest 16 = .ok (.iload 4, 2) := by decide +kernel
theorem dX12_nearest_18 : decode cX12_nearest 18 = .ok (.iconst 1, 1) := by decide +kernel
theorem dX12_nearest_19 : decode cX12_nearest 19 = .ok (.iadd, 1) := by decide +kernel
theorem dX12_nearest_20 : decode cX12_nearest 20 = .ok (.istore 5, 2) := by decide +kernel
theorem dX12_nearest_22 : decode cX12_nearest 22 = .ok (.iload 5, 2) := by decide +kernel
theorem dX12_nearest_24 : decode cX12_nearest 24 = .ok (.aload_n 0, 1) := by decide +kernel
theorem dX12_nearest_25 : decode cX12_nearest 25 = .ok (.getfield 241, 3) := by decide +kernel
theorem dX12_nearest_28 : decode cX12_nearest 28 = .ok (.if_icmp .ge 44, 3) := by decide +kernel
theorem dX12_nearest_31 : decode cX12_nearest 31 = .ok (.iload_n 2, 1) := by decide +kernel
theorem dX12_nearest_32 : decode cX12_nearest 32 = .ok (.iconst (-1), 1) := by decide +kernel
theorem dX12_nearest_33 : decode cX12_nearest 33 = .ok (.if_icmp .eq 15, 3) := by decide +kernel
theorem dX12_nearest_36 : decode cX12_nearest 36 = .ok (.aload_n 0, 1) := by decide +kernel
theorem dX12_nearest_37 : decode cX12_nearest 37 = .ok (.iload 4, 2) := by decide +kernel
theorem dX12_nearest_39 : decode cX12_nearest 39 = .ok (.iload 5, 2) := by decide +kernel
theorem dX12_nearest_41 : decode cX12_nearest 41 = .ok (.invokevirtual 303, 3) := by decide +kernel
theorem dX12_nearest_44 : decode cX12_nearest 44 = .ok (.iload_n 3, 1) := by decide +kernel
theorem dX12_nearest_45 : decode cX12_nearest 45 = .ok (.if_icmp .ge 21, 3) := by decide +kernel
theorem dX12_nearest_48 : decode cX12_nearest 48 = .ok (.bipush 16, 2) := by decide +kernel
theorem dX12_nearest_50 : decode cX12_nearest 50 = .ok (.iload 4, 2) := by decide +kernel
theorem dX12_nearest_52 : decode cX12_nearest 52 = .ok (.imul, 1) := by decide +kernel
theorem dX12_nearest_53 : decode cX12_nearest 53 = .ok (.iload 5, 2) := by decide +kernel
theorem dX12_nearest_55 : decode cX12_nearest 55 = .ok (.iadd, 1) := by decide +kernel
theorem dX12_nearest_56 : decode cX12_nearest 56 = .ok (.istore_n 2, 1) := by decide +kernel
theorem dX12_nearest_57 : decode cX12_nearest 57 = .ok (.aload_n 0, 1) := by decide +kernel
theorem dX12_nearest_58 : decode cX12_nearest 58 = .ok (.iload 4, 2) := by decide +kernel
theorem dX12_nearest_60 : decode cX12_nearest 60 = .ok (.iload 5, 2) := by decide +kernel
theorem dX12_nearest_62 : decode cX12_nearest 62 = .ok (.invokevirtual 303, 3) := by decide +kernel
theorem dX12_nearest_65 : decode cX12_nearest 65 = .ok (.istore_n 3, 1) := by decide +kernel
theorem dX12_nearest_66 : decode cX12_nearest 66 = .ok (.iinc 5 1, 3) := by decide +kernel
theorem dX12_nearest_69 : decode cX12_nearest 69 = .ok (.goto (-47), 3) := by decide +kernel
theorem dX12_nearest_72 : decode cX12_nearest 72 = .ok (.iinc 4 1, 3) := by decide +kernel
theorem dX12_nearest_75 : decode cX12_nearest 75 = .ok (.goto (-68), 3) := by decide +kernel
theorem dX12_nearest_78 : decode cX12_nearest 78 = .ok (.iload_n 1, 1) := by decide +kernel
theorem dX12_nearest_79 : decode cX12_nearest 79 = .ok (.ifCond .eq 11, 3) := by decide +kernel
theorem dX12_nearest_82 : decode cX12_nearest 82 = .ok (.iconst 0, 1) := by decide +kernel
theorem dX12_nearest_83 : decode cX12_nearest 83 = .ok (.iload_n 3, 1) := by decide +kernel
theorem dX12_nearest_84 : decode cX12_nearest 84 = .ok (.invokestatic 464, 3) := by decide +kernel
theorem dX12_nearest_87 : decode cX12_nearest 87 = .ok (.goto 4, 3) := by decide +kernel
theorem dX12_nearest_90 : decode cX12_nearest 90 = .ok (.iload_n 2, 1) := by decide +kernel
theorem dX12_nearest_91 : decode cX12_nearest 91 = .ok (.ireturn, 1) := by decide +kernel
theorem dX12_next_0 : decode cX12_next 0 = .ok (.aload_n 0, 1) := by decide +kernel
theorem dX12_next_1 : decode cX12_next 1 = .ok (.aload_n 0, 1) := by decide +kernel
theorem dX12_next_2 : decode cX12_next 2 = .ok (.getfield 101, 3) := by decide +kernel
theorem dX12_next_5 : decode cX12_next 5 = .ok (.invokevirtual 104, 3) := by decide +kernel
theorem dX12_next_8 : decode cX12_next 8 = .ok (.bipush 32, 2) := by decide +kernel
theorem dX12_next_10 : decode cX12_next 10 = .ok (.if_icmp .ne 16, 3) := by decide +kernel
theorem dX12_next_13 : decode cX12_next 13 = .ok (.aload_n 0, 1) := by decide +kernel
theorem dX12_next_14 : decode cX12_next 14 = .ok (.dup, 1) := by decide +kernel
theorem dX12_next_15 : decode cX12_next 15 = .ok (.getfield 101, 3) := by decide +kernel
theorem dX12_next_18 : decode cX12_next 18 = .ok (.iconst 1, 1) := by decide +kernel
theorem dX12_next_19 : decode cX12_next 19 = .ok (.iadd, 1) := by decide +kernel
theorem dX12_next_20 : decode cX12_next 20 = .ok (.putfield 101, 3) := by decide +kernel
theorem dX12_next_23 : decode cX12_next 23 = .ok (.goto (-23), 3) := by decide +kernel
theorem dX12_next_26 : decode cX12_next 26 = .ok (.aload_n 0, 1) := by decide +kernel
theorem dX12_next_27 : decode cX12_next 27 = .ok (.aload_n 0, 1) := by decide +kernel
theorem dX12_next_28 : decode cX12_next 28 = .ok (.getfield 101, 3) := by decide +kernel
theorem dX12_next_31 : decode cX12_next 31 = .ok (.putfield 108, 3) := by decide +kernel
theorem dX12_next_34 : decode cX12_next 34 = .ok (.aload_n 0, 1) := by decide +kernel
theorem dX12_next_35 : decode cX12_next 35 = .ok (.aload_n 0, 1) := by decide +kernel
theorem dX12_next_36 : decode cX12_next 36 = .ok (.getfield 101, 3) := by decide +kernel
theorem dX12_next_39 : decode cX12_next 39 = .ok (.invokevirtual 104, 3) := by decide +kernel
theorem dX12_next_42 : decode cX12_next 42 = .ok (.istore_n 1, 1) := by decide +kernel
theorem dX12_next_43 : decode cX12_next 43 = .ok (.iload_n 1, 1) := by decide +kernel
theorem dX12_next_44 : decode cX12_next 44 = .ok (.iconst (-1), 1) := by decide +kernel
theorem dX12_next_45 : decode cX12_next 45 = .ok (.if_icmp .ne 11, 3) := by decide +kernel
theorem dX12_next_48 : decode cX12_next 48 = .ok (.aload_n 0, 1) := by decide +kernel
theorem dX12_next_49 : decode cX12_next 49 = .ok (.iconst 0, 1) := by decide +kernel
theorem dX12_next_50 : decode cX12_next 50 = .ok (.putfield 111, 3) := by decide +kernel
theorem dX12_next_53 : decode cX12_next 53 = .ok (.goto 104, 3) := by decide +kernel
theorem dX12_next_56 : decode cX12_next 56 = .ok (.iload_n 1, 1) := by decide +kernel
theorem dX12_next_57 : decode cX12_next 57 = .ok (.invokestatic 114, 3) := by decide +kernel
theorem dX12_next_60 : decode cX12_next 60 = .ok (.ifCond .eq 35, 3) := by decide +kernel
theorem dX12_next_63 : decode cX12_next 63 = .ok (.aload_n 0, 1) := by decide +kernel
theorem dX12_next_64 : decode cX12_next 64 = .ok (.iconst 1, 1) := by decide +kernel
theorem dX12_next_65 : decode cX12_next 65 = .ok (.putfield 111, 3) := by decide +kernel
theorem dX12_next_68 : decode cX12_next 68 = .ok (.aload_n 0, 1) := by decide +kernel
theorem dX12_next_69 : decode cX12_next 69 = .ok (.aload_n 0, 1) := by decide +kernel
theorem dX12_next_70 : decode cX12_next 70 = .ok (.getfield 101, 3) := by decide +kernel
theorem dX12_next_73 : decode cX12_next 73 = .ok (.invokevirtual 104, 3) := by decide +kernel
theorem dX12_next_76 : decode cX12_next 76 = .ok (.invokestatic 114, 3) := by decide +kernel
theorem dX12_next_79 : decode cX12_next 79 = .ok (.ifCond .eq 78, 3) := by decide +kernel
theorem dX12_next_82 : decode cX12_next 82 = .ok (.aload_n 0, 1) := by decide +kernel
theorem dX12_next_83 : decode cX12_next 83 = .ok (.dup, 1) := by decide +kernel
theorem dX12_next_84 : decode cX12_next 84 = .ok (.getfield 101, 3) := by decide +kernel
theorem dX12_next_87 : decode cX12_next 87 = .ok (.iconst 1, 1) := by decide +kernel
theorem dX12_next_88 : decode cX12_next 88 = .ok (.iadd, 1) := by decide +kernel
theorem dX12_next_89 : decode cX12_next 89 = .ok (.putfield 101, 3) := by decide +kernel
theorem dX12_next_92 : decode cX12_next 92 = .ok (.goto (-24), 3) := by decide +kernel
theorem dX12_next_95 : decode cX12_next 95 = .ok (.iload_n 1, 1) := by decide +kernel
theorem dX12_next_96 : decode cX12_next 96 = .ok (.invokestatic 118, 3) := by decide +kernel
theorem dX12_next_99 : decode cX12_next 99 = .ok (.ifCond .ne 25, 3) := by decide +kernel
theorem dX12_next_102 : decode cX12_next 102 = .ok (.iload_n 1, 1) := by decide +kernel
theorem dX12_next_103 : decode cX12_next 103 = .ok (.bipush 45, 2) := by decide +kernel
theorem dX12_next_105 : decode cX12_next 105 = .ok (.if_icmp .ne 37, 3) := by decide +kernel
theorem dX12_next_108 : decode cX12_next 108 = .ok (.aload_n 0, 1) := by decide +kernel
theorem dX12_next_109 : decode cX12_next 109 = .ok (.aload_n 0, 1) := by decide +kernel
theorem dX12_next_110 : decode cX12_next 110 = .ok (.getfield 101, 3) := by decide +kernel
theorem dX12_next_113 : decode cX12_next 113 = .ok (.iconst 1, 1) := by decide +kernel
theorem dX12_next_114 : decode cX12_next 114 = .ok (.iadd, 1) := by decide +kernel
theorem dX12_next_115 : decode cX12_next 115 = .ok (.invokevirtual 104, 3) := by decide +kernel
theorem dX12_next_118 : decode cX12_next 118 = .ok (.invokestatic 118, 3) := by decide +kernel
theorem dX12_next_121 : decode cX12_next 121 = .ok (.ifCond .eq 21, 3) := by decide +kernel
theorem dX12_next_124 : decode cX12_next 124 = .ok (.aload_n 0, 1) := by decide +kernel
theorem dX12_next_125 : decode cX12_next 125 = .ok (.iload_n 1, 1) := by decide +kernel
theorem dX12_next_126 : decode cX12_next 126 = .ok (.bipush 45, 2) := by decide +kernel
theorem dX12_next_128 : decode cX12_next 128 = .ok (.if_icmp .ne 7, 3) := by decide +kernel
theorem dX12_next_131 : decode cX12_next 131 = .ok (.iconst 1, 1) := by decide +kernel
theorem dX12_next_132 : decode cX12_next 132 = .ok (.goto 4, 3) := by decide +kernel
theorem dX12_next_135 : decode cX12_next 135 = .ok (.iconst 0, 1) := by decide +kernel
theorem dX12_next_136 : decode cX12_next 136 = .ok (.invokevirtual 121, 3) := by decide +kernel
theorem dX12_next_139 : decode cX12_next 139 = .ok (.goto 18, 3) := by decide +kernel
theorem dX12_next_142 : decode cX12_next 142 = .ok (.aload_n 0, 1) := by decide +kernel
theorem dX12_next_143 : decode cX12_next 143 = .ok (.iconst 3, 1) := by decide +kernel
theorem dX12_next_144 : decode cX12_next 144 = .ok (.putfield 111, 3) := by decide +kernel
theorem dX12_next_147 : decode cX12_next 147 = .ok (.aload_n 0, 1) := by decide +kernel
theorem dX12_next_148 : decode cX12_next 148 = .ok (.dup, 1) := by decide +kernel
theorem dX12_next_149 : decode cX12_next 149 = .ok (.getfield 101, 3) := by decide +kernel
theorem dX12_next_152 : decode cX12_next 152 = .ok (.iconst 1, 1) := by decide +kernel
theorem dX12_next_153 : decode cX12_next 153 = .ok (.iadd, 1) := by decide +kernel
theorem dX12_next_154 : decode cX12_next 154 = .ok (.putfield 101, 3) := by decide +kernel
theorem dX12_next_157 : decode cX12_next 157 = .ok (.return_, 1) := by decide +kernel
theorem dX12_nextOn_0 : decode cX12_nextOn 0 = .ok (.iconst (-1), 1) := by decide +kernel
theorem dX12_nextOn_1 : decode cX12_nextOn 1 = .ok (.istore 4, 2) := by decide +kernel
theorem dX12_nextOn_3 : decode cX12_nextOn 3 = .ok (.iconst 0, 1) := by decide +kernel
theorem dX12_nextOn_4 : decode cX12_nextOn 4 = .ok (.istore 5, 2) := by decide +kernel
theorem dX12_nextOn_6 : decode cX12_nextOn 6 = .ok (.iload 5, 2) := by decide +kernel
theorem dX12_nextOn_8 : decode cX12_nextOn 8 = .ok (.aload_n 0, 1) := by decide +kernel
theorem dX12_nextOn_9 : decode cX12_nextOn 9 = .ok (.getfield 241, 3) := by decide +kernel
theorem dX12_nextOn_12 : decode cX12_nextOn 12 = .ok (.if_icmp .ge 113, 3) := by decide +kernel
theorem dX12_nextOn_15 : decode cX12_nextOn 15 = .ok (.iload 5, 2) := by decide +kernel
theorem dX12_nextOn_17 : decode cX12_nextOn 17 = .ok (.iload_n 1, 1) := by decide +kernel
theorem dX12_nextOn_18 : decode cX12_nextOn 18 = .ok (.if_icmp .eq 101, 3) := by decide +kernel
theorem dX12_nextOn_21 : decode cX12_nextOn 21 = .ok (.aload_n 0, 1) := by decide +kernel
theorem dX12_nextOn_22 : decode cX12_nextOn 22 = .ok (.iload 5, 2) := by decide +kernel
theorem dX12_nextOn_24 : decode cX12_nextOn 24 = .ok (.iconst 1, 1) := by decide +kernel
theorem dX12_nextOn_25 : decode cX12_nextOn 25 = .ok (.iload_n 2, 1) := by decide +kernel
theorem dX12_nextOn_26 : decode cX12_nextOn 26 = .ok (.isub, 1) := by decide +kernel
theorem dX12_nextOn_27 : decode cX12_nextOn 27 = .ok (.invokevirtual 275, 3) := by decide +kernel
theorem dX12_nextOn_30 : decode cX12_nextOn 30 = .ok (.aload_n 0, 1) := by decide +kernel
theorem dX12_nextOn_31 : decode cX12_nextOn 31 = .ok (.iload_n 1, 1) := by decide +kernel
theorem dX12_nextOn_32 : decode cX12_nextOn 32 = .ok (.iconst 1, 1) := by decide +kernel
theorem dX12_nextOn_33 : decode cX12_nextOn 33 = .ok (.iload_n 2, 1) := by decide +kernel
theorem dX12_nextOn_34 : decode cX12_nextOn 34 = .ok (.isub, 1) := by decide +kernel
theorem dX12_nextOn_35 : decode cX12_nextOn 35 = .ok (.invokevirtual 275, 3) := by decide +kernel
theorem dX12_nextOn_38 : decode cX12_nextOn 38 = .ok (.if_icmp .ne 81, 3) := by decide +kernel
theorem dX12_nextOn_41 : decode cX12_nextOn 41 = .ok (.aload_n 0, 1) := by decide +kernel
theorem dX12_nextOn_42 : decode cX12_nextOn 42 = .ok (.iload 5, 2) := by decide +kernel
theorem dX12_nextOn_44 : decode cX12_nextOn 44 = .ok (.iload_n 2, 1) := by decide +kernel
theorem dX12_nextOn_45 : decode cX12_nextOn 45 = .ok (.invokevirtual 275, 3) := by decide +kernel
theorem dX12_nextOn_48 : decode cX12_nextOn 48 = .ok (.aload_n 0, 1) := by decide +kernel
theorem dX12_nextOn_49 : decode cX12_nextOn 49 = .ok (.iload_n 1, 1) := by decide +kernel
theorem dX12_nextOn_50 : decode cX12_nextOn 50 = .ok (.iload_n 2, 1) := by decide +kernel
theorem dX12_nextOn_51 : decode cX12_nextOn 51 = .ok (.invokevirtual 275, 3) := by decide +kernel
theorem dX12_nextOn_54 : decode cX12_nextOn 54 = .ok (.if_icmp .le 7, 3) := by decide +kernel
theorem dX12_nextOn_57 : decode cX12_nextOn 57 = .ok (.iconst 1, 1) := by decide +kernel
theorem dX12_nextOn_58 : decode cX12_nextOn 58 = .ok (.goto 4, 3) := by decide +kernel
theorem dX12_nextOn_61 : decode cX12_nextOn 61 = .ok (.iconst 0, 1) := by decide +kernel
theorem dX12_nextOn_62 : decode cX12_nextOn 62 = .ok (.iload_n 3, 1) := by decide +kernel
theorem dX12_nextOn_63 : decode cX12_nextOn 63 = .ok (.if_icmp .ne 56, 3) := by decide +kernel
theorem dX12_nextOn_66 : decode cX12_nextOn 66 = .ok (.iload 4, 2) := by decide +kernel
theorem dX12_nextOn_68 : decode cX12_nextOn 68 = .ok (.iconst (-1), 1) := by decide +kernel
theorem dX12_nextOn_69 : decode cX12_nextOn 69 = .ok (.if_icmp .eq 29, 3) := by decide +kernel
theorem dX12_nextOn_72 : decode cX12_nextOn 72 = .ok (.aload_n 0, 1) := by decide +kernel
theorem dX12_nextOn_73 : decode cX12_nextOn 73 = .ok (.iload 5, 2) := by decide +kernel
theorem dX12_nextOn_75 : decode cX12_nextOn 75 = .ok (.iload_n 2, 1) := by decide +kernel
theorem dX12_nextOn_76 : decode cX12_nextOn 76 = .ok (.invokevirtual 275, 3) := by decide +kernel
theorem dX12_nextOn_79 : decode cX12_nextOn 79 = .ok (.aload_n 0, 1) := by decide +kernel
theorem dX12_nextOn_80 : decode cX12_nextOn 80 = .ok (.iload 4, 2) := by decide +kernel
theorem dX12_nextOn_82 : decode cX12_nextOn 82 = .ok (.iload_n 2, 1) := by decide +kernel
theorem dX12_nextOn_83 : decode cX12_nextOn 83 = .ok (.invokevirtual 275, 3) := by decide +kernel
theorem dX12_nextOn_86 : decode cX12_nextOn 86 = .ok (.if_icmp .ge 7, 3) := by decide +kernel
theorem dX12_nextOn_89 : decode cX12_nextOn 89 = .ok (.iconst 1, 1) := by decide +kernel
theorem dX12_nextOn_90 : decode cX12_nextOn 90 = .ok (.goto 4, 3) := by decide +kernel
theorem dX12_nextOn_93 : decode cX12_nextOn 93 = .ok (.iconst 0, 1) := by decide +kernel
theorem dX12_nextOn_94 : decode cX12_nextOn 94 = .ok (.iload_n 3, 1) := by decide +kernel
theorem dX12_nextOn_95 : decode cX12_nextOn 95 = .ok (.if_icmp .ne 7, 3) := by decide +kernel
theorem dX12_nextOn_98 : decode cX12_nextOn 98 = .ok (.iconst 1, 1) := by decide +kernel
theorem dX12_nextOn_99 : decode cX12_nextOn 99 = .ok (.goto 4, 3) := by decide +kernel
theorem dX12_nextOn_102 : decode cX12_nextOn 102 = .ok (.iconst 0, 1) := by decide +kernel
theorem dX12_nextOn_103 : decode cX12_nextOn 103 = .ok (.istore 6, 2) := by decide +kernel
theorem dX12_nextOn_105 : decode cX12_nextOn 105 = .ok (.iload 6, 2) := by decide +kernel
theorem dX12_nextOn_107 : decode cX12_nextOn 107 = .ok (.ifCond .eq 8, 3) := by decide +kernel
theorem dX12_nextOn_110 : decode cX12_nextOn 110 = .ok (.iload 5, 2) := by decide +kernel
theorem dX12_nextOn_112 : decode cX12_nextOn 112 = .ok (.goto 5, 3) := by decide +kernel
theorem dX12_nextOn_115 : decode cX12_nextOn 115 = .ok (.iload 4, 2) := by decide +kernel
theorem dX12_nextOn_117 : decode cX12_nextOn 117 = .ok (.istore 4, 2) := by decide +kernel
theorem dX12_nextOn_119 : decode cX12_nextOn 119 = .ok (.iinc 5 1, 3) := by decide +kernel
theorem dX12_nextOn_122 : decode cX12_nextOn 122 = .ok (.goto (-116), 3) := by decide +kernel
theorem dX12_nextOn_125 : decode cX12_nextOn 125 = .ok (.iload 4, 2) := by decide +kernel
theorem dX12_nextOn_127 : decode cX12_nextOn 127 = .ok (.ireturn, 1) := by decide +kernel
theorem dX12_ofFace_0 : decode cX12_ofFace 0 = .ok (.iload_n 3, 1) := by decide +kernel
theorem dX12_ofFace_1 : decode cX12_ofFace 1 = .ok (.ifCond .ne 12, 3) := by decide +kernel
theorem dX12_ofFace_4 : decode cX12_ofFace 4 = .ok (.iload_n 1, 1) := by decide +kernel
theorem dX12_ofFace_5 : decode cX12_ofFace 5 = .ok (.iload_n 2, 1) := by decide +kernel
theorem dX12_ofFace_6 : decode cX12_ofFace 6 = .ok (.iconst 0, 1) := by decide +kernel
theorem dX12_ofFace_7 : decode cX12_ofFace 7 = .ok (.invokestatic 421, 3) := by decide +kernel
theorem dX12_ofFace_10 : decode cX12_ofFace 10 = .ok (.goto 41, 3) := by decide +kernel
theorem dX12_ofFace_13 : decode cX12_ofFace 13 = .ok (.iload_n 3, 1) := by decide +kernel
theorem dX12_ofFace_14 : decode cX12_ofFace 14 = .ok (.iconst 1, 1) := by decide +kernel
theorem dX12_ofFace_15 : decode cX12_ofFace 15 = .ok (.if_icmp .ne 12, 3) := by decide +kernel
theorem dX12_ofFace_18 : decode cX12_ofFace 18 = .ok (.iload_n 1, 1) := by decide +kernel
theorem dX12_ofFace_19 : decode cX12_ofFace 19 = .ok (.iload_n 2, 1) := by decide +kernel
theorem dX12_ofFace_20 : decode cX12_ofFace 20 = .ok (.iconst 1, 1) := by decide +kernel
theorem dX12_ofFace_21 : decode cX12_ofFace 21 = .ok (.invokestatic 421, 3) := by decide +kernel
theorem dX12_ofFace_24 : decode cX12_ofFace 24 = .ok (.goto 27, 3) := by decide +kernel
theorem dX12_ofFace_27 : decode cX12_ofFace 27 = .ok (.iload_n 3, 1) := by decide +kernel
theorem dX12_ofFace_28 : decode cX12_ofFace 28 = .ok (.iconst 2, 1) := by decide +kernel
theorem dX12_ofFace_29 : decode cX12_ofFace 29 = .ok (.if_icmp .ne 14, 3) := by decide +kernel
theorem dX12_ofFace_32 : decode cX12_ofFace 32 = .ok (.iload_n 1, 1) := by decide +kernel
theorem dX12_ofFace_33 : decode cX12_ofFace 33 = .ok (.iconst 1, 1) := by decide +kernel
theorem dX12_ofFace_34 : decode cX12_ofFace 34 = .ok (.iadd, 1) := by decide +kernel
theorem dX12_ofFace_35 : decode cX12_ofFace 35 = .ok (.iload_n 2, 1) := by decide +kernel
theorem dX12_ofFace_36 : decode cX12_ofFace 36 = .ok (.iconst 1, 1) := by decide +kernel
theorem dX12_ofFace_37 : decode cX12_ofFace 37 = .ok (.invokestatic 421, 3) := by decide +kernel
theorem dX12_ofFace_40 : decode cX12_ofFace 40 = .ok (.goto 11, 3) := by decide +kernel
theorem dX12_ofFace_43 : decode cX12_ofFace 43 = .ok (.iload_n 1, 1) := by decide +kernel
theorem dX12_ofFace_44 : decode cX12_ofFace 44 = .ok (.iload_n 2, 1) := by decide +kernel
theorem dX12_ofFace_45 : decode cX12_ofFace 45 = .ok (.iconst 1, 1) := by decide +kernel
theorem dX12_ofFace_46 : decode cX12_ofFace 46 = .ok (.iadd, 1) := by decide +kernel
theorem dX12_ofFace_47 : decode cX12_ofFace 47 = .ok (.iconst 0, 1) := by decide +kernel
theorem dX12_ofFace_48 : decode cX12_ofFace 48 = .ok (.invokestatic 421, 3) := by decide +kernel
theorem dX12_ofFace_51 : decode cX12_ofFace 51 = .ok (.ireturn, 1) := by decide +kernel
theorem dX12_opposed_0 : decode cX12_opposed 0 = .ok (.iconst 0, 1) := by decide +kernel
theorem dX12_opposed_1 : decode cX12_opposed 1 = .ok (.istore_n 1, 1) := by decide +kernel
theorem dX12_opposed_2 : decode cX12_opposed 2 = .ok (.iconst 0, 1) := by decide +kernel
theorem dX12_opposed_3 : decode cX12_opposed 3 = .ok (.istore_n 2, 1) := by decide +kernel
theorem dX12_opposed_4 : decode cX12_opposed 4 = .ok (.iload_n 2, 1) := by decide +kernel
theorem dX12_opposed_5 : decode cX12_opposed 5 = .ok (.aload_n 0, 1) := by decide +kernel
theorem dX12_opposed_6 : decode cX12_opposed 6 = .ok (.getfield 241, 3) := by decide +kernel
theorem dX12_opposed_9 : decode cX12_opposed 9 = .ok (.if_icmp .ge 61, 3) := by decide +kernel
theorem dX12_opposed_12 : decode cX12_opposed 12 = .ok (.iconst 0, 1) := by decide +kernel
theorem dX12_opposed_13 : decode cX12_opposed 13 = .ok (.istore_n 3, 1) := by decide +kernel
theorem dX12_opposed_14 : decode cX12_opposed 14 = .ok (.iconst 0, 1) := by decide +kernel
theorem dX12_opposed_15 : decode cX12_opposed 15 = .ok (.istore 4, 2) := by decide +kernel
theorem dX12_opposed_17 : decode cX12_opposed 17 = .ok (.iload 4, 2) := by decide +kernel
theorem dX12_opposed_19 : decode cX12_opposed 19 = .ok (.aload_n 0, 1) := by decide +kernel
theorem dX12_opposed_20 : decode cX12_opposed 20 = .ok (.getfield 241, 3) := by decide +kernel
theorem dX12_opposed_23 : decode cX12_opposed 23 = .ok (.if_icmp .ge 29, 3) := by decide +kernel
theorem dX12_opposed_26 : decode cX12_opposed 26 = .ok (.iload_n 3, 1) := by decide +kernel
theorem dX12_opposed_27 : decode cX12_opposed 27 = .ok (.ifCond .ne 13, 3) := by decide +kernel
theorem dX12_opposed_30 : decode cX12_opposed 30 = .ok (.aload_n 0, 1) := by decide +kernel
theorem dX12_opposed_31 : decode cX12_opposed 31 = .ok (.iload_n 2, 1) := by decide +kernel
theorem dX12_opposed_32 : decode cX12_opposed 32 = .ok (.iload 4, 2) := by decide +kernel
theorem dX12_opposed_34 : decode cX12_opposed 34 = .ok (.invokevirtual 446, 3) := by decide +kernel
theorem dX12_opposed_37 : decode cX12_opposed 37 = .ok (.ifCond .eq 7, 3) := by decide +kernel
theorem dX12_opposed_40 : decode cX12_opposed 40 = .ok (.iconst 1, 1) := by decide +kernel
theorem dX12_opposed_41 : decode cX12_opposed 41 = .ok (.goto 4, 3) := by decide +kernel
theorem dX12_opposed_44 : decode cX12_opposed 44 = .ok (.iconst 0, 1) := by decide +kernel
theorem dX12_opposed_45 : decode cX12_opposed 45 = .ok (.istore_n 3, 1) := by decide +kernel
theorem dX12_opposed_46 : decode cX12_opposed 46 = .ok (.iinc 4 1, 3) := by decide +kernel
theorem dX12_opposed_49 : decode cX12_opposed 49 = .ok (.goto (-32), 3) := by decide +kernel
theorem dX12_opposed_52 : decode cX12_opposed 52 = .ok (.iload_n 1, 1) := by decide +kernel
theorem dX12_opposed_53 : decode cX12_opposed 53 = .ok (.iload_n 3, 1) := by decide +kernel
theorem dX12_opposed_54 : decode cX12_opposed 54 = .ok (.ifCond .eq 7, 3) := by decide +kernel
theorem dX12_opposed_57 : decode cX12_opposed 57 = .ok (.iconst 1, 1) := by decide +kernel
theorem dX12_opposed_58 : decode cX12_opposed 58 = .ok (.goto 4, 3) := by decide +kernel
theorem dX12_opposed_61 : decode cX12_opposed 61 = .ok (.iconst 0, 1) := by decide +kernel
theorem dX12_opposed_62 : decode cX12_opposed 62 = .ok (.iadd, 1) := by decide +kernel
theorem dX12_opposed_63 : decode cX12_opposed 63 = .ok (.istore_n 1, 1) := by decide +kernel
theorem dX12_opposed_64 : decode cX12_opposed 64 = .ok (.iinc 2 1, 3) := by decide +kernel
theorem dX12_opposed_67 : decode cX12_opposed 67 = .ok (.goto (-63), 3) := by decide +kernel
theorem dX12_opposed_70 : decode cX12_opposed 70 = .ok (.iload_n 1, 1) := by decide +kernel
theorem dX12_opposed_71 : decode cX12_opposed 71 = .ok (.ireturn, 1) := by decide +kernel
theorem dX12_path_0 : decode cX12_path 0 = .ok (.aload_n 0, 1) := by decide +kernel
theorem dX12_path_1 : decode cX12_path 1 = .ok (.iconst 0, 1) := by decide +kernel
theorem dX12_path_2 : decode cX12_path 2 = .ok (.putfield 86, 3) := by decide +kernel
theorem dX12_path_5 : decode cX12_path 5 = .ok (.aload_n 0, 1) := by decide +kernel
theorem dX12_path_6 : decode cX12_path 6 = .ok (.invokevirtual 306, 3) := by decide +kernel
theorem dX12_path_9 : decode cX12_path 9 = .ok (.ifCond .eq 12, 3) := by decide +kernel
theorem dX12_path_12 : decode cX12_path 12 = .ok (.aload_n 0, 1) := by decide +kernel
theorem dX12_path_13 : decode cX12_path 13 = .ok (.iload_n 1, 1) := by decide +kernel
theorem dX12_path_14 : decode cX12_path 14 = .ok (.iload_n 2, 1) := by decide +kernel
theorem dX12_path_15 : decode cX12_path 15 = .ok (.invokevirtual 215, 3) := by decide +kernel
theorem dX12_path_18 : decode cX12_path 18 = .ok (.ifCond .ne 5, 3) := by decide +kernel
theorem dX12_path_21 : decode cX12_path 21 = .ok (.iconst (-1), 1) := by decide +kernel
theorem dX12_path_22 : decode cX12_path 22 = .ok (.ireturn, 1) := by decide +kernel
theorem dX12_path_23 : decode cX12_path 23 = .ok (.iload_n 1, 1) := by decide +kernel
theorem dX12_path_24 : decode cX12_path 24 = .ok (.istore_n 3, 1) := by decide +kernel
theorem dX12_path_25 : decode cX12_path 25 = .ok (.iload_n 2, 1) := by decide +kernel
theorem dX12_path_26 : decode cX12_path 26 = .ok (.istore 4, 2) := by decide +kernel
theorem dX12_path_28 : decode cX12_path 28 = .ok (.iconst 0, 1) := by decide +kernel
theorem dX12_path_29 : decode cX12_path 29 = .ok (.istore 5, 2) := by decide +kernel
theorem dX12_path_31 : decode cX12_path 31 = .ok (.iconst 0, 1) := by decide +kernel
theorem dX12_path_32 : decode cX12_path 32 = .ok (.istore 6, 2) := by decide +kernel
theorem dX12_path_34 : decode cX12_path 34 = .ok (.iconst 0, 1) := by decide +kernel
theorem dX12_path_35 : decode cX12_path 35 = .ok (.istore 7, 2) := by decide +kernel
theorem dX12_path_37 : decode cX12_path 37 = .ok (.iload 7, 2) := by decide +kernel
theorem dX12_path_39 : decode cX12_path 39 = .ok (.aload_n 0, 1) := by decide +kernel
theorem dX12_path_40 : decode cX12_path 40 = .ok (.getfield 94, 3) := by decide +kernel
theorem dX12_path_43 : decode cX12_path 43 = .ok (.if_icmp .ge 223, 3) := by decide +kernel
theorem dX12_path_46 : decode cX12_path 46 = .ok (.aload_n 0, 1) := by decide +kernel
theorem dX12_path_47 : decode cX12_path 47 = .ok (.getfield 9, 3) := by decide +kernel
theorem dX12_path_50 : decode cX12_path 50 = .ok (.iload 7, 2) := by decide +kernel
theorem dX12_path_52 : decode cX12_path 52 = .ok (.iaload, 1) := by decide +kernel
theorem dX12_path_53 : decode cX12_path 53 = .ok (.istore 8, 2) := by decide +kernel
theorem dX12_path_55 : decode cX12_path 55 = .ok (.iload 8, 2) := by decide +kernel
theorem dX12_path_57 : decode cX12_path 57 = .ok (.bipush 114, 2) := by decide +kernel
theorem dX12_path_59 : decode cX12_path 59 = .ok (.if_icmp .ne 7, 3) := by decide +kernel
theorem dX12_path_62 : decode cX12_path 62 = .ok (.iconst 0, 1) := by decide +kernel
theorem dX12_path_63 : decode cX12_path 63 = .ok (.goto 37, 3) := by decide +kernel
theorem dX12_path_66 : decode cX12_path 66 = .ok (.iload 8, 2) := by decide +kernel
theorem dX12_path_68 : decode cX12_path 68 = .ok (.bipush 117, 2) := by decide +kernel
theorem dX12_path_70 : decode cX12_path 70 = .ok (.if_icmp .ne 7, 3) := by decide +kernel
theorem dX12_path_73 : decode cX12_path 73 = .ok (.iconst 1, 1) := by decide +kernel
theorem dX12_path_74 : decode cX12_path 74 = .ok (.goto 26, 3) := by decide +kernel
theorem dX12_path_77 : decode cX12_path 77 = .ok (.iload 8, 2) := by decide +kernel
theorem dX12_path_79 : decode cX12_path 79 = .ok (.bipush 108, 2) := by decide +kernel
theorem dX12_path_81 : decode cX12_path 81 = .ok (.if_icmp .ne 7, 3) := by decide +kernel
theorem dX12_path_84 : decode cX12_path 84 = .ok (.iconst 2, 1) := by decide +kernel
theorem dX12_path_85 : decode cX12_path 85 = .ok (.goto 15, 3) := by decide +kernel
theorem dX12_path_88 : decode cX12_path 88 = .ok (.iload 8, 2) := by decide +kernel
theorem dX12_path_90 : decode cX12_path 90 = .ok (.bipush 100, 2) := by decide +kernel
theorem dX12_path_92 : decode cX12_path 92 = .ok (.if_icmp .ne 7, 3) := by decide +kernel
theorem dX12_path_95 : decode cX12_path 95 = .ok (.iconst 3, 1) := by decide +kernel
theorem dX12_path_96 : decode cX12_path 96 = .ok (.goto 4, 3) := by decide +kernel
theorem dX12_path_99 : decode cX12_path 99 = .ok (.iconst (-1), 1) := by decide +kernel
theorem dX12_path_100 : decode cX12_path 100 = .ok (.istore 9, 2) := by decide +kernel
theorem dX12_path_102 : decode cX12_path 102 = .ok (.iload 9, 2) := by decide +kernel
theorem dX12_path_104 : decode cX12_path 104 = .ok (.iconst (-1), 1) := by decide +kernel
theorem dX12_path_105 : decode cX12_path 105 = .ok (.if_icmp .eq 30, 3) := by decide +kernel
theorem dX12_path_108 : decode cX12_path 108 = .ok (.iload 7, 2) := by decide +kernel
theorem dX12_path_110 : decode cX12_path 110 = .ok (.bipush 120, 2) := by decide +kernel
theorem dX12_path_112 : decode cX12_path 112 = .ok (.if_icmp .eq 23, 3) := by decide +kernel
theorem dX12_path_115 : decode cX12_path 115 = .ok (.aload_n 0, 1) := by decide +kernel
theorem dX12_path_116 : decode cX12_path 116 = .ok (.iload_n 3, 1) := by decide +kernel
theorem dX12_path_117 : decode cX12_path 117 = .ok (.iload 9, 2) := by decide +kernel
theorem dX12_path_119 : decode cX12_path 119 = .ok (.invokestatic 282, 3) := by decide +kernel
theorem dX12_path_122 : decode cX12_path 122 = .ok (.iload 4, 2) := by decide +kernel
theorem dX12_path_124 : decode cX12_path 124 = .ok (.iload 9, 2) := by decide +kernel
theorem dX12_path_126 : decode cX12_path 126 = .ok (.invokestatic 285, 3) := by decide +kernel
theorem dX12_path_129 : decode cX12_path 129 = .ok (.invokevirtual 215, 3) := by decide +kernel
theorem dX12_path_132 : decode cX12_path 132 = .ok (.ifCond .ne 9, 3) := by decide +kernel
theorem dX12_path_135 : decode cX12_path 135 = .ok (.bipush (-2), 2) := by decide +kernel
theorem dX12_path_137 : decode cX12_path 137 = .ok (.iload 7, 2) := by decide +kernel
theorem dX12_path_139 : decode cX12_path 139 = .ok (.isub, 1) := by decide +kernel
theorem dX12_path_140 : decode cX12_path 140 = .ok (.ireturn, 1) := by decide +kernel
theorem dX12_path_141 : decode cX12_path 141 = .ok (.iload_n 3, 1) := by decide +kernel
theorem dX12_path_142 : decode cX12_path 142 = .ok (.iload_n 3, 1) := by decide +kernel
theorem dX12_path_143 : decode cX12_path 143 = .ok (.iload 9, 2) := by decide +kernel
theorem dX12_path_145 : decode cX12_path 145 = .ok (.invokestatic 282, 3) := by decide +kernel
theorem dX12_path_148 : decode cX12_path 148 = .ok (.invokestatic 128, 3) := by decide +kernel
theorem dX12_path_151 : decode cX12_path 151 = .ok (.istore 10, 2) := by decide +kernel
theorem dX12_path_153 : decode cX12_path 153 = .ok (.iload 4, 2) := by decide +kernel
theorem dX12_path_155 : decode cX12_path 155 = .ok (.iload 4, 2) := by decide +kernel
theorem dX12_path_157 : decode cX12_path 157 = .ok (.iload 9, 2) := by decide +kernel
theorem dX12_path_159 : decode cX12_path 159 = .ok (.invokestatic 285, 3) := by decide +kernel
theorem dX12_path_162 : decode cX12_path 162 = .ok (.invokestatic 128, 3) := by decide +kernel
theorem dX12_path_165 : decode cX12_path 165 = .ok (.istore 11, 2) := by decide +kernel
theorem dX12_path_167 : decode cX12_path 167 = .ok (.iload 9, 2) := by decide +kernel
theorem dX12_path_169 : decode cX12_path 169 = .ok (.iconst 2, 1) := by decide +kernel
theorem dX12_path_170 : decode cX12_path 170 = .ok (.if_icmp .ge 7, 3) := by decide +kernel
theorem dX12_path_173 : decode cX12_path 173 = .ok (.iconst 1, 1) := by decide +kernel
theorem dX12_path_174 : decode cX12_path 174 = .ok (.goto 4, 3) := by decide +kernel
theorem dX12_path_177 : decode cX12_path 177 = .ok (.iconst (-1), 1) := by decide +kernel
theorem dX12_path_178 : decode cX12_path 178 = .ok (.istore 12, 2) := by decide +kernel
theorem dX12_path_180 : decode cX12_path 180 = .ok (.iload 5, 2) := by decide +kernel
theorem dX12_path_182 : decode cX12_path 182 = .ok (.iload 12, 2) := by decide +kernel
theorem dX12_path_184 : decode cX12_path 184 = .ok (.aload_n 0, 1) := by decide +kernel
theorem dX12_path_185 : decode cX12_path 185 = .ok (.iload 10, 2) := by decide +kernel
theorem dX12_path_187 : decode cX12_path 187 = .ok (.iload 11, 2) := by decide +kernel
theorem dX12_path_189 : decode cX12_path 189 = .ok (.iload 9, 2) := by decide +kernel
theorem dX12_path_191 : decode cX12_path 191 = .ok (.iconst 2, 1) := by decide +kernel
theorem dX12_path_192 : decode cX12_path 192 = .ok (.irem, 1) := by decide +kernel
theorem dX12_path_193 : decode cX12_path 193 = .ok (.iconst 1, 1) := by decide +kernel
theorem dX12_path_194 : decode cX12_path 194 = .ok (.if_icmp .ne 7, 3) := by decide +kernel
theorem dX12_path_197 : decode cX12_path 197 = .ok (.iconst 1, 1) := by decide +kernel
theorem dX12_path_198 : decode cX12_path 198 = .ok (.goto 4, 3) := by decide +kernel
theorem dX12_path_201 : decode cX12_path 201 = .ok (.iconst 0, 1) := by decide +kernel
theorem dX12_path_202 : decode cX12_path 202 = .ok (.iconst 0, 1) := by decide +kernel
theorem dX12_path_203 : decode cX12_path 203 = .ok (.invokevirtual 218, 3) := by decide +kernel
theorem dX12_path_206 : decode cX12_path 206 = .ok (.imul, 1) := by decide +kernel
theorem dX12_path_207 : decode cX12_path 207 = .ok (.iadd, 1) := by decide +kernel
theorem dX12_path_208 : decode cX12_path 208 = .ok (.istore 5, 2) := by decide +kernel
theorem dX12_path_210 : decode cX12_path 210 = .ok (.iload 6, 2) := by decide +kernel
theorem dX12_path_212 : decode cX12_path 212 = .ok (.iload 12, 2) := by decide +kernel
theorem dX12_path_214 : decode cX12_path 214 = .ok (.aload_n 0, 1) := by decide +kernel
theorem dX12_path_215 : decode cX12_path 215 = .ok (.iload 10, 2) := by decide +kernel
theorem dX12_path_217 : decode cX12_path 217 = .ok (.iload 11, 2) := by decide +kernel
theorem dX12_path_219 : decode cX12_path 219 = .ok (.iload 9, 2) := by decide +kernel
theorem dX12_path_221 : decode cX12_path 221 = .ok (.iconst 2, 1) := by decide +kernel
theorem dX12_path_222 : decode cX12_path 222 = .ok (.irem, 1) := by decide +kernel
theorem dX12_path_223 : decode cX12_path 223 = .ok (.iconst 1, 1) := by decide +kernel
theorem dX12_path_224 : decode cX12_path 224 = .ok (.if_icmp .ne 7, 3) := by decide +kernel
theorem dX12_path_227 : decode cX12_path 227 = .ok (.iconst 1, 1) := by decide +kernel
theorem dX12_path_228 : decode cX12_path 228 = .ok (.goto 4, 3) := by decide +kernel
theorem dX12_path_231 : decode cX12_path 231 = .ok (.iconst 0, 1) := by decide +kernel
theorem dX12_path_232 : decode cX12_path 232 = .ok (.iconst 1, 1) := by decide +kernel
theorem dX12_path_233 : decode cX12_path 233 = .ok (.invokevirtual 218, 3) := by decide +kernel
theorem dX12_path_236 : decode cX12_path 236 = .ok (.imul, 1) := by decide +kernel
theorem dX12_path_237 : decode cX12_path 237 = .ok (.iadd, 1) := by decide +kernel
theorem dX12_path_238 : decode cX12_path 238 = .ok (.istore 6, 2) := by decide +kernel
theorem dX12_path_240 : decode cX12_path 240 = .ok (.iload_n 3, 1) := by decide +kernel
theorem dX12_path_241 : decode cX12_path 241 = .ok (.iload 9, 2) := by decide +kernel
theorem dX12_path_243 : decode cX12_path 243 = .ok (.invokestatic 282, 3) := by decide +kernel
theorem dX12_path_246 : decode cX12_path 246 = .ok (.istore 13, 2) := by decide +kernel
theorem dX12_path_248 : decode cX12_path 248 = .ok (.iload 4, 2) := by decide +kernel
theorem dX12_path_250 : decode cX12_path 250 = .ok (.iload 9, 2) := by decide +kernel
theorem dX12_path_252 : decode cX12_path 252 = .ok (.invokestatic 285, 3) := by decide +kernel
theorem dX12_path_255 : decode cX12_path 255 = .ok (.istore 4, 2) := by decide +kernel
theorem dX12_path_257 : decode cX12_path 257 = .ok (.iload 13, 2) := by decide +kernel
theorem dX12_path_259 : decode cX12_path 259 = .ok (.istore_n 3, 1) := by decide +kernel
theorem dX12_path_260 : decode cX12_path 260 = .ok (.iinc 7 1, 3) := by decide +kernel
theorem dX12_path_263 : decode cX12_path 263 = .ok (.goto (-226), 3) := by decide +kernel
theorem dX12_path_266 : decode cX12_path 266 = .ok (.aload_n 0, 1) := by decide +kernel
theorem dX12_path_267 : decode cX12_path 267 = .ok (.getfield 62, 3) := by decide +kernel
theorem dX12_path_270 : decode cX12_path 270 = .ok (.iconst 0, 1) := by decide +kernel
theorem dX12_path_271 : decode cX12_path 271 = .ok (.iload 5, 2) := by decide +kernel
theorem dX12_path_273 : decode cX12_path 273 = .ok (.iastore, 1) := by decide +kernel
theorem dX12_path_274 : decode cX12_path 274 = .ok (.aload_n 0, 1) := by decide +kernel
theorem dX12_path_275 : decode cX12_path 275 = .ok (.getfield 62, 3) := by decide +kernel
theorem dX12_path_278 : decode cX12_path 278 = .ok (.iconst 1, 1) := by decide +kernel
theorem dX12_path_279 : decode cX12_path 279 = .ok (.iload 6, 2) := by decide +kernel
theorem dX12_path_281 : decode cX12_path 281 = .ok (.iastore, 1) := by decide +kernel
theorem dX12_path_282 : decode cX12_path 282 = .ok (.aload_n 0, 1) := by decide +kernel
theorem dX12_path_283 : decode cX12_path 283 = .ok (.getfield 62, 3) := by decide +kernel
theorem dX12_path_286 : decode cX12_path 286 = .ok (.iconst 2, 1) := by decide +kernel
theorem dX12_path_287 : decode cX12_path 287 = .ok (.aload_n 0, 1) := by decide +kernel
theorem dX12_path_288 : decode cX12_path 288 = .ok (.getfield 94, 3) := by decide +kernel
theorem dX12_path_291 : decode cX12_path 291 = .ok (.iastore, 1) := by decide +kernel
theorem dX12_path_292 : decode cX12_path 292 = .ok (.aload_n 0, 1) := by decide +kernel
theorem dX12_path_293 : decode cX12_path 293 = .ok (.getfield 62, 3) := by decide +kernel
theorem dX12_path_296 : decode cX12_path 296 = .ok (.iconst 3, 1) := by decide +kernel
theorem dX12_path_297 : decode cX12_path 297 = .ok (.iload_n 3, 1) := by decide +kernel
theorem dX12_path_298 : decode cX12_path 298 = .ok (.iastore, 1) := by decide +kernel
theorem dX12_path_299 : decode cX12_path 299 = .ok (.aload_n 0, 1) := by decide +kernel
theorem dX12_path_300 : decode cX12_path 300 = .ok (.getfield 62, 3) := by decide +kernel
theorem dX12_path_303 : decode cX12_path 303 = .ok (.iconst 4, 1) := by decide +kernel
theorem dX12_path_304 : decode cX12_path 304 = .ok (.iload 4, 2) := by decide +kernel
theorem dX12_path_306 : decode cX12_path 306 = .ok (.iastore, 1) := by decide +kernel
theorem dX12_path_307 : decode cX12_path 307 = .ok (.aload_n 0, 1) := by decide +kernel
theorem dX12_path_308 : decode cX12_path 308 = .ok (.iconst 1, 1) := by decide +kernel
theorem dX12_path_309 : decode cX12_path 309 = .ok (.putfield 235, 3) := by decide +kernel
theorem dX12_path_312 : decode cX12_path 312 = .ok (.aload_n 0, 1) := by decide +kernel
theorem dX12_path_313 : decode cX12_path 313 = .ok (.iconst 0, 1) := by decide +kernel
theorem dX12_path_314 : decode cX12_path 314 = .ok (.putfield 94, 3) := by decide +kernel
theorem dX12_path_317 : decode cX12_path 317 = .ok (.iload_n 3, 1) := by decide +kernel
theorem dX12_path_318 : decode cX12_path 318 = .ok (.iload_n 1, 1) := by decide +kernel
theorem dX12_path_319 : decode cX12_path 319 = .ok (.if_icmp .ne 13, 3) := by decide +kernel
theorem dX12_path_322 : decode cX12_path 322 = .ok (.iload 4, 2) := by decide +kernel
theorem dX12_path_324 : decode cX12_path 324 = .ok (.iload_n 2, 1) := by decide +kernel
theorem dX12_path_325 : decode cX12_path 325 = .ok (.if_icmp .ne 7, 3) := by decide +kernel
theorem dX12_path_328 : decode cX12_path 328 = .ok (.iconst 1, 1) := by decide +kernel
theorem dX12_path_329 : decode cX12_path 329 = .ok (.goto 4, 3) := by decide +kernel
theorem dX12_path_332 : decode cX12_path 332 = .ok (.iconst 0, 1) := by decide +kernel
theorem dX12_path_333 : decode cX12_path 333 = .ok (.ireturn, 1) := by decide +kernel
theorem dX12_placeAlong_0 : decode cX12_placeAlong 0 = .ok (.iload_n 2, 1) := by decide +kernel
theorem dX12_placeAlong_1 : decode cX12_placeAlong 1 = .ok (.ifCond .ne 12, 3) := by decide +kernel
theorem dX12_placeAlong_4 : decode cX12_placeAlong 4 = .ok (.aload_n 0, 1) := by decide +kernel
theorem dX12_placeAlong_5 : decode cX12_placeAlong 5 = .ok (.getfield 34, 3) := by decide +kernel
theorem dX12_placeAlong_8 : decode cX12_placeAlong 8 = .ok (.iload_n 1, 1) := by decide +kernel
theorem dX12_placeAlong_9 : decode cX12_placeAlong 9 = .ok (.iaload, 1) := by decide +kernel
theorem dX12_placeAlong_10 : decode cX12_placeAlong 10 = .ok (.goto 9, 3) := by decide +kernel
theorem dX12_placeAlong_13 : decode cX12_placeAlong 13 = .ok (.aload_n 0, 1) := by decide +kernel
theorem dX12_placeAlong_14 : decode cX12_placeAlong 14 = .ok (.getfield 37, 3) := by decide +kernel
theorem dX12_placeAlong_17 : decode cX12_placeAlong 17 = .ok (.iload_n 1, 1) := by decide +kernel
theorem dX12_placeAlong_18 : decode cX12_placeAlong 18 = .ok (.iaload, 1) := by decide +kernel
theorem dX12_placeAlong_19 : decode cX12_placeAlong 19 = .ok (.ireturn, 1) := by decide +kernel
theorem dX12_putAside_0 : decode cX12_putAside 0 = .ok (.iconst 0, 1) := by decide +kernel
theorem dX12_putAside_1 : decode cX12_putAside 1 = .ok (.istore_n 1, 1) := by decide +kernel
theorem dX12_putAside_2 : decode cX12_putAside 2 = .ok (.iload_n 1, 1) := by decide +kernel
theorem dX12_putAside_3 : decode cX12_putAside 3 = .ok (.sipush 486, 3) := by decide +kernel
theorem dX12_putAside_6 : decode cX12_putAside 6 = .ok (.if_icmp .ge 21, 3) := by decide +kernel
theorem dX12_putAside_9 : decode cX12_putAside 9 = .ok (.aload_n 0, 1) := by decide +kernel
theorem dX12_putAside_10 : decode cX12_putAside 10 = .ok (.getfield 80, 3) := by decide +kernel
theorem dX12_putAside_13 : decode cX12_putAside 13 = .ok (.iload_n 1, 1) := by decide +kernel
theorem dX12_putAside_14 : decode cX12_putAside 14 = .ok (.aload_n 0, 1) := by decide +kernel
theorem dX12_putAside_15 : decode cX12_putAside 15 = .ok (.getfield 28, 3) := by decide +kernel
theorem dX12_putAside_18 : decode cX12_putAside 18 = .ok (.iload_n 1, 1) := by decide +kernel
theorem dX12_putAside_19 : decode cX12_putAside 19 = .ok (.iaload, 1) := by decide +kernel
theorem dX12_putAside_20 : decode cX12_putAside 20 = .ok (.iastore, 1) := by decide +kernel
theorem dX12_putAside_21 : decode cX12_putAside 21 = .ok (.iinc 1 1, 3) := by decide +kernel
theorem dX12_putAside_24 : decode cX12_putAside 24 = .ok (.goto (-22), 3) := by decide +kernel
theorem dX12_putAside_27 : decode cX12_putAside 27 = .ok (.return_, 1) := by decide +kernel
theorem dX12_readsAll_0 : decode cX12_readsAll 0 = .ok (.aload_n 0, 1) := by decide +kernel
theorem dX12_readsAll_1 : decode cX12_readsAll 1 = .ok (.iconst 0, 1) := by decide +kernel
theorem dX12_readsAll_2 : decode cX12_readsAll 2 = .ok (.putfield 101, 3) := by decide +kernel
theorem dX12_readsAll_5 : decode cX12_readsAll 5 = .ok (.aload_n 0, 1) := by decide +kernel
theorem dX12_readsAll_6 : decode cX12_readsAll 6 = .ok (.iconst (-1), 1) := by decide +kernel
theorem dX12_readsAll_7 : decode cX12_readsAll 7 = .ok (.putfield 134, 3) := by decide +kernel
theorem dX12_readsAll_10 : decode cX12_readsAll 10 = .ok (.aload_n 0, 1) := by decide +kernel
theorem dX12_readsAll_11 : decode cX12_readsAll 11 = .ok (.iconst 0, 1) := by decide +kernel
theorem dX12_readsAll_12 : decode cX12_readsAll 12 = .ok (.putfield 153, 3) := by decide +kernel
theorem dX12_readsAll_15 : decode cX12_readsAll 15 = .ok (.aload_n 0, 1) := by decide +kernel
theorem dX12_readsAll_16 : decode cX12_readsAll 16 = .ok (.iconst 0, 1) := by decide +kernel
theorem dX12_readsAll_17 : decode cX12_readsAll 17 = .ok (.putfield 180, 3) := by decide +kernel
theorem dX12_readsAll_20 : decode cX12_readsAll 20 = .ok (.aload_n 0, 1) := by decide +kernel
theorem dX12_readsAll_21 : decode cX12_readsAll 21 = .ok (.iconst 0, 1) := by decide +kernel
theorem dX12_readsAll_22 : decode cX12_readsAll 22 = .ok (.putfield 186, 3) := by decide +kernel
theorem dX12_readsAll_25 : decode cX12_readsAll 25 = .ok (.aload_n 0, 1) := by decide +kernel
theorem dX12_readsAll_26 : decode cX12_readsAll 26 = .ok (.iconst 0, 1) := by decide +kernel
theorem dX12_readsAll_27 : decode cX12_readsAll 27 = .ok (.putfield 191, 3) := by decide +kernel
theorem dX12_readsAll_30 : decode cX12_readsAll 30 = .ok (.aload_n 0, 1) := by decide +kernel
theorem dX12_readsAll_31 : decode cX12_readsAll 31 = .ok (.getfield 25, 3) := by decide +kernel
theorem dX12_readsAll_34 : decode cX12_readsAll 34 = .ok (.iconst 0, 1) := by decide +kernel
theorem dX12_readsAll_35 : decode cX12_readsAll 35 = .ok (.iconst 0, 1) := by decide +kernel
theorem dX12_readsAll_36 : decode cX12_readsAll 36 = .ok (.iastore, 1) := by decide +kernel
theorem dX12_readsAll_37 : decode cX12_readsAll 37 = .ok (.aload_n 0, 1) := by decide +kernel
theorem dX12_readsAll_38 : decode cX12_readsAll 38 = .ok (.getfield 25, 3) := by decide +kernel
theorem dX12_readsAll_41 : decode cX12_readsAll 41 = .ok (.iconst 1, 1) := by decide +kernel
theorem dX12_readsAll_42 : decode cX12_readsAll 42 = .ok (.iconst 0, 1) := by decide +kernel
theorem dX12_readsAll_43 : decode cX12_readsAll 43 = .ok (.iastore, 1) := by decide +kernel
theorem dX12_readsAll_44 : decode cX12_readsAll 44 = .ok (.aload_n 0, 1) := by decide +kernel
theorem dX12_readsAll_45 : decode cX12_readsAll 45 = .ok (.getfield 25, 3) := by decide +kernel
theorem dX12_readsAll_48 : decode cX12_readsAll 48 = .ok (.iconst 2, 1) := by decide +kernel
theorem dX12_readsAll_49 : decode cX12_readsAll 49 = .ok (.bipush 10, 2) := by decide +kernel
theorem dX12_readsAll_51 : decode cX12_readsAll 51 = .ok (.iastore, 1) := by decide +kernel
theorem dX12_readsAll_52 : decode cX12_readsAll 52 = .ok (.aload_n 0, 1) := by decide +kernel
theorem dX12_readsAll_53 : decode cX12_readsAll 53 = .ok (.getfield 25, 3) := by decide +kernel
theorem dX12_readsAll_56 : decode cX12_readsAll 56 = .ok (.iconst 3, 1) := by decide +kernel
theorem dX12_readsAll_57 : decode cX12_readsAll 57 = .ok (.iconst 0, 1) := by decide +kernel
theorem dX12_readsAll_58 : decode cX12_readsAll 58 = .ok (.iastore, 1) := by decide +kernel
theorem dX12_readsAll_59 : decode cX12_readsAll 59 = .ok (.aload_n 0, 1) := by decide +kernel
theorem dX12_readsAll_60 : decode cX12_readsAll 60 = .ok (.invokevirtual 147, 3) := by decide +kernel
theorem dX12_readsAll_63 : decode cX12_readsAll 63 = .ok (.aload_n 0, 1) := by decide +kernel
theorem dX12_readsAll_64 : decode cX12_readsAll 64 = .ok (.ldc 194, 2) := by decide +kernel
theorem dX12_readsAll_66 : decode cX12_readsAll 66 = .ok (.invokevirtual 171, 3) := by decide +kernel
theorem dX12_readsAll_69 : decode cX12_readsAll 69 = .ok (.ifCond .ne 10, 3) := by decide +kernel
theorem dX12_readsAll_72 : decode cX12_readsAll 72 = .ok (.aload_n 0, 1) := by decide +kernel
theorem dX12_readsAll_73 : decode cX12_readsAll 73 = .ok (.invokevirtual 150, 3) := by decide +kernel
theorem dX12_readsAll_76 : decode cX12_readsAll 76 = .ok (.goto 7, 3) := by decide +kernel
theorem dX12_readsAll_79 : decode cX12_readsAll 79 = .ok (.aload_n 0, 1) := by decide +kernel
theorem dX12_readsAll_80 : decode cX12_readsAll 80 = .ok (.invokevirtual 147, 3) := by decide +kernel
theorem dX12_readsAll_83 : decode cX12_readsAll 83 = .ok (.aload_n 0, 1) := by decide +kernel
theorem dX12_readsAll_84 : decode cX12_readsAll 84 = .ok (.aload_n 0, 1) := by decide +kernel
theorem dX12_readsAll_85 : decode cX12_readsAll 85 = .ok (.iconst 2, 1) := by decide +kernel
theorem dX12_readsAll_86 : decode cX12_readsAll 86 = .ok (.bipush 9, 2) := by decide +kernel
theorem dX12_readsAll_88 : decode cX12_readsAll 88 = .ok (.invokevirtual 159, 3) := by decide +kernel
theorem dX12_readsAll_91 : decode cX12_readsAll 91 = .ok (.putfield 156, 3) := by decide +kernel
theorem dX12_readsAll_94 : decode cX12_readsAll 94 = .ok (.aload_n 0, 1) := by decide +kernel
theorem dX12_readsAll_95 : decode cX12_readsAll 95 = .ok (.aload_n 0, 1) := by decide +kernel
theorem dX12_readsAll_96 : decode cX12_readsAll 96 = .ok (.iconst 2, 1) := by decide +kernel
theorem dX12_readsAll_97 : decode cX12_readsAll 97 = .ok (.bipush 9, 2) := by decide +kernel
theorem dX12_readsAll_99 : decode cX12_readsAll 99 = .ok (.invokevirtual 159, 3) := by decide +kernel
theorem dX12_readsAll_102 : decode cX12_readsAll 102 = .ok (.putfield 166, 3) := by decide +kernel
theorem dX12_readsAll_105 : decode cX12_readsAll 105 = .ok (.aload_n 0, 1) := by decide +kernel
theorem dX12_readsAll_106 : decode cX12_readsAll 106 = .ok (.bipush 59, 2) := by decide +kernel
theorem dX12_readsAll_108 : decode cX12_readsAll 108 = .ok (.invokevirtual 196, 3) := by decide +kernel
theorem dX12_readsAll_111 : decode cX12_readsAll 111 = .ok (.ifCond .eq 10, 3) := by decide +kernel
theorem dX12_readsAll_114 : decode cX12_readsAll 114 = .ok (.aload_n 0, 1) := by decide +kernel
theorem dX12_readsAll_115 : decode cX12_readsAll 115 = .ok (.invokevirtual 199, 3) := by decide +kernel
theorem dX12_readsAll_118 : decode cX12_readsAll 118 = .ok (.goto (-13), 3) := by decide +kernel
theorem dX12_readsAll_121 : decode cX12_readsAll 121 = .ok (.aload_n 0, 1) := by decide +kernel
theorem dX12_readsAll_122 : decode cX12_readsAll 122 = .ok (.getfield 134, 3) := by decide +kernel
theorem dX12_readsAll_125 : decode cX12_readsAll 125 = .ok (.iconst (-1), 1) := by decide +kernel
theorem dX12_readsAll_126 : decode cX12_readsAll 126 = .ok (.if_icmp .ne 14, 3) := by decide +kernel
theorem dX12_readsAll_129 : decode cX12_readsAll 129 = .ok (.aload_n 0, 1) := by decide +kernel
theorem dX12_readsAll_130 : decode cX12_readsAll 130 = .ok (.getfield 111, 3) := by decide +kernel
theorem dX12_readsAll_133 : decode cX12_readsAll 133 = .ok (.ifCond .eq 7, 3) := by decide +kernel
theorem dX12_readsAll_136 : decode cX12_readsAll 136 = .ok (.aload_n 0, 1) := by decide +kernel
theorem dX12_readsAll_137 : decode cX12_readsAll 137 = .ok (.invokevirtual 150, 3) := by decide +kernel
theorem dX12_readsAll_140 : decode cX12_readsAll 140 = .ok (.aload_n 0, 1) := by decide +kernel
theorem dX12_readsAll_141 : decode cX12_readsAll 141 = .ok (.getfield 134, 3) := by decide +kernel
theorem dX12_readsAll_144 : decode cX12_readsAll 144 = .ok (.ireturn, 1) := by decide +kernel
theorem dX12_readsCore_0 : decode cX12_readsCore 0 = .ok (.aload_n 0, 1) := by decide +kernel
theorem dX12_readsCore_1 : decode cX12_readsCore 1 = .ok (.invokevirtual 147, 3) := by decide +kernel
theorem dX12_readsCore_4 : decode cX12_readsCore 4 = .ok (.aload_n 0, 1) := by decide +kernel
theorem dX12_readsCore_5 : decode cX12_readsCore 5 = .ok (.iconst 0, 1) := by decide +kernel
theorem dX12_readsCore_6 : decode cX12_readsCore 6 = .ok (.aload_n 0, 1) := by decide +kernel
theorem dX12_readsCore_7 : decode cX12_readsCore 7 = .ok (.getfield 156, 3) := by decide +kernel
theorem dX12_readsCore_10 : decode cX12_readsCore 10 = .ok (.iconst 2, 1) := by decide +kernel
theorem dX12_readsCore_11 : decode cX12_readsCore 11 = .ok (.isub, 1) := by decide +kernel
theorem dX12_readsCore_12 : decode cX12_readsCore 12 = .ok (.invokevirtual 159, 3) := by decide +kernel
theorem dX12_readsCore_15 : decode cX12_readsCore 15 = .ok (.istore_n 1, 1) := by decide +kernel
theorem dX12_readsCore_16 : decode cX12_readsCore 16 = .ok (.aload_n 0, 1) := by decide +kernel
theorem dX12_readsCore_17 : decode cX12_readsCore 17 = .ok (.getfield 134, 3) := by decide +kernel
theorem dX12_readsCore_20 : decode cX12_readsCore 20 = .ok (.iconst (-1), 1) := by decide +kernel
theorem dX12_readsCore_21 : decode cX12_readsCore 21 = .ok (.if_icmp .ne 27, 3) := by decide +kernel
theorem dX12_readsCore_24 : decode cX12_readsCore 24 = .ok (.aload_n 0, 1) := by decide +kernel
theorem dX12_readsCore_25 : decode cX12_readsCore 25 = .ok (.getfield 111, 3) := by decide +kernel
theorem dX12_readsCore_28 : decode cX12_readsCore 28 = .ok (.iconst 2, 1) := by decide +kernel
theorem dX12_readsCore_29 : decode cX12_readsCore 29 = .ok (.if_icmp .ne 19, 3) := by decide +kernel
theorem dX12_readsCore_32 : decode cX12_readsCore 32 = .ok (.aload_n 0, 1) := by decide +kernel
theorem dX12_readsCore_33 : decode cX12_readsCore 33 = .ok (.iload_n 1, 1) := by decide +kernel
theorem dX12_readsCore_34 : decode cX12_readsCore 34 = .ok (.aload_n 0, 1) := by decide +kernel
theorem dX12_readsCore_35 : decode cX12_readsCore 35 = .ok (.getfield 125, 3) := by decide +kernel
theorem dX12_readsCore_38 : decode cX12_readsCore 38 = .ok (.invokevirtual 162, 3) := by decide +kernel
theorem dX12_readsCore_41 : decode cX12_readsCore 41 = .ok (.ifCond .eq 7, 3) := by decide +kernel
theorem dX12_readsCore_44 : decode cX12_readsCore 44 = .ok (.aload_n 0, 1) := by decide +kernel
theorem dX12_readsCore_45 : decode cX12_readsCore 45 = .ok (.invokevirtual 150, 3) := by decide +kernel
theorem dX12_readsCore_48 : decode cX12_readsCore 48 = .ok (.aload_n 0, 1) := by decide +kernel
theorem dX12_readsCore_49 : decode cX12_readsCore 49 = .ok (.iconst 0, 1) := by decide +kernel
theorem dX12_readsCore_50 : decode cX12_readsCore 50 = .ok (.aload_n 0, 1) := by decide +kernel
theorem dX12_readsCore_51 : decode cX12_readsCore 51 = .ok (.getfield 166, 3) := by decide +kernel
theorem dX12_readsCore_54 : decode cX12_readsCore 54 = .ok (.iconst 2, 1) := by decide +kernel
theorem dX12_readsCore_55 : decode cX12_readsCore 55 = .ok (.isub, 1) := by decide +kernel
theorem dX12_readsCore_56 : decode cX12_readsCore 56 = .ok (.invokevirtual 159, 3) := by decide +kernel
theorem dX12_readsCore_59 : decode cX12_readsCore 59 = .ok (.istore_n 2, 1) := by decide +kernel
theorem dX12_readsCore_60 : decode cX12_readsCore 60 = .ok (.aload_n 0, 1) := by decide +kernel
theorem dX12_readsCore_61 : decode cX12_readsCore 61 = .ok (.bipush (-2), 2) := by decide +kernel
theorem dX12_readsCore_63 : decode cX12_readsCore 63 = .ok (.iconst 2, 1) := by decide +kernel
theorem dX12_readsCore_64 : decode cX12_readsCore 64 = .ok (.invokevirtual 159, 3) := by decide +kernel
theorem dX12_readsCore_67 : decode cX12_readsCore 67 = .ok (.istore_n 3, 1) := by decide +kernel
theorem dX12_readsCore_68 : decode cX12_readsCore 68 = .ok (.aload_n 0, 1) := by decide +kernel
theorem dX12_readsCore_69 : decode cX12_readsCore 69 = .ok (.getfield 134, 3) := by decide +kernel
theorem dX12_readsCore_72 : decode cX12_readsCore 72 = .ok (.iconst (-1), 1) := by decide +kernel
theorem dX12_readsCore_73 : decode cX12_readsCore 73 = .ok (.if_icmp .ne 26, 3) := by decide +kernel
theorem dX12_readsCore_76 : decode cX12_readsCore 76 = .ok (.aload_n 0, 1) := by decide +kernel
theorem dX12_readsCore_77 : decode cX12_readsCore 77 = .ok (.getfield 111, 3) := by decide +kernel
theorem dX12_readsCore_80 : decode cX12_readsCore 80 = .ok (.iconst 2, 1) := by decide +kernel
theorem dX12_readsCore_81 : decode cX12_readsCore 81 = .ok (.if_icmp .ne 18, 3) := by decide +kernel
theorem dX12_readsCore_84 : decode cX12_readsCore 84 = .ok (.iload_n 3, 1) := by decide +kernel
theorem dX12_readsCore_85 : decode cX12_readsCore 85 = .ok (.ifCond .ne 14, 3) := by decide +kernel
theorem dX12_readsCore_88 : decode cX12_readsCore 88 = .ok (.aload_n 0, 1) := by decide +kernel
theorem dX12_readsCore_89 : decode cX12_readsCore 89 = .ok (.getfield 125, 3) := by decide +kernel
theorem dX12_readsCore_92 : decode cX12_readsCore 92 = .ok (.ifCond .ne 7, 3) := by decide +kernel
theorem dX12_readsCore_95 : decode cX12_readsCore 95 = .ok (.aload_n 0, 1) := by decide +kernel
theorem dX12_readsCore_96 : decode cX12_readsCore 96 = .ok (.invokevirtual 150, 3) := by decide +kernel
theorem dX12_readsCore_99 : decode cX12_readsCore 99 = .ok (.aload_n 0, 1) := by decide +kernel
theorem dX12_readsCore_100 : decode cX12_readsCore 100 = .ok (.bipush (-2), 2) := by decide +kernel
theorem dX12_readsCore_102 : decode cX12_readsCore 102 = .ok (.iconst 2, 1) := by decide +kernel
theorem dX12_readsCore_103 : decode cX12_readsCore 103 = .ok (.invokevirtual 159, 3) := by decide +kernel
theorem dX12_readsCore_106 : decode cX12_readsCore 106 = .ok (.istore 4, 2) := by decide +kernel
theorem dX12_readsCore_108 : decode cX12_readsCore 108 = .ok (.aload_n 0, 1) := by decide +kernel
theorem dX12_readsCore_109 : decode cX12_readsCore 109 = .ok (.getfield 134, 3) := by decide +kernel
theorem dX12_readsCore_112 : decode cX12_readsCore 112 = .ok (.iconst (-1), 1) := by decide +kernel
theorem dX12_readsCore_113 : decode cX12_readsCore 113 = .ok (.if_icmp .ne 54, 3) := by decide +kernel
theorem dX12_readsCore_116 : decode cX12_readsCore 116 = .ok (.aload_n 0, 1) := by decide +kernel
theorem dX12_readsCore_117 : decode cX12_readsCore 117 = .ok (.getfield 13, 3) := by decide +kernel
theorem dX12_readsCore_120 : decode cX12_readsCore 120 = .ok (.aload_n 0, 1) := by decide +kernel
theorem dX12_readsCore_121 : decode cX12_readsCore 121 = .ok (.getfield 153, 3) := by decide +kernel
theorem dX12_readsCore_124 : decode cX12_readsCore 124 = .ok (.iload_n 1, 1) := by decide +kernel
theorem dX12_readsCore_125 : decode cX12_readsCore 125 = .ok (.iastore, 1) := by decide +kernel
theorem dX12_readsCore_126 : decode cX12_readsCore 126 = .ok (.aload_n 0, 1) := by decide +kernel
theorem dX12_readsCore_127 : decode cX12_readsCore 127 = .ok (.getfield 16, 3) := by decide +kernel
theorem dX12_readsCore_130 : decode cX12_readsCore 130 = .ok (.aload_n 0, 1) := by decide +kernel
theorem dX12_readsCore_131 : decode cX12_readsCore 131 = .ok (.getfield 153, 3) := by decide +kernel
theorem dX12_readsCore_134 : decode cX12_readsCore 134 = .ok (.iload_n 2, 1) := by decide +kernel
theorem dX12_readsCore_135 : decode cX12_readsCore 135 = .ok (.iastore, 1) := by decide +kernel
theorem dX12_readsCore_136 : decode cX12_readsCore 136 = .ok (.aload_n 0, 1) := by decide +kernel
theorem dX12_readsCore_137 : decode cX12_readsCore 137 = .ok (.getfield 19, 3) := by decide +kernel
theorem dX12_readsCore_140 : decode cX12_readsCore 140 = .ok (.aload_n 0, 1) := by decide +kernel
theorem dX12_readsCore_141 : decode cX12_readsCore 141 = .ok (.getfield 153, 3) := by decide +kernel
theorem dX12_readsCore_144 : decode cX12_readsCore 144 = .ok (.iload_n 3, 1) := by decide +kernel
theorem dX12_readsCore_145 : decode cX12_readsCore 145 = .ok (.iastore, 1) := by decide +kernel
theorem dX12_readsCore_146 : decode cX12_readsCore 146 = .ok (.aload_n 0, 1) := by decide +kernel
theorem dX12_readsCore_147 : decode cX12_readsCore 147 = .ok (.getfield 22, 3) := by decide +kernel
theorem dX12_readsCore_150 : decode cX12_readsCore 150 = .ok (.aload_n 0, 1) := by decide +kernel
theorem dX12_readsCore_151 : decode cX12_readsCore 151 = .ok (.getfield 153, 3) := by decide +kernel
theorem dX12_readsCore_154 : decode cX12_readsCore 154 = .ok (.iload 4, 2) := by decide +kernel
theorem dX12_readsCore_156 : decode cX12_readsCore 156 = .ok (.iastore, 1) := by decide +kernel
theorem dX12_readsCore_157 : decode cX12_readsCore 157 = .ok (.aload_n 0, 1) := by decide +kernel
theorem dX12_readsCore_158 : decode cX12_readsCore 158 = .ok (.dup, 1) := by decide +kernel
theorem dX12_readsCore_159 : decode cX12_readsCore 159 = .ok (.getfield 153, 3) := by decide +kernel
theorem dX12_readsCore_162 : decode cX12_readsCore 162 = .ok (.iconst 1, 1) := by decide +kernel
theorem dX12_readsCore_163 : decode cX12_readsCore 163 = .ok (.iadd, 1) := by decide +kernel
theorem dX12_readsCore_164 : decode cX12_readsCore 164 = .ok (.putfield 153, 3) := by decide +kernel
theorem dX12_readsCore_167 : decode cX12_readsCore 167 = .ok (.return_, 1) := by decide +kernel
