theorem dX12_wayless_0 : decode cX12_wayless 0 = .ok (.iconst 0, 1) := by decide +kernel
theorem dX12_wayless_1 : decode cX12_wayless 1 = .ok (.istore_n 1, 1) := by decide +kernel
theorem dX12_wayless_2 : decode cX12_wayless 2 = .ok (.iconst 0, 1) := by decide +kernel
theorem dX12_wayless_3 : decode cX12_wayless 3 = .ok (.istore_n 2, 1) := by decide +kernel
theorem dX12_wayless_4 : decode cX12_wayless 4 = .ok (.iload_n 2, 1) := by decide +kernel
theorem dX12_wayless_5 : decode cX12_wayless 5 = .ok (.aload_n 0, 1) := by decide +kernel
theorem dX12_wayless_6 : decode cX12_wayless 6 = .ok (.getfield 241, 3) := by decide +kernel
theorem dX12_wayless_9 : decode cX12_wayless 9 = .ok (.if_icmp .ge 26, 3) := by decide +kernel
theorem dX12_wayless_12 : decode cX12_wayless 12 = .ok (.iload_n 1, 1) := by decide +kernel
theorem dX12_wayless_13 : decode cX12_wayless 13 = .ok (.aload_n 0, 1) := by decide +kernel
theorem dX12_wayless_14 : decode cX12_wayless 14 = .ok (.iload_n 2, 1) := by decide +kernel
theorem dX12_wayless_15 : decode cX12_wayless 15 = .ok (.invokevirtual 269, 3) := by decide +kernel
theorem dX12_wayless_18 : decode cX12_wayless 18 = .ok (.iconst (-1), 1) := by decide +kernel
theorem dX12_wayless_19 : decode cX12_wayless 19 = .ok (.if_icmp .ne 7, 3) := by decide +kernel
theorem dX12_wayless_22 : decode cX12_wayless 22 = .ok (.iconst 1, 1) := by decide +kernel
theorem dX12_wayless_23 : decode cX12_wayless 23 = .ok (.goto 4, 3) := by decide +kernel
theorem dX12_wayless_26 : decode cX12_wayless 26 = .ok (.iconst 0, 1) := by decide +kernel
theorem dX12_wayless_27 : decode cX12_wayless 27 = .ok (.iadd, 1) := by decide +kernel
theorem dX12_wayless_28 : decode cX12_wayless 28 = .ok (.istore_n 1, 1) := by decide +kernel
theorem dX12_wayless_29 : decode cX12_wayless 29 = .ok (.iinc 2 1, 3) := by decide +kernel
theorem dX12_wayless_32 : decode cX12_wayless 32 = .ok (.goto (-28), 3) := by decide +kernel
theorem dX12_wayless_35 : decode cX12_wayless 35 = .ok (.iload_n 1, 1) := by decide +kernel
theorem dX12_wayless_36 : decode cX12_wayless 36 = .ok (.ireturn, 1) := by decide +kernel
theorem dX1_build_0 : decode cX1_build 0 = .ok (.aload_n 0, 1) := by decide +kernel
theorem dX1_build_1 : decode cX1_build 1 = .ok (.getfield 12, 3) := by decide +kernel
theorem dX1_build_4 : decode cX1_build 4 = .ok (.aload_n 1, 1) := by decide +kernel
theorem dX1_build_5 : decode cX1_build 5 = .ok (.getfield 29, 3) := by decide +kernel
theorem dX1_build_8 : decode cX1_build 8 = .ok (.aload_n 1, 1) := by decide +kernel
theorem dX1_build_9 : decode cX1_build 9 = .ok (.getfield 35, 3) := by decide +kernel
theorem dX1_build_12 : decode cX1_build 12 = .ok (.invokevirtual 38, 3) := by decide +kernel
theorem dX1_build_15 : decode cX1_build 15 = .ok (.iconst 0, 1) := by decide +kernel
theorem dX1_build_16 : decode cX1_build 16 = .ok (.istore_n 2, 1) := by decide +kernel
theorem dX1_build_17 : decode cX1_build 17 = .ok (.iload_n 2, 1) := by decide +kernel
theorem dX1_build_18 : decode cX1_build 18 = .ok (.aload_n 1, 1) := by decide +kernel
theorem dX1_build_19 : decode cX1_build 19 = .ok (.getfield 42, 3) := by decide +kernel
theorem dX1_build_22 : decode cX1_build 22 = .ok (.if_icmp .ge 81, 3) := by decide +kernel
theorem dX1_build_25 : decode cX1_build 25 = .ok (.iconst 2, 1) := by decide +kernel
theorem dX1_build_26 : decode cX1_build 26 = .ok (.iload_n 2, 1) := by decide +kernel
theorem dX1_build_27 : decode cX1_build 27 = .ok (.imul, 1) := by decide +kernel
theorem dX1_build_28 : decode cX1_build 28 = .ok (.iconst 1, 1) := by decide +kernel
theorem dX1_build_29 : decode cX1_build 29 = .ok (.iadd, 1) := by decide +kernel
theorem dX1_build_30 : decode cX1_build 30 = .ok (.aload_n 1, 1) := by decide +kernel
theorem dX1_build_31 : decode cX1_build 31 = .ok (.getfield 44, 3) := by decide +kernel
theorem dX1_build_34 : decode cX1_build 34 = .ok (.arraylength, 1) := by decide +kernel
theorem dX1_build_35 : decode cX1_build 35 = .ok (.if_icmp .ge 68, 3) := by decide +kernel
theorem dX1_build_38 : decode cX1_build 38 = .ok (.iconst 0, 1) := by decide +kernel
theorem dX1_build_39 : decode cX1_build 39 = .ok (.istore_n 3, 1) := by decide +kernel
theorem dX1_build_40 : decode cX1_build 40 = .ok (.iload_n 3, 1) := by decide +kernel
theorem dX1_build_41 : decode cX1_build 41 = .ok (.aload_n 1, 1) := by decide +kernel
theorem dX1_build_42 : decode cX1_build 42 = .ok (.getfield 44, 3) := by decide +kernel
theorem dX1_build_45 : decode cX1_build 45 = .ok (.iconst 2, 1) := by decide +kernel
theorem dX1_build_46 : decode cX1_build 46 = .ok (.iload_n 2, 1) := by decide +kernel
theorem dX1_build_47 : decode cX1_build 47 = .ok (.imul, 1) := by decide +kernel
theorem dX1_build_48 : decode cX1_build 48 = .ok (.iaload, 1) := by decide +kernel
theorem dX1_build_49 : decode cX1_build 49 = .ok (.if_icmp .gt 48, 3) := by decide +kernel
theorem dX1_build_52 : decode cX1_build 52 = .ok (.aload_n 0, 1) := by decide +kernel
theorem dX1_build_53 : decode cX1_build 53 = .ok (.getfield 12, 3) := by decide +kernel
theorem dX1_build_56 : decode cX1_build 56 = .ok (.iload_n 3, 1) := by decide +kernel
theorem dX1_build_57 : decode cX1_build 57 = .ok (.aload_n 1, 1) := by decide +kernel
theorem dX1_build_58 : decode cX1_build 58 = .ok (.getfield 44, 3) := by decide +kernel
theorem dX1_build_61 : decode cX1_build 61 = .ok (.iconst 2, 1) := by decide +kernel
theorem dX1_build_62 : decode cX1_build 62 = .ok (.iload_n 2, 1) := by decide +kernel
theorem dX1_build_63 : decode cX1_build 63 = .ok (.imul, 1) := by decide +kernel
theorem dX1_build_64 : decode cX1_build 64 = .ok (.iconst 1, 1) := by decide +kernel
theorem dX1_build_65 : decode cX1_build 65 = .ok (.iadd, 1) := by decide +kernel
theorem dX1_build_66 : decode cX1_build 66 = .ok (.iaload, 1) := by decide +kernel
theorem dX1_build_67 : decode cX1_build 67 = .ok (.iconst 1, 1) := by decide +kernel
theorem dX1_build_68 : decode cX1_build 68 = .ok (.aload_n 1, 1) := by decide +kernel
theorem dX1_build_69 : decode cX1_build 69 = .ok (.getfield 47, 3) := by decide +kernel
theorem dX1_build_72 : decode cX1_build 72 = .ok (.iconst 2, 1) := by decide +kernel
theorem dX1_build_73 : decode cX1_build 73 = .ok (.iload_n 2, 1) := by decide +kernel
theorem dX1_build_74 : decode cX1_build 74 = .ok (.imul, 1) := by decide +kernel
theorem dX1_build_75 : decode cX1_build 75 = .ok (.iaload, 1) := by decide +kernel
theorem dX1_build_76 : decode cX1_build 76 = .ok (.ineg, 1) := by decide +kernel
theorem dX1_build_77 : decode cX1_build 77 = .ok (.aload_n 1, 1) := by decide +kernel
theorem dX1_build_78 : decode cX1_build 78 = .ok (.getfield 47, 3) := by decide +kernel
theorem dX1_build_81 : decode cX1_build 81 = .ok (.iconst 2, 1) := by decide +kernel
theorem dX1_build_82 : decode cX1_build 82 = .ok (.iload_n 2, 1) := by decide +kernel
theorem dX1_build_83 : decode cX1_build 83 = .ok (.imul, 1) := by decide +kernel
theorem dX1_build_84 : decode cX1_build 84 = .ok (.iconst 1, 1) := by decide +kernel
theorem dX1_build_85 : decode cX1_build 85 = .ok (.iadd, 1) := by decide +kernel
theorem dX1_build_86 : decode cX1_build 86 = .ok (.iaload, 1) := by decide +kernel
theorem dX1_build_87 : decode cX1_build 87 = .ok (.ineg, 1) := by decide +kernel
theorem dX1_build_88 : decode cX1_build 88 = .ok (.invokevirtual 50, 3) := by decide +kernel
theorem dX1_build_91 : decode cX1_build 91 = .ok (.iinc 3 1, 3) := by decide +kernel
theorem dX1_build_94 : decode cX1_build 94 = .ok (.goto (-54), 3) := by decide +kernel
theorem dX1_build_97 : decode cX1_build 97 = .ok (.iinc 2 1, 3) := by decide +kernel
theorem dX1_build_100 : decode cX1_build 100 = .ok (.goto (-83), 3) := by decide +kernel
theorem dX1_build_103 : decode cX1_build 103 = .ok (.aload_n 0, 1) := by decide +kernel
theorem dX1_build_104 : decode cX1_build 104 = .ok (.getfield 21, 3) := by decide +kernel
theorem dX1_build_107 : decode cX1_build 107 = .ok (.aload_n 0, 1) := by decide +kernel
theorem dX1_build_108 : decode cX1_build 108 = .ok (.getfield 12, 3) := by decide +kernel
theorem dX1_build_111 : decode cX1_build 111 = .ok (.invokevirtual 54, 3) := by decide +kernel
theorem dX1_build_114 : decode cX1_build 114 = .ok (.return_, 1) := by decide +kernel
theorem dX1_clearTally_0 : decode cX1_clearTally 0 = .ok (.iconst 0, 1) := by decide +kernel
theorem dX1_clearTally_1 : decode cX1_clearTally 1 = .ok (.istore_n 1, 1) := by decide +kernel
theorem dX1_clearTally_2 : decode cX1_clearTally 2 = .ok (.iload_n 1, 1) := by decide +kernel
theorem dX1_clearTally_3 : decode cX1_clearTally 3 = .ok (.aload_n 0, 1) := by decide +kernel
theorem dX1_clearTally_4 : decode cX1_clearTally 4 = .ok (.getfield 25, 3) := by decide +kernel
theorem dX1_clearTally_7 : decode cX1_clearTally 7 = .ok (.arraylength, 1) := by decide +kernel
theorem dX1_clearTally_8 : decode cX1_clearTally 8 = .ok (.if_icmp .ge 16, 3) := by decide +kernel
theorem dX1_clearTally_11 : decode cX1_clearTally 11 = .ok (.aload_n 0, 1) := by decide +kernel
theorem dX1_clearTally_12 : decode cX1_clearTally 12 = .ok (.getfield 25, 3) := by decide +kernel
theorem dX1_clearTally_15 : decode cX1_clearTally 15 = .ok (.iload_n 1, 1) := by decide +kernel
theorem dX1_clearTally_16 : decode cX1_clearTally 16 = .ok (.iconst 0, 1) := by decide +kernel
theorem dX1_clearTally_17 : decode cX1_clearTally 17 = .ok (.iastore, 1) := by decide +kernel
theorem dX1_clearTally_18 : decode cX1_clearTally 18 = .ok (.iinc 1 1, 3) := by decide +kernel
theorem dX1_clearTally_21 : decode cX1_clearTally 21 = .ok (.goto (-19), 3) := by decide +kernel
theorem dX1_clearTally_24 : decode cX1_clearTally 24 = .ok (.return_, 1) := by decide +kernel
theorem dX1_copy_0 : decode cX1_copy 0 = .ok (.aload_n 0, 1) := by decide +kernel
theorem dX1_copy_1 : decode cX1_copy 1 = .ok (.getfield 12, 3) := by decide +kernel
theorem dX1_copy_4 : decode cX1_copy 4 = .ok (.aload_n 1, 1) := by decide +kernel
theorem dX1_copy_5 : decode cX1_copy 5 = .ok (.getfield 12, 3) := by decide +kernel
theorem dX1_copy_8 : decode cX1_copy 8 = .ok (.invokevirtual 58, 3) := by decide +kernel
theorem dX1_copy_11 : decode cX1_copy 11 = .ok (.aload_n 0, 1) := by decide +kernel
theorem dX1_copy_12 : decode cX1_copy 12 = .ok (.getfield 21, 3) := by decide +kernel
theorem dX1_copy_15 : decode cX1_copy 15 = .ok (.aload_n 0, 1) := by decide +kernel
theorem dX1_copy_16 : decode cX1_copy 16 = .ok (.getfield 12, 3) := by decide +kernel
theorem dX1_copy_19 : decode cX1_copy 19 = .ok (.invokevirtual 54, 3) := by decide +kernel
theorem dX1_copy_22 : decode cX1_copy 22 = .ok (.return_, 1) := by decide +kernel
theorem dX1_glide_0 : decode cX1_glide 0 = .ok (.aload_n 0, 1) := by decide +kernel
theorem dX1_glide_1 : decode cX1_glide 1 = .ok (.getfield 21, 3) := by decide +kernel
theorem dX1_glide_4 : decode cX1_glide 4 = .ok (.iload_n 1, 1) := by decide +kernel
theorem dX1_glide_5 : decode cX1_glide 5 = .ok (.invokevirtual 93, 3) := by decide +kernel
theorem dX1_glide_8 : decode cX1_glide 8 = .ok (.iload_n 2, 1) := by decide +kernel
theorem dX1_glide_9 : decode cX1_glide 9 = .ok (.ifCond .eq 7, 3) := by decide +kernel
theorem dX1_glide_12 : decode cX1_glide 12 = .ok (.iconst 0, 1) := by decide +kernel
theorem dX1_glide_13 : decode cX1_glide 13 = .ok (.goto 4, 3) := by decide +kernel
theorem dX1_glide_16 : decode cX1_glide 16 = .ok (.iconst 2, 1) := by decide +kernel
theorem dX1_glide_17 : decode cX1_glide 17 = .ok (.iadd, 1) := by decide +kernel
theorem dX1_glide_18 : decode cX1_glide 18 = .ok (.istore_n 3, 1) := by decide +kernel
theorem dX1_glide_19 : decode cX1_glide 19 = .ok (.aload_n 0, 1) := by decide +kernel
theorem dX1_glide_20 : decode cX1_glide 20 = .ok (.getfield 12, 3) := by decide +kernel
theorem dX1_glide_23 : decode cX1_glide 23 = .ok (.aload_n 0, 1) := by decide +kernel
theorem dX1_glide_24 : decode cX1_glide 24 = .ok (.getfield 21, 3) := by decide +kernel
theorem dX1_glide_27 : decode cX1_glide 27 = .ok (.iload_n 1, 1) := by decide +kernel
theorem dX1_glide_28 : decode cX1_glide 28 = .ok (.iconst 0, 1) := by decide +kernel
theorem dX1_glide_29 : decode cX1_glide 29 = .ok (.invokevirtual 82, 3) := by decide +kernel
theorem dX1_glide_32 : decode cX1_glide 32 = .ok (.aload_n 0, 1) := by decide +kernel
theorem dX1_glide_33 : decode cX1_glide 33 = .ok (.getfield 21, 3) := by decide +kernel
theorem dX1_glide_36 : decode cX1_glide 36 = .ok (.iload_n 1, 1) := by decide +kernel
theorem dX1_glide_37 : decode cX1_glide 37 = .ok (.iconst 1, 1) := by decide +kernel
theorem dX1_glide_38 : decode cX1_glide 38 = .ok (.invokevirtual 82, 3) := by decide +kernel
theorem dX1_glide_41 : decode cX1_glide 41 = .ok (.aload_n 0, 1) := by decide +kernel
theorem dX1_glide_42 : decode cX1_glide 42 = .ok (.getfield 21, 3) := by decide +kernel
theorem dX1_glide_45 : decode cX1_glide 45 = .ok (.iload_n 1, 1) := by decide +kernel
theorem dX1_glide_46 : decode cX1_glide 46 = .ok (.iconst 0, 1) := by decide +kernel
theorem dX1_glide_47 : decode cX1_glide 47 = .ok (.invokevirtual 90, 3) := by decide +kernel
theorem dX1_glide_50 : decode cX1_glide 50 = .ok (.aload_n 0, 1) := by decide +kernel
theorem dX1_glide_51 : decode cX1_glide 51 = .ok (.getfield 21, 3) := by decide +kernel
theorem dX1_glide_54 : decode cX1_glide 54 = .ok (.iload_n 1, 1) := by decide +kernel
theorem dX1_glide_55 : decode cX1_glide 55 = .ok (.iconst 1, 1) := by decide +kernel
theorem dX1_glide_56 : decode cX1_glide 56 = .ok (.invokevirtual 90, 3) := by decide +kernel
theorem dX1_glide_59 : decode cX1_glide 59 = .ok (.iload_n 3, 1) := by decide +kernel
theorem dX1_glide_60 : decode cX1_glide 60 = .ok (.invokevirtual 96, 3) := by decide +kernel
theorem dX1_glide_63 : decode cX1_glide 63 = .ok (.istore 4, 2) := by decide +kernel
theorem dX1_glide_65 : decode cX1_glide 65 = .ok (.aload_n 0, 1) := by decide +kernel
theorem dX1_glide_66 : decode cX1_glide 66 = .ok (.getfield 25, 3) := by decide +kernel
theorem dX1_glide_69 : decode cX1_glide 69 = .ok (.iconst 0, 1) := by decide +kernel
theorem dX1_glide_70 : decode cX1_glide 70 = .ok (.dup2, 1) := by decide +kernel
theorem dX1_glide_71 : decode cX1_glide 71 = .ok (.iaload, 1) := by decide +kernel
theorem dX1_glide_72 : decode cX1_glide 72 = .ok (.iconst 1, 1) := by decide +kernel
theorem dX1_glide_73 : decode cX1_glide 73 = .ok (.iadd, 1) := by decide +kernel
theorem dX1_glide_74 : decode cX1_glide 74 = .ok (.iastore, 1) := by decide +kernel
theorem dX1_glide_75 : decode cX1_glide 75 = .ok (.iload 4, 2) := by decide +kernel
theorem dX1_glide_77 : decode cX1_glide 77 = .ok (.iconst 2, 1) := by decide +kernel
theorem dX1_glide_78 : decode cX1_glide 78 = .ok (.if_icmp .ne 16, 3) := by decide +kernel
theorem dX1_glide_81 : decode cX1_glide 81 = .ok (.aload_n 0, 1) := by decide +kernel
theorem dX1_glide_82 : decode cX1_glide 82 = .ok (.getfield 25, 3) := by decide +kernel
theorem dX1_glide_85 : decode cX1_glide 85 = .ok (.iconst 1, 1) := by decide +kernel
theorem dX1_glide_86 : decode cX1_glide 86 = .ok (.dup2, 1) := by decide +kernel
theorem dX1_glide_87 : decode cX1_glide 87 = .ok (.iaload, 1) := by decide +kernel
theorem dX1_glide_88 : decode cX1_glide 88 = .ok (.iconst 1, 1) := by decide +kernel
theorem dX1_glide_89 : decode cX1_glide 89 = .ok (.iadd, 1) := by decide +kernel
theorem dX1_glide_90 : decode cX1_glide 90 = .ok (.iastore, 1) := by decide +kernel
theorem dX1_glide_91 : decode cX1_glide 91 = .ok (.goto 19, 3) := by decide +kernel
theorem dX1_glide_94 : decode cX1_glide 94 = .ok (.iload 4, 2) := by decide +kernel
theorem dX1_glide_96 : decode cX1_glide 96 = .ok (.iconst 3, 1) := by decide +kernel
theorem dX1_glide_97 : decode cX1_glide 97 = .ok (.if_icmp .ne 13, 3) := by decide +kernel
theorem dX1_glide_100 : decode cX1_glide 100 = .ok (.aload_n 0, 1) := by decide +kernel
theorem dX1_glide_101 : decode cX1_glide 101 = .ok (.getfield 25, 3) := by decide +kernel
theorem dX1_glide_104 : decode cX1_glide 104 = .ok (.iconst 2, 1) := by decide +kernel
theorem dX1_glide_105 : decode cX1_glide 105 = .ok (.dup2, 1) := by decide +kernel
theorem dX1_glide_106 : decode cX1_glide 106 = .ok (.iaload, 1) := by decide +kernel
theorem dX1_glide_107 : decode cX1_glide 107 = .ok (.iconst 1, 1) := by decide +kernel
theorem dX1_glide_108 : decode cX1_glide 108 = .ok (.iadd, 1) := by decide +kernel
theorem dX1_glide_109 : decode cX1_glide 109 = .ok (.iastore, 1) := by decide +kernel
theorem dX1_glide_110 : decode cX1_glide 110 = .ok (.return_, 1) := by decide +kernel
theorem dX1_init_0 : decode cX1_init 0 = .ok (.aload_n 0, 1) := by decide +kernel
theorem dX1_init_1 : decode cX1_init 1 = .ok (.invokespecial 3, 3) := by decide +kernel
theorem dX1_init_4 : decode cX1_init 4 = .ok (.aload_n 0, 1) := by decide +kernel
theorem dX1_init_5 : decode cX1_init 5 = .ok (.new 9, 3) := by decide +kernel
theorem dX1_init_8 : decode cX1_init 8 = .ok (.dup, 1) := by decide +kernel
theorem dX1_init_9 : decode cX1_init 9 = .ok (.invokespecial 11, 3) := by decide +kernel
theorem dX1_init_12 : decode cX1_init 12 = .ok (.putfield 12, 3) := by decide +kernel
theorem dX1_init_15 : decode cX1_init 15 = .ok (.aload_n 0, 1) := by decide +kernel
theorem dX1_init_16 : decode cX1_init 16 = .ok (.new 18, 3) := by decide +kernel
theorem dX1_init_19 : decode cX1_init 19 = .ok (.dup, 1) := by decide +kernel
theorem dX1_init_20 : decode cX1_init 20 = .ok (.invokespecial 20, 3) := by decide +kernel
theorem dX1_init_23 : decode cX1_init 23 = .ok (.putfield 21, 3) := by decide +kernel
theorem dX1_init_26 : decode cX1_init 26 = .ok (.aload_n 0, 1) := by decide +kernel
theorem dX1_init_27 : decode cX1_init 27 = .ok (.iconst 3, 1) := by decide +kernel
theorem dX1_init_28 : decode cX1_init 28 = .ok (.newarray .int, 2) := by decide +kernel
theorem dX1_init_30 : decode cX1_init 30 = .ok (.putfield 25, 3) := by decide +kernel
theorem dX1_init_33 : decode cX1_init 33 = .ok (.return_, 1) := by decide +kernel
theorem dX1_isUnchanged_0 : decode cX1_isUnchanged 0 = .ok (.aload_n 0, 1) := by decide +kernel
theorem dX1_isUnchanged_1 : decode cX1_isUnchanged 1 = .ok (.getfield 21, 3) := by decide +kernel
theorem dX1_isUnchanged_4 : decode cX1_isUnchanged 4 = .ok (.iload_n 1, 1) := by decide +kernel
theorem dX1_isUnchanged_5 : decode cX1_isUnchanged 5 = .ok (.iconst 0, 1) := by decide +kernel
theorem dX1_isUnchanged_6 : decode cX1_isUnchanged 6 = .ok (.invokevirtual 82, 3) := by decide +kernel
theorem dX1_isUnchanged_9 : decode cX1_isUnchanged 9 = .ok (.istore_n 2, 1) := by decide +kernel
theorem dX1_isUnchanged_10 : decode cX1_isUnchanged 10 = .ok (.aload_n 0, 1) := by decide +kernel
theorem dX1_isUnchanged_11 : decode cX1_isUnchanged 11 = .ok (.getfield 21, 3) := by decide +kernel
theorem dX1_isUnchanged_14 : decode cX1_isUnchanged 14 = .ok (.iload_n 1, 1) := by decide +kernel
theorem dX1_isUnchanged_15 : decode cX1_isUnchanged 15 = .ok (.iconst 1, 1) := by decide +kernel
theorem dX1_isUnchanged_16 : decode cX1_isUnchanged 16 = .ok (.invokevirtual 82, 3) := by decide +kernel
theorem dX1_isUnchanged_19 : decode cX1_isUnchanged 19 = .ok (.istore_n 3, 1) := by decide +kernel
theorem dX1_isUnchanged_20 : decode cX1_isUnchanged 20 = .ok (.aload_n 0, 1) := by decide +kernel
theorem dX1_isUnchanged_21 : decode cX1_isUnchanged 21 = .ok (.getfield 12, 3) := by decide +kernel
theorem dX1_isUnchanged_24 : decode cX1_isUnchanged 24 = .ok (.iload_n 2, 1) := by decide +kernel
theorem dX1_isUnchanged_25 : decode cX1_isUnchanged 25 = .ok (.iload_n 3, 1) := by decide +kernel
theorem dX1_isUnchanged_26 : decode cX1_isUnchanged 26 = .ok (.iconst 0, 1) := by decide +kernel
theorem dX1_isUnchanged_27 : decode cX1_isUnchanged 27 = .ok (.invokevirtual 86, 3) := by decide +kernel
theorem dX1_isUnchanged_30 : decode cX1_isUnchanged 30 = .ok (.aload_n 0, 1) := by decide +kernel
theorem dX1_isUnchanged_31 : decode cX1_isUnchanged 31 = .ok (.getfield 21, 3) := by decide +kernel
theorem dX1_isUnchanged_34 : decode cX1_isUnchanged 34 = .ok (.iload_n 1, 1) := by decide +kernel
theorem dX1_isUnchanged_35 : decode cX1_isUnchanged 35 = .ok (.iconst 0, 1) := by decide +kernel
theorem dX1_isUnchanged_36 : decode cX1_isUnchanged 36 = .ok (.invokevirtual 90, 3) := by decide +kernel
theorem dX1_isUnchanged_39 : decode cX1_isUnchanged 39 = .ok (.if_icmp .ne 29, 3) := by decide +kernel
theorem dX1_isUnchanged_42 : decode cX1_isUnchanged 42 = .ok (.aload_n 0, 1) := by decide +kernel
theorem dX1_isUnchanged_43 : decode cX1_isUnchanged 43 = .ok (.getfield 12, 3) := by decide +kernel
theorem dX1_isUnchanged_46 : decode cX1_isUnchanged 46 = .ok (.iload_n 2, 1) := by decide +kernel
theorem dX1_isUnchanged_47 : decode cX1_isUnchanged 47 = .ok (.iload_n 3, 1) := by decide +kernel
theorem dX1_isUnchanged_48 : decode cX1_isUnchanged 48 = .ok (.iconst 1, 1) := by decide +kernel
theorem dX1_isUnchanged_49 : decode cX1_isUnchanged 49 = .ok (.invokevirtual 86, 3) := by decide +kernel
theorem dX1_isUnchanged_52 : decode cX1_isUnchanged 52 = .ok (.aload_n 0, 1) := by decide +kernel
theorem dX1_isUnchanged_53 : decode cX1_isUnchanged 53 = .ok (.getfield 21, 3) := by decide +kernel
theorem dX1_isUnchanged_56 : decode cX1_isUnchanged 56 = .ok (.iload_n 1, 1) := by decide +kernel
theorem dX1_isUnchanged_57 : decode cX1_isUnchanged 57 = .ok (.iconst 1, 1) := by decide +kernel
theorem dX1_isUnchanged_58 : decode cX1_isUnchanged 58 = .ok (.invokevirtual 90, 3) := by decide +kernel
theorem dX1_isUnchanged_61 : decode cX1_isUnchanged 61 = .ok (.if_icmp .ne 7, 3) := by decide +kernel
theorem dX1_isUnchanged_64 : decode cX1_isUnchanged 64 = .ok (.iconst 1, 1) := by decide +kernel
theorem dX1_isUnchanged_65 : decode cX1_isUnchanged 65 = .ok (.goto 4, 3) := by decide +kernel
theorem dX1_isUnchanged_68 : decode cX1_isUnchanged 68 = .ok (.iconst 0, 1) := by decide +kernel
theorem dX1_isUnchanged_69 : decode cX1_isUnchanged 69 = .ok (.ireturn, 1) := by decide +kernel
theorem dX1_playRound_0 : decode cX1_playRound 0 = .ok (.iconst 0, 1) := by decide +kernel
theorem dX1_playRound_1 : decode cX1_playRound 1 = .ok (.istore_n 2, 1) := by decide +kernel
theorem dX1_playRound_2 : decode cX1_playRound 2 = .ok (.iload_n 2, 1) := by decide +kernel
theorem dX1_playRound_3 : decode cX1_playRound 3 = .ok (.aload_n 0, 1) := by decide +kernel
theorem dX1_playRound_4 : decode cX1_playRound 4 = .ok (.getfield 21, 3) := by decide +kernel
theorem dX1_playRound_7 : decode cX1_playRound 7 = .ok (.getfield 61, 3) := by decide +kernel
theorem dX1_playRound_10 : decode cX1_playRound 10 = .ok (.if_icmp .ge 57, 3) := by decide +kernel
theorem dX1_playRound_13 : decode cX1_playRound 13 = .ok (.aload_n 0, 1) := by decide +kernel
theorem dX1_playRound_14 : decode cX1_playRound 14 = .ok (.getfield 21, 3) := by decide +kernel
theorem dX1_playRound_17 : decode cX1_playRound 17 = .ok (.iload_n 2, 1) := by decide +kernel
theorem dX1_playRound_18 : decode cX1_playRound 18 = .ok (.aload_n 1, 1) := by decide +kernel
theorem dX1_playRound_19 : decode cX1_playRound 19 = .ok (.invokevirtual 64, 3) := by decide +kernel
theorem dX1_playRound_22 : decode cX1_playRound 22 = .ok (.istore_n 3, 1) := by decide +kernel
theorem dX1_playRound_23 : decode cX1_playRound 23 = .ok (.iconst 2, 1) := by decide +kernel
theorem dX1_playRound_24 : decode cX1_playRound 24 = .ok (.aload_n 1, 1) := by decide +kernel
theorem dX1_playRound_25 : decode cX1_playRound 25 = .ok (.arraylength, 1) := by decide +kernel
theorem dX1_playRound_26 : decode cX1_playRound 26 = .ok (.if_icmp .ge 35, 3) := by decide +kernel
theorem dX1_playRound_29 : decode cX1_playRound 29 = .ok (.iload_n 3, 1) := by decide +kernel
theorem dX1_playRound_30 : decode cX1_playRound 30 = .ok (.invokestatic 68, 3) := by decide +kernel
theorem dX1_playRound_33 : decode cX1_playRound 33 = .ok (.aload_n 1, 1) := by decide +kernel
theorem dX1_playRound_34 : decode cX1_playRound 34 = .ok (.iconst 2, 1) := by decide +kernel
theorem dX1_playRound_35 : decode cX1_playRound 35 = .ok (.iaload, 1) := by decide +kernel
theorem dX1_playRound_36 : decode cX1_playRound 36 = .ok (.if_icmp .le 25, 3) := by decide +kernel
theorem dX1_playRound_39 : decode cX1_playRound 39 = .ok (.aload_n 0, 1) := by decide +kernel
theorem dX1_playRound_40 : decode cX1_playRound 40 = .ok (.iload_n 2, 1) := by decide +kernel
theorem dX1_playRound_41 : decode cX1_playRound 41 = .ok (.invokevirtual 74, 3) := by decide +kernel
theorem dX1_playRound_44 : decode cX1_playRound 44 = .ok (.ifCond .eq 17, 3) := by decide +kernel
theorem dX1_playRound_47 : decode cX1_playRound 47 = .ok (.aload_n 0, 1) := by decide +kernel
theorem dX1_playRound_48 : decode cX1_playRound 48 = .ok (.iload_n 2, 1) := by decide +kernel
theorem dX1_playRound_49 : decode cX1_playRound 49 = .ok (.iload_n 3, 1) := by decide +kernel
theorem dX1_playRound_50 : decode cX1_playRound 50 = .ok (.ifCond .le 7, 3) := by decide +kernel
theorem dX1_playRound_53 : decode cX1_playRound 53 = .ok (.iconst 1, 1) := by decide +kernel
theorem dX1_playRound_54 : decode cX1_playRound 54 = .ok (.goto 4, 3) := by decide +kernel
theorem dX1_playRound_57 : decode cX1_playRound 57 = .ok (.iconst 0, 1) := by decide +kernel
theorem dX1_playRound_58 : decode cX1_playRound 58 = .ok (.invokevirtual 78, 3) := by decide +kernel
theorem dX1_playRound_61 : decode cX1_playRound 61 = .ok (.iinc 2 1, 3) := by decide +kernel
theorem dX1_playRound_64 : decode cX1_playRound 64 = .ok (.goto (-62), 3) := by decide +kernel
theorem dX1_playRound_67 : decode cX1_playRound 67 = .ok (.aload_n 0, 1) := by decide +kernel
theorem dX1_playRound_68 : decode cX1_playRound 68 = .ok (.getfield 21, 3) := by decide +kernel
theorem dX1_playRound_71 : decode cX1_playRound 71 = .ok (.aload_n 0, 1) := by decide +kernel
theorem dX1_playRound_72 : decode cX1_playRound 72 = .ok (.getfield 12, 3) := by decide +kernel
theorem dX1_playRound_75 : decode cX1_playRound 75 = .ok (.invokevirtual 54, 3) := by decide +kernel
theorem dX1_playRound_78 : decode cX1_playRound 78 = .ok (.return_, 1) := by decide +kernel
theorem dX2_begin_0 : decode cX2_begin 0 = .ok (.aload_n 0, 1) := by decide +kernel
theorem dX2_begin_1 : decode cX2_begin 1 = .ok (.iconst 0, 1) := by decide +kernel
theorem dX2_begin_2 : decode cX2_begin 2 = .ok (.putfield 28, 3) := by decide +kernel
theorem dX2_begin_5 : decode cX2_begin 5 = .ok (.aload_n 0, 1) := by decide +kernel
theorem dX2_begin_6 : decode cX2_begin 6 = .ok (.iconst 0, 1) := by decide +kernel
theorem dX2_begin_7 : decode cX2_begin 7 = .ok (.putfield 31, 3) := by decide +kernel
theorem dX2_begin_10 : decode cX2_begin 10 = .ok (.aload_n 0, 1) := by decide +kernel
theorem dX2_begin_11 : decode cX2_begin 11 = .ok (.aload_n 1, 1) := by decide +kernel
theorem dX2_begin_12 : decode cX2_begin 12 = .ok (.getfield 34, 3) := by decide +kernel
theorem dX2_begin_15 : decode cX2_begin 15 = .ok (.iconst 1, 1) := by decide +kernel
theorem dX2_begin_16 : decode cX2_begin 16 = .ok (.isub, 1) := by decide +kernel
theorem dX2_begin_17 : decode cX2_begin 17 = .ok (.putfield 13, 3) := by decide +kernel
theorem dX2_begin_20 : decode cX2_begin 20 = .ok (.aload_n 0, 1) := by decide +kernel
theorem dX2_begin_21 : decode cX2_begin 21 = .ok (.aload_n 1, 1) := by decide +kernel
theorem dX2_begin_22 : decode cX2_begin 22 = .ok (.getfield 39, 3) := by decide +kernel
theorem dX2_begin_25 : decode cX2_begin 25 = .ok (.iconst 1, 1) := by decide +kernel
theorem dX2_begin_26 : decode cX2_begin 26 = .ok (.isub, 1) := by decide +kernel
theorem dX2_begin_27 : decode cX2_begin 27 = .ok (.putfield 17, 3) := by decide +kernel
theorem dX2_begin_30 : decode cX2_begin 30 = .ok (.return_, 1) := by decide +kernel
theorem dX2_boxesOf_0 : decode cX2_boxesOf 0 = .ok (.aload_n 0, 1) := by decide +kernel
theorem dX2_boxesOf_1 : decode cX2_boxesOf 1 = .ok (.aload_n 1, 1) := by decide +kernel
theorem dX2_boxesOf_2 : decode cX2_boxesOf 2 = .ok (.invokevirtual 7, 3) := by decide +kernel
theorem dX2_boxesOf_5 : decode cX2_boxesOf 5 = .ok (.aload_n 0, 1) := by decide +kernel
theorem dX2_boxesOf_6 : decode cX2_boxesOf 6 = .ok (.aload_n 1, 1) := by decide +kernel
theorem dX2_boxesOf_7 : decode cX2_boxesOf 7 = .ok (.aload_n 0, 1) := by decide +kernel
theorem dX2_boxesOf_8 : decode cX2_boxesOf 8 = .ok (.getfield 13, 3) := by decide +kernel
theorem dX2_boxesOf_11 : decode cX2_boxesOf 11 = .ok (.aload_n 0, 1) := by decide +kernel
theorem dX2_boxesOf_12 : decode cX2_boxesOf 12 = .ok (.getfield 17, 3) := by decide +kernel
theorem dX2_boxesOf_15 : decode cX2_boxesOf 15 = .ok (.invokevirtual 20, 3) := by decide +kernel
theorem dX2_boxesOf_18 : decode cX2_boxesOf 18 = .ok (.ifCond .eq 5, 3) := by decide +kernel
theorem dX2_boxesOf_21 : decode cX2_boxesOf 21 = .ok (.iconst 0, 1) := by decide +kernel
theorem dX2_boxesOf_22 : decode cX2_boxesOf 22 = .ok (.ireturn, 1) := by decide +kernel
theorem dX2_boxesOf_23 : decode cX2_boxesOf 23 = .ok (.iconst 1, 1) := by decide +kernel
theorem dX2_boxesOf_24 : decode cX2_boxesOf 24 = .ok (.istore_n 2, 1) := by decide +kernel
theorem dX2_boxesOf_25 : decode cX2_boxesOf 25 = .ok (.iconst 0, 1) := by decide +kernel
theorem dX2_boxesOf_26 : decode cX2_boxesOf 26 = .ok (.istore_n 3, 1) := by decide +kernel
theorem dX2_boxesOf_27 : decode cX2_boxesOf 27 = .ok (.iload_n 3, 1) := by decide +kernel
theorem dX2_boxesOf_28 : decode cX2_boxesOf 28 = .ok (.bipush 6, 2) := by decide +kernel
theorem dX2_boxesOf_30 : decode cX2_boxesOf 30 = .ok (.if_icmp .ge 20, 3) := by decide +kernel
theorem dX2_boxesOf_33 : decode cX2_boxesOf 33 = .ok (.aload_n 0, 1) := by decide +kernel
theorem dX2_boxesOf_34 : decode cX2_boxesOf 34 = .ok (.aload_n 1, 1) := by decide +kernel
theorem dX2_boxesOf_35 : decode cX2_boxesOf 35 = .ok (.invokevirtual 24, 3) := by decide +kernel
theorem dX2_boxesOf_38 : decode cX2_boxesOf 38 = .ok (.ifCond .eq 12, 3) := by decide +kernel
theorem dX2_boxesOf_41 : decode cX2_boxesOf 41 = .ok (.iinc 2 1, 3) := by decide +kernel
theorem dX2_boxesOf_44 : decode cX2_boxesOf 44 = .ok (.iinc 3 1, 3) := by decide +kernel
theorem dX2_boxesOf_47 : decode cX2_boxesOf 47 = .ok (.goto (-20), 3) := by decide +kernel
theorem dX2_boxesOf_50 : decode cX2_boxesOf 50 = .ok (.iload_n 2, 1) := by decide +kernel
theorem dX2_boxesOf_51 : decode cX2_boxesOf 51 = .ok (.ireturn, 1) := by decide +kernel
theorem dX2_init_0 : decode cX2_init 0 = .ok (.aload_n 0, 1) := by decide +kernel
theorem dX2_init_1 : decode cX2_init 1 = .ok (.invokespecial 1, 3) := by decide +kernel
theorem dX2_init_4 : decode cX2_init 4 = .ok (.return_, 1) := by decide +kernel
theorem dX2_isPlain_0 : decode cX2_isPlain 0 = .ok (.aload_n 1, 1) := by decide +kernel
theorem dX2_isPlain_1 : decode cX2_isPlain 1 = .ok (.aload_n 0, 1) := by decide +kernel
theorem dX2_isPlain_2 : decode cX2_isPlain 2 = .ok (.getfield 28, 3) := by decide +kernel
theorem dX2_isPlain_5 : decode cX2_isPlain 5 = .ok (.aload_n 0, 1) := by decide +kernel
theorem dX2_isPlain_6 : decode cX2_isPlain 6 = .ok (.getfield 31, 3) := by decide +kernel
theorem dX2_isPlain_9 : decode cX2_isPlain 9 = .ok (.iload_n 2, 1) := by decide +kernel
theorem dX2_isPlain_10 : decode cX2_isPlain 10 = .ok (.iload_n 3, 1) := by decide +kernel
theorem dX2_isPlain_11 : decode cX2_isPlain 11 = .ok (.iconst 0, 1) := by decide +kernel
theorem dX2_isPlain_12 : decode cX2_isPlain 12 = .ok (.invokevirtual 42, 3) := by decide +kernel
theorem dX2_isPlain_15 : decode cX2_isPlain 15 = .ok (.ifCond .ne 25, 3) := by decide +kernel
theorem dX2_isPlain_18 : decode cX2_isPlain 18 = .ok (.aload_n 1, 1) := by decide +kernel
theorem dX2_isPlain_19 : decode cX2_isPlain 19 = .ok (.aload_n 0, 1) := by decide +kernel
theorem dX2_isPlain_20 : decode cX2_isPlain 20 = .ok (.getfield 28, 3) := by decide +kernel
theorem dX2_isPlain_23 : decode cX2_isPlain 23 = .ok (.aload_n 0, 1) := by decide +kernel
theorem dX2_isPlain_24 : decode cX2_isPlain 24 = .ok (.getfield 31, 3) := by decide +kernel
theorem dX2_isPlain_27 : decode cX2_isPlain 27 = .ok (.iload_n 2, 1) := by decide +kernel
theorem dX2_isPlain_28 : decode cX2_isPlain 28 = .ok (.iload_n 3, 1) := by decide +kernel
theorem dX2_isPlain_29 : decode cX2_isPlain 29 = .ok (.iconst 1, 1) := by decide +kernel
theorem dX2_isPlain_30 : decode cX2_isPlain 30 = .ok (.invokevirtual 42, 3) := by decide +kernel
theorem dX2_isPlain_33 : decode cX2_isPlain 33 = .ok (.ifCond .ne 7, 3) := by decide +kernel
theorem dX2_isPlain_36 : decode cX2_isPlain 36 = .ok (.iconst 1, 1) := by decide +kernel
theorem dX2_isPlain_37 : decode cX2_isPlain 37 = .ok (.goto 4, 3) := by decide +kernel
theorem dX2_isPlain_40 : decode cX2_isPlain 40 = .ok (.iconst 0, 1) := by decide +kernel
theorem dX2_isPlain_41 : decode cX2_isPlain 41 = .ok (.ireturn, 1) := by decide +kernel
theorem dX2_narrow_0 : decode cX2_narrow 0 = .ok (.aload_n 0, 1) := by decide +kernel
theorem dX2_narrow_1 : decode cX2_narrow 1 = .ok (.getfield 13, 3) := by decide +kernel
theorem dX2_narrow_4 : decode cX2_narrow 4 = .ok (.aload_n 0, 1) := by decide +kernel
theorem dX2_narrow_5 : decode cX2_narrow 5 = .ok (.getfield 28, 3) := by decide +kernel
theorem dX2_narrow_8 : decode cX2_narrow 8 = .ok (.isub, 1) := by decide +kernel
theorem dX2_narrow_9 : decode cX2_narrow 9 = .ok (.istore_n 2, 1) := by decide +kernel
theorem dX2_narrow_10 : decode cX2_narrow 10 = .ok (.aload_n 0, 1) := by decide +kernel
theorem dX2_narrow_11 : decode cX2_narrow 11 = .ok (.getfield 17, 3) := by decide +kernel
theorem dX2_narrow_14 : decode cX2_narrow 14 = .ok (.aload_n 0, 1) := by decide +kernel
theorem dX2_narrow_15 : decode cX2_narrow 15 = .ok (.getfield 31, 3) := by decide +kernel
theorem dX2_narrow_18 : decode cX2_narrow 18 = .ok (.isub, 1) := by decide +kernel
theorem dX2_narrow_19 : decode cX2_narrow 19 = .ok (.istore_n 3, 1) := by decide +kernel
theorem dX2_narrow_20 : decode cX2_narrow 20 = .ok (.iload_n 2, 1) := by decide +kernel
theorem dX2_narrow_21 : decode cX2_narrow 21 = .ok (.iconst 1, 1) := by decide +kernel
theorem dX2_narrow_22 : decode cX2_narrow 22 = .ok (.if_icmp .gt 10, 3) := by decide +kernel
theorem dX2_narrow_25 : decode cX2_narrow 25 = .ok (.iload_n 3, 1) := by decide +kernel
theorem dX2_narrow_26 : decode cX2_narrow 26 = .ok (.iconst 1, 1) := by decide +kernel
theorem dX2_narrow_27 : decode cX2_narrow 27 = .ok (.if_icmp .gt 5, 3) := by decide +kernel
theorem dX2_narrow_30 : decode cX2_narrow 30 = .ok (.iconst 0, 1) := by decide +kernel
theorem dX2_narrow_31 : decode cX2_narrow 31 = .ok (.ireturn, 1) := by decide +kernel
theorem dX2_narrow_32 : decode cX2_narrow 32 = .ok (.iload_n 2, 1) := by decide +kernel
theorem dX2_narrow_33 : decode cX2_narrow 33 = .ok (.iload_n 3, 1) := by decide +kernel
theorem dX2_narrow_34 : decode cX2_narrow 34 = .ok (.if_icmp .lt 45, 3) := by decide +kernel
theorem dX2_narrow_37 : decode cX2_narrow 37 = .ok (.aload_n 0, 1) := by decide +kernel
theorem dX2_narrow_38 : decode cX2_narrow 38 = .ok (.getfield 28, 3) := by decide +kernel
theorem dX2_narrow_41 : decode cX2_narrow 41 = .ok (.iload_n 2, 1) := by decide +kernel
theorem dX2_narrow_42 : decode cX2_narrow 42 = .ok (.iconst 2, 1) := by decide +kernel
theorem dX2_narrow_43 : decode cX2_narrow 43 = .ok (.idiv, 1) := by decide +kernel
theorem dX2_narrow_44 : decode cX2_narrow 44 = .ok (.iadd, 1) := by decide +kernel
theorem dX2_narrow_45 : decode cX2_narrow 45 = .ok (.istore 4, 2) := by decide +kernel
theorem dX2_narrow_47 : decode cX2_narrow 47 = .ok (.aload_n 0, 1) := by decide +kernel
theorem dX2_narrow_48 : decode cX2_narrow 48 = .ok (.aload_n 1, 1) := by decide +kernel
theorem dX2_narrow_49 : decode cX2_narrow 49 = .ok (.iload 4, 2) := by decide +kernel
theorem dX2_narrow_51 : decode cX2_narrow 51 = .ok (.aload_n 0, 1) := by decide +kernel
theorem dX2_narrow_52 : decode cX2_narrow 52 = .ok (.getfield 17, 3) := by decide +kernel
theorem dX2_narrow_55 : decode cX2_narrow 55 = .ok (.invokevirtual 20, 3) := by decide +kernel
theorem dX2_narrow_58 : decode cX2_narrow 58 = .ok (.ifCond .eq 12, 3) := by decide +kernel
theorem dX2_narrow_61 : decode cX2_narrow 61 = .ok (.aload_n 0, 1) := by decide +kernel
theorem dX2_narrow_62 : decode cX2_narrow 62 = .ok (.iload 4, 2) := by decide +kernel
theorem dX2_narrow_64 : decode cX2_narrow 64 = .ok (.putfield 28, 3) := by decide +kernel
theorem dX2_narrow_67 : decode cX2_narrow 67 = .ok (.goto 9, 3) := by decide +kernel
theorem dX2_narrow_70 : decode cX2_narrow 70 = .ok (.aload_n 0, 1) := by decide +kernel
theorem dX2_narrow_71 : decode cX2_narrow 71 = .ok (.iload 4, 2) := by decide +kernel
theorem dX2_narrow_73 : decode cX2_narrow 73 = .ok (.putfield 13, 3) := by decide +kernel
theorem dX2_narrow_76 : decode cX2_narrow 76 = .ok (.goto 42, 3) := by decide +kernel
theorem dX2_narrow_79 : decode cX2_narrow 79 = .ok (.aload_n 0, 1) := by decide +kernel
theorem dX2_narrow_80 : decode cX2_narrow 80 = .ok (.getfield 31, 3) := by decide +kernel
theorem dX2_narrow_83 : decode cX2_narrow 83 = .ok (.iload_n 3, 1) := by decide +kernel
theorem dX2_narrow_84 : decode cX2_narrow 84 = .ok (.iconst 2, 1) := by decide +kernel
theorem dX2_narrow_85 : decode cX2_narrow 85 = .ok (.idiv, 1) := by decide +kernel
theorem dX2_narrow_86 : decode cX2_narrow 86 = .ok (.iadd, 1) := by decide +kernel
theorem dX2_narrow_87 : decode cX2_narrow 87 = .ok (.istore 4, 2) := by decide +kernel
theorem dX2_narrow_89 : decode cX2_narrow 89 = .ok (.aload_n 0, 1) := by decide +kernel
theorem dX2_narrow_90 : decode cX2_narrow 90 = .ok (.aload_n 1, 1) := by decide +kernel
theorem dX2_narrow_91 : decode cX2_narrow 91 = .ok (.aload_n 0, 1) := by decide +kernel
theorem dX2_narrow_92 : decode cX2_narrow 92 = .ok (.getfield 13, 3) := by decide +kernel
theorem dX2_narrow_95 : decode cX2_narrow 95 = .ok (.iload 4, 2) := by decide +kernel
theorem dX2_narrow_97 : decode cX2_narrow 97 = .ok (.invokevirtual 20, 3) := by decide +kernel
theorem dX2_narrow_100 : decode cX2_narrow 100 = .ok (.ifCond .eq 12, 3) := by decide +kernel
theorem dX2_narrow_103 : decode cX2_narrow 103 = .ok (.aload_n 0, 1) := by decide +kernel
theorem dX2_narrow_104 : decode cX2_narrow 104 = .ok (.iload 4, 2) := by decide +kernel
theorem dX2_narrow_106 : decode cX2_narrow 106 = .ok (.putfield 31, 3) := by decide +kernel
theorem dX2_narrow_109 : decode cX2_narrow 109 = .ok (.goto 9, 3) := by decide +kernel
theorem dX2_narrow_112 : decode cX2_narrow 112 = .ok (.aload_n 0, 1) := by decide +kernel
theorem dX2_narrow_113 : decode cX2_narrow 113 = .ok (.iload 4, 2) := by decide +kernel
theorem dX2_narrow_115 : decode cX2_narrow 115 = .ok (.putfield 17, 3) := by decide +kernel
theorem dX2_narrow_118 : decode cX2_narrow 118 = .ok (.iconst 1, 1) := by decide +kernel
theorem dX2_narrow_119 : decode cX2_narrow 119 = .ok (.ireturn, 1) := by decide +kernel
theorem dX2_reach_0 : decode cX2_reach 0 = .ok (.aload_n 0, 1) := by decide +kernel
theorem dX2_reach_1 : decode cX2_reach 1 = .ok (.aload_n 1, 1) := by decide +kernel
theorem dX2_reach_2 : decode cX2_reach 2 = .ok (.invokevirtual 7, 3) := by decide +kernel
theorem dX2_reach_5 : decode cX2_reach 5 = .ok (.iconst 0, 1) := by decide +kernel
theorem dX2_reach_6 : decode cX2_reach 6 = .ok (.istore_n 3, 1) := by decide +kernel
theorem dX2_reach_7 : decode cX2_reach 7 = .ok (.iload_n 3, 1) := by decide +kernel
theorem dX2_reach_8 : decode cX2_reach 8 = .ok (.iload_n 2, 1) := by decide +kernel
theorem dX2_reach_9 : decode cX2_reach 9 = .ok (.if_icmp .ge 21, 3) := by decide +kernel
theorem dX2_reach_12 : decode cX2_reach 12 = .ok (.iload_n 3, 1) := by decide +kernel
theorem dX2_reach_13 : decode cX2_reach 13 = .ok (.bipush 6, 2) := by decide +kernel
theorem dX2_reach_15 : decode cX2_reach 15 = .ok (.if_icmp .ge 15, 3) := by decide +kernel
theorem dX2_reach_18 : decode cX2_reach 18 = .ok (.aload_n 0, 1) := by decide +kernel
theorem dX2_reach_19 : decode cX2_reach 19 = .ok (.aload_n 1, 1) := by decide +kernel
theorem dX2_reach_20 : decode cX2_reach 20 = .ok (.invokevirtual 24, 3) := by decide +kernel
theorem dX2_reach_23 : decode cX2_reach 23 = .ok (.pop, 1) := by decide +kernel
theorem dX2_reach_24 : decode cX2_reach 24 = .ok (.iinc 3 1, 3) := by decide +kernel
theorem dX2_reach_27 : decode cX2_reach 27 = .ok (.goto (-20), 3) := by decide +kernel
theorem dX2_reach_30 : decode cX2_reach 30 = .ok (.return_, 1) := by decide +kernel
theorem dX2_sideOf_0 : decode cX2_sideOf 0 = .ok (.iload_n 1, 1) := by decide +kernel
theorem dX2_sideOf_1 : decode cX2_sideOf 1 = .ok (.tableswitch 42 0 2 #[27, 32, 37], 27) := by decide +kernel
theorem dX2_sideOf_28 : decode cX2_sideOf 28 = .ok (.aload_n 0, 1) := by decide +kernel
theorem dX2_sideOf_29 : decode cX2_sideOf 29 = .ok (.getfield 28, 3) := by decide +kernel
theorem dX2_sideOf_32 : decode cX2_sideOf 32 = .ok (.ireturn, 1) := by decide +kernel
theorem dX2_sideOf_33 : decode cX2_sideOf 33 = .ok (.aload_n 0, 1) := by decide +kernel
theorem dX2_sideOf_34 : decode cX2_sideOf 34 = .ok (.getfield 31, 3) := by decide +kernel
theorem dX2_sideOf_37 : decode cX2_sideOf 37 = .ok (.ireturn, 1) := by decide +kernel
theorem dX2_sideOf_38 : decode cX2_sideOf 38 = .ok (.aload_n 0, 1) := by decide +kernel
theorem dX2_sideOf_39 : decode cX2_sideOf 39 = .ok (.getfield 13, 3) := by decide +kernel
theorem dX2_sideOf_42 : decode cX2_sideOf 42 = .ok (.ireturn, 1) := by decide +kernel
theorem dX2_sideOf_43 : decode cX2_sideOf 43 = .ok (.aload_n 0, 1) := by decide +kernel
theorem dX2_sideOf_44 : decode cX2_sideOf 44 = .ok (.getfield 17, 3) := by decide +kernel
theorem dX2_sideOf_47 : decode cX2_sideOf 47 = .ok (.ireturn, 1) := by decide +kernel
theorem dX3_add_0 : decode cX3_add 0 = .ok (.iconst 4, 1) := by decide +kernel
theorem dX3_add_1 : decode cX3_add 1 = .ok (.aload_n 0, 1) := by decide +kernel
theorem dX3_add_2 : decode cX3_add 2 = .ok (.getfield 15, 3) := by decide +kernel
theorem dX3_add_5 : decode cX3_add 5 = .ok (.bipush 40, 2) := by decide +kernel
theorem dX3_add_7 : decode cX3_add 7 = .ok (.invokestatic 25, 3) := by decide +kernel
theorem dX3_add_10 : decode cX3_add 10 = .ok (.imul, 1) := by decide +kernel
theorem dX3_add_11 : decode cX3_add 11 = .ok (.istore_n 3, 1) := by decide +kernel
theorem dX3_add_12 : decode cX3_add 12 = .ok (.iconst 0, 1) := by decide +kernel
theorem dX3_add_13 : decode cX3_add 13 = .ok (.istore 4, 2) := by decide +kernel
theorem dX3_add_15 : decode cX3_add 15 = .ok (.iload 4, 2) := by decide +kernel
theorem dX3_add_17 : decode cX3_add 17 = .ok (.aload_n 1, 1) := by decide +kernel
theorem dX3_add_18 : decode cX3_add 18 = .ok (.arraylength, 1) := by decide +kernel
theorem dX3_add_19 : decode cX3_add 19 = .ok (.if_icmp .ge 28, 3) := by decide +kernel
theorem dX3_add_22 : decode cX3_add 22 = .ok (.iload 4, 2) := by decide +kernel
theorem dX3_add_24 : decode cX3_add 24 = .ok (.iconst 3, 1) := by decide +kernel
theorem dX3_add_25 : decode cX3_add 25 = .ok (.if_icmp .ge 22, 3) := by decide +kernel
theorem dX3_add_28 : decode cX3_add 28 = .ok (.aload_n 0, 1) := by decide +kernel
theorem dX3_add_29 : decode cX3_add 29 = .ok (.getfield 11, 3) := by decide +kernel
theorem dX3_add_32 : decode cX3_add 32 = .ok (.iload_n 3, 1) := by decide +kernel
theorem dX3_add_33 : decode cX3_add 33 = .ok (.iload 4, 2) := by decide +kernel
theorem dX3_add_35 : decode cX3_add 35 = .ok (.iadd, 1) := by decide +kernel
theorem dX3_add_36 : decode cX3_add 36 = .ok (.aload_n 1, 1) := by decide +kernel
theorem dX3_add_37 : decode cX3_add 37 = .ok (.iload 4, 2) := by decide +kernel
theorem dX3_add_39 : decode cX3_add 39 = .ok (.iaload, 1) := by decide +kernel
theorem dX3_add_40 : decode cX3_add 40 = .ok (.iastore, 1) := by decide +kernel
theorem dX3_add_41 : decode cX3_add 41 = .ok (.iinc 4 1, 3) := by decide +kernel
theorem dX3_add_44 : decode cX3_add 44 = .ok (.goto (-29), 3) := by decide +kernel
theorem dX3_add_47 : decode cX3_add 47 = .ok (.aload_n 0, 1) := by decide +kernel
theorem dX3_add_48 : decode cX3_add 48 = .ok (.getfield 11, 3) := by decide +kernel
theorem dX3_add_51 : decode cX3_add 51 = .ok (.iload_n 3, 1) := by decide +kernel
theorem dX3_add_52 : decode cX3_add 52 = .ok (.iconst 4, 1) := by decide +kernel
theorem dX3_add_53 : decode cX3_add 53 = .ok (.iadd, 1) := by decide +kernel
theorem dX3_add_54 : decode cX3_add 54 = .ok (.iconst 1, 1) := by decide +kernel
theorem dX3_add_55 : decode cX3_add 55 = .ok (.isub, 1) := by decide +kernel
theorem dX3_add_56 : decode cX3_add 56 = .ok (.iload_n 2, 1) := by decide +kernel
theorem dX3_add_57 : decode cX3_add 57 = .ok (.iastore, 1) := by decide +kernel
theorem dX3_add_58 : decode cX3_add 58 = .ok (.aload_n 0, 1) := by decide +kernel
theorem dX3_add_59 : decode cX3_add 59 = .ok (.dup, 1) := by decide +kernel
theorem dX3_add_60 : decode cX3_add 60 = .ok (.getfield 15, 3) := by decide +kernel
theorem dX3_add_63 : decode cX3_add 63 = .ok (.iconst 1, 1) := by decide +kernel
theorem dX3_add_64 : decode cX3_add 64 = .ok (.iadd, 1) := by decide +kernel
theorem dX3_add_65 : decode cX3_add 65 = .ok (.putfield 15, 3) := by decide +kernel
theorem dX3_add_68 : decode cX3_add 68 = .ok (.return_, 1) := by decide +kernel
theorem dX3_entry_0 : decode cX3_entry 0 = .ok (.iload_n 2, 1) := by decide +kernel
theorem dX3_entry_1 : decode cX3_entry 1 = .ok (.ifCond .lt 33, 3) := by decide +kernel
theorem dX3_entry_4 : decode cX3_entry 4 = .ok (.iload_n 2, 1) := by decide +kernel
theorem dX3_entry_5 : decode cX3_entry 5 = .ok (.iconst 4, 1) := by decide +kernel
theorem dX3_entry_6 : decode cX3_entry 6 = .ok (.if_icmp .ge 28, 3) := by decide +kernel
theorem dX3_entry_9 : decode cX3_entry 9 = .ok (.aload_n 0, 1) := by decide +kernel
theorem dX3_entry_10 : decode cX3_entry 10 = .ok (.getfield 11, 3) := by decide +kernel
theorem dX3_entry_13 : decode cX3_entry 13 = .ok (.iconst 4, 1) := by decide +kernel
theorem dX3_entry_14 : decode cX3_entry 14 = .ok (.aload_n 0, 1) := by decide +kernel
theorem dX3_entry_15 : decode cX3_entry 15 = .ok (.getfield 15, 3) := by decide +kernel
theorem dX3_entry_18 : decode cX3_entry 18 = .ok (.iconst 1, 1) := by decide +kernel
theorem dX3_entry_19 : decode cX3_entry 19 = .ok (.isub, 1) := by decide +kernel
theorem dX3_entry_20 : decode cX3_entry 20 = .ok (.iload_n 1, 1) := by decide +kernel
theorem dX3_entry_21 : decode cX3_entry 21 = .ok (.isub, 1) := by decide +kernel
theorem dX3_entry_22 : decode cX3_entry 22 = .ok (.bipush 40, 2) := by decide +kernel
theorem dX3_entry_24 : decode cX3_entry 24 = .ok (.invokestatic 25, 3) := by decide +kernel
theorem dX3_entry_27 : decode cX3_entry 27 = .ok (.imul, 1) := by decide +kernel
theorem dX3_entry_28 : decode cX3_entry 28 = .ok (.iload_n 2, 1) := by decide +kernel
theorem dX3_entry_29 : decode cX3_entry 29 = .ok (.iadd, 1) := by decide +kernel
theorem dX3_entry_30 : decode cX3_entry 30 = .ok (.iaload, 1) := by decide +kernel
theorem dX3_entry_31 : decode cX3_entry 31 = .ok (.goto 4, 3) := by decide +kernel
theorem dX3_entry_34 : decode cX3_entry 34 = .ok (.iconst (-1), 1) := by decide +kernel
theorem dX3_entry_35 : decode cX3_entry 35 = .ok (.ireturn, 1) := by decide +kernel
theorem dX3_init_0 : decode cX3_init 0 = .ok (.aload_n 0, 1) := by decide +kernel
theorem dX3_init_1 : decode cX3_init 1 = .ok (.invokespecial 3, 3) := by decide +kernel
theorem dX3_init_4 : decode cX3_init 4 = .ok (.aload_n 0, 1) := by decide +kernel
theorem dX3_init_5 : decode cX3_init 5 = .ok (.sipush 160, 3) := by decide +kernel
theorem dX3_init_8 : decode cX3_init 8 = .ok (.newarray .int, 2) := by decide +kernel
theorem dX3_init_10 : decode cX3_init 10 = .ok (.putfield 11, 3) := by decide +kernel
theorem dX3_init_13 : decode cX3_init 13 = .ok (.return_, 1) := by decide +kernel
theorem dX3_size_0 : decode cX3_size 0 = .ok (.aload_n 0, 1) := by decide +kernel
theorem dX3_size_1 : decode cX3_size 1 = .ok (.getfield 15, 3) := by decide +kernel
theorem dX3_size_4 : decode cX3_size 4 = .ok (.bipush 40, 2) := by decide +kernel
theorem dX3_size_6 : decode cX3_size 6 = .ok (.invokestatic 19, 3) := by decide +kernel
theorem dX3_size_9 : decode cX3_size 9 = .ok (.ireturn, 1) := by decide +kernel
theorem dX4_forget_0 : decode cX4_forget 0 = .ok (.aload_n 0, 1) := by decide +kernel
theorem dX4_forget_1 : decode cX4_forget 1 = .ok (.iconst 0, 1) := by decide +kernel
theorem dX4_forget_2 : decode cX4_forget 2 = .ok (.putfield 15, 3) := by decide +kernel
theorem dX4_forget_5 : decode cX4_forget 5 = .ok (.return_, 1) := by decide +kernel
theorem dX4_init_0 : decode cX4_init 0 = .ok (.aload_n 0, 1) := by decide +kernel
theorem dX4_init_1 : decode cX4_init 1 = .ok (.invokespecial 1, 3) := by decide +kernel
theorem dX4_init_4 : decode cX4_init 4 = .ok (.aload_n 0, 1) := by decide +kernel
theorem dX4_init_5 : decode cX4_init 5 = .ok (.bipush 20, 2) := by decide +kernel
theorem dX4_init_7 : decode cX4_init 7 = .ok (.anewarray 9, 3) := by decide +kernel
theorem dX4_init_10 : decode cX4_init 10 = .ok (.putfield 11, 3) := by decide +kernel
theorem dX4_init_13 : decode cX4_init 13 = .ok (.return_, 1) := by decide +kernel
theorem dX4_remember_0 : decode cX4_remember 0 = .ok (.aload_n 0, 1) := by decide +kernel
theorem dX4_remember_1 : decode cX4_remember 1 = .ok (.getfield 19, 3) := by decide +kernel
theorem dX4_remember_4 : decode cX4_remember 4 = .ok (.bipush 20, 2) := by decide +kernel
theorem dX4_remember_6 : decode cX4_remember 6 = .ok (.invokestatic 22, 3) := by decide +kernel
theorem dX4_remember_9 : decode cX4_remember 9 = .ok (.istore_n 3, 1) := by decide +kernel
theorem dX4_remember_10 : decode cX4_remember 10 = .ok (.aload_n 0, 1) := by decide +kernel
theorem dX4_remember_11 : decode cX4_remember 11 = .ok (.getfield 11, 3) := by decide +kernel
theorem dX4_remember_14 : decode cX4_remember 14 = .ok (.iload_n 3, 1) := by decide +kernel
theorem dX4_remember_15 : decode cX4_remember 15 = .ok (.aaload, 1) := by decide +kernel
theorem dX4_remember_16 : decode cX4_remember 16 = .ok (.astore 4, 2) := by decide +kernel
theorem dX4_remember_18 : decode cX4_remember 18 = .ok (.aload 4, 2) := by decide +kernel
theorem dX4_remember_20 : decode cX4_remember 20 = .ok (.ifnonnull 20, 3) := by decide +kernel
theorem dX4_remember_23 : decode cX4_remember 23 = .ok (.new 9, 3) := by decide +kernel
theorem dX4_remember_26 : decode cX4_remember 26 = .ok (.dup, 1) := by decide +kernel
theorem dX4_remember_27 : decode cX4_remember 27 = .ok (.invokespecial 28, 3) := by decide +kernel
theorem dX4_remember_30 : decode cX4_remember 30 = .ok (.astore 4, 2) := by decide +kernel
theorem dX4_remember_32 : decode cX4_remember 32 = .ok (.aload_n 0, 1) := by decide +kernel
theorem dX4_remember_33 : decode cX4_remember 33 = .ok (.getfield 11, 3) := by decide +kernel
theorem dX4_remember_36 : decode cX4_remember 36 = .ok (.iload_n 3, 1) := by decide +kernel
theorem dX4_remember_37 : decode cX4_remember 37 = .ok (.aload 4, 2) := by decide +kernel
theorem dX4_remember_39 : decode cX4_remember 39 = .ok (.aastore, 1) := by decide +kernel
theorem dX4_remember_40 : decode cX4_remember 40 = .ok (.aload 4, 2) := by decide +kernel
theorem dX4_remember_42 : decode cX4_remember 42 = .ok (.aload_n 1, 1) := by decide +kernel
theorem dX4_remember_43 : decode cX4_remember 43 = .ok (.aload_n 2, 1) := by decide +kernel
theorem dX4_remember_44 : decode cX4_remember 44 = .ok (.invokevirtual 29, 3) := by decide +kernel
theorem dX4_remember_47 : decode cX4_remember 47 = .ok (.aload_n 0, 1) := by decide +kernel
theorem dX4_remember_48 : decode cX4_remember 48 = .ok (.iload_n 3, 1) := by decide +kernel
theorem dX4_remember_49 : decode cX4_remember 49 = .ok (.iconst 1, 1) := by decide +kernel
theorem dX4_remember_50 : decode cX4_remember 50 = .ok (.iadd, 1) := by decide +kernel
theorem dX4_remember_51 : decode cX4_remember 51 = .ok (.putfield 19, 3) := by decide +kernel
theorem dX4_remember_54 : decode cX4_remember 54 = .ok (.aload_n 0, 1) := by decide +kernel
theorem dX4_remember_55 : decode cX4_remember 55 = .ok (.aload_n 0, 1) := by decide +kernel
theorem dX4_remember_56 : decode cX4_remember 56 = .ok (.getfield 15, 3) := by decide +kernel
theorem dX4_remember_59 : decode cX4_remember 59 = .ok (.iconst 1, 1) := by decide +kernel
theorem dX4_remember_60 : decode cX4_remember 60 = .ok (.iadd, 1) := by decide +kernel
theorem dX4_remember_61 : decode cX4_remember 61 = .ok (.bipush 20, 2) := by decide +kernel
theorem dX4_remember_63 : decode cX4_remember 63 = .ok (.invokestatic 33, 3) := by decide +kernel
theorem dX4_remember_66 : decode cX4_remember 66 = .ok (.putfield 15, 3) := by decide +kernel
theorem dX4_remember_69 : decode cX4_remember 69 = .ok (.return_, 1) := by decide +kernel
theorem dX4_restore_0 : decode cX4_restore 0 = .ok (.aload_n 0, 1) := by decide +kernel
theorem dX4_restore_1 : decode cX4_restore 1 = .ok (.getfield 19, 3) := by decide +kernel
theorem dX4_restore_4 : decode cX4_restore 4 = .ok (.iconst 1, 1) := by decide +kernel
theorem dX4_restore_5 : decode cX4_restore 5 = .ok (.isub, 1) := by decide +kernel
theorem dX4_restore_6 : decode cX4_restore 6 = .ok (.bipush 20, 2) := by decide +kernel
theorem dX4_restore_8 : decode cX4_restore 8 = .ok (.invokestatic 22, 3) := by decide +kernel
theorem dX4_restore_11 : decode cX4_restore 11 = .ok (.istore_n 3, 1) := by decide +kernel
theorem dX4_restore_12 : decode cX4_restore 12 = .ok (.aload_n 0, 1) := by decide +kernel
theorem dX4_restore_13 : decode cX4_restore 13 = .ok (.getfield 11, 3) := by decide +kernel
theorem dX4_restore_16 : decode cX4_restore 16 = .ok (.iload_n 3, 1) := by decide +kernel
theorem dX4_restore_17 : decode cX4_restore 17 = .ok (.aaload, 1) := by decide +kernel
theorem dX4_restore_18 : decode cX4_restore 18 = .ok (.astore 4, 2) := by decide +kernel
theorem dX4_restore_20 : decode cX4_restore 20 = .ok (.aload_n 0, 1) := by decide +kernel
theorem dX4_restore_21 : decode cX4_restore 21 = .ok (.getfield 15, 3) := by decide +kernel
theorem dX4_restore_24 : decode cX4_restore 24 = .ok (.ifCond .le 8, 3) := by decide +kernel
theorem dX4_restore_27 : decode cX4_restore 27 = .ok (.aload 4, 2) := by decide +kernel
theorem dX4_restore_29 : decode cX4_restore 29 = .ok (.ifnonnull 5, 3) := by decide +kernel
theorem dX4_restore_32 : decode cX4_restore 32 = .ok (.iconst 0, 1) := by decide +kernel
theorem dX4_restore_33 : decode cX4_restore 33 = .ok (.ireturn, 1) := by decide +kernel
theorem dX4_restore_34 : decode cX4_restore 34 = .ok (.aload 4, 2) := by decide +kernel
theorem dX4_restore_36 : decode cX4_restore 36 = .ok (.aload_n 1, 1) := by decide +kernel
theorem dX4_restore_37 : decode cX4_restore 37 = .ok (.aload_n 2, 1) := by decide +kernel
theorem dX4_restore_38 : decode cX4_restore 38 = .ok (.invokevirtual 36, 3) := by decide +kernel
theorem dX4_restore_41 : decode cX4_restore 41 = .ok (.aload_n 0, 1) := by decide +kernel
theorem dX4_restore_42 : decode cX4_restore 42 = .ok (.iload_n 3, 1) := by decide +kernel
theorem dX4_restore_43 : decode cX4_restore 43 = .ok (.putfield 19, 3) := by decide +kernel
theorem dX4_restore_46 : decode cX4_restore 46 = .ok (.aload_n 0, 1) := by decide +kernel
theorem dX4_restore_47 : decode cX4_restore 47 = .ok (.dup, 1) := by decide +kernel
theorem dX4_restore_48 : decode cX4_restore 48 = .ok (.getfield 15, 3) := by decide +kernel
theorem dX4_restore_51 : decode cX4_restore 51 = .ok (.iconst 1, 1) := by decide +kernel
theorem dX4_restore_52 : decode cX4_restore 52 = .ok (.isub, 1) := by decide +kernel
theorem dX4_restore_53 : decode cX4_restore 53 = .ok (.putfield 15, 3) := by decide +kernel
theorem dX4_restore_56 : decode cX4_restore 56 = .ok (.iconst 1, 1) := by decide +kernel
theorem dX4_restore_57 : decode cX4_restore 57 = .ok (.ireturn, 1) := by decide +kernel
theorem dX5_init_0 : decode cX5_init 0 = .ok (.aload_n 0, 1) := by decide +kernel
theorem dX5_init_1 : decode cX5_init 1 = .ok (.invokespecial 3, 3) := by decide +kernel
theorem dX5_init_4 : decode cX5_init 4 = .ok (.aload_n 0, 1) := by decide +kernel
theorem dX5_init_5 : decode cX5_init 5 = .ok (.iconst 4, 1) := by decide +kernel
theorem dX5_init_6 : decode cX5_init 6 = .ok (.newarray .int, 2) := by decide +kernel
theorem dX5_init_8 : decode cX5_init 8 = .ok (.putfield 9, 3) := by decide +kernel
theorem dX5_init_11 : decode cX5_init 11 = .ok (.aload_n 0, 1) := by decide +kernel
theorem dX5_init_12 : decode cX5_init 12 = .ok (.bipush 20, 2) := by decide +kernel
theorem dX5_init_14 : decode cX5_init 14 = .ok (.newarray .int, 2) := by decide +kernel
theorem dX5_init_16 : decode cX5_init 16 = .ok (.putfield 15, 3) := by decide +kernel
theorem dX5_init_19 : decode cX5_init 19 = .ok (.aload_n 0, 1) := by decide +kernel
theorem dX5_init_20 : decode cX5_init 20 = .ok (.bipush 20, 2) := by decide +kernel
theorem dX5_init_22 : decode cX5_init 22 = .ok (.newarray .int, 2) := by decide +kernel
theorem dX5_init_24 : decode cX5_init 24 = .ok (.putfield 18, 3) := by decide +kernel
theorem dX5_init_27 : decode cX5_init 27 = .ok (.aload_n 0, 1) := by decide +kernel
theorem dX5_init_28 : decode cX5_init 28 = .ok (.aload_n 1, 1) := by decide +kernel
theorem dX5_init_29 : decode cX5_init 29 = .ok (.putfield 21, 3) := by decide +kernel
theorem dX5_init_32 : decode cX5_init 32 = .ok (.return_, 1) := by decide +kernel
theorem dX5_isTold_0 : decode cX5_isTold 0 = .ok (.iconst 0, 1) := by decide +kernel
theorem dX5_isTold_1 : decode cX5_isTold 1 = .ok (.istore_n 3, 1) := by decide +kernel
theorem dX5_isTold_2 : decode cX5_isTold 2 = .ok (.iload_n 3, 1) := by decide +kernel
theorem dX5_isTold_3 : decode cX5_isTold 3 = .ok (.aload_n 0, 1) := by decide +kernel
theorem dX5_isTold_4 : decode cX5_isTold 4 = .ok (.getfield 32, 3) := by decide +kernel
theorem dX5_isTold_7 : decode cX5_isTold 7 = .ok (.if_icmp .ge 43, 3) := by decide +kernel
theorem dX5_isTold_10 : decode cX5_isTold 10 = .ok (.iload_n 3, 1) := by decide +kernel
theorem dX5_isTold_11 : decode cX5_isTold 11 = .ok (.bipush 10, 2) := by decide +kernel
theorem dX5_isTold_13 : decode cX5_isTold 13 = .ok (.if_icmp .ge 37, 3) := by decide +kernel
theorem dX5_isTold_16 : decode cX5_isTold 16 = .ok (.aload_n 0, 1) := by decide +kernel
theorem dX5_isTold_17 : decode cX5_isTold 17 = .ok (.getfield 15, 3) := by decide +kernel
theorem dX5_isTold_20 : decode cX5_isTold 20 = .ok (.iconst 2, 1) := by decide +kernel
theorem dX5_isTold_21 : decode cX5_isTold 21 = .ok (.iload_n 3, 1) := by decide +kernel
theorem dX5_isTold_22 : decode cX5_isTold 22 = .ok (.imul, 1) := by decide +kernel
theorem dX5_isTold_23 : decode cX5_isTold 23 = .ok (.iaload, 1) := by decide +kernel
theorem dX5_isTold_24 : decode cX5_isTold 24 = .ok (.iload_n 1, 1) := by decide +kernel
theorem dX5_isTold_25 : decode cX5_isTold 25 = .ok (.if_icmp .ne 19, 3) := by decide +kernel
theorem dX5_isTold_28 : decode cX5_isTold 28 = .ok (.aload_n 0, 1) := by decide +kernel
theorem dX5_isTold_29 : decode cX5_isTold 29 = .ok (.getfield 15, 3) := by decide +kernel
theorem dX5_isTold_32 : decode cX5_isTold 32 = .ok (.iconst 2, 1) := by decide +kernel
theorem dX5_isTold_33 : decode cX5_isTold 33 = .ok (.iload_n 3, 1) := by decide +kernel
theorem dX5_isTold_34 : decode cX5_isTold 34 = .ok (.imul, 1) := by decide +kernel
theorem dX5_isTold_35 : decode cX5_isTold 35 = .ok (.iconst 1, 1) := by decide +kernel
theorem dX5_isTold_36 : decode cX5_isTold 36 = .ok (.iadd, 1) := by decide +kernel
theorem dX5_isTold_37 : decode cX5_isTold 37 = .ok (.iaload, 1) := by decide +kernel
theorem dX5_isTold_38 : decode cX5_isTold 38 = .ok (.iload_n 2, 1) := by decide +kernel
theorem dX5_isTold_39 : decode cX5_isTold 39 = .ok (.if_icmp .ne 5, 3) := by decide +kernel
theorem dX5_isTold_42 : decode cX5_isTold 42 = .ok (.iconst 1, 1) := by decide +kernel
theorem dX5_isTold_43 : decode cX5_isTold 43 = .ok (.ireturn, 1) := by decide +kernel
theorem dX5_isTold_44 : decode cX5_isTold 44 = .ok (.iinc 3 1, 3) := by decide +kernel
theorem dX5_isTold_47 : decode cX5_isTold 47 = .ok (.goto (-45), 3) := by decide +kernel
theorem dX5_isTold_50 : decode cX5_isTold 50 = .ok (.iconst 0, 1) := by decide +kernel
theorem dX5_isTold_51 : decode cX5_isTold 51 = .ok (.ireturn, 1) := by decide +kernel
theorem dX5_nextByte_0 : decode cX5_nextByte 0 = .ok (.aload_n 0, 1) := by decide +kernel
theorem dX5_nextByte_1 : decode cX5_nextByte 1 = .ok (.getfield 25, 3) := by decide +kernel
theorem dX5_nextByte_4 : decode cX5_nextByte 4 = .ok (.aload_n 0, 1) := by decide +kernel
theorem dX5_nextByte_5 : decode cX5_nextByte 5 = .ok (.getfield 21, 3) := by decide +kernel
theorem dX5_nextByte_8 : decode cX5_nextByte 8 = .ok (.getfield 118, 3) := by decide +kernel
theorem dX5_nextByte_11 : decode cX5_nextByte 11 = .ok (.if_icmp .ge 32, 3) := by decide +kernel
theorem dX5_nextByte_14 : decode cX5_nextByte 14 = .ok (.aload_n 0, 1) := by decide +kernel
theorem dX5_nextByte_15 : decode cX5_nextByte 15 = .ok (.getfield 21, 3) := by decide +kernel
theorem dX5_nextByte_18 : decode cX5_nextByte 18 = .ok (.aload_n 0, 1) := by decide +kernel
theorem dX5_nextByte_19 : decode cX5_nextByte 19 = .ok (.getfield 25, 3) := by decide +kernel
theorem dX5_nextByte_22 : decode cX5_nextByte 22 = .ok (.invokevirtual 121, 3) := by decide +kernel
theorem dX5_nextByte_25 : decode cX5_nextByte 25 = .ok (.bipush 32, 2) := by decide +kernel
theorem dX5_nextByte_27 : decode cX5_nextByte 27 = .ok (.if_icmp .ne 16, 3) := by decide +kernel
theorem dX5_nextByte_30 : decode cX5_nextByte 30 = .ok (.aload_n 0, 1) := by decide +kernel
theorem dX5_nextByte_31 : decode cX5_nextByte 31 = .ok (.dup, 1) := by decide +kernel
theorem dX5_nextByte_32 : decode cX5_nextByte 32 = .ok (.getfield 25, 3) := by decide +kernel
theorem dX5_nextByte_35 : decode cX5_nextByte 35 = .ok (.iconst 1, 1) := by decide +kernel
theorem dX5_nextByte_36 : decode cX5_nextByte 36 = .ok (.iadd, 1) := by decide +kernel
theorem dX5_nextByte_37 : decode cX5_nextByte 37 = .ok (.putfield 25, 3) := by decide +kernel
theorem dX5_nextByte_40 : decode cX5_nextByte 40 = .ok (.goto (-40), 3) := by decide +kernel
theorem dX5_nextByte_43 : decode cX5_nextByte 43 = .ok (.aload_n 0, 1) := by decide +kernel
theorem dX5_nextByte_44 : decode cX5_nextByte 44 = .ok (.getfield 21, 3) := by decide +kernel
theorem dX5_nextByte_47 : decode cX5_nextByte 47 = .ok (.aload_n 0, 1) := by decide +kernel
theorem dX5_nextByte_48 : decode cX5_nextByte 48 = .ok (.getfield 25, 3) := by decide +kernel
theorem dX5_nextByte_51 : decode cX5_nextByte 51 = .ok (.invokevirtual 121, 3) := by decide +kernel
theorem dX5_nextByte_54 : decode cX5_nextByte 54 = .ok (.ireturn, 1) := by decide +kernel
theorem dX5_read_0 : decode cX5_read 0 = .ok (.aload_n 0, 1) := by decide +kernel
theorem dX5_read_1 : decode cX5_read 1 = .ok (.iconst 0, 1) := by decide +kernel
theorem dX5_read_2 : decode cX5_read 2 = .ok (.putfield 25, 3) := by decide +kernel
theorem dX5_read_5 : decode cX5_read 5 = .ok (.aload_n 0, 1) := by decide +kernel
theorem dX5_read_6 : decode cX5_read 6 = .ok (.iconst (-1), 1) := by decide +kernel
theorem dX5_read_7 : decode cX5_read 7 = .ok (.putfield 29, 3) := by decide +kernel
theorem dX5_read_10 : decode cX5_read 10 = .ok (.aload_n 0, 1) := by decide +kernel
theorem dX5_read_11 : decode cX5_read 11 = .ok (.iconst 0, 1) := by decide +kernel
theorem dX5_read_12 : decode cX5_read 12 = .ok (.putfield 32, 3) := by decide +kernel
theorem dX5_read_15 : decode cX5_read 15 = .ok (.aload_n 0, 1) := by decide +kernel
theorem dX5_read_16 : decode cX5_read 16 = .ok (.iconst 0, 1) := by decide +kernel
theorem dX5_read_17 : decode cX5_read 17 = .ok (.putfield 35, 3) := by decide +kernel
theorem dX5_read_20 : decode cX5_read 20 = .ok (.aload_n 0, 1) := by decide +kernel
theorem dX5_read_21 : decode cX5_read 21 = .ok (.iconst 0, 1) := by decide +kernel
theorem dX5_read_22 : decode cX5_read 22 = .ok (.putfield 39, 3) := by decide +kernel
theorem dX5_read_25 : decode cX5_read 25 = .ok (.aload_n 0, 1) := by decide +kernel
theorem dX5_read_26 : decode cX5_read 26 = .ok (.iconst 0, 1) := by decide +kernel
theorem dX5_read_27 : decode cX5_read 27 = .ok (.putfield 42, 3) := by decide +kernel
theorem dX5_read_30 : decode cX5_read 30 = .ok (.getstatic 45, 3) := by decide +kernel
theorem dX5_read_33 : decode cX5_read 33 = .ok (.iconst 0, 1) := by decide +kernel
theorem dX5_read_34 : decode cX5_read 34 = .ok (.aload_n 0, 1) := by decide +kernel
theorem dX5_read_35 : decode cX5_read 35 = .ok (.getfield 9, 3) := by decide +kernel
theorem dX5_read_38 : decode cX5_read 38 = .ok (.iconst 0, 1) := by decide +kernel
theorem dX5_read_39 : decode cX5_read 39 = .ok (.aload_n 0, 1) := by decide +kernel
theorem dX5_read_40 : decode cX5_read 40 = .ok (.getfield 9, 3) := by decide +kernel
theorem dX5_read_43 : decode cX5_read 43 = .ok (.arraylength, 1) := by decide +kernel
theorem dX5_read_44 : decode cX5_read 44 = .ok (.invokestatic 48, 3) := by decide +kernel
theorem dX5_read_47 : decode cX5_read 47 = .ok (.aload_n 0, 1) := by decide +kernel
theorem dX5_read_48 : decode cX5_read 48 = .ok (.invokevirtual 54, 3) := by decide +kernel
theorem dX5_read_51 : decode cX5_read 51 = .ok (.iconst 0, 1) := by decide +kernel
theorem dX5_read_52 : decode cX5_read 52 = .ok (.istore_n 1, 1) := by decide +kernel
theorem dX5_read_53 : decode cX5_read 53 = .ok (.iload_n 1, 1) := by decide +kernel
theorem dX5_read_54 : decode cX5_read 54 = .ok (.sipush 300, 3) := by decide +kernel
theorem dX5_read_57 : decode cX5_read 57 = .ok (.if_icmp .ge 32, 3) := by decide +kernel
theorem dX5_read_60 : decode cX5_read 60 = .ok (.aload_n 0, 1) := by decide +kernel
theorem dX5_read_61 : decode cX5_read 61 = .ok (.getfield 29, 3) := by decide +kernel
theorem dX5_read_64 : decode cX5_read 64 = .ok (.iconst (-1), 1) := by decide +kernel
theorem dX5_read_65 : decode cX5_read 65 = .ok (.if_icmp .ne 24, 3) := by decide +kernel
theorem dX5_read_68 : decode cX5_read 68 = .ok (.aload_n 0, 1) := by decide +kernel
theorem dX5_read_69 : decode cX5_read 69 = .ok (.invokevirtual 59, 3) := by decide +kernel
theorem dX5_read_72 : decode cX5_read 72 = .ok (.ifCond .eq 17, 3) := by decide +kernel
theorem dX5_read_75 : decode cX5_read 75 = .ok (.aload_n 0, 1) := by decide +kernel
theorem dX5_read_76 : decode cX5_read 76 = .ok (.invokevirtual 63, 3) := by decide +kernel
theorem dX5_read_79 : decode cX5_read 79 = .ok (.aload_n 0, 1) := by decide +kernel
theorem dX5_read_80 : decode cX5_read 80 = .ok (.invokevirtual 66, 3) := by decide +kernel
theorem dX5_read_83 : decode cX5_read 83 = .ok (.iinc 1 1, 3) := by decide +kernel
theorem dX5_read_86 : decode cX5_read 86 = .ok (.goto (-33), 3) := by decide +kernel
theorem dX5_read_89 : decode cX5_read 89 = .ok (.aload_n 0, 1) := by decide +kernel
theorem dX5_read_90 : decode cX5_read 90 = .ok (.getfield 29, 3) := by decide +kernel
theorem dX5_read_93 : decode cX5_read 93 = .ok (.ireturn, 1) := by decide +kernel
theorem dX5_readCore_0 : decode cX5_readCore 0 = .ok (.aload_n 0, 1) := by decide +kernel
theorem dX5_readCore_1 : decode cX5_readCore 1 = .ok (.iconst 0, 1) := by decide +kernel
theorem dX5_readCore_2 : decode cX5_readCore 2 = .ok (.aload_n 0, 1) := by decide +kernel
theorem dX5_readCore_3 : decode cX5_readCore 3 = .ok (.getfield 87, 3) := by decide +kernel
theorem dX5_readCore_6 : decode cX5_readCore 6 = .ok (.iconst 2, 1) := by decide +kernel
theorem dX5_readCore_7 : decode cX5_readCore 7 = .ok (.isub, 1) := by decide +kernel
theorem dX5_readCore_8 : decode cX5_readCore 8 = .ok (.invokevirtual 83, 3) := by decide +kernel
theorem dX5_readCore_11 : decode cX5_readCore 11 = .ok (.istore_n 1, 1) := by decide +kernel
theorem dX5_readCore_12 : decode cX5_readCore 12 = .ok (.aload_n 0, 1) := by decide +kernel
theorem dX5_readCore_13 : decode cX5_readCore 13 = .ok (.iconst 0, 1) := by decide +kernel
theorem dX5_readCore_14 : decode cX5_readCore 14 = .ok (.aload_n 0, 1) := by decide +kernel
theorem dX5_readCore_15 : decode cX5_readCore 15 = .ok (.getfield 90, 3) := by decide +kernel
theorem dX5_readCore_18 : decode cX5_readCore 18 = .ok (.iconst 2, 1) := by decide +kernel
theorem dX5_readCore_19 : decode cX5_readCore 19 = .ok (.isub, 1) := by decide +kernel
theorem dX5_readCore_20 : decode cX5_readCore 20 = .ok (.invokevirtual 83, 3) := by decide +kernel
theorem dX5_readCore_23 : decode cX5_readCore 23 = .ok (.istore_n 2, 1) := by decide +kernel
theorem dX5_readCore_24 : decode cX5_readCore 24 = .ok (.aload_n 0, 1) := by decide +kernel
theorem dX5_readCore_25 : decode cX5_readCore 25 = .ok (.getfield 29, 3) := by decide +kernel
theorem dX5_readCore_28 : decode cX5_readCore 28 = .ok (.iconst (-1), 1) := by decide +kernel
theorem dX5_readCore_29 : decode cX5_readCore 29 = .ok (.if_icmp .ne 20, 3) := by decide +kernel
theorem dX5_readCore_32 : decode cX5_readCore 32 = .ok (.aload_n 0, 1) := by decide +kernel
theorem dX5_readCore_33 : decode cX5_readCore 33 = .ok (.iload_n 1, 1) := by decide +kernel
theorem dX5_readCore_34 : decode cX5_readCore 34 = .ok (.iload_n 2, 1) := by decide +kernel
theorem dX5_readCore_35 : decode cX5_readCore 35 = .ok (.invokevirtual 108, 3) := by decide +kernel
theorem dX5_readCore_38 : decode cX5_readCore 38 = .ok (.ifCond .eq 11, 3) := by decide +kernel
theorem dX5_readCore_41 : decode cX5_readCore 41 = .ok (.aload_n 0, 1) := by decide +kernel
theorem dX5_readCore_42 : decode cX5_readCore 42 = .ok (.aload_n 0, 1) := by decide +kernel
theorem dX5_readCore_43 : decode cX5_readCore 43 = .ok (.getfield 78, 3) := by decide +kernel
theorem dX5_readCore_46 : decode cX5_readCore 46 = .ok (.putfield 29, 3) := by decide +kernel
theorem dX5_readCore_49 : decode cX5_readCore 49 = .ok (.aload_n 0, 1) := by decide +kernel
theorem dX5_readCore_50 : decode cX5_readCore 50 = .ok (.bipush (-2), 2) := by decide +kernel
theorem dX5_readCore_52 : decode cX5_readCore 52 = .ok (.iconst 2, 1) := by decide +kernel
theorem dX5_readCore_53 : decode cX5_readCore 53 = .ok (.invokevirtual 83, 3) := by decide +kernel
theorem dX5_readCore_56 : decode cX5_readCore 56 = .ok (.istore_n 3, 1) := by decide +kernel
theorem dX5_readCore_57 : decode cX5_readCore 57 = .ok (.aload_n 0, 1) := by decide +kernel
theorem dX5_readCore_58 : decode cX5_readCore 58 = .ok (.bipush (-2), 2) := by decide +kernel
theorem dX5_readCore_60 : decode cX5_readCore 60 = .ok (.iconst 2, 1) := by decide +kernel
theorem dX5_readCore_61 : decode cX5_readCore 61 = .ok (.invokevirtual 83, 3) := by decide +kernel
theorem dX5_readCore_64 : decode cX5_readCore 64 = .ok (.istore 4, 2) := by decide +kernel
theorem dX5_readCore_66 : decode cX5_readCore 66 = .ok (.aload_n 0, 1) := by decide +kernel
theorem dX5_readCore_67 : decode cX5_readCore 67 = .ok (.getfield 29, 3) := by decide +kernel
theorem dX5_readCore_70 : decode cX5_readCore 70 = .ok (.iconst (-1), 1) := by decide +kernel
theorem dX5_readCore_71 : decode cX5_readCore 71 = .ok (.if_icmp .ne 20, 3) := by decide +kernel
theorem dX5_readCore_74 : decode cX5_readCore 74 = .ok (.iload_n 3, 1) := by decide +kernel
theorem dX5_readCore_75 : decode cX5_readCore 75 = .ok (.ifCond .ne 16, 3) := by decide +kernel
theorem dX5_readCore_78 : decode cX5_readCore 78 = .ok (.iload 4, 2) := by decide +kernel
theorem dX5_readCore_80 : decode cX5_readCore 80 = .ok (.ifCond .ne 11, 3) := by decide +kernel
theorem dX5_readCore_83 : decode cX5_readCore 83 = .ok (.aload_n 0, 1) := by decide +kernel
theorem dX5_readCore_84 : decode cX5_readCore 84 = .ok (.aload_n 0, 1) := by decide +kernel
theorem dX5_readCore_85 : decode cX5_readCore 85 = .ok (.getfield 78, 3) := by decide +kernel
theorem dX5_readCore_88 : decode cX5_readCore 88 = .ok (.putfield 29, 3) := by decide +kernel
theorem dX5_readCore_91 : decode cX5_readCore 91 = .ok (.aload_n 0, 1) := by decide +kernel
theorem dX5_readCore_92 : decode cX5_readCore 92 = .ok (.getfield 29, 3) := by decide +kernel
theorem dX5_readCore_95 : decode cX5_readCore 95 = .ok (.iconst (-1), 1) := by decide +kernel
theorem dX5_readCore_96 : decode cX5_readCore 96 = .ok (.if_icmp .ne 82, 3) := by decide +kernel
theorem dX5_readCore_99 : decode cX5_readCore 99 = .ok (.aload_n 0, 1) := by decide +kernel
theorem dX5_readCore_100 : decode cX5_readCore 100 = .ok (.getfield 32, 3) := by decide +kernel
theorem dX5_readCore_103 : decode cX5_readCore 103 = .ok (.ifCond .lt 75, 3) := by decide +kernel
theorem dX5_readCore_106 : decode cX5_readCore 106 = .ok (.aload_n 0, 1) := by decide +kernel
theorem dX5_readCore_107 : decode cX5_readCore 107 = .ok (.getfield 32, 3) := by decide +kernel
theorem dX5_readCore_110 : decode cX5_readCore 110 = .ok (.bipush 10, 2) := by decide +kernel
theorem dX5_readCore_112 : decode cX5_readCore 112 = .ok (.if_icmp .ge 66, 3) := by decide +kernel
theorem dX5_readCore_115 : decode cX5_readCore 115 = .ok (.aload_n 0, 1) := by decide +kernel
theorem dX5_readCore_116 : decode cX5_readCore 116 = .ok (.getfield 15, 3) := by decide +kernel
theorem dX5_readCore_119 : decode cX5_readCore 119 = .ok (.iconst 2, 1) := by decide +kernel
theorem dX5_readCore_120 : decode cX5_readCore 120 = .ok (.aload_n 0, 1) := by decide +kernel
theorem dX5_readCore_121 : decode cX5_readCore 121 = .ok (.getfield 32, 3) := by decide +kernel
theorem dX5_readCore_124 : decode cX5_readCore 124 = .ok (.imul, 1) := by decide +kernel
theorem dX5_readCore_125 : decode cX5_readCore 125 = .ok (.iload_n 1, 1) := by decide +kernel
theorem dX5_readCore_126 : decode cX5_readCore 126 = .ok (.iastore, 1) := by decide +kernel
theorem dX5_readCore_127 : decode cX5_readCore 127 = .ok (.aload_n 0, 1) := by decide +kernel
theorem dX5_readCore_128 : decode cX5_readCore 128 = .ok (.getfield 15, 3) := by decide +kernel
theorem dX5_readCore_131 : decode cX5_readCore 131 = .ok (.iconst 2, 1) := by decide +kernel
theorem dX5_readCore_132 : decode cX5_readCore 132 = .ok (.aload_n 0, 1) := by decide +kernel
theorem dX5_readCore_133 : decode cX5_readCore 133 = .ok (.getfield 32, 3) := by decide +kernel
theorem dX5_readCore_136 : decode cX5_readCore 136 = .ok (.imul, 1) := by decide +kernel
theorem dX5_readCore_137 : decode cX5_readCore 137 = .ok (.iconst 1, 1) := by decide +kernel
theorem dX5_readCore_138 : decode cX5_readCore 138 = .ok (.iadd, 1) := by decide +kernel
theorem dX5_readCore_139 : decode cX5_readCore 139 = .ok (.iload_n 2, 1) := by decide +kernel
theorem dX5_readCore_140 : decode cX5_readCore 140 = .ok (.iastore, 1) := by decide +kernel
theorem dX5_readCore_141 : decode cX5_readCore 141 = .ok (.aload_n 0, 1) := by decide +kernel
theorem dX5_readCore_142 : decode cX5_readCore 142 = .ok (.getfield 18, 3) := by decide +kernel
theorem dX5_readCore_145 : decode cX5_readCore 145 = .ok (.iconst 2, 1) := by decide +kernel
theorem dX5_readCore_146 : decode cX5_readCore 146 = .ok (.aload_n 0, 1) := by decide +kernel
theorem dX5_readCore_147 : decode cX5_readCore 147 = .ok (.getfield 32, 3) := by decide +kernel
theorem dX5_readCore_150 : decode cX5_readCore 150 = .ok (.imul, 1) := by decide +kernel
theorem dX5_readCore_151 : decode cX5_readCore 151 = .ok (.iload_n 3, 1) := by decide +kernel
theorem dX5_readCore_152 : decode cX5_readCore 152 = .ok (.iastore, 1) := by decide +kernel
theorem dX5_readCore_153 : decode cX5_readCore 153 = .ok (.aload_n 0, 1) := by decide +kernel
theorem dX5_readCore_154 : decode cX5_readCore 154 = .ok (.getfield 18, 3) := by decide +kernel
theorem dX5_readCore_157 : decode cX5_readCore 157 = .ok (.iconst 2, 1) := by decide +kernel
theorem dX5_readCore_158 : decode cX5_readCore 158 = .ok (.aload_n 0, 1) := by decide +kernel
theorem dX5_readCore_159 : decode cX5_readCore 159 = .ok (.getfield 32, 3) := by decide +kernel
theorem dX5_readCore_162 : decode cX5_readCore 162 = .ok (.imul, 1) := by decide +kernel
theorem dX5_readCore_163 : decode cX5_readCore 163 = .ok (.iconst 1, 1) := by decide +kernel
theorem dX5_readCore_164 : decode cX5_readCore 164 = .ok (.iadd, 1) := by decide +kernel
theorem dX5_readCore_165 : decode cX5_readCore 165 = .ok (.iload 4, 2) := by decide +kernel
theorem dX5_readCore_167 : decode cX5_readCore 167 = .ok (.iastore, 1) := by decide +kernel
theorem dX5_readCore_168 : decode cX5_readCore 168 = .ok (.aload_n 0, 1) := by decide +kernel
theorem dX5_readCore_169 : decode cX5_readCore 169 = .ok (.dup, 1) := by decide +kernel
theorem dX5_readCore_170 : decode cX5_readCore 170 = .ok (.getfield 32, 3) := by decide +kernel
theorem dX5_readCore_173 : decode cX5_readCore 173 = .ok (.iconst 1, 1) := by decide +kernel
theorem dX5_readCore_174 : decode cX5_readCore 174 = .ok (.iadd, 1) := by decide +kernel
theorem dX5_readCore_175 : decode cX5_readCore 175 = .ok (.putfield 32, 3) := by decide +kernel
theorem dX5_readCore_178 : decode cX5_readCore 178 = .ok (.return_, 1) := by decide +kernel
theorem dX5_readNumber_0 : decode cX5_readNumber 0 = .ok (.aload_n 0, 1) := by decide +kernel
theorem dX5_readNumber_1 : decode cX5_readNumber 1 = .ok (.getfield 29, 3) := by decide +kernel
theorem dX5_readNumber_4 : decode cX5_readNumber 4 = .ok (.iconst (-1), 1) := by decide +kernel
theorem dX5_readNumber_5 : decode cX5_readNumber 5 = .ok (.if_icmp .eq 5, 3) := by decide +kernel
theorem dX5_readNumber_8 : decode cX5_readNumber 8 = .ok (.iconst 0, 1) := by decide +kernel
theorem dX5_readNumber_9 : decode cX5_readNumber 9 = .ok (.ireturn, 1) := by decide +kernel
theorem dX5_readNumber_10 : decode cX5_readNumber 10 = .ok (.aload_n 0, 1) := by decide +kernel
theorem dX5_readNumber_11 : decode cX5_readNumber 11 = .ok (.invokevirtual 59, 3) := by decide +kernel
theorem dX5_readNumber_14 : decode cX5_readNumber 14 = .ok (.bipush 45, 2) := by decide +kernel
theorem dX5_readNumber_16 : decode cX5_readNumber 16 = .ok (.if_icmp .ne 7, 3) := by decide +kernel
theorem dX5_readNumber_19 : decode cX5_readNumber 19 = .ok (.iconst 1, 1) := by decide +kernel
theorem dX5_readNumber_20 : decode cX5_readNumber 20 = .ok (.goto 4, 3) := by decide +kernel
theorem dX5_readNumber_23 : decode cX5_readNumber 23 = .ok (.iconst 0, 1) := by decide +kernel
theorem dX5_readNumber_24 : decode cX5_readNumber 24 = .ok (.istore_n 3, 1) := by decide +kernel
theorem dX5_readNumber_25 : decode cX5_readNumber 25 = .ok (.aload_n 0, 1) := by decide +kernel
theorem dX5_readNumber_26 : decode cX5_readNumber 26 = .ok (.aload_n 0, 1) := by decide +kernel
theorem dX5_readNumber_27 : decode cX5_readNumber 27 = .ok (.getfield 25, 3) := by decide +kernel
theorem dX5_readNumber_30 : decode cX5_readNumber 30 = .ok (.putfield 78, 3) := by decide +kernel
theorem dX5_readNumber_33 : decode cX5_readNumber 33 = .ok (.iload_n 3, 1) := by decide +kernel
theorem dX5_readNumber_34 : decode cX5_readNumber 34 = .ok (.ifCond .eq 13, 3) := by decide +kernel
theorem dX5_readNumber_37 : decode cX5_readNumber 37 = .ok (.aload_n 0, 1) := by decide +kernel
theorem dX5_readNumber_38 : decode cX5_readNumber 38 = .ok (.dup, 1) := by decide +kernel
theorem dX5_readNumber_39 : decode cX5_readNumber 39 = .ok (.getfield 25, 3) := by decide +kernel
theorem dX5_readNumber_42 : decode cX5_readNumber 42 = .ok (.iconst 1, 1) := by decide +kernel
theorem dX5_readNumber_43 : decode cX5_readNumber 43 = .ok (.iadd, 1) := by decide +kernel
theorem dX5_readNumber_44 : decode cX5_readNumber 44 = .ok (.putfield 25, 3) := by decide +kernel
theorem dX5_readNumber_47 : decode cX5_readNumber 47 = .ok (.iconst 0, 1) := by decide +kernel
theorem dX5_readNumber_48 : decode cX5_readNumber 48 = .ok (.istore 4, 2) := by decide +kernel
theorem dX5_readNumber_50 : decode cX5_readNumber 50 = .ok (.iconst 0, 1) := by decide +kernel
theorem dX5_readNumber_51 : decode cX5_readNumber 51 = .ok (.istore 5, 2) := by decide +kernel
theorem dX5_readNumber_53 : decode cX5_readNumber 53 = .ok (.aload_n 0, 1) := by decide +kernel
theorem dX5_readNumber_54 : decode cX5_readNumber 54 = .ok (.getfield 25, 3) := by decide +kernel
theorem dX5_readNumber_57 : decode cX5_readNumber 57 = .ok (.aload_n 0, 1) := by decide +kernel
theorem dX5_readNumber_58 : decode cX5_readNumber 58 = .ok (.getfield 21, 3) := by decide +kernel
theorem dX5_readNumber_61 : decode cX5_readNumber 61 = .ok (.getfield 118, 3) := by decide +kernel
theorem dX5_readNumber_64 : decode cX5_readNumber 64 = .ok (.if_icmp .ge 79, 3) := by decide +kernel
theorem dX5_readNumber_67 : decode cX5_readNumber 67 = .ok (.aload_n 0, 1) := by decide +kernel
theorem dX5_readNumber_68 : decode cX5_readNumber 68 = .ok (.getfield 21, 3) := by decide +kernel
theorem dX5_readNumber_71 : decode cX5_readNumber 71 = .ok (.aload_n 0, 1) := by decide +kernel
theorem dX5_readNumber_72 : decode cX5_readNumber 72 = .ok (.getfield 25, 3) := by decide +kernel
theorem dX5_readNumber_75 : decode cX5_readNumber 75 = .ok (.invokevirtual 121, 3) := by decide +kernel
theorem dX5_readNumber_78 : decode cX5_readNumber 78 = .ok (.bipush 48, 2) := by decide +kernel
theorem dX5_readNumber_80 : decode cX5_readNumber 80 = .ok (.if_icmp .lt 63, 3) := by decide +kernel
theorem dX5_readNumber_83 : decode cX5_readNumber 83 = .ok (.aload_n 0, 1) := by decide +kernel
theorem dX5_readNumber_84 : decode cX5_readNumber 84 = .ok (.getfield 21, 3) := by decide +kernel
theorem dX5_readNumber_87 : decode cX5_readNumber 87 = .ok (.aload_n 0, 1) := by decide +kernel
theorem dX5_readNumber_88 : decode cX5_readNumber 88 = .ok (.getfield 25, 3) := by decide +kernel
theorem dX5_readNumber_91 : decode cX5_readNumber 91 = .ok (.invokevirtual 121, 3) := by decide +kernel
theorem dX5_readNumber_94 : decode cX5_readNumber 94 = .ok (.bipush 57, 2) := by decide +kernel
theorem dX5_readNumber_96 : decode cX5_readNumber 96 = .ok (.if_icmp .gt 47, 3) := by decide +kernel
theorem dX5_readNumber_99 : decode cX5_readNumber 99 = .ok (.iload 5, 2) := by decide +kernel
theorem dX5_readNumber_101 : decode cX5_readNumber 101 = .ok (.iconst 2, 1) := by decide +kernel
theorem dX5_readNumber_102 : decode cX5_readNumber 102 = .ok (.if_icmp .ge 25, 3) := by decide +kernel
theorem dX5_readNumber_105 : decode cX5_readNumber 105 = .ok (.bipush 10, 2) := by decide +kernel
theorem dX5_readNumber_107 : decode cX5_readNumber 107 = .ok (.iload 4, 2) := by decide +kernel
theorem dX5_readNumber_109 : decode cX5_readNumber 109 = .ok (.imul, 1) := by decide +kernel
theorem dX5_readNumber_110 : decode cX5_readNumber 110 = .ok (.aload_n 0, 1) := by decide +kernel
theorem dX5_readNumber_111 : decode cX5_readNumber 111 = .ok (.getfield 21, 3) := by decide +kernel
theorem dX5_readNumber_114 : decode cX5_readNumber 114 = .ok (.aload_n 0, 1) := by decide +kernel
theorem dX5_readNumber_115 : decode cX5_readNumber 115 = .ok (.getfield 25, 3) := by decide +kernel
theorem dX5_readNumber_118 : decode cX5_readNumber 118 = .ok (.invokevirtual 121, 3) := by decide +kernel
theorem dX5_readNumber_121 : decode cX5_readNumber 121 = .ok (.iadd, 1) := by decide +kernel
theorem dX5_readNumber_122 : decode cX5_readNumber 122 = .ok (.bipush 48, 2) := by decide +kernel
theorem dX5_readNumber_124 : decode cX5_readNumber 124 = .ok (.isub, 1) := by decide +kernel
theorem dX5_readNumber_125 : decode cX5_readNumber 125 = .ok (.istore 4, 2) := by decide +kernel
theorem dX5_readNumber_127 : decode cX5_readNumber 127 = .ok (.iinc 5 1, 3) := by decide +kernel
theorem dX5_readNumber_130 : decode cX5_readNumber 130 = .ok (.aload_n 0, 1) := by decide +kernel
theorem dX5_readNumber_131 : decode cX5_readNumber 131 = .ok (.dup, 1) := by decide +kernel
theorem dX5_readNumber_132 : decode cX5_readNumber 132 = .ok (.getfield 25, 3) := by decide +kernel
theorem dX5_readNumber_135 : decode cX5_readNumber 135 = .ok (.iconst 1, 1) := by decide +kernel
theorem dX5_readNumber_136 : decode cX5_readNumber 136 = .ok (.iadd, 1) := by decide +kernel
theorem dX5_readNumber_137 : decode cX5_readNumber 137 = .ok (.putfield 25, 3) := by decide +kernel
theorem dX5_readNumber_140 : decode cX5_readNumber 140 = .ok (.goto (-87), 3) := by decide +kernel
theorem dX5_readNumber_143 : decode cX5_readNumber 143 = .ok (.iload_n 3, 1) := by decide +kernel
theorem dX5_readNumber_144 : decode cX5_readNumber 144 = .ok (.ifCond .eq 8, 3) := by decide +kernel
theorem dX5_readNumber_147 : decode cX5_readNumber 147 = .ok (.iload 4, 2) := by decide +kernel
theorem dX5_readNumber_149 : decode cX5_readNumber 149 = .ok (.ineg, 1) := by decide +kernel
theorem dX5_readNumber_150 : decode cX5_readNumber 150 = .ok (.istore 4, 2) := by decide +kernel
theorem dX5_readNumber_152 : decode cX5_readNumber 152 = .ok (.iload 5, 2) := by decide +kernel
theorem dX5_readNumber_154 : decode cX5_readNumber 154 = .ok (.iconst 1, 1) := by decide +kernel
theorem dX5_readNumber_155 : decode cX5_readNumber 155 = .ok (.if_icmp .lt 21, 3) := by decide +kernel
theorem dX5_readNumber_158 : decode cX5_readNumber 158 = .ok (.iload 5, 2) := by decide +kernel
theorem dX5_readNumber_160 : decode cX5_readNumber 160 = .ok (.iconst 2, 1) := by decide +kernel
theorem dX5_readNumber_161 : decode cX5_readNumber 161 = .ok (.if_icmp .gt 15, 3) := by decide +kernel
theorem dX5_readNumber_164 : decode cX5_readNumber 164 = .ok (.iload 4, 2) := by decide +kernel
theorem dX5_readNumber_166 : decode cX5_readNumber 166 = .ok (.iload_n 1, 1) := by decide +kernel
theorem dX5_readNumber_167 : decode cX5_readNumber 167 = .ok (.if_icmp .lt 9, 3) := by decide +kernel
theorem dX5_readNumber_170 : decode cX5_readNumber 170 = .ok (.iload 4, 2) := by decide +kernel
theorem dX5_readNumber_172 : decode cX5_readNumber 172 = .ok (.iload_n 2, 1) := by decide +kernel
theorem dX5_readNumber_173 : decode cX5_readNumber 173 = .ok (.if_icmp .le 11, 3) := by decide +kernel
theorem dX5_readNumber_176 : decode cX5_readNumber 176 = .ok (.aload_n 0, 1) := by decide +kernel
theorem dX5_readNumber_177 : decode cX5_readNumber 177 = .ok (.aload_n 0, 1) := by decide +kernel
theorem dX5_readNumber_178 : decode cX5_readNumber 178 = .ok (.getfield 78, 3) := by decide +kernel
theorem dX5_readNumber_181 : decode cX5_readNumber 181 = .ok (.putfield 29, 3) := by decide +kernel
theorem dX5_readNumber_184 : decode cX5_readNumber 184 = .ok (.iload 4, 2) := by decide +kernel
theorem dX5_readNumber_186 : decode cX5_readNumber 186 = .ok (.ireturn, 1) := by decide +kernel
theorem dX5_readPiece_0 : decode cX5_readPiece 0 = .ok (.aload_n 0, 1) := by decide +kernel
theorem dX5_readPiece_1 : decode cX5_readPiece 1 = .ok (.getfield 29, 3) := by decide +kernel
theorem dX5_readPiece_4 : decode cX5_readPiece 4 = .ok (.iconst (-1), 1) := by decide +kernel
theorem dX5_readPiece_5 : decode cX5_readPiece 5 = .ok (.if_icmp .eq 4, 3) := by decide +kernel
theorem dX5_readPiece_8 : decode cX5_readPiece 8 = .ok (.return_, 1) := by decide +kernel
theorem dX5_readPiece_9 : decode cX5_readPiece 9 = .ok (.aload_n 0, 1) := by decide +kernel
theorem dX5_readPiece_10 : decode cX5_readPiece 10 = .ok (.invokevirtual 69, 3) := by decide +kernel
theorem dX5_readPiece_13 : decode cX5_readPiece 13 = .ok (.aload_n 0, 1) := by decide +kernel
theorem dX5_readPiece_14 : decode cX5_readPiece 14 = .ok (.ldc 93, 2) := by decide +kernel
theorem dX5_readPiece_16 : decode cX5_readPiece 16 = .ok (.invokevirtual 74, 3) := by decide +kernel
theorem dX5_readPiece_19 : decode cX5_readPiece 19 = .ok (.ifCond .eq 19, 3) := by decide +kernel
theorem dX5_readPiece_22 : decode cX5_readPiece 22 = .ok (.aload_n 0, 1) := by decide +kernel
theorem dX5_readPiece_23 : decode cX5_readPiece 23 = .ok (.getfield 32, 3) := by decide +kernel
theorem dX5_readPiece_26 : decode cX5_readPiece 26 = .ok (.bipush 10, 2) := by decide +kernel
theorem dX5_readPiece_28 : decode cX5_readPiece 28 = .ok (.if_icmp .ge 10, 3) := by decide +kernel
theorem dX5_readPiece_31 : decode cX5_readPiece 31 = .ok (.aload_n 0, 1) := by decide +kernel
theorem dX5_readPiece_32 : decode cX5_readPiece 32 = .ok (.invokevirtual 95, 3) := by decide +kernel
theorem dX5_readPiece_35 : decode cX5_readPiece 35 = .ok (.goto 103, 3) := by decide +kernel
theorem dX5_readPiece_38 : decode cX5_readPiece 38 = .ok (.aload_n 0, 1) := by decide +kernel
theorem dX5_readPiece_39 : decode cX5_readPiece 39 = .ok (.ldc 98, 2) := by decide +kernel
theorem dX5_readPiece_41 : decode cX5_readPiece 41 = .ok (.invokevirtual 74, 3) := by decide +kernel
theorem dX5_readPiece_44 : decode cX5_readPiece 44 = .ok (.ifCond .eq 28, 3) := by decide +kernel
theorem dX5_readPiece_47 : decode cX5_readPiece 47 = .ok (.aload_n 0, 1) := by decide +kernel
theorem dX5_readPiece_48 : decode cX5_readPiece 48 = .ok (.getfield 35, 3) := by decide +kernel
theorem dX5_readPiece_51 : decode cX5_readPiece 51 = .ok (.ifCond .ne 21, 3) := by decide +kernel
theorem dX5_readPiece_54 : decode cX5_readPiece 54 = .ok (.aload_n 0, 1) := by decide +kernel
theorem dX5_readPiece_55 : decode cX5_readPiece 55 = .ok (.iconst 1, 1) := by decide +kernel
theorem dX5_readPiece_56 : decode cX5_readPiece 56 = .ok (.putfield 35, 3) := by decide +kernel
theorem dX5_readPiece_59 : decode cX5_readPiece 59 = .ok (.aload_n 0, 1) := by decide +kernel
theorem dX5_readPiece_60 : decode cX5_readPiece 60 = .ok (.iconst 0, 1) := by decide +kernel
theorem dX5_readPiece_61 : decode cX5_readPiece 61 = .ok (.invokevirtual 100, 3) := by decide +kernel
theorem dX5_readPiece_64 : decode cX5_readPiece 64 = .ok (.aload_n 0, 1) := by decide +kernel
theorem dX5_readPiece_65 : decode cX5_readPiece 65 = .ok (.iconst 1, 1) := by decide +kernel
theorem dX5_readPiece_66 : decode cX5_readPiece 66 = .ok (.invokevirtual 100, 3) := by decide +kernel
theorem dX5_readPiece_69 : decode cX5_readPiece 69 = .ok (.goto 69, 3) := by decide +kernel
theorem dX5_readPiece_72 : decode cX5_readPiece 72 = .ok (.aload_n 0, 1) := by decide +kernel
theorem dX5_readPiece_73 : decode cX5_readPiece 73 = .ok (.ldc 104, 2) := by decide +kernel
theorem dX5_readPiece_75 : decode cX5_readPiece 75 = .ok (.invokevirtual 74, 3) := by decide +kernel
theorem dX5_readPiece_78 : decode cX5_readPiece 78 = .ok (.ifCond .eq 23, 3) := by decide +kernel
theorem dX5_readPiece_81 : decode cX5_readPiece 81 = .ok (.aload_n 0, 1) := by decide +kernel
theorem dX5_readPiece_82 : decode cX5_readPiece 82 = .ok (.getfield 39, 3) := by decide +kernel
theorem dX5_readPiece_85 : decode cX5_readPiece 85 = .ok (.ifCond .ne 16, 3) := by decide +kernel
theorem dX5_readPiece_88 : decode cX5_readPiece 88 = .ok (.aload_n 0, 1) := by decide +kernel
theorem dX5_readPiece_89 : decode cX5_readPiece 89 = .ok (.iconst 1, 1) := by decide +kernel
theorem dX5_readPiece_90 : decode cX5_readPiece 90 = .ok (.putfield 39, 3) := by decide +kernel
theorem dX5_readPiece_93 : decode cX5_readPiece 93 = .ok (.aload_n 0, 1) := by decide +kernel
theorem dX5_readPiece_94 : decode cX5_readPiece 94 = .ok (.iconst 2, 1) := by decide +kernel
theorem dX5_readPiece_95 : decode cX5_readPiece 95 = .ok (.invokevirtual 100, 3) := by decide +kernel
theorem dX5_readPiece_98 : decode cX5_readPiece 98 = .ok (.goto 40, 3) := by decide +kernel
theorem dX5_readPiece_101 : decode cX5_readPiece 101 = .ok (.aload_n 0, 1) := by decide +kernel
theorem dX5_readPiece_102 : decode cX5_readPiece 102 = .ok (.ldc 106, 2) := by decide +kernel
theorem dX5_readPiece_104 : decode cX5_readPiece 104 = .ok (.invokevirtual 74, 3) := by decide +kernel
theorem dX5_readPiece_107 : decode cX5_readPiece 107 = .ok (.ifCond .eq 23, 3) := by decide +kernel
theorem dX5_readPiece_110 : decode cX5_readPiece 110 = .ok (.aload_n 0, 1) := by decide +kernel
theorem dX5_readPiece_111 : decode cX5_readPiece 111 = .ok (.getfield 42, 3) := by decide +kernel
theorem dX5_readPiece_114 : decode cX5_readPiece 114 = .ok (.ifCond .ne 16, 3) := by decide +kernel
theorem dX5_readPiece_117 : decode cX5_readPiece 117 = .ok (.aload_n 0, 1) := by decide +kernel
theorem dX5_readPiece_118 : decode cX5_readPiece 118 = .ok (.iconst 1, 1) := by decide +kernel
theorem dX5_readPiece_119 : decode cX5_readPiece 119 = .ok (.putfield 42, 3) := by decide +kernel
theorem dX5_readPiece_122 : decode cX5_readPiece 122 = .ok (.aload_n 0, 1) := by decide +kernel
theorem dX5_readPiece_123 : decode cX5_readPiece 123 = .ok (.iconst 3, 1) := by decide +kernel
theorem dX5_readPiece_124 : decode cX5_readPiece 124 = .ok (.invokevirtual 100, 3) := by decide +kernel
theorem dX5_readPiece_127 : decode cX5_readPiece 127 = .ok (.goto 11, 3) := by decide +kernel
theorem dX5_readPiece_130 : decode cX5_readPiece 130 = .ok (.aload_n 0, 1) := by decide +kernel
theorem dX5_readPiece_131 : decode cX5_readPiece 131 = .ok (.aload_n 0, 1) := by decide +kernel
theorem dX5_readPiece_132 : decode cX5_readPiece 132 = .ok (.getfield 78, 3) := by decide +kernel
theorem dX5_readPiece_135 : decode cX5_readPiece 135 = .ok (.putfield 29, 3) := by decide +kernel
theorem dX5_readPiece_138 : decode cX5_readPiece 138 = .ok (.return_, 1) := by decide +kernel
theorem dX5_readSemicolon_0 : decode cX5_readSemicolon 0 = .ok (.aload_n 0, 1) := by decide +kernel
theorem dX5_readSemicolon_1 : decode cX5_readSemicolon 1 = .ok (.invokevirtual 59, 3) := by decide +kernel
theorem dX5_readSemicolon_4 : decode cX5_readSemicolon 4 = .ok (.bipush 59, 2) := by decide +kernel
theorem dX5_readSemicolon_6 : decode cX5_readSemicolon 6 = .ok (.if_icmp .ne 16, 3) := by decide +kernel
theorem dX5_readSemicolon_9 : decode cX5_readSemicolon 9 = .ok (.aload_n 0, 1) := by decide +kernel
theorem dX5_readSemicolon_10 : decode cX5_readSemicolon 10 = .ok (.dup, 1) := by decide +kernel
theorem dX5_readSemicolon_11 : decode cX5_readSemicolon 11 = .ok (.getfield 25, 3) := by decide +kernel
theorem dX5_readSemicolon_14 : decode cX5_readSemicolon 14 = .ok (.iconst 1, 1) := by decide +kernel
theorem dX5_readSemicolon_15 : decode cX5_readSemicolon 15 = .ok (.iadd, 1) := by decide +kernel
theorem dX5_readSemicolon_16 : decode cX5_readSemicolon 16 = .ok (.putfield 25, 3) := by decide +kernel
theorem dX5_readSemicolon_19 : decode cX5_readSemicolon 19 = .ok (.goto 11, 3) := by decide +kernel
theorem dX5_readSemicolon_22 : decode cX5_readSemicolon 22 = .ok (.aload_n 0, 1) := by decide +kernel
theorem dX5_readSemicolon_23 : decode cX5_readSemicolon 23 = .ok (.aload_n 0, 1) := by decide +kernel
theorem dX5_readSemicolon_24 : decode cX5_readSemicolon 24 = .ok (.getfield 25, 3) := by decide +kernel
theorem dX5_readSemicolon_27 : decode cX5_readSemicolon 27 = .ok (.putfield 29, 3) := by decide +kernel
theorem dX5_readSemicolon_30 : decode cX5_readSemicolon 30 = .ok (.return_, 1) := by decide +kernel
theorem dX5_readSetting_0 : decode cX5_readSetting 0 = .ok (.iload_n 1, 1) := by decide +kernel
theorem dX5_readSetting_1 : decode cX5_readSetting 1 = .ok (.ifCond .lt 32, 3) := by decide +kernel
theorem dX5_readSetting_4 : decode cX5_readSetting 4 = .ok (.iload_n 1, 1) := by decide +kernel
theorem dX5_readSetting_5 : decode cX5_readSetting 5 = .ok (.aload_n 0, 1) := by decide +kernel
theorem dX5_readSetting_6 : decode cX5_readSetting 6 = .ok (.getfield 9, 3) := by decide +kernel
theorem dX5_readSetting_9 : decode cX5_readSetting 9 = .ok (.arraylength, 1) := by decide +kernel
theorem dX5_readSetting_10 : decode cX5_readSetting 10 = .ok (.if_icmp .ge 23, 3) := by decide +kernel
theorem dX5_readSetting_13 : decode cX5_readSetting 13 = .ok (.aload_n 0, 1) := by decide +kernel
theorem dX5_readSetting_14 : decode cX5_readSetting 14 = .ok (.getfield 9, 3) := by decide +kernel
theorem dX5_readSetting_17 : decode cX5_readSetting 17 = .ok (.iload_n 1, 1) := by decide +kernel
theorem dX5_readSetting_18 : decode cX5_readSetting 18 = .ok (.aload_n 0, 1) := by decide +kernel
theorem dX5_readSetting_19 : decode cX5_readSetting 19 = .ok (.getstatic 112, 3) := by decide +kernel
theorem dX5_readSetting_22 : decode cX5_readSetting 22 = .ok (.iload_n 1, 1) := by decide +kernel
theorem dX5_readSetting_23 : decode cX5_readSetting 23 = .ok (.iaload, 1) := by decide +kernel
theorem dX5_readSetting_24 : decode cX5_readSetting 24 = .ok (.getstatic 115, 3) := by decide +kernel
theorem dX5_readSetting_27 : decode cX5_readSetting 27 = .ok (.iload_n 1, 1) := by decide +kernel
theorem dX5_readSetting_28 : decode cX5_readSetting 28 = .ok (.iaload, 1) := by decide +kernel
theorem dX5_readSetting_29 : decode cX5_readSetting 29 = .ok (.invokevirtual 83, 3) := by decide +kernel
theorem dX5_readSetting_32 : decode cX5_readSetting 32 = .ok (.iastore, 1) := by decide +kernel
theorem dX5_readSetting_33 : decode cX5_readSetting 33 = .ok (.return_, 1) := by decide +kernel
theorem dX5_readSize_0 : decode cX5_readSize 0 = .ok (.aload_n 0, 1) := by decide +kernel
theorem dX5_readSize_1 : decode cX5_readSize 1 = .ok (.invokevirtual 69, 3) := by decide +kernel
theorem dX5_readSize_4 : decode cX5_readSize 4 = .ok (.aload_n 0, 1) := by decide +kernel
theorem dX5_readSize_5 : decode cX5_readSize 5 = .ok (.ldc 72, 2) := by decide +kernel
theorem dX5_readSize_7 : decode cX5_readSize 7 = .ok (.invokevirtual 74, 3) := by decide +kernel
theorem dX5_readSize_10 : decode cX5_readSize 10 = .ok (.ifCond .ne 11, 3) := by decide +kernel
theorem dX5_readSize_13 : decode cX5_readSize 13 = .ok (.aload_n 0, 1) := by decide +kernel
theorem dX5_readSize_14 : decode cX5_readSize 14 = .ok (.aload_n 0, 1) := by decide +kernel
theorem dX5_readSize_15 : decode cX5_readSize 15 = .ok (.getfield 78, 3) := by decide +kernel
theorem dX5_readSize_18 : decode cX5_readSize 18 = .ok (.putfield 29, 3) := by decide +kernel
theorem dX5_readSize_21 : decode cX5_readSize 21 = .ok (.aload_n 0, 1) := by decide +kernel
theorem dX5_readSize_22 : decode cX5_readSize 22 = .ok (.aload_n 0, 1) := by decide +kernel
theorem dX5_readSize_23 : decode cX5_readSize 23 = .ok (.iconst 2, 1) := by decide +kernel
theorem dX5_readSize_24 : decode cX5_readSize 24 = .ok (.bipush 9, 2) := by decide +kernel
theorem dX5_readSize_26 : decode cX5_readSize 26 = .ok (.invokevirtual 83, 3) := by decide +kernel
theorem dX5_readSize_29 : decode cX5_readSize 29 = .ok (.putfield 87, 3) := by decide +kernel
theorem dX5_readSize_32 : decode cX5_readSize 32 = .ok (.aload_n 0, 1) := by decide +kernel
theorem dX5_readSize_33 : decode cX5_readSize 33 = .ok (.aload_n 0, 1) := by decide +kernel
theorem dX5_readSize_34 : decode cX5_readSize 34 = .ok (.iconst 2, 1) := by decide +kernel
theorem dX5_readSize_35 : decode cX5_readSize 35 = .ok (.bipush 9, 2) := by decide +kernel
theorem dX5_readSize_37 : decode cX5_readSize 37 = .ok (.invokevirtual 83, 3) := by decide +kernel
theorem dX5_readSize_40 : decode cX5_readSize 40 = .ok (.putfield 90, 3) := by decide +kernel
theorem dX5_readSize_43 : decode cX5_readSize 43 = .ok (.return_, 1) := by decide +kernel
theorem dX5_readWord_0 : decode cX5_readWord 0 = .ok (.aload_n 0, 1) := by decide +kernel
theorem dX5_readWord_1 : decode cX5_readWord 1 = .ok (.invokevirtual 59, 3) := by decide +kernel
theorem dX5_readWord_4 : decode cX5_readWord 4 = .ok (.pop, 1) := by decide +kernel
theorem dX5_readWord_5 : decode cX5_readWord 5 = .ok (.aload_n 0, 1) := by decide +kernel
theorem dX5_readWord_6 : decode cX5_readWord 6 = .ok (.aload_n 0, 1) := by decide +kernel
theorem dX5_readWord_7 : decode cX5_readWord 7 = .ok (.getfield 25, 3) := by decide +kernel
theorem dX5_readWord_10 : decode cX5_readWord 10 = .ok (.putfield 78, 3) := by decide +kernel
theorem dX5_readWord_13 : decode cX5_readWord 13 = .ok (.aload_n 0, 1) := by decide +kernel
theorem dX5_readWord_14 : decode cX5_readWord 14 = .ok (.getfield 25, 3) := by decide +kernel
theorem dX5_readWord_17 : decode cX5_readWord 17 = .ok (.aload_n 0, 1) := by decide +kernel
theorem dX5_readWord_18 : decode cX5_readWord 18 = .ok (.getfield 21, 3) := by decide +kernel
theorem dX5_readWord_21 : decode cX5_readWord 21 = .ok (.getfield 118, 3) := by decide +kernel
theorem dX5_readWord_24 : decode cX5_readWord 24 = .ok (.if_icmp .ge 48, 3) := by decide +kernel
theorem dX5_readWord_27 : decode cX5_readWord 27 = .ok (.aload_n 0, 1) := by decide +kernel
theorem dX5_readWord_28 : decode cX5_readWord 28 = .ok (.getfield 21, 3) := by decide +kernel
theorem dX5_readWord_31 : decode cX5_readWord 31 = .ok (.aload_n 0, 1) := by decide +kernel
theorem dX5_readWord_32 : decode cX5_readWord 32 = .ok (.getfield 25, 3) := by decide +kernel
theorem dX5_readWord_35 : decode cX5_readWord 35 = .ok (.invokevirtual 121, 3) := by decide +kernel
theorem dX5_readWord_38 : decode cX5_readWord 38 = .ok (.bipush 97, 2) := by decide +kernel
theorem dX5_readWord_40 : decode cX5_readWord 40 = .ok (.if_icmp .lt 32, 3) := by decide +kernel
theorem dX5_readWord_43 : decode cX5_readWord 43 = .ok (.aload_n 0, 1) := by decide +kernel
theorem dX5_readWord_44 : decode cX5_readWord 44 = .ok (.getfield 21, 3) := by decide +kernel
theorem dX5_readWord_47 : decode cX5_readWord 47 = .ok (.aload_n 0, 1) := by decide +kernel
theorem dX5_readWord_48 : decode cX5_readWord 48 = .ok (.getfield 25, 3) := by decide +kernel
theorem dX5_readWord_51 : decode cX5_readWord 51 = .ok (.invokevirtual 121, 3) := by decide +kernel
theorem dX5_readWord_54 : decode cX5_readWord 54 = .ok (.bipush 122, 2) := by decide +kernel
theorem dX5_readWord_56 : decode cX5_readWord 56 = .ok (.if_icmp .gt 16, 3) := by decide +kernel
theorem dX5_readWord_59 : decode cX5_readWord 59 = .ok (.aload_n 0, 1) := by decide +kernel
theorem dX5_readWord_60 : decode cX5_readWord 60 = .ok (.dup, 1) := by decide +kernel
theorem dX5_readWord_61 : decode cX5_readWord 61 = .ok (.getfield 25, 3) := by decide +kernel
theorem dX5_readWord_64 : decode cX5_readWord 64 = .ok (.iconst 1, 1) := by decide +kernel
theorem dX5_readWord_65 : decode cX5_readWord 65 = .ok (.iadd, 1) := by decide +kernel
theorem dX5_readWord_66 : decode cX5_readWord 66 = .ok (.putfield 25, 3) := by decide +kernel
theorem dX5_readWord_69 : decode cX5_readWord 69 = .ok (.goto (-56), 3) := by decide +kernel
theorem dX5_readWord_72 : decode cX5_readWord 72 = .ok (.return_, 1) := by decide +kernel
theorem dX5_spells_0 : decode cX5_spells 0 = .ok (.aload_n 0, 1) := by decide +kernel
theorem dX5_spells_1 : decode cX5_spells 1 = .ok (.getfield 25, 3) := by decide +kernel
theorem dX5_spells_4 : decode cX5_spells 4 = .ok (.aload_n 0, 1) := by decide +kernel
theorem dX5_spells_5 : decode cX5_spells 5 = .ok (.getfield 78, 3) := by decide +kernel
theorem dX5_spells_8 : decode cX5_spells 8 = .ok (.isub, 1) := by decide +kernel
theorem dX5_spells_9 : decode cX5_spells 9 = .ok (.aload_n 1, 1) := by decide +kernel
theorem dX5_spells_10 : decode cX5_spells 10 = .ok (.invokevirtual 125, 3) := by decide +kernel
theorem dX5_spells_13 : decode cX5_spells 13 = .ok (.if_icmp .eq 5, 3) := by decide +kernel
theorem dX5_spells_16 : decode cX5_spells 16 = .ok (.iconst 0, 1) := by decide +kernel
theorem dX5_spells_17 : decode cX5_spells 17 = .ok (.ireturn, 1) := by decide +kernel
theorem dX5_spells_18 : decode cX5_spells 18 = .ok (.iconst 0, 1) := by decide +kernel
theorem dX5_spells_19 : decode cX5_spells 19 = .ok (.istore_n 2, 1) := by decide +kernel
theorem dX5_spells_20 : decode cX5_spells 20 = .ok (.iload_n 2, 1) := by decide +kernel
theorem dX5_spells_21 : decode cX5_spells 21 = .ok (.aload_n 1, 1) := by decide +kernel
theorem dX5_spells_22 : decode cX5_spells 22 = .ok (.invokevirtual 125, 3) := by decide +kernel
theorem dX5_spells_25 : decode cX5_spells 25 = .ok (.if_icmp .ge 32, 3) := by decide +kernel
theorem dX5_spells_28 : decode cX5_spells 28 = .ok (.aload_n 0, 1) := by decide +kernel
theorem dX5_spells_29 : decode cX5_spells 29 = .ok (.getfield 21, 3) := by decide +kernel
theorem dX5_spells_32 : decode cX5_spells 32 = .ok (.aload_n 0, 1) := by decide +kernel
theorem dX5_spells_33 : decode cX5_spells 33 = .ok (.getfield 78, 3) := by decide +kernel
theorem dX5_spells_36 : decode cX5_spells 36 = .ok (.iload_n 2, 1) := by decide +kernel
theorem dX5_spells_37 : decode cX5_spells 37 = .ok (.iadd, 1) := by decide +kernel
theorem dX5_spells_38 : decode cX5_spells 38 = .ok (.invokevirtual 121, 3) := by decide +kernel
theorem dX5_spells_41 : decode cX5_spells 41 = .ok (.aload_n 1, 1) := by decide +kernel
theorem dX5_spells_42 : decode cX5_spells 42 = .ok (.iload_n 2, 1) := by decide +kernel
theorem dX5_spells_43 : decode cX5_spells 43 = .ok (.invokevirtual 129, 3) := by decide +kernel
theorem dX5_spells_46 : decode cX5_spells 46 = .ok (.if_icmp .eq 5, 3) := by decide +kernel
theorem dX5_spells_49 : decode cX5_spells 49 = .ok (.iconst 0, 1) := by decide +kernel
theorem dX5_spells_50 : decode cX5_spells 50 = .ok (.ireturn, 1) := by decide +kernel
theorem dX5_spells_51 : decode cX5_spells 51 = .ok (.iinc 2 1, 3) := by decide +kernel
theorem dX5_spells_54 : decode cX5_spells 54 = .ok (.goto (-34), 3) := by decide +kernel
theorem dX5_spells_57 : decode cX5_spells 57 = .ok (.iconst 1, 1) := by decide +kernel
theorem dX5_spells_58 : decode cX5_spells 58 = .ok (.ireturn, 1) := by decide +kernel
theorem dX6_canMeet_0 : decode cX6_canMeet 0 = .ok (.iload_n 1, 1) := by decide +kernel
theorem dX6_canMeet_1 : decode cX6_canMeet 1 = .ok (.iload_n 3, 1) := by decide +kernel
theorem dX6_canMeet_2 : decode cX6_canMeet 2 = .ok (.ishr, 1) := by decide +kernel
theorem dX6_canMeet_3 : decode cX6_canMeet 3 = .ok (.iconst 1, 1) := by decide +kernel
theorem dX6_canMeet_4 : decode cX6_canMeet 4 = .ok (.iand, 1) := by decide +kernel
theorem dX6_canMeet_5 : decode cX6_canMeet 5 = .ok (.iconst 1, 1) := by decide +kernel
theorem dX6_canMeet_6 : decode cX6_canMeet 6 = .ok (.if_icmp .ne 22, 3) := by decide +kernel
theorem dX6_canMeet_9 : decode cX6_canMeet 9 = .ok (.aload_n 0, 1) := by decide +kernel
theorem dX6_canMeet_10 : decode cX6_canMeet 10 = .ok (.getfield 21, 3) := by decide +kernel
theorem dX6_canMeet_13 : decode cX6_canMeet 13 = .ok (.bipush 12, 2) := by decide +kernel
theorem dX6_canMeet_15 : decode cX6_canMeet 15 = .ok (.iload_n 2, 1) := by decide +kernel
theorem dX6_canMeet_16 : decode cX6_canMeet 16 = .ok (.imul, 1) := by decide +kernel
theorem dX6_canMeet_17 : decode cX6_canMeet 17 = .ok (.iload_n 3, 1) := by decide +kernel
theorem dX6_canMeet_18 : decode cX6_canMeet 18 = .ok (.iadd, 1) := by decide +kernel
theorem dX6_canMeet_19 : decode cX6_canMeet 19 = .ok (.iaload, 1) := by decide +kernel
theorem dX6_canMeet_20 : decode cX6_canMeet 20 = .ok (.iconst (-1), 1) := by decide +kernel
theorem dX6_canMeet_21 : decode cX6_canMeet 21 = .ok (.if_icmp .eq 7, 3) := by decide +kernel
theorem dX6_canMeet_24 : decode cX6_canMeet 24 = .ok (.iconst 1, 1) := by decide +kernel
theorem dX6_canMeet_25 : decode cX6_canMeet 25 = .ok (.goto 4, 3) := by decide +kernel
theorem dX6_canMeet_28 : decode cX6_canMeet 28 = .ok (.iconst 0, 1) := by decide +kernel
theorem dX6_canMeet_29 : decode cX6_canMeet 29 = .ok (.ireturn, 1) := by decide +kernel
theorem dX6_cheapestOther_0 : decode cX6_cheapestOther 0 = .ok (.iload_n 2, 1) := by decide +kernel
theorem dX6_cheapestOther_1 : decode cX6_cheapestOther 1 = .ok (.iconst 1, 1) := by decide +kernel
theorem dX6_cheapestOther_2 : decode cX6_cheapestOther 2 = .ok (.iadd, 1) := by decide +kernel
theorem dX6_cheapestOther_3 : decode cX6_cheapestOther 3 = .ok (.istore_n 3, 1) := by decide +kernel
theorem dX6_cheapestOther_4 : decode cX6_cheapestOther 4 = .ok (.iload_n 3, 1) := by decide +kernel
theorem dX6_cheapestOther_5 : decode cX6_cheapestOther 5 = .ok (.aload_n 0, 1) := by decide +kernel
theorem dX6_cheapestOther_6 : decode cX6_cheapestOther 6 = .ok (.getfield 34, 3) := by decide +kernel
theorem dX6_cheapestOther_9 : decode cX6_cheapestOther 9 = .ok (.if_icmp .ge 36, 3) := by decide +kernel
theorem dX6_cheapestOther_12 : decode cX6_cheapestOther 12 = .ok (.aload_n 0, 1) := by decide +kernel
theorem dX6_cheapestOther_13 : decode cX6_cheapestOther 13 = .ok (.iload_n 1, 1) := by decide +kernel
theorem dX6_cheapestOther_14 : decode cX6_cheapestOther 14 = .ok (.iload_n 2, 1) := by decide +kernel
theorem dX6_cheapestOther_15 : decode cX6_cheapestOther 15 = .ok (.iload_n 3, 1) := by decide +kernel
theorem dX6_cheapestOther_16 : decode cX6_cheapestOther 16 = .ok (.invokevirtual 113, 3) := by decide +kernel
theorem dX6_cheapestOther_19 : decode cX6_cheapestOther 19 = .ok (.ifCond .eq 20, 3) := by decide +kernel
theorem dX6_cheapestOther_22 : decode cX6_cheapestOther 22 = .ok (.aload_n 0, 1) := by decide +kernel
theorem dX6_cheapestOther_23 : decode cX6_cheapestOther 23 = .ok (.iload_n 1, 1) := by decide +kernel
theorem dX6_cheapestOther_24 : decode cX6_cheapestOther 24 = .ok (.iload_n 2, 1) := by decide +kernel
theorem dX6_cheapestOther_25 : decode cX6_cheapestOther 25 = .ok (.iload_n 3, 1) := by decide +kernel
theorem dX6_cheapestOther_26 : decode cX6_cheapestOther 26 = .ok (.invokevirtual 117, 3) := by decide +kernel
theorem dX6_cheapestOther_29 : decode cX6_cheapestOther 29 = .ok (.aload_n 0, 1) := by decide +kernel
theorem dX6_cheapestOther_30 : decode cX6_cheapestOther 30 = .ok (.iload_n 1, 1) := by decide +kernel
theorem dX6_cheapestOther_31 : decode cX6_cheapestOther 31 = .ok (.invokevirtual 41, 3) := by decide +kernel
theorem dX6_cheapestOther_34 : decode cX6_cheapestOther 34 = .ok (.if_icmp .ne 5, 3) := by decide +kernel
theorem dX6_cheapestOther_37 : decode cX6_cheapestOther 37 = .ok (.iload_n 3, 1) := by decide +kernel
theorem dX6_cheapestOther_38 : decode cX6_cheapestOther 38 = .ok (.ireturn, 1) := by decide +kernel
theorem dX6_cheapestOther_39 : decode cX6_cheapestOther 39 = .ok (.iinc 3 1, 3) := by decide +kernel
theorem dX6_cheapestOther_42 : decode cX6_cheapestOther 42 = .ok (.goto (-38), 3) := by decide +kernel
theorem dX6_cheapestOther_45 : decode cX6_cheapestOther 45 = .ok (.iload_n 2, 1) := by decide +kernel
theorem dX6_cheapestOther_46 : decode cX6_cheapestOther 46 = .ok (.ireturn, 1) := by decide +kernel
theorem dX6_choose_0 : decode cX6_choose 0 = .ok (.iload_n 1, 1) := by decide +kernel
theorem dX6_choose_1 : decode cX6_choose 1 = .ok (.istore_n 2, 1) := by decide +kernel
theorem dX6_choose_2 : decode cX6_choose 2 = .ok (.iconst 0, 1) := by decide +kernel
theorem dX6_choose_3 : decode cX6_choose 3 = .ok (.istore_n 3, 1) := by decide +kernel
theorem dX6_choose_4 : decode cX6_choose 4 = .ok (.iload_n 3, 1) := by decide +kernel
theorem dX6_choose_5 : decode cX6_choose 5 = .ok (.bipush 12, 2) := by decide +kernel
theorem dX6_choose_7 : decode cX6_choose 7 = .ok (.if_icmp .ge 100, 3) := by decide +kernel
theorem dX6_choose_10 : decode cX6_choose 10 = .ok (.iload_n 2, 1) := by decide +kernel
theorem dX6_choose_11 : decode cX6_choose 11 = .ok (.ifCond .eq 96, 3) := by decide +kernel
theorem dX6_choose_14 : decode cX6_choose 14 = .ok (.aload_n 0, 1) := by decide +kernel
theorem dX6_choose_15 : decode cX6_choose 15 = .ok (.iload_n 2, 1) := by decide +kernel
theorem dX6_choose_16 : decode cX6_choose 16 = .ok (.invokevirtual 107, 3) := by decide +kernel
theorem dX6_choose_19 : decode cX6_choose 19 = .ok (.istore 4, 2) := by decide +kernel
theorem dX6_choose_21 : decode cX6_choose 21 = .ok (.iload 4, 2) := by decide +kernel
theorem dX6_choose_23 : decode cX6_choose 23 = .ok (.istore 5, 2) := by decide +kernel
theorem dX6_choose_25 : decode cX6_choose 25 = .ok (.aload_n 0, 1) := by decide +kernel
theorem dX6_choose_26 : decode cX6_choose 26 = .ok (.iload_n 2, 1) := by decide +kernel
theorem dX6_choose_27 : decode cX6_choose 27 = .ok (.iload 4, 2) := by decide +kernel
theorem dX6_choose_29 : decode cX6_choose 29 = .ok (.invokevirtual 110, 3) := by decide +kernel
theorem dX6_choose_32 : decode cX6_choose 32 = .ok (.aload_n 0, 1) := by decide +kernel
theorem dX6_choose_33 : decode cX6_choose 33 = .ok (.iload_n 2, 1) := by decide +kernel
theorem dX6_choose_34 : decode cX6_choose 34 = .ok (.invokevirtual 41, 3) := by decide +kernel
theorem dX6_choose_37 : decode cX6_choose 37 = .ok (.if_icmp .eq 50, 3) := by decide +kernel
theorem dX6_choose_40 : decode cX6_choose 40 = .ok (.aload_n 0, 1) := by decide +kernel
theorem dX6_choose_41 : decode cX6_choose 41 = .ok (.iload_n 2, 1) := by decide +kernel
theorem dX6_choose_42 : decode cX6_choose 42 = .ok (.iload 4, 2) := by decide +kernel
theorem dX6_choose_44 : decode cX6_choose 44 = .ok (.invokevirtual 120, 3) := by decide +kernel
theorem dX6_choose_47 : decode cX6_choose 47 = .ok (.istore 5, 2) := by decide +kernel
theorem dX6_choose_49 : decode cX6_choose 49 = .ok (.aload_n 0, 1) := by decide +kernel
theorem dX6_choose_50 : decode cX6_choose 50 = .ok (.getfield 9, 3) := by decide +kernel
theorem dX6_choose_53 : decode cX6_choose 53 = .ok (.aload_n 0, 1) := by decide +kernel
theorem dX6_choose_54 : decode cX6_choose 54 = .ok (.getfield 18, 3) := by decide +kernel
theorem dX6_choose_57 : decode cX6_choose 57 = .ok (.iload 4, 2) := by decide +kernel
theorem dX6_choose_59 : decode cX6_choose 59 = .ok (.iaload, 1) := by decide +kernel
theorem dX6_choose_60 : decode cX6_choose 60 = .ok (.aload_n 0, 1) := by decide +kernel
theorem dX6_choose_61 : decode cX6_choose 61 = .ok (.getfield 18, 3) := by decide +kernel
theorem dX6_choose_64 : decode cX6_choose 64 = .ok (.iload 5, 2) := by decide +kernel
theorem dX6_choose_66 : decode cX6_choose 66 = .ok (.iaload, 1) := by decide +kernel
theorem dX6_choose_67 : decode cX6_choose 67 = .ok (.iastore, 1) := by decide +kernel
theorem dX6_choose_68 : decode cX6_choose 68 = .ok (.aload_n 0, 1) := by decide +kernel
theorem dX6_choose_69 : decode cX6_choose 69 = .ok (.getfield 9, 3) := by decide +kernel
theorem dX6_choose_72 : decode cX6_choose 72 = .ok (.aload_n 0, 1) := by decide +kernel
theorem dX6_choose_73 : decode cX6_choose 73 = .ok (.getfield 18, 3) := by decide +kernel
theorem dX6_choose_76 : decode cX6_choose 76 = .ok (.iload 5, 2) := by decide +kernel
theorem dX6_choose_78 : decode cX6_choose 78 = .ok (.iaload, 1) := by decide +kernel
theorem dX6_choose_79 : decode cX6_choose 79 = .ok (.aload_n 0, 1) := by decide +kernel
theorem dX6_choose_80 : decode cX6_choose 80 = .ok (.getfield 18, 3) := by decide +kernel
theorem dX6_choose_83 : decode cX6_choose 83 = .ok (.iload 4, 2) := by decide +kernel
theorem dX6_choose_85 : decode cX6_choose 85 = .ok (.iaload, 1) := by decide +kernel
theorem dX6_choose_86 : decode cX6_choose 86 = .ok (.iastore, 1) := by decide +kernel
theorem dX6_choose_87 : decode cX6_choose 87 = .ok (.iload_n 2, 1) := by decide +kernel
theorem dX6_choose_88 : decode cX6_choose 88 = .ok (.iconst 1, 1) := by decide +kernel
theorem dX6_choose_89 : decode cX6_choose 89 = .ok (.iload 4, 2) := by decide +kernel
theorem dX6_choose_91 : decode cX6_choose 91 = .ok (.ishl, 1) := by decide +kernel
theorem dX6_choose_92 : decode cX6_choose 92 = .ok (.iconst 1, 1) := by decide +kernel
theorem dX6_choose_93 : decode cX6_choose 93 = .ok (.iload 5, 2) := by decide +kernel
theorem dX6_choose_95 : decode cX6_choose 95 = .ok (.ishl, 1) := by decide +kernel
theorem dX6_choose_96 : decode cX6_choose 96 = .ok (.ior, 1) := by decide +kernel
theorem dX6_choose_97 : decode cX6_choose 97 = .ok (.iconst (-1), 1) := by decide +kernel
theorem dX6_choose_98 : decode cX6_choose 98 = .ok (.ixor, 1) := by decide +kernel
theorem dX6_choose_99 : decode cX6_choose 99 = .ok (.iand, 1) := by decide +kernel
theorem dX6_choose_100 : decode cX6_choose 100 = .ok (.istore_n 2, 1) := by decide +kernel
theorem dX6_choose_101 : decode cX6_choose 101 = .ok (.iinc 3 1, 3) := by decide +kernel
theorem dX6_choose_104 : decode cX6_choose 104 = .ok (.goto (-100), 3) := by decide +kernel
theorem dX6_choose_107 : decode cX6_choose 107 = .ok (.return_, 1) := by decide +kernel
