theorem dX7_hasFace_0 : decode cX7_hasFace 0 = .ok (.iload_n 1, 1) := by decide +kernel
theorem dX7_hasFace_1 : decode cX7_hasFace 1 = .ok (.ifCond .lt 43, 3) := by decide +kernel
theorem dX7_hasFace_4 : decode cX7_hasFace 4 = .ok (.iload_n 1, 1) := by decide +kernel
theorem dX7_hasFace_5 : decode cX7_hasFace 5 = .ok (.aload_n 0, 1) := by decide +kernel
theorem dX7_hasFace_6 : decode cX7_hasFace 6 = .ok (.getfield 15, 3) := by decide +kernel
theorem dX7_hasFace_9 : decode cX7_hasFace 9 = .ok (.iconst 1, 1) := by decide +kernel
theorem dX7_hasFace_10 : decode cX7_hasFace 10 = .ok (.isub, 1) := by decide +kernel
theorem dX7_hasFace_11 : decode cX7_hasFace 11 = .ok (.if_icmp .ge 33, 3) := by decide +kernel
theorem dX7_hasFace_14 : decode cX7_hasFace 14 = .ok (.iload_n 1, 1) := by decide +kernel
theorem dX7_hasFace_15 : decode cX7_hasFace 15 = .ok (.bipush 8, 2) := by decide +kernel
theorem dX7_hasFace_17 : decode cX7_hasFace 17 = .ok (.if_icmp .ge 27, 3) := by decide +kernel
theorem dX7_hasFace_20 : decode cX7_hasFace 20 = .ok (.iload_n 2, 1) := by decide +kernel
theorem dX7_hasFace_21 : decode cX7_hasFace 21 = .ok (.ifCond .lt 23, 3) := by decide +kernel
theorem dX7_hasFace_24 : decode cX7_hasFace 24 = .ok (.iload_n 2, 1) := by decide +kernel
theorem dX7_hasFace_25 : decode cX7_hasFace 25 = .ok (.aload_n 0, 1) := by decide +kernel
theorem dX7_hasFace_26 : decode cX7_hasFace 26 = .ok (.getfield 19, 3) := by decide +kernel
theorem dX7_hasFace_29 : decode cX7_hasFace 29 = .ok (.iconst 1, 1) := by decide +kernel
theorem dX7_hasFace_30 : decode cX7_hasFace 30 = .ok (.isub, 1) := by decide +kernel
theorem dX7_hasFace_31 : decode cX7_hasFace 31 = .ok (.if_icmp .ge 13, 3) := by decide +kernel
theorem dX7_hasFace_34 : decode cX7_hasFace 34 = .ok (.iload_n 2, 1) := by decide +kernel
theorem dX7_hasFace_35 : decode cX7_hasFace 35 = .ok (.bipush 8, 2) := by decide +kernel
theorem dX7_hasFace_37 : decode cX7_hasFace 37 = .ok (.if_icmp .ge 7, 3) := by decide +kernel
theorem dX7_hasFace_40 : decode cX7_hasFace 40 = .ok (.iconst 1, 1) := by decide +kernel
theorem dX7_hasFace_41 : decode cX7_hasFace 41 = .ok (.goto 4, 3) := by decide +kernel
theorem dX7_hasFace_44 : decode cX7_hasFace 44 = .ok (.iconst 0, 1) := by decide +kernel
theorem dX7_hasFace_45 : decode cX7_hasFace 45 = .ok (.ireturn, 1) := by decide +kernel
theorem dX7_placeOf_0 : decode cX7_placeOf 0 = .ok (.iconst 4, 1) := by decide +kernel
theorem dX7_placeOf_1 : decode cX7_placeOf 1 = .ok (.bipush 9, 2) := by decide +kernel
theorem dX7_placeOf_3 : decode cX7_placeOf 3 = .ok (.iload_n 1, 1) := by decide +kernel
theorem dX7_placeOf_4 : decode cX7_placeOf 4 = .ok (.imul, 1) := by decide +kernel
theorem dX7_placeOf_5 : decode cX7_placeOf 5 = .ok (.iload_n 0, 1) := by decide +kernel
theorem dX7_placeOf_6 : decode cX7_placeOf 6 = .ok (.iadd, 1) := by decide +kernel
theorem dX7_placeOf_7 : decode cX7_placeOf 7 = .ok (.imul, 1) := by decide +kernel
theorem dX7_placeOf_8 : decode cX7_placeOf 8 = .ok (.iconst 2, 1) := by decide +kernel
theorem dX7_placeOf_9 : decode cX7_placeOf 9 = .ok (.iload_n 2, 1) := by decide +kernel
theorem dX7_placeOf_10 : decode cX7_placeOf 10 = .ok (.imul, 1) := by decide +kernel
theorem dX7_placeOf_11 : decode cX7_placeOf 11 = .ok (.iadd, 1) := by decide +kernel
theorem dX7_placeOf_12 : decode cX7_placeOf 12 = .ok (.ireturn, 1) := by decide +kernel
theorem dX7_vectorOf_0 : decode cX7_vectorOf 0 = .ok (.aload_n 0, 1) := by decide +kernel
theorem dX7_vectorOf_1 : decode cX7_vectorOf 1 = .ok (.iload_n 1, 1) := by decide +kernel
theorem dX7_vectorOf_2 : decode cX7_vectorOf 2 = .ok (.iload_n 2, 1) := by decide +kernel
theorem dX7_vectorOf_3 : decode cX7_vectorOf 3 = .ok (.invokevirtual 51, 3) := by decide +kernel
theorem dX7_vectorOf_6 : decode cX7_vectorOf 6 = .ok (.ifCond .eq 12, 3) := by decide +kernel
theorem dX7_vectorOf_9 : decode cX7_vectorOf 9 = .ok (.iload_n 3, 1) := by decide +kernel
theorem dX7_vectorOf_10 : decode cX7_vectorOf 10 = .ok (.ifCond .eq 10, 3) := by decide +kernel
theorem dX7_vectorOf_13 : decode cX7_vectorOf 13 = .ok (.iload_n 3, 1) := by decide +kernel
theorem dX7_vectorOf_14 : decode cX7_vectorOf 14 = .ok (.iconst 1, 1) := by decide +kernel
theorem dX7_vectorOf_15 : decode cX7_vectorOf 15 = .ok (.if_icmp .eq 5, 3) := by decide +kernel
theorem dX7_vectorOf_18 : decode cX7_vectorOf 18 = .ok (.iconst 0, 1) := by decide +kernel
theorem dX7_vectorOf_19 : decode cX7_vectorOf 19 = .ok (.ireturn, 1) := by decide +kernel
theorem dX7_vectorOf_20 : decode cX7_vectorOf 20 = .ok (.aload_n 0, 1) := by decide +kernel
theorem dX7_vectorOf_21 : decode cX7_vectorOf 21 = .ok (.getfield 11, 3) := by decide +kernel
theorem dX7_vectorOf_24 : decode cX7_vectorOf 24 = .ok (.iload_n 1, 1) := by decide +kernel
theorem dX7_vectorOf_25 : decode cX7_vectorOf 25 = .ok (.iload_n 2, 1) := by decide +kernel
theorem dX7_vectorOf_26 : decode cX7_vectorOf 26 = .ok (.iconst 0, 1) := by decide +kernel
theorem dX7_vectorOf_27 : decode cX7_vectorOf 27 = .ok (.invokestatic 32, 3) := by decide +kernel
theorem dX7_vectorOf_30 : decode cX7_vectorOf 30 = .ok (.iload_n 3, 1) := by decide +kernel
theorem dX7_vectorOf_31 : decode cX7_vectorOf 31 = .ok (.iadd, 1) := by decide +kernel
theorem dX7_vectorOf_32 : decode cX7_vectorOf 32 = .ok (.iaload, 1) := by decide +kernel
theorem dX7_vectorOf_33 : decode cX7_vectorOf 33 = .ok (.aload_n 0, 1) := by decide +kernel
theorem dX7_vectorOf_34 : decode cX7_vectorOf 34 = .ok (.getfield 11, 3) := by decide +kernel
theorem dX7_vectorOf_37 : decode cX7_vectorOf 37 = .ok (.iload_n 1, 1) := by decide +kernel
theorem dX7_vectorOf_38 : decode cX7_vectorOf 38 = .ok (.iconst 1, 1) := by decide +kernel
theorem dX7_vectorOf_39 : decode cX7_vectorOf 39 = .ok (.iadd, 1) := by decide +kernel
theorem dX7_vectorOf_40 : decode cX7_vectorOf 40 = .ok (.iload_n 2, 1) := by decide +kernel
theorem dX7_vectorOf_41 : decode cX7_vectorOf 41 = .ok (.iconst 1, 1) := by decide +kernel
theorem dX7_vectorOf_42 : decode cX7_vectorOf 42 = .ok (.invokestatic 32, 3) := by decide +kernel
theorem dX7_vectorOf_45 : decode cX7_vectorOf 45 = .ok (.iload_n 3, 1) := by decide +kernel
theorem dX7_vectorOf_46 : decode cX7_vectorOf 46 = .ok (.iadd, 1) := by decide +kernel
theorem dX7_vectorOf_47 : decode cX7_vectorOf 47 = .ok (.iaload, 1) := by decide +kernel
theorem dX7_vectorOf_48 : decode cX7_vectorOf 48 = .ok (.iadd, 1) := by decide +kernel
theorem dX7_vectorOf_49 : decode cX7_vectorOf 49 = .ok (.aload_n 0, 1) := by decide +kernel
theorem dX7_vectorOf_50 : decode cX7_vectorOf 50 = .ok (.getfield 11, 3) := by decide +kernel
theorem dX7_vectorOf_53 : decode cX7_vectorOf 53 = .ok (.iload_n 1, 1) := by decide +kernel
theorem dX7_vectorOf_54 : decode cX7_vectorOf 54 = .ok (.iload_n 2, 1) := by decide +kernel
theorem dX7_vectorOf_55 : decode cX7_vectorOf 55 = .ok (.iconst 1, 1) := by decide +kernel
theorem dX7_vectorOf_56 : decode cX7_vectorOf 56 = .ok (.iadd, 1) := by decide +kernel
theorem dX7_vectorOf_57 : decode cX7_vectorOf 57 = .ok (.iconst 0, 1) := by decide +kernel
theorem dX7_vectorOf_58 : decode cX7_vectorOf 58 = .ok (.invokestatic 32, 3) := by decide +kernel
theorem dX7_vectorOf_61 : decode cX7_vectorOf 61 = .ok (.iload_n 3, 1) := by decide +kernel
theorem dX7_vectorOf_62 : decode cX7_vectorOf 62 = .ok (.iadd, 1) := by decide +kernel
theorem dX7_vectorOf_63 : decode cX7_vectorOf 63 = .ok (.iaload, 1) := by decide +kernel
theorem dX7_vectorOf_64 : decode cX7_vectorOf 64 = .ok (.isub, 1) := by decide +kernel
theorem dX7_vectorOf_65 : decode cX7_vectorOf 65 = .ok (.aload_n 0, 1) := by decide +kernel
theorem dX7_vectorOf_66 : decode cX7_vectorOf 66 = .ok (.getfield 11, 3) := by decide +kernel
theorem dX7_vectorOf_69 : decode cX7_vectorOf 69 = .ok (.iload_n 1, 1) := by decide +kernel
theorem dX7_vectorOf_70 : decode cX7_vectorOf 70 = .ok (.iload_n 2, 1) := by decide +kernel
theorem dX7_vectorOf_71 : decode cX7_vectorOf 71 = .ok (.iconst 1, 1) := by decide +kernel
theorem dX7_vectorOf_72 : decode cX7_vectorOf 72 = .ok (.invokestatic 32, 3) := by decide +kernel
theorem dX7_vectorOf_75 : decode cX7_vectorOf 75 = .ok (.iload_n 3, 1) := by decide +kernel
theorem dX7_vectorOf_76 : decode cX7_vectorOf 76 = .ok (.iadd, 1) := by decide +kernel
theorem dX7_vectorOf_77 : decode cX7_vectorOf 77 = .ok (.iaload, 1) := by decide +kernel
theorem dX7_vectorOf_78 : decode cX7_vectorOf 78 = .ok (.isub, 1) := by decide +kernel
theorem dX7_vectorOf_79 : decode cX7_vectorOf 79 = .ok (.ireturn, 1) := by decide +kernel
theorem dX0_find_0 : decode cX0_find 0 = .ok (.aload_n 0, 1) := by decide +kernel
theorem dX0_find_1 : decode cX0_find 1 = .ok (.iconst 0, 1) := by decide +kernel
theorem dX0_find_2 : decode cX0_find 2 = .ok (.putfield 18, 3) := by decide +kernel
theorem dX0_find_5 : decode cX0_find 5 = .ok (.iconst 0, 1) := by decide +kernel
theorem dX0_find_6 : decode cX0_find 6 = .ok (.istore_n 2, 1) := by decide +kernel
theorem dX0_find_7 : decode cX0_find 7 = .ok (.iload_n 2, 1) := by decide +kernel
theorem dX0_find_8 : decode cX0_find 8 = .ok (.aload_n 1, 1) := by decide +kernel
theorem dX0_find_9 : decode cX0_find 9 = .ok (.getfield 22, 3) := by decide +kernel
theorem dX0_find_12 : decode cX0_find 12 = .ok (.iconst 1, 1) := by decide +kernel
theorem dX0_find_13 : decode cX0_find 13 = .ok (.isub, 1) := by decide +kernel
theorem dX0_find_14 : decode cX0_find 14 = .ok (.if_icmp .ge 128, 3) := by decide +kernel
theorem dX0_find_17 : decode cX0_find 17 = .ok (.iconst 0, 1) := by decide +kernel
theorem dX0_find_18 : decode cX0_find 18 = .ok (.istore_n 3, 1) := by decide +kernel
theorem dX0_find_19 : decode cX0_find 19 = .ok (.iload_n 3, 1) := by decide +kernel
theorem dX0_find_20 : decode cX0_find 20 = .ok (.aload_n 1, 1) := by decide +kernel
theorem dX0_find_21 : decode cX0_find 21 = .ok (.getfield 27, 3) := by decide +kernel
theorem dX0_find_24 : decode cX0_find 24 = .ok (.iconst 1, 1) := by decide +kernel
theorem dX0_find_25 : decode cX0_find 25 = .ok (.isub, 1) := by decide +kernel
theorem dX0_find_26 : decode cX0_find 26 = .ok (.if_icmp .ge 110, 3) := by decide +kernel
theorem dX0_find_29 : decode cX0_find 29 = .ok (.aload_n 1, 1) := by decide +kernel
theorem dX0_find_30 : decode cX0_find 30 = .ok (.iload_n 3, 1) := by decide +kernel
theorem dX0_find_31 : decode cX0_find 31 = .ok (.iload_n 2, 1) := by decide +kernel
theorem dX0_find_32 : decode cX0_find 32 = .ok (.iconst 0, 1) := by decide +kernel
theorem dX0_find_33 : decode cX0_find 33 = .ok (.invokevirtual 30, 3) := by decide +kernel
theorem dX0_find_36 : decode cX0_find 36 = .ok (.istore 4, 2) := by decide +kernel
theorem dX0_find_38 : decode cX0_find 38 = .ok (.aload_n 1, 1) := by decide +kernel
theorem dX0_find_39 : decode cX0_find 39 = .ok (.iload_n 3, 1) := by decide +kernel
theorem dX0_find_40 : decode cX0_find 40 = .ok (.iload_n 2, 1) := by decide +kernel
theorem dX0_find_41 : decode cX0_find 41 = .ok (.iconst 1, 1) := by decide +kernel
theorem dX0_find_42 : decode cX0_find 42 = .ok (.invokevirtual 30, 3) := by decide +kernel
theorem dX0_find_45 : decode cX0_find 45 = .ok (.istore 5, 2) := by decide +kernel
theorem dX0_find_47 : decode cX0_find 47 = .ok (.iload 4, 2) := by decide +kernel
theorem dX0_find_49 : decode cX0_find 49 = .ok (.ifCond .ne 8, 3) := by decide +kernel
theorem dX0_find_52 : decode cX0_find 52 = .ok (.iload 5, 2) := by decide +kernel
theorem dX0_find_54 : decode cX0_find 54 = .ok (.ifCond .eq 76, 3) := by decide +kernel
theorem dX0_find_57 : decode cX0_find 57 = .ok (.aload_n 0, 1) := by decide +kernel
theorem dX0_find_58 : decode cX0_find 58 = .ok (.getfield 18, 3) := by decide +kernel
theorem dX0_find_61 : decode cX0_find 61 = .ok (.bipush 12, 2) := by decide +kernel
theorem dX0_find_63 : decode cX0_find 63 = .ok (.if_icmp .ge 67, 3) := by decide +kernel
theorem dX0_find_66 : decode cX0_find 66 = .ok (.aload_n 0, 1) := by decide +kernel
theorem dX0_find_67 : decode cX0_find 67 = .ok (.getfield 9, 3) := by decide +kernel
theorem dX0_find_70 : decode cX0_find 70 = .ok (.iconst 2, 1) := by decide +kernel
theorem dX0_find_71 : decode cX0_find 71 = .ok (.aload_n 0, 1) := by decide +kernel
theorem dX0_find_72 : decode cX0_find 72 = .ok (.getfield 18, 3) := by decide +kernel
theorem dX0_find_75 : decode cX0_find 75 = .ok (.imul, 1) := by decide +kernel
theorem dX0_find_76 : decode cX0_find 76 = .ok (.iload_n 3, 1) := by decide +kernel
theorem dX0_find_77 : decode cX0_find 77 = .ok (.iastore, 1) := by decide +kernel
theorem dX0_find_78 : decode cX0_find 78 = .ok (.aload_n 0, 1) := by decide +kernel
theorem dX0_find_79 : decode cX0_find 79 = .ok (.getfield 9, 3) := by decide +kernel
theorem dX0_find_82 : decode cX0_find 82 = .ok (.iconst 2, 1) := by decide +kernel
theorem dX0_find_83 : decode cX0_find 83 = .ok (.aload_n 0, 1) := by decide +kernel
theorem dX0_find_84 : decode cX0_find 84 = .ok (.getfield 18, 3) := by decide +kernel
theorem dX0_find_87 : decode cX0_find 87 = .ok (.imul, 1) := by decide +kernel
theorem dX0_find_88 : decode cX0_find 88 = .ok (.iconst 1, 1) := by decide +kernel
theorem dX0_find_89 : decode cX0_find 89 = .ok (.iadd, 1) := by decide +kernel
theorem dX0_find_90 : decode cX0_find 90 = .ok (.iload_n 2, 1) := by decide +kernel
theorem dX0_find_91 : decode cX0_find 91 = .ok (.iastore, 1) := by decide +kernel
theorem dX0_find_92 : decode cX0_find 92 = .ok (.aload_n 0, 1) := by decide +kernel
theorem dX0_find_93 : decode cX0_find 93 = .ok (.getfield 15, 3) := by decide +kernel
theorem dX0_find_96 : decode cX0_find 96 = .ok (.iconst 2, 1) := by decide +kernel
theorem dX0_find_97 : decode cX0_find 97 = .ok (.aload_n 0, 1) := by decide +kernel
theorem dX0_find_98 : decode cX0_find 98 = .ok (.getfield 18, 3) := by decide +kernel
theorem dX0_find_101 : decode cX0_find 101 = .ok (.imul, 1) := by decide +kernel
theorem dX0_find_102 : decode cX0_find 102 = .ok (.iload 4, 2) := by decide +kernel
theorem dX0_find_104 : decode cX0_find 104 = .ok (.iastore, 1) := by decide +kernel
theorem dX0_find_105 : decode cX0_find 105 = .ok (.aload_n 0, 1) := by decide +kernel
theorem dX0_find_106 : decode cX0_find 106 = .ok (.getfield 15, 3) := by decide +kernel
theorem dX0_find_109 : decode cX0_find 109 = .ok (.iconst 2, 1) := by decide +kernel
theorem dX0_find_110 : decode cX0_find 110 = .ok (.aload_n 0, 1) := by decide +kernel
theorem dX0_find_111 : decode cX0_find 111 = .ok (.getfield 18, 3) := by decide +kernel
theorem dX0_find_114 : decode cX0_find 114 = .ok (.imul, 1) := by decide +kernel
theorem dX0_find_115 : decode cX0_find 115 = .ok (.iconst 1, 1) := by decide +kernel
theorem dX0_find_116 : decode cX0_find 116 = .ok (.iadd, 1) := by decide +kernel
theorem dX0_find_117 : decode cX0_find 117 = .ok (.iload 5, 2) := by decide +kernel
theorem dX0_find_119 : decode cX0_find 119 = .ok (.iastore, 1) := by decide +kernel
theorem dX0_find_120 : decode cX0_find 120 = .ok (.aload_n 0, 1) := by decide +kernel
theorem dX0_find_121 : decode cX0_find 121 = .ok (.dup, 1) := by decide +kernel
theorem dX0_find_122 : decode cX0_find 122 = .ok (.getfield 18, 3) := by decide +kernel
theorem dX0_find_125 : decode cX0_find 125 = .ok (.iconst 1, 1) := by decide +kernel
theorem dX0_find_126 : decode cX0_find 126 = .ok (.iadd, 1) := by decide +kernel
theorem dX0_find_127 : decode cX0_find 127 = .ok (.putfield 18, 3) := by decide +kernel
theorem dX0_find_130 : decode cX0_find 130 = .ok (.iinc 3 1, 3) := by decide +kernel
theorem dX0_find_133 : decode cX0_find 133 = .ok (.goto (-114), 3) := by decide +kernel
theorem dX0_find_136 : decode cX0_find 136 = .ok (.iinc 2 1, 3) := by decide +kernel
theorem dX0_find_139 : decode cX0_find 139 = .ok (.goto (-132), 3) := by decide +kernel
theorem dX0_find_142 : decode cX0_find 142 = .ok (.return_, 1) := by decide +kernel
theorem dX11_afterReturn_0 : decode cX11_afterReturn 0 = .ok (.aload_n 0, 1) := by decide +kernel
theorem dX11_afterReturn_1 : decode cX11_afterReturn 1 = .ok (.getfield 28, 3) := by decide +kernel
theorem dX11_afterReturn_4 : decode cX11_afterReturn 4 = .ok (.getfield 127, 3) := by decide +kernel
theorem dX11_afterReturn_7 : decode cX11_afterReturn 7 = .ok (.aload_n 0, 1) := by decide +kernel
theorem dX11_afterReturn_8 : decode cX11_afterReturn 8 = .ok (.getfield 28, 3) := by decide +kernel
theorem dX11_afterReturn_11 : decode cX11_afterReturn 11 = .ok (.getfield 141, 3) := by decide +kernel
theorem dX11_afterReturn_14 : decode cX11_afterReturn 14 = .ok (.invokevirtual 257, 3) := by decide +kernel
theorem dX11_afterReturn_17 : decode cX11_afterReturn 17 = .ok (.iload_n 1, 1) := by decide +kernel
theorem dX11_afterReturn_18 : decode cX11_afterReturn 18 = .ok (.ireturn, 1) := by decide +kernel
theorem dX11_isEmpty_0 : decode cX11_isEmpty 0 = .ok (.aload_n 0, 1) := by decide +kernel
theorem dX11_isEmpty_1 : decode cX11_isEmpty 1 = .ok (.getfield 28, 3) := by decide +kernel
theorem dX11_isEmpty_4 : decode cX11_isEmpty 4 = .ok (.getfield 141, 3) := by decide +kernel
theorem dX11_isEmpty_7 : decode cX11_isEmpty 7 = .ok (.getfield 145, 3) := by decide +kernel
theorem dX11_isEmpty_10 : decode cX11_isEmpty 10 = .ok (.ifCond .ne 7, 3) := by decide +kernel
theorem dX11_isEmpty_13 : decode cX11_isEmpty 13 = .ok (.iconst 1, 1) := by decide +kernel
theorem dX11_isEmpty_14 : decode cX11_isEmpty 14 = .ok (.goto 4, 3) := by decide +kernel
theorem dX11_isEmpty_17 : decode cX11_isEmpty 17 = .ok (.iconst 0, 1) := by decide +kernel
theorem dX11_isEmpty_18 : decode cX11_isEmpty 18 = .ok (.ireturn, 1) := by decide +kernel
theorem dX7_copy_0 : decode cX7_copy 0 = .ok (.aload_n 0, 1) := by decide +kernel
theorem dX7_copy_1 : decode cX7_copy 1 = .ok (.aload_n 1, 1) := by decide +kernel
theorem dX7_copy_2 : decode cX7_copy 2 = .ok (.getfield 15, 3) := by decide +kernel
theorem dX7_copy_5 : decode cX7_copy 5 = .ok (.putfield 15, 3) := by decide +kernel
theorem dX7_copy_8 : decode cX7_copy 8 = .ok (.aload_n 0, 1) := by decide +kernel
theorem dX7_copy_9 : decode cX7_copy 9 = .ok (.aload_n 1, 1) := by decide +kernel
theorem dX7_copy_10 : decode cX7_copy 10 = .ok (.getfield 19, 3) := by decide +kernel
theorem dX7_copy_13 : decode cX7_copy 13 = .ok (.putfield 19, 3) := by decide +kernel
theorem dX7_copy_16 : decode cX7_copy 16 = .ok (.aload_n 1, 1) := by decide +kernel
theorem dX7_copy_17 : decode cX7_copy 17 = .ok (.getfield 11, 3) := by decide +kernel
theorem dX7_copy_20 : decode cX7_copy 20 = .ok (.iconst 0, 1) := by decide +kernel
theorem dX7_copy_21 : decode cX7_copy 21 = .ok (.aload_n 0, 1) := by decide +kernel
theorem dX7_copy_22 : decode cX7_copy 22 = .ok (.getfield 11, 3) := by decide +kernel
theorem dX7_copy_25 : decode cX7_copy 25 = .ok (.iconst 0, 1) := by decide +kernel
theorem dX7_copy_26 : decode cX7_copy 26 = .ok (.aload_n 0, 1) := by decide +kernel
theorem dX7_copy_27 : decode cX7_copy 27 = .ok (.getfield 11, 3) := by decide +kernel
theorem dX7_copy_30 : decode cX7_copy 30 = .ok (.arraylength, 1) := by decide +kernel
theorem dX7_copy_31 : decode cX7_copy 31 = .ok (.invokestatic 22, 3) := by decide +kernel
theorem dX7_copy_34 : decode cX7_copy 34 = .ok (.return_, 1) := by decide +kernel
theorem dX1_copy_0 : decode cX1_copy 0 = .ok (.aload_n 0, 1) := by decide +kernel
theorem dX1_copy_1 : decode cX1_copy 1 = .ok (.getfield 12, 3) := by decide +kernel
theorem dX1_copy_4 : decode cX1_copy 4 = .ok (.aload_n 1, 1) := by decide +kernel
theorem dX1_copy_5 : decode cX1_copy 5 = .ok (.getfield 12, 3) := by decide +kernel
theorem dX1_copy_8 : decode cX1_copy 8 = .ok (.invokevirtual 58, 3) := by decide +kernel
theorem dX1_copy_11 : decode cX1_copy 11 = .ok (.aload_n 0, 1) := by decide +kernel
theorem dX1_copy_12 : decode cX1_copy 12 = .ok (.getfield 21, 3) := by decide +kernel
theorem dX1_copy_15 : decode cX1_copy 15 = .ok (.aload_n 0, 1) := by decide +kernel
theorem dX1_copy_16 : decode cX1_copy 16 = .ok (.getfield 12, 3) := by decide +kernel
theorem dX1_copy_19 : decode cX1_copy 19 = .ok (.invokevirtual 54, 3) := by decide +kernel
theorem dX1_copy_22 : decode cX1_copy 22 = .ok (.return_, 1) := by decide +kernel
theorem dX1_clearTally_0 : decode cX1_clearTally 0 = .ok (.iconst 0, 1) := by decide +kernel
theorem dX1_clearTally_1 : decode cX1_clearTally 1 = .ok (.istore_n 1, 1) := by decide +kernel
theorem dX1_clearTally_2 : decode cX1_clearTally 2 = .ok (.iload_n 1, 1) := by decide +kernel
theorem dX1_clearTally_3 : decode cX1_clearTally 3 = .ok (.aload_n 0, 1) := by decide +kernel
theorem dX1_clearTally_4 : decode cX1_clearTally 4 = .ok (.getfield 25, 3) := by decide +kernel
theorem dX1_clearTally_7 : decode cX1_clearTally 7 = .ok (.arraylength, 1) := by decide +kernel
theorem dX1_clearTally_8 : decode cX1_clearTally 8 = .ok (.if_icmp .ge 16, 3) := by decide +kernel
theorem dX1_clearTally_11 : decode cX1_clearTally 11 = .ok (.aload_n 0, 1) := by decide +kernel
theorem dX1_clearTally_12 : decode cX1_clearTally 12 = .ok (.getfield 25, 3) := by decide +kernel
theorem dX1_clearTally_15 : decode cX1_clearTally 15 = .ok (.iload_n 1, 1) := by decide +kernel
theorem dX1_clearTally_16 : decode cX1_clearTally 16 = .ok (.iconst 0, 1) := by decide +kernel
theorem dX1_clearTally_17 : decode cX1_clearTally 17 = .ok (.iastore, 1) := by decide +kernel
theorem dX1_clearTally_18 : decode cX1_clearTally 18 = .ok (.iinc 1 1, 3) := by decide +kernel
theorem dX1_clearTally_21 : decode cX1_clearTally 21 = .ok (.goto (-19), 3) := by decide +kernel
theorem dX1_clearTally_24 : decode cX1_clearTally 24 = .ok (.return_, 1) := by decide +kernel
theorem dX0_has_0 : decode cX0_has 0 = .ok (.iload_n 1, 1) := by decide +kernel
theorem dX0_has_1 : decode cX0_has 1 = .ok (.ifCond .lt 30, 3) := by decide +kernel
theorem dX0_has_4 : decode cX0_has 4 = .ok (.iload_n 1, 1) := by decide +kernel
theorem dX0_has_5 : decode cX0_has 5 = .ok (.aload_n 0, 1) := by decide +kernel
theorem dX0_has_6 : decode cX0_has 6 = .ok (.getfield 18, 3) := by decide +kernel
theorem dX0_has_9 : decode cX0_has 9 = .ok (.if_icmp .ge 22, 3) := by decide +kernel
theorem dX0_has_12 : decode cX0_has 12 = .ok (.iload_n 1, 1) := by decide +kernel
theorem dX0_has_13 : decode cX0_has 13 = .ok (.bipush 12, 2) := by decide +kernel
theorem dX0_has_15 : decode cX0_has 15 = .ok (.if_icmp .ge 16, 3) := by decide +kernel
theorem dX0_has_18 : decode cX0_has 18 = .ok (.iload_n 2, 1) := by decide +kernel
theorem dX0_has_19 : decode cX0_has 19 = .ok (.ifCond .eq 8, 3) := by decide +kernel
theorem dX0_has_22 : decode cX0_has 22 = .ok (.iload_n 2, 1) := by decide +kernel
theorem dX0_has_23 : decode cX0_has 23 = .ok (.iconst 1, 1) := by decide +kernel
theorem dX0_has_24 : decode cX0_has 24 = .ok (.if_icmp .ne 7, 3) := by decide +kernel
theorem dX0_has_27 : decode cX0_has 27 = .ok (.iconst 1, 1) := by decide +kernel
theorem dX0_has_28 : decode cX0_has 28 = .ok (.goto 4, 3) := by decide +kernel
theorem dX0_has_31 : decode cX0_has 31 = .ok (.iconst 0, 1) := by decide +kernel
theorem dX0_has_32 : decode cX0_has 32 = .ok (.ireturn, 1) := by decide +kernel
theorem dX0_numberOf_0 : decode cX0_numberOf 0 = .ok (.aload_n 0, 1) := by decide +kernel
theorem dX0_numberOf_1 : decode cX0_numberOf 1 = .ok (.iload_n 1, 1) := by decide +kernel
theorem dX0_numberOf_2 : decode cX0_numberOf 2 = .ok (.iload_n 2, 1) := by decide +kernel
theorem dX0_numberOf_3 : decode cX0_numberOf 3 = .ok (.invokevirtual 34, 3) := by decide +kernel
theorem dX0_numberOf_6 : decode cX0_numberOf 6 = .ok (.ifCond .eq 16, 3) := by decide +kernel
theorem dX0_numberOf_9 : decode cX0_numberOf 9 = .ok (.aload_n 0, 1) := by decide +kernel
theorem dX0_numberOf_10 : decode cX0_numberOf 10 = .ok (.getfield 15, 3) := by decide +kernel
theorem dX0_numberOf_13 : decode cX0_numberOf 13 = .ok (.iconst 2, 1) := by decide +kernel
theorem dX0_numberOf_14 : decode cX0_numberOf 14 = .ok (.iload_n 1, 1) := by decide +kernel
theorem dX0_numberOf_15 : decode cX0_numberOf 15 = .ok (.imul, 1) := by decide +kernel
theorem dX0_numberOf_16 : decode cX0_numberOf 16 = .ok (.iload_n 2, 1) := by decide +kernel
theorem dX0_numberOf_17 : decode cX0_numberOf 17 = .ok (.iadd, 1) := by decide +kernel
theorem dX0_numberOf_18 : decode cX0_numberOf 18 = .ok (.iaload, 1) := by decide +kernel
theorem dX0_numberOf_19 : decode cX0_numberOf 19 = .ok (.goto 4, 3) := by decide +kernel
theorem dX0_numberOf_22 : decode cX0_numberOf 22 = .ok (.iconst 0, 1) := by decide +kernel
theorem dX0_numberOf_23 : decode cX0_numberOf 23 = .ok (.ireturn, 1) := by decide +kernel
theorem dX11_wayOfVector_0 : decode cX11_wayOfVector 0 = .ok (.iload_n 1, 1) := by decide +kernel
theorem dX11_wayOfVector_1 : decode cX11_wayOfVector 1 = .ok (.ifCond .ne 13, 3) := by decide +kernel
theorem dX11_wayOfVector_4 : decode cX11_wayOfVector 4 = .ok (.iload_n 0, 1) := by decide +kernel
theorem dX11_wayOfVector_5 : decode cX11_wayOfVector 5 = .ok (.ifCond .ne 7, 3) := by decide +kernel
theorem dX11_wayOfVector_8 : decode cX11_wayOfVector 8 = .ok (.iconst (-1), 1) := by decide +kernel
theorem dX11_wayOfVector_9 : decode cX11_wayOfVector 9 = .ok (.goto 4, 3) := by decide +kernel
theorem dX11_wayOfVector_12 : decode cX11_wayOfVector 12 = .ok (.iconst 0, 1) := by decide +kernel
theorem dX11_wayOfVector_13 : decode cX11_wayOfVector 13 = .ok (.ireturn, 1) := by decide +kernel
theorem dX11_wayOfVector_14 : decode cX11_wayOfVector 14 = .ok (.iload_n 0, 1) := by decide +kernel
theorem dX11_wayOfVector_15 : decode cX11_wayOfVector 15 = .ok (.ifCond .ne 7, 3) := by decide +kernel
theorem dX11_wayOfVector_18 : decode cX11_wayOfVector 18 = .ok (.iconst 1, 1) := by decide +kernel
theorem dX11_wayOfVector_19 : decode cX11_wayOfVector 19 = .ok (.goto 4, 3) := by decide +kernel
theorem dX11_wayOfVector_22 : decode cX11_wayOfVector 22 = .ok (.iconst (-1), 1) := by decide +kernel
theorem dX11_wayOfVector_23 : decode cX11_wayOfVector 23 = .ok (.ireturn, 1) := by decide +kernel
theorem dX0_wayOf_0 : decode cX0_wayOf 0 = .ok (.aload_n 0, 1) := by decide +kernel
theorem dX0_wayOf_1 : decode cX0_wayOf 1 = .ok (.iload_n 1, 1) := by decide +kernel
theorem dX0_wayOf_2 : decode cX0_wayOf 2 = .ok (.iconst 0, 1) := by decide +kernel
theorem dX0_wayOf_3 : decode cX0_wayOf 3 = .ok (.invokevirtual 38, 3) := by decide +kernel
theorem dX0_wayOf_6 : decode cX0_wayOf 6 = .ok (.aload_n 0, 1) := by decide +kernel
theorem dX0_wayOf_7 : decode cX0_wayOf 7 = .ok (.iload_n 1, 1) := by decide +kernel
theorem dX0_wayOf_8 : decode cX0_wayOf 8 = .ok (.iconst 1, 1) := by decide +kernel
theorem dX0_wayOf_9 : decode cX0_wayOf 9 = .ok (.invokevirtual 38, 3) := by decide +kernel
theorem dX0_wayOf_12 : decode cX0_wayOf 12 = .ok (.invokestatic 42, 3) := by decide +kernel
theorem dX0_wayOf_15 : decode cX0_wayOf 15 = .ok (.ireturn, 1) := by decide +kernel
theorem dX0_placeOf_0 : decode cX0_placeOf 0 = .ok (.aload_n 0, 1) := by decide +kernel
theorem dX0_placeOf_1 : decode cX0_placeOf 1 = .ok (.iload_n 1, 1) := by decide +kernel
theorem dX0_placeOf_2 : decode cX0_placeOf 2 = .ok (.iload_n 2, 1) := by decide +kernel
theorem dX0_placeOf_3 : decode cX0_placeOf 3 = .ok (.invokevirtual 34, 3) := by decide +kernel
theorem dX0_placeOf_6 : decode cX0_placeOf 6 = .ok (.ifCond .eq 16, 3) := by decide +kernel
theorem dX0_placeOf_9 : decode cX0_placeOf 9 = .ok (.aload_n 0, 1) := by decide +kernel
theorem dX0_placeOf_10 : decode cX0_placeOf 10 = .ok (.getfield 9, 3) := by decide +kernel
theorem dX0_placeOf_13 : decode cX0_placeOf 13 = .ok (.iconst 2, 1) := by decide +kernel
theorem dX0_placeOf_14 : decode cX0_placeOf 14 = .ok (.iload_n 1, 1) := by decide +kernel
theorem dX0_placeOf_15 : decode cX0_placeOf 15 = .ok (.imul, 1) := by decide +kernel
theorem dX0_placeOf_16 : decode cX0_placeOf 16 = .ok (.iload_n 2, 1) := by decide +kernel
theorem dX0_placeOf_17 : decode cX0_placeOf 17 = .ok (.iadd, 1) := by decide +kernel
theorem dX0_placeOf_18 : decode cX0_placeOf 18 = .ok (.iaload, 1) := by decide +kernel
theorem dX0_placeOf_19 : decode cX0_placeOf 19 = .ok (.goto 4, 3) := by decide +kernel
theorem dX0_placeOf_22 : decode cX0_placeOf 22 = .ok (.iconst 0, 1) := by decide +kernel
theorem dX0_placeOf_23 : decode cX0_placeOf 23 = .ok (.ireturn, 1) := by decide +kernel
theorem dJ6_signum_0f7a4_0 : decode cJ6_signum_0f7a4 0 = .ok (.iload_n 0, 1) := by decide +kernel
theorem dJ6_signum_0f7a4_1 : decode cJ6_signum_0f7a4 1 = .ok (.bipush 31, 2) := by decide +kernel
theorem dJ6_signum_0f7a4_3 : decode cJ6_signum_0f7a4 3 = .ok (.ishr, 1) := by decide +kernel
theorem dJ6_signum_0f7a4_4 : decode cJ6_signum_0f7a4 4 = .ok (.iload_n 0, 1) := by decide +kernel
theorem dJ6_signum_0f7a4_5 : decode cJ6_signum_0f7a4 5 = .ok (.ineg, 1) := by decide +kernel
theorem dJ6_signum_0f7a4_6 : decode cJ6_signum_0f7a4 6 = .ok (.bipush 31, 2) := by decide +kernel
theorem dJ6_signum_0f7a4_8 : decode cJ6_signum_0f7a4 8 = .ok (.iushr, 1) := by decide +kernel
theorem dJ6_signum_0f7a4_9 : decode cJ6_signum_0f7a4 9 = .ok (.ior, 1) := by decide +kernel
theorem dJ6_signum_0f7a4_10 : decode cJ6_signum_0f7a4 10 = .ok (.ireturn, 1) := by decide +kernel
theorem dJ9_abs_0f7a4_0 : decode cJ9_abs_0f7a4 0 = .ok (.iload_n 0, 1) := by decide +kernel
theorem dJ9_abs_0f7a4_1 : decode cJ9_abs_0f7a4 1 = .ok (.ifCond .ge 8, 3) := by decide +kernel
theorem dJ9_abs_0f7a4_4 : decode cJ9_abs_0f7a4 4 = .ok (.iload_n 0, 1) := by decide +kernel
theorem dJ9_abs_0f7a4_5 : decode cJ9_abs_0f7a4 5 = .ok (.ineg, 1) := by decide +kernel
theorem dJ9_abs_0f7a4_6 : decode cJ9_abs_0f7a4 6 = .ok (.goto 4, 3) := by decide +kernel
theorem dJ9_abs_0f7a4_9 : decode cJ9_abs_0f7a4 9 = .ok (.iload_n 0, 1) := by decide +kernel
theorem dJ9_abs_0f7a4_10 : decode cJ9_abs_0f7a4 10 = .ok (.ireturn, 1) := by decide +kernel
theorem dX0_pull_0 : decode cX0_pull 0 = .ok (.iload_n 2, 1) := by decide +kernel
theorem dX0_pull_1 : decode cX0_pull 1 = .ok (.iload_n 2, 1) := by decide +kernel
theorem dX0_pull_2 : decode cX0_pull 2 = .ok (.imul, 1) := by decide +kernel
theorem dX0_pull_3 : decode cX0_pull 3 = .ok (.iload_n 3, 1) := by decide +kernel
theorem dX0_pull_4 : decode cX0_pull 4 = .ok (.iload_n 3, 1) := by decide +kernel
theorem dX0_pull_5 : decode cX0_pull 5 = .ok (.imul, 1) := by decide +kernel
theorem dX0_pull_6 : decode cX0_pull 6 = .ok (.iadd, 1) := by decide +kernel
theorem dX0_pull_7 : decode cX0_pull 7 = .ok (.istore 4, 2) := by decide +kernel
theorem dX0_pull_9 : decode cX0_pull 9 = .ok (.iload 4, 2) := by decide +kernel
theorem dX0_pull_11 : decode cX0_pull 11 = .ok (.ifCond .gt 5, 3) := by decide +kernel
theorem dX0_pull_14 : decode cX0_pull 14 = .ok (.iconst 0, 1) := by decide +kernel
theorem dX0_pull_15 : decode cX0_pull 15 = .ok (.ireturn, 1) := by decide +kernel
theorem dX0_pull_16 : decode cX0_pull 16 = .ok (.iload_n 0, 1) := by decide +kernel
theorem dX0_pull_17 : decode cX0_pull 17 = .ok (.ifCond .ne 25, 3) := by decide +kernel
theorem dX0_pull_20 : decode cX0_pull 20 = .ok (.sipush 1000, 3) := by decide +kernel
theorem dX0_pull_23 : decode cX0_pull 23 = .ok (.iload_n 1, 1) := by decide +kernel
theorem dX0_pull_24 : decode cX0_pull 24 = .ok (.imul, 1) := by decide +kernel
theorem dX0_pull_25 : decode cX0_pull 25 = .ok (.iload_n 2, 1) := by decide +kernel
theorem dX0_pull_26 : decode cX0_pull 26 = .ok (.imul, 1) := by decide +kernel
theorem dX0_pull_27 : decode cX0_pull 27 = .ok (.iload_n 2, 1) := by decide +kernel
theorem dX0_pull_28 : decode cX0_pull 28 = .ok (.iload_n 2, 1) := by decide +kernel
theorem dX0_pull_29 : decode cX0_pull 29 = .ok (.imul, 1) := by decide +kernel
theorem dX0_pull_30 : decode cX0_pull 30 = .ok (.iload_n 3, 1) := by decide +kernel
theorem dX0_pull_31 : decode cX0_pull 31 = .ok (.iload_n 3, 1) := by decide +kernel
theorem dX0_pull_32 : decode cX0_pull 32 = .ok (.imul, 1) := by decide +kernel
theorem dX0_pull_33 : decode cX0_pull 33 = .ok (.isub, 1) := by decide +kernel
theorem dX0_pull_34 : decode cX0_pull 34 = .ok (.imul, 1) := by decide +kernel
theorem dX0_pull_35 : decode cX0_pull 35 = .ok (.iload 4, 2) := by decide +kernel
theorem dX0_pull_37 : decode cX0_pull 37 = .ok (.iload 4, 2) := by decide +kernel
theorem dX0_pull_39 : decode cX0_pull 39 = .ok (.imul, 1) := by decide +kernel
theorem dX0_pull_40 : decode cX0_pull 40 = .ok (.idiv, 1) := by decide +kernel
theorem dX0_pull_41 : decode cX0_pull 41 = .ok (.ireturn, 1) := by decide +kernel
theorem dX0_pull_42 : decode cX0_pull 42 = .ok (.iload_n 0, 1) := by decide +kernel
theorem dX0_pull_43 : decode cX0_pull 43 = .ok (.iconst 1, 1) := by decide +kernel
theorem dX0_pull_44 : decode cX0_pull 44 = .ok (.if_icmp .ne 23, 3) := by decide +kernel
theorem dX0_pull_47 : decode cX0_pull 47 = .ok (.bipush 100, 2) := by decide +kernel
theorem dX0_pull_49 : decode cX0_pull 49 = .ok (.iload_n 1, 1) := by decide +kernel
theorem dX0_pull_50 : decode cX0_pull 50 = .ok (.imul, 1) := by decide +kernel
theorem dX0_pull_51 : decode cX0_pull 51 = .ok (.iload_n 2, 1) := by decide +kernel
theorem dX0_pull_52 : decode cX0_pull 52 = .ok (.invokestatic 56, 3) := by decide +kernel
theorem dX0_pull_55 : decode cX0_pull 55 = .ok (.imul, 1) := by decide +kernel
theorem dX0_pull_56 : decode cX0_pull 56 = .ok (.iload_n 2, 1) := by decide +kernel
theorem dX0_pull_57 : decode cX0_pull 57 = .ok (.invokestatic 61, 3) := by decide +kernel
theorem dX0_pull_60 : decode cX0_pull 60 = .ok (.iload_n 3, 1) := by decide +kernel
theorem dX0_pull_61 : decode cX0_pull 61 = .ok (.invokestatic 61, 3) := by decide +kernel
theorem dX0_pull_64 : decode cX0_pull 64 = .ok (.iadd, 1) := by decide +kernel
theorem dX0_pull_65 : decode cX0_pull 65 = .ok (.idiv, 1) := by decide +kernel
theorem dX0_pull_66 : decode cX0_pull 66 = .ok (.ireturn, 1) := by decide +kernel
theorem dX0_pull_67 : decode cX0_pull 67 = .ok (.bipush 60, 2) := by decide +kernel
theorem dX0_pull_69 : decode cX0_pull 69 = .ok (.iload_n 1, 1) := by decide +kernel
theorem dX0_pull_70 : decode cX0_pull 70 = .ok (.imul, 1) := by decide +kernel
theorem dX0_pull_71 : decode cX0_pull 71 = .ok (.iload_n 2, 1) := by decide +kernel
theorem dX0_pull_72 : decode cX0_pull 72 = .ok (.imul, 1) := by decide +kernel
theorem dX0_pull_73 : decode cX0_pull 73 = .ok (.iload 4, 2) := by decide +kernel
theorem dX0_pull_75 : decode cX0_pull 75 = .ok (.idiv, 1) := by decide +kernel
theorem dX0_pull_76 : decode cX0_pull 76 = .ok (.ireturn, 1) := by decide +kernel
theorem dX0_forceOn_0 : decode cX0_forceOn 0 = .ok (.aload_n 0, 1) := by decide +kernel
theorem dX0_forceOn_1 : decode cX0_forceOn 1 = .ok (.iload_n 1, 1) := by decide +kernel
theorem dX0_forceOn_2 : decode cX0_forceOn 2 = .ok (.invokevirtual 48, 3) := by decide +kernel
theorem dX0_forceOn_5 : decode cX0_forceOn 5 = .ok (.istore_n 3, 1) := by decide +kernel
theorem dX0_forceOn_6 : decode cX0_forceOn 6 = .ok (.iload_n 3, 1) := by decide +kernel
theorem dX0_forceOn_7 : decode cX0_forceOn 7 = .ok (.ifCond .lt 9, 3) := by decide +kernel
theorem dX0_forceOn_10 : decode cX0_forceOn 10 = .ok (.aload_n 2, 1) := by decide +kernel
theorem dX0_forceOn_11 : decode cX0_forceOn 11 = .ok (.arraylength, 1) := by decide +kernel
theorem dX0_forceOn_12 : decode cX0_forceOn 12 = .ok (.iconst 3, 1) := by decide +kernel
theorem dX0_forceOn_13 : decode cX0_forceOn 13 = .ok (.if_icmp .gt 5, 3) := by decide +kernel
theorem dX0_forceOn_16 : decode cX0_forceOn 16 = .ok (.iconst 0, 1) := by decide +kernel
theorem dX0_forceOn_17 : decode cX0_forceOn 17 = .ok (.ireturn, 1) := by decide +kernel
theorem dX0_forceOn_18 : decode cX0_forceOn 18 = .ok (.aload_n 0, 1) := by decide +kernel
theorem dX0_forceOn_19 : decode cX0_forceOn 19 = .ok (.iload_n 1, 1) := by decide +kernel
theorem dX0_forceOn_20 : decode cX0_forceOn 20 = .ok (.iload_n 3, 1) := by decide +kernel
theorem dX0_forceOn_21 : decode cX0_forceOn 21 = .ok (.invokevirtual 38, 3) := by decide +kernel
theorem dX0_forceOn_24 : decode cX0_forceOn 24 = .ok (.istore 4, 2) := by decide +kernel
theorem dX0_forceOn_26 : decode cX0_forceOn 26 = .ok (.aload_n 2, 1) := by decide +kernel
theorem dX0_forceOn_27 : decode cX0_forceOn 27 = .ok (.iload_n 3, 1) := by decide +kernel
theorem dX0_forceOn_28 : decode cX0_forceOn 28 = .ok (.iaload, 1) := by decide +kernel
theorem dX0_forceOn_29 : decode cX0_forceOn 29 = .ok (.iload 4, 2) := by decide +kernel
theorem dX0_forceOn_31 : decode cX0_forceOn 31 = .ok (.imul, 1) := by decide +kernel
theorem dX0_forceOn_32 : decode cX0_forceOn 32 = .ok (.istore 5, 2) := by decide +kernel
theorem dX0_forceOn_34 : decode cX0_forceOn 34 = .ok (.iconst 0, 1) := by decide +kernel
theorem dX0_forceOn_35 : decode cX0_forceOn 35 = .ok (.istore 6, 2) := by decide +kernel
theorem dX0_forceOn_37 : decode cX0_forceOn 37 = .ok (.iload 6, 2) := by decide +kernel
theorem dX0_forceOn_39 : decode cX0_forceOn 39 = .ok (.aload_n 0, 1) := by decide +kernel
theorem dX0_forceOn_40 : decode cX0_forceOn 40 = .ok (.getfield 18, 3) := by decide +kernel
theorem dX0_forceOn_43 : decode cX0_forceOn 43 = .ok (.if_icmp .ge 76, 3) := by decide +kernel
theorem dX0_forceOn_46 : decode cX0_forceOn 46 = .ok (.iload 6, 2) := by decide +kernel
theorem dX0_forceOn_48 : decode cX0_forceOn 48 = .ok (.iload_n 1, 1) := by decide +kernel
theorem dX0_forceOn_49 : decode cX0_forceOn 49 = .ok (.if_icmp .eq 64, 3) := by decide +kernel
theorem dX0_forceOn_52 : decode cX0_forceOn 52 = .ok (.aload_n 0, 1) := by decide +kernel
theorem dX0_forceOn_53 : decode cX0_forceOn 53 = .ok (.iload_n 1, 1) := by decide +kernel
theorem dX0_forceOn_54 : decode cX0_forceOn 54 = .ok (.iload_n 3, 1) := by decide +kernel
theorem dX0_forceOn_55 : decode cX0_forceOn 55 = .ok (.invokevirtual 45, 3) := by decide +kernel
theorem dX0_forceOn_58 : decode cX0_forceOn 58 = .ok (.aload_n 0, 1) := by decide +kernel
theorem dX0_forceOn_59 : decode cX0_forceOn 59 = .ok (.iload 6, 2) := by decide +kernel
theorem dX0_forceOn_61 : decode cX0_forceOn 61 = .ok (.iload_n 3, 1) := by decide +kernel
theorem dX0_forceOn_62 : decode cX0_forceOn 62 = .ok (.invokevirtual 45, 3) := by decide +kernel
theorem dX0_forceOn_65 : decode cX0_forceOn 65 = .ok (.isub, 1) := by decide +kernel
theorem dX0_forceOn_66 : decode cX0_forceOn 66 = .ok (.istore 7, 2) := by decide +kernel
theorem dX0_forceOn_68 : decode cX0_forceOn 68 = .ok (.aload_n 0, 1) := by decide +kernel
theorem dX0_forceOn_69 : decode cX0_forceOn 69 = .ok (.iload_n 1, 1) := by decide +kernel
theorem dX0_forceOn_70 : decode cX0_forceOn 70 = .ok (.iconst 1, 1) := by decide +kernel
theorem dX0_forceOn_71 : decode cX0_forceOn 71 = .ok (.iload_n 3, 1) := by decide +kernel
theorem dX0_forceOn_72 : decode cX0_forceOn 72 = .ok (.isub, 1) := by decide +kernel
theorem dX0_forceOn_73 : decode cX0_forceOn 73 = .ok (.invokevirtual 45, 3) := by decide +kernel
theorem dX0_forceOn_76 : decode cX0_forceOn 76 = .ok (.aload_n 0, 1) := by decide +kernel
theorem dX0_forceOn_77 : decode cX0_forceOn 77 = .ok (.iload 6, 2) := by decide +kernel
theorem dX0_forceOn_79 : decode cX0_forceOn 79 = .ok (.iconst 1, 1) := by decide +kernel
theorem dX0_forceOn_80 : decode cX0_forceOn 80 = .ok (.iload_n 3, 1) := by decide +kernel
theorem dX0_forceOn_81 : decode cX0_forceOn 81 = .ok (.isub, 1) := by decide +kernel
theorem dX0_forceOn_82 : decode cX0_forceOn 82 = .ok (.invokevirtual 45, 3) := by decide +kernel
theorem dX0_forceOn_85 : decode cX0_forceOn 85 = .ok (.isub, 1) := by decide +kernel
theorem dX0_forceOn_86 : decode cX0_forceOn 86 = .ok (.istore 8, 2) := by decide +kernel
theorem dX0_forceOn_88 : decode cX0_forceOn 88 = .ok (.iload 5, 2) := by decide +kernel
theorem dX0_forceOn_90 : decode cX0_forceOn 90 = .ok (.aload_n 2, 1) := by decide +kernel
theorem dX0_forceOn_91 : decode cX0_forceOn 91 = .ok (.iconst 3, 1) := by decide +kernel
theorem dX0_forceOn_92 : decode cX0_forceOn 92 = .ok (.iaload, 1) := by decide +kernel
theorem dX0_forceOn_93 : decode cX0_forceOn 93 = .ok (.iload 4, 2) := by decide +kernel
theorem dX0_forceOn_95 : decode cX0_forceOn 95 = .ok (.aload_n 0, 1) := by decide +kernel
theorem dX0_forceOn_96 : decode cX0_forceOn 96 = .ok (.iload 6, 2) := by decide +kernel
theorem dX0_forceOn_98 : decode cX0_forceOn 98 = .ok (.iload_n 3, 1) := by decide +kernel
theorem dX0_forceOn_99 : decode cX0_forceOn 99 = .ok (.invokevirtual 38, 3) := by decide +kernel
theorem dX0_forceOn_102 : decode cX0_forceOn 102 = .ok (.imul, 1) := by decide +kernel
theorem dX0_forceOn_103 : decode cX0_forceOn 103 = .ok (.iload 7, 2) := by decide +kernel
theorem dX0_forceOn_105 : decode cX0_forceOn 105 = .ok (.iload 8, 2) := by decide +kernel
theorem dX0_forceOn_107 : decode cX0_forceOn 107 = .ok (.invokestatic 52, 3) := by decide +kernel
theorem dX0_forceOn_110 : decode cX0_forceOn 110 = .ok (.iadd, 1) := by decide +kernel
theorem dX0_forceOn_111 : decode cX0_forceOn 111 = .ok (.istore 5, 2) := by decide +kernel
theorem dX0_forceOn_113 : decode cX0_forceOn 113 = .ok (.iinc 6 1, 3) := by decide +kernel
theorem dX0_forceOn_116 : decode cX0_forceOn 116 = .ok (.goto (-79), 3) := by decide +kernel
theorem dX0_forceOn_119 : decode cX0_forceOn 119 = .ok (.iload 5, 2) := by decide +kernel
theorem dX0_forceOn_121 : decode cX0_forceOn 121 = .ok (.ireturn, 1) := by decide +kernel
theorem dX1_isUnchanged_0 : decode cX1_isUnchanged 0 = .ok (.aload_n 0, 1) := by decide +kernel
theorem dX1_isUnchanged_1 : decode cX1_isUnchanged 1 = .ok (.getfield 21, 3) := by decide +kernel
theorem dX1_isUnchanged_4 : decode cX1_isUnchanged 4 = .ok (.iload_n 1, 1) := by decide +kernel
theorem dX1_isUnchanged_5 : decode cX1_isUnchanged 5 = .ok (.iconst 0, 1) := by decide +kernel
theorem dX1_isUnchanged_6 : decode cX1_isUnchanged 6 = .ok (.invokevirtual 82, 3) := by decide +kernel
theorem dX1_isUnchanged_9 : decode cX1_isUnchanged 9 = .ok (.istore_n 2, 1) := by decide +kernel
theorem dX1_isUnchanged_10 : decode cX1_isUnchanged 10 = .ok (.aload_n 0, 1) := by decide +kernel
theorem dX1_isUnchanged_11 : decode cX1_isUnchanged 11 = .ok (.getfield 21, 3) := by decide +kernel
theorem dX1_isUnchanged_14 : decode cX1_isUnchanged 14 = .ok (.iload_n 1, 1) := by decide +kernel
theorem dX1_isUnchanged_15 : decode cX1_isUnchanged 15 = .ok (.iconst 1, 1) := by decide +kernel
theorem dX1_isUnchanged_16 : decode cX1_isUnchanged 16 = .ok (.invokevirtual 82, 3) := by decide +kernel
theorem dX1_isUnchanged_19 : decode cX1_isUnchanged 19 = .ok (.istore_n 3, 1) := by decide +kernel
theorem dX1_isUnchanged_20 : decode cX1_isUnchanged 20 = .ok (.aload_n 0, 1) := by decide +kernel
theorem dX1_isUnchanged_21 : decode cX1_isUnchanged 21 = .ok (.getfield 12, 3) := by decide +kernel
theorem dX1_isUnchanged_24 : decode cX1_isUnchanged 24 = .ok (.iload_n 2, 1) := by decide +kernel
theorem dX1_isUnchanged_25 : decode cX1_isUnchanged 25 = .ok (.iload_n 3, 1) := by decide +kernel
theorem dX1_isUnchanged_26 : decode cX1_isUnchanged 26 = .ok (.iconst 0, 1) := by decide +kernel
theorem dX1_isUnchanged_27 : decode cX1_isUnchanged 27 = .ok (.invokevirtual 86, 3) := by decide +kernel
theorem dX1_isUnchanged_30 : decode cX1_isUnchanged 30 = .ok (.aload_n 0, 1) := by decide +kernel
theorem dX1_isUnchanged_31 : decode cX1_isUnchanged 31 = .ok (.getfield 21, 3) := by decide +kernel
theorem dX1_isUnchanged_34 : decode cX1_isUnchanged 34 = .ok (.iload_n 1, 1) := by decide +kernel
theorem dX1_isUnchanged_35 : decode cX1_isUnchanged 35 = .ok (.iconst 0, 1) := by decide +kernel
theorem dX1_isUnchanged_36 : decode cX1_isUnchanged 36 = .ok (.invokevirtual 90, 3) := by decide +kernel
theorem dX1_isUnchanged_39 : decode cX1_isUnchanged 39 = .ok (.if_icmp .ne 29, 3) := by decide +kernel
theorem dX1_isUnchanged_42 : decode cX1_isUnchanged 42 = .ok (.aload_n 0, 1) := by decide +kernel
theorem dX1_isUnchanged_43 : decode cX1_isUnchanged 43 = .ok (.getfield 12, 3) := by decide +kernel
theorem dX1_isUnchanged_46 : decode cX1_isUnchanged 46 = .ok (.iload_n 2, 1) := by decide +kernel
theorem dX1_isUnchanged_47 : decode cX1_isUnchanged 47 = .ok (.iload_n 3, 1) := by decide +kernel
theorem dX1_isUnchanged_48 : decode cX1_isUnchanged 48 = .ok (.iconst 1, 1) := by decide +kernel
theorem dX1_isUnchanged_49 : decode cX1_isUnchanged 49 = .ok (.invokevirtual 86, 3) := by decide +kernel
theorem dX1_isUnchanged_52 : decode cX1_isUnchanged 52 = .ok (.aload_n 0, 1) := by decide +kernel
theorem dX1_isUnchanged_53 : decode cX1_isUnchanged 53 = .ok (.getfield 21, 3) := by decide +kernel
theorem dX1_isUnchanged_56 : decode cX1_isUnchanged 56 = .ok (.iload_n 1, 1) := by decide +kernel
theorem dX1_isUnchanged_57 : decode cX1_isUnchanged 57 = .ok (.iconst 1, 1) := by decide +kernel
theorem dX1_isUnchanged_58 : decode cX1_isUnchanged 58 = .ok (.invokevirtual 90, 3) := by decide +kernel
theorem dX1_isUnchanged_61 : decode cX1_isUnchanged 61 = .ok (.if_icmp .ne 7, 3) := by decide +kernel
theorem dX1_isUnchanged_64 : decode cX1_isUnchanged 64 = .ok (.iconst 1, 1) := by decide +kernel
theorem dX1_isUnchanged_65 : decode cX1_isUnchanged 65 = .ok (.goto 4, 3) := by decide +kernel
theorem dX1_isUnchanged_68 : decode cX1_isUnchanged 68 = .ok (.iconst 0, 1) := by decide +kernel
theorem dX1_isUnchanged_69 : decode cX1_isUnchanged 69 = .ok (.ireturn, 1) := by decide +kernel
theorem dX7_hasLink_0 : decode cX7_hasLink 0 = .ok (.iload_n 3, 1) := by decide +kernel
theorem dX7_hasLink_1 : decode cX7_hasLink 1 = .ok (.ifCond .eq 8, 3) := by decide +kernel
theorem dX7_hasLink_4 : decode cX7_hasLink 4 = .ok (.iload_n 3, 1) := by decide +kernel
theorem dX7_hasLink_5 : decode cX7_hasLink 5 = .ok (.iconst 1, 1) := by decide +kernel
theorem dX7_hasLink_6 : decode cX7_hasLink 6 = .ok (.if_icmp .ne 49, 3) := by decide +kernel
theorem dX7_hasLink_9 : decode cX7_hasLink 9 = .ok (.iload_n 1, 1) := by decide +kernel
theorem dX7_hasLink_10 : decode cX7_hasLink 10 = .ok (.ifCond .lt 45, 3) := by decide +kernel
theorem dX7_hasLink_13 : decode cX7_hasLink 13 = .ok (.iload_n 1, 1) := by decide +kernel
theorem dX7_hasLink_14 : decode cX7_hasLink 14 = .ok (.aload_n 0, 1) := by decide +kernel
theorem dX7_hasLink_15 : decode cX7_hasLink 15 = .ok (.getfield 15, 3) := by decide +kernel
theorem dX7_hasLink_18 : decode cX7_hasLink 18 = .ok (.iconst 1, 1) := by decide +kernel
theorem dX7_hasLink_19 : decode cX7_hasLink 19 = .ok (.isub, 1) := by decide +kernel
theorem dX7_hasLink_20 : decode cX7_hasLink 20 = .ok (.iload_n 3, 1) := by decide +kernel
theorem dX7_hasLink_21 : decode cX7_hasLink 21 = .ok (.iadd, 1) := by decide +kernel
theorem dX7_hasLink_22 : decode cX7_hasLink 22 = .ok (.if_icmp .ge 33, 3) := by decide +kernel
theorem dX7_hasLink_25 : decode cX7_hasLink 25 = .ok (.iload_n 1, 1) := by decide +kernel
theorem dX7_hasLink_26 : decode cX7_hasLink 26 = .ok (.bipush 9, 2) := by decide +kernel
theorem dX7_hasLink_28 : decode cX7_hasLink 28 = .ok (.if_icmp .ge 27, 3) := by decide +kernel
theorem dX7_hasLink_31 : decode cX7_hasLink 31 = .ok (.iload_n 2, 1) := by decide +kernel
theorem dX7_hasLink_32 : decode cX7_hasLink 32 = .ok (.ifCond .lt 23, 3) := by decide +kernel
theorem dX7_hasLink_35 : decode cX7_hasLink 35 = .ok (.iload_n 2, 1) := by decide +kernel
theorem dX7_hasLink_36 : decode cX7_hasLink 36 = .ok (.aload_n 0, 1) := by decide +kernel
theorem dX7_hasLink_37 : decode cX7_hasLink 37 = .ok (.getfield 19, 3) := by decide +kernel
theorem dX7_hasLink_40 : decode cX7_hasLink 40 = .ok (.iload_n 3, 1) := by decide +kernel
theorem dX7_hasLink_41 : decode cX7_hasLink 41 = .ok (.isub, 1) := by decide +kernel
theorem dX7_hasLink_42 : decode cX7_hasLink 42 = .ok (.if_icmp .ge 13, 3) := by decide +kernel
theorem dX7_hasLink_45 : decode cX7_hasLink 45 = .ok (.iload_n 2, 1) := by decide +kernel
theorem dX7_hasLink_46 : decode cX7_hasLink 46 = .ok (.bipush 9, 2) := by decide +kernel
theorem dX7_hasLink_48 : decode cX7_hasLink 48 = .ok (.if_icmp .ge 7, 3) := by decide +kernel
theorem dX7_hasLink_51 : decode cX7_hasLink 51 = .ok (.iconst 1, 1) := by decide +kernel
theorem dX7_hasLink_52 : decode cX7_hasLink 52 = .ok (.goto 4, 3) := by decide +kernel
theorem dX7_hasLink_55 : decode cX7_hasLink 55 = .ok (.iconst 0, 1) := by decide +kernel
theorem dX7_hasLink_56 : decode cX7_hasLink 56 = .ok (.ireturn, 1) := by decide +kernel
theorem dX7_addTo_0 : decode cX7_addTo 0 = .ok (.aload_n 0, 1) := by decide +kernel
theorem dX7_addTo_1 : decode cX7_addTo 1 = .ok (.iload_n 1, 1) := by decide +kernel
theorem dX7_addTo_2 : decode cX7_addTo 2 = .ok (.iload_n 2, 1) := by decide +kernel
theorem dX7_addTo_3 : decode cX7_addTo 3 = .ok (.iload_n 3, 1) := by decide +kernel
theorem dX7_addTo_4 : decode cX7_addTo 4 = .ok (.invokevirtual 28, 3) := by decide +kernel
theorem dX7_addTo_7 : decode cX7_addTo 7 = .ok (.ifCond .eq 37, 3) := by decide +kernel
theorem dX7_addTo_10 : decode cX7_addTo 10 = .ok (.aload_n 0, 1) := by decide +kernel
theorem dX7_addTo_11 : decode cX7_addTo 11 = .ok (.getfield 11, 3) := by decide +kernel
theorem dX7_addTo_14 : decode cX7_addTo 14 = .ok (.iload_n 1, 1) := by decide +kernel
theorem dX7_addTo_15 : decode cX7_addTo 15 = .ok (.iload_n 2, 1) := by decide +kernel
theorem dX7_addTo_16 : decode cX7_addTo 16 = .ok (.iload_n 3, 1) := by decide +kernel
theorem dX7_addTo_17 : decode cX7_addTo 17 = .ok (.invokestatic 32, 3) := by decide +kernel
theorem dX7_addTo_20 : decode cX7_addTo 20 = .ok (.dup2, 1) := by decide +kernel
theorem dX7_addTo_21 : decode cX7_addTo 21 = .ok (.iaload, 1) := by decide +kernel
theorem dX7_addTo_22 : decode cX7_addTo 22 = .ok (.iload 4, 2) := by decide +kernel
theorem dX7_addTo_24 : decode cX7_addTo 24 = .ok (.iadd, 1) := by decide +kernel
theorem dX7_addTo_25 : decode cX7_addTo 25 = .ok (.iastore, 1) := by decide +kernel
theorem dX7_addTo_26 : decode cX7_addTo 26 = .ok (.aload_n 0, 1) := by decide +kernel
theorem dX7_addTo_27 : decode cX7_addTo 27 = .ok (.getfield 11, 3) := by decide +kernel
theorem dX7_addTo_30 : decode cX7_addTo 30 = .ok (.iload_n 1, 1) := by decide +kernel
theorem dX7_addTo_31 : decode cX7_addTo 31 = .ok (.iload_n 2, 1) := by decide +kernel
theorem dX7_addTo_32 : decode cX7_addTo 32 = .ok (.iload_n 3, 1) := by decide +kernel
theorem dX7_addTo_33 : decode cX7_addTo 33 = .ok (.invokestatic 32, 3) := by decide +kernel
theorem dX7_addTo_36 : decode cX7_addTo 36 = .ok (.iconst 1, 1) := by decide +kernel
theorem dX7_addTo_37 : decode cX7_addTo 37 = .ok (.iadd, 1) := by decide +kernel
theorem dX7_addTo_38 : decode cX7_addTo 38 = .ok (.dup2, 1) := by decide +kernel
theorem dX7_addTo_39 : decode cX7_addTo 39 = .ok (.iaload, 1) := by decide +kernel
theorem dX7_addTo_40 : decode cX7_addTo 40 = .ok (.iload 5, 2) := by decide +kernel
theorem dX7_addTo_42 : decode cX7_addTo 42 = .ok (.iadd, 1) := by decide +kernel
theorem dX7_addTo_43 : decode cX7_addTo 43 = .ok (.iastore, 1) := by decide +kernel
theorem dX7_addTo_44 : decode cX7_addTo 44 = .ok (.return_, 1) := by decide +kernel
theorem dX7_isPlain_0 : decode cX7_isPlain 0 = .ok (.aload_n 0, 1) := by decide +kernel
theorem dX7_isPlain_1 : decode cX7_isPlain 1 = .ok (.iload_n 1, 1) := by decide +kernel
theorem dX7_isPlain_2 : decode cX7_isPlain 2 = .ok (.iload_n 2, 1) := by decide +kernel
theorem dX7_isPlain_3 : decode cX7_isPlain 3 = .ok (.iconst 0, 1) := by decide +kernel
theorem dX7_isPlain_4 : decode cX7_isPlain 4 = .ok (.invokevirtual 55, 3) := by decide +kernel
theorem dX7_isPlain_7 : decode cX7_isPlain 7 = .ok (.ifCond .ne 17, 3) := by decide +kernel
theorem dX7_isPlain_10 : decode cX7_isPlain 10 = .ok (.aload_n 0, 1) := by decide +kernel
theorem dX7_isPlain_11 : decode cX7_isPlain 11 = .ok (.iload_n 1, 1) := by decide +kernel
theorem dX7_isPlain_12 : decode cX7_isPlain 12 = .ok (.iload_n 2, 1) := by decide +kernel
theorem dX7_isPlain_13 : decode cX7_isPlain 13 = .ok (.iconst 1, 1) := by decide +kernel
theorem dX7_isPlain_14 : decode cX7_isPlain 14 = .ok (.invokevirtual 55, 3) := by decide +kernel
theorem dX7_isPlain_17 : decode cX7_isPlain 17 = .ok (.ifCond .ne 7, 3) := by decide +kernel
theorem dX7_isPlain_20 : decode cX7_isPlain 20 = .ok (.iconst 1, 1) := by decide +kernel
theorem dX7_isPlain_21 : decode cX7_isPlain 21 = .ok (.goto 4, 3) := by decide +kernel
theorem dX7_isPlain_24 : decode cX7_isPlain 24 = .ok (.iconst 0, 1) := by decide +kernel
theorem dX7_isPlain_25 : decode cX7_isPlain 25 = .ok (.ireturn, 1) := by decide +kernel
theorem dX7_carry_0 : decode cX7_carry 0 = .ok (.iload 5, 2) := by decide +kernel
theorem dX7_carry_2 : decode cX7_carry 2 = .ok (.ifCond .lt 9, 3) := by decide +kernel
theorem dX7_carry_5 : decode cX7_carry 5 = .ok (.iload 5, 2) := by decide +kernel
theorem dX7_carry_7 : decode cX7_carry 7 = .ok (.iconst 3, 1) := by decide +kernel
theorem dX7_carry_8 : decode cX7_carry 8 = .ok (.if_icmp .le 5, 3) := by decide +kernel
theorem dX7_carry_11 : decode cX7_carry 11 = .ok (.iconst 0, 1) := by decide +kernel
theorem dX7_carry_12 : decode cX7_carry 12 = .ok (.ireturn, 1) := by decide +kernel
theorem dX7_carry_13 : decode cX7_carry 13 = .ok (.iload 5, 2) := by decide +kernel
theorem dX7_carry_15 : decode cX7_carry 15 = .ok (.tableswitch 70 0 2 #[25, 42, 57], 25) := by decide +kernel
theorem dX7_carry_40 : decode cX7_carry 40 = .ok (.aload_n 0, 1) := by decide +kernel
theorem dX7_carry_41 : decode cX7_carry 41 = .ok (.iload_n 1, 1) := by decide +kernel
theorem dX7_carry_42 : decode cX7_carry 42 = .ok (.iconst 1, 1) := by decide +kernel
theorem dX7_carry_43 : decode cX7_carry 43 = .ok (.iadd, 1) := by decide +kernel
theorem dX7_carry_44 : decode cX7_carry 44 = .ok (.iload_n 2, 1) := by decide +kernel
theorem dX7_carry_45 : decode cX7_carry 45 = .ok (.iconst 1, 1) := by decide +kernel
theorem dX7_carry_46 : decode cX7_carry 46 = .ok (.iload_n 3, 1) := by decide +kernel
theorem dX7_carry_47 : decode cX7_carry 47 = .ok (.ineg, 1) := by decide +kernel
theorem dX7_carry_48 : decode cX7_carry 48 = .ok (.iload 4, 2) := by decide +kernel
theorem dX7_carry_50 : decode cX7_carry 50 = .ok (.ineg, 1) := by decide +kernel
theorem dX7_carry_51 : decode cX7_carry 51 = .ok (.invokevirtual 58, 3) := by decide +kernel
theorem dX7_carry_54 : decode cX7_carry 54 = .ok (.goto 43, 3) := by decide +kernel
theorem dX7_carry_57 : decode cX7_carry 57 = .ok (.aload_n 0, 1) := by decide +kernel
theorem dX7_carry_58 : decode cX7_carry 58 = .ok (.iload_n 1, 1) := by decide +kernel
theorem dX7_carry_59 : decode cX7_carry 59 = .ok (.iload_n 2, 1) := by decide +kernel
theorem dX7_carry_60 : decode cX7_carry 60 = .ok (.iconst 1, 1) := by decide +kernel
theorem dX7_carry_61 : decode cX7_carry 61 = .ok (.iadd, 1) := by decide +kernel
theorem dX7_carry_62 : decode cX7_carry 62 = .ok (.iconst 0, 1) := by decide +kernel
theorem dX7_carry_63 : decode cX7_carry 63 = .ok (.iload_n 3, 1) := by decide +kernel
theorem dX7_carry_64 : decode cX7_carry 64 = .ok (.iload 4, 2) := by decide +kernel
theorem dX7_carry_66 : decode cX7_carry 66 = .ok (.invokevirtual 58, 3) := by decide +kernel
theorem dX7_carry_69 : decode cX7_carry 69 = .ok (.goto 28, 3) := by decide +kernel
theorem dX7_carry_72 : decode cX7_carry 72 = .ok (.aload_n 0, 1) := by decide +kernel
theorem dX7_carry_73 : decode cX7_carry 73 = .ok (.iload_n 1, 1) := by decide +kernel
theorem dX7_carry_74 : decode cX7_carry 74 = .ok (.iload_n 2, 1) := by decide +kernel
theorem dX7_carry_75 : decode cX7_carry 75 = .ok (.iconst 1, 1) := by decide +kernel
theorem dX7_carry_76 : decode cX7_carry 76 = .ok (.iload_n 3, 1) := by decide +kernel
theorem dX7_carry_77 : decode cX7_carry 77 = .ok (.iload 4, 2) := by decide +kernel
theorem dX7_carry_79 : decode cX7_carry 79 = .ok (.invokevirtual 58, 3) := by decide +kernel
theorem dX7_carry_82 : decode cX7_carry 82 = .ok (.goto 15, 3) := by decide +kernel
theorem dX7_carry_85 : decode cX7_carry 85 = .ok (.aload_n 0, 1) := by decide +kernel
theorem dX7_carry_86 : decode cX7_carry 86 = .ok (.iload_n 1, 1) := by decide +kernel
theorem dX7_carry_87 : decode cX7_carry 87 = .ok (.iload_n 2, 1) := by decide +kernel
theorem dX7_carry_88 : decode cX7_carry 88 = .ok (.iconst 0, 1) := by decide +kernel
theorem dX7_carry_89 : decode cX7_carry 89 = .ok (.iload_n 3, 1) := by decide +kernel
theorem dX7_carry_90 : decode cX7_carry 90 = .ok (.ineg, 1) := by decide +kernel
theorem dX7_carry_91 : decode cX7_carry 91 = .ok (.iload 4, 2) := by decide +kernel
theorem dX7_carry_93 : decode cX7_carry 93 = .ok (.ineg, 1) := by decide +kernel
theorem dX7_carry_94 : decode cX7_carry 94 = .ok (.invokevirtual 58, 3) := by decide +kernel
theorem dX7_carry_97 : decode cX7_carry 97 = .ok (.iload_n 1, 1) := by decide +kernel
theorem dX7_carry_98 : decode cX7_carry 98 = .ok (.getstatic 62, 3) := by decide +kernel
theorem dX7_carry_101 : decode cX7_carry 101 = .ok (.iload 5, 2) := by decide +kernel
theorem dX7_carry_103 : decode cX7_carry 103 = .ok (.iaload, 1) := by decide +kernel
theorem dX7_carry_104 : decode cX7_carry 104 = .ok (.iadd, 1) := by decide +kernel
theorem dX7_carry_105 : decode cX7_carry 105 = .ok (.istore 6, 2) := by decide +kernel
theorem dX7_carry_107 : decode cX7_carry 107 = .ok (.iload_n 2, 1) := by decide +kernel
theorem dX7_carry_108 : decode cX7_carry 108 = .ok (.getstatic 65, 3) := by decide +kernel
theorem dX7_carry_111 : decode cX7_carry 111 = .ok (.iload 5, 2) := by decide +kernel
theorem dX7_carry_113 : decode cX7_carry 113 = .ok (.iaload, 1) := by decide +kernel
theorem dX7_carry_114 : decode cX7_carry 114 = .ok (.iadd, 1) := by decide +kernel
theorem dX7_carry_115 : decode cX7_carry 115 = .ok (.istore 7, 2) := by decide +kernel
theorem dX7_carry_117 : decode cX7_carry 117 = .ok (.aload_n 0, 1) := by decide +kernel
theorem dX7_carry_118 : decode cX7_carry 118 = .ok (.iload 6, 2) := by decide +kernel
theorem dX7_carry_120 : decode cX7_carry 120 = .ok (.iload 7, 2) := by decide +kernel
theorem dX7_carry_122 : decode cX7_carry 122 = .ok (.invokevirtual 51, 3) := by decide +kernel
theorem dX7_carry_125 : decode cX7_carry 125 = .ok (.ifCond .ne 5, 3) := by decide +kernel
theorem dX7_carry_128 : decode cX7_carry 128 = .ok (.iconst 3, 1) := by decide +kernel
theorem dX7_carry_129 : decode cX7_carry 129 = .ok (.ireturn, 1) := by decide +kernel
theorem dX7_carry_130 : decode cX7_carry 130 = .ok (.aload_n 0, 1) := by decide +kernel
theorem dX7_carry_131 : decode cX7_carry 131 = .ok (.iload 6, 2) := by decide +kernel
theorem dX7_carry_133 : decode cX7_carry 133 = .ok (.iload 7, 2) := by decide +kernel
theorem dX7_carry_135 : decode cX7_carry 135 = .ok (.invokevirtual 68, 3) := by decide +kernel
theorem dX7_carry_138 : decode cX7_carry 138 = .ok (.ifCond .eq 7, 3) := by decide +kernel
theorem dX7_carry_141 : decode cX7_carry 141 = .ok (.iconst 2, 1) := by decide +kernel
theorem dX7_carry_142 : decode cX7_carry 142 = .ok (.goto 4, 3) := by decide +kernel
theorem dX7_carry_145 : decode cX7_carry 145 = .ok (.iconst 0, 1) := by decide +kernel
theorem dX7_carry_146 : decode cX7_carry 146 = .ok (.ireturn, 1) := by decide +kernel
theorem dX1_glide_0 : decode cX1_glide 0 = .ok (.aload_n 0, 1) := by decide +kernel
theorem dX1_glide_1 : decode cX1_glide 1 = .ok (.getfield 21, 3) := by decide +kernel
theorem dX1_glide_4 : decode cX1_glide 4 = .ok (.iload_n 1, 1) := by decide +kernel
theorem dX1_glide_5 : decode cX1_glide 5 = .ok (.invokevirtual 93, 3) := by decide +kernel
theorem dX1_glide_8 : decode cX1_glide 8 = .ok (.iload_n 2, 1) := by decide +kernel
theorem dX1_glide_9 : decode cX1_glide 9 = .ok (.ifCond .eq 7, 3) := by decide +kernel
theorem dX1_glide_12 : decode cX1_glide 12 = .ok (.iconst 0, 1) := by decide +kernel
theorem dX1_glide_13 : decode cX1_glide 13 = .ok (.goto 4, 3) := by decide +kernel
theorem dX1_glide_16 : decode cX1_glide 16 = .ok (.iconst 2, 1) := by decide +kernel
theorem dX1_glide_17 : decode cX1_glide 17 = .ok (.iadd, 1) := by decide +kernel
theorem dX1_glide_18 : decode cX1_glide 18 = .ok (.istore_n 3, 1) := by decide +kernel
theorem dX1_glide_19 : decode cX1_glide 19 = .ok (.aload_n 0, 1) := by decide +kernel
theorem dX1_glide_20 : decode cX1_glide 20 = .ok (.getfield 12, 3) := by decide +kernel
theorem dX1_glide_23 : decode cX1_glide 23 = .ok (.aload_n 0, 1) := by decide +kernel
theorem dX1_glide_24 : decode cX1_glide 24 = .ok (.getfield 21, 3) := by decide +kernel
theorem dX1_glide_27 : decode cX1_glide 27 = .ok (.iload_n 1, 1) := by decide +kernel
theorem dX1_glide_28 : decode cX1_glide 28 = .ok (.iconst 0, 1) := by decide +kernel
theorem dX1_glide_29 : decode cX1_glide 29 = .ok (.invokevirtual 82, 3) := by decide +kernel
theorem dX1_glide_32 : decode cX1_glide 32 = .ok (.aload_n 0, 1) := by decide +kernel
theorem dX1_glide_33 : decode cX1_glide 33 = .ok (.getfield 21, 3) := by decide +kernel
theorem dX1_glide_36 : decode cX1_glide 36 = .ok (.iload_n 1, 1) := by decide +kernel
theorem dX1_glide_37 : decode cX1_glide 37 = .ok (.iconst 1, 1) := by decide +kernel
theorem dX1_glide_38 : decode cX1_glide 38 = .ok (.invokevirtual 82, 3) := by decide +kernel
theorem dX1_glide_41 : decode cX1_glide 41 = .ok (.aload_n 0, 1) := by decide +kernel
theorem dX1_glide_42 : decode cX1_glide 42 = .ok (.getfield 21, 3) := by decide +kernel
theorem dX1_glide_45 : decode cX1_glide 45 = .ok (.iload_n 1, 1) := by decide +kernel
theorem dX1_glide_46 : decode cX1_glide 46 = .ok (.iconst 0, 1) := by decide +kernel
theorem dX1_glide_47 : decode cX1_glide 47 = .ok (.invokevirtual 90, 3) := by decide +kernel
theorem dX1_glide_50 : decode cX1_glide 50 = .ok (.aload_n 0, 1) := by decide +kernel
theorem dX1_glide_51 : decode cX1_glide 51 = .ok (.getfield 21, 3) := by decide +kernel
theorem dX1_glide_54 : decode cX1_glide 54 = .ok (.iload_n 1, 1) := by decide +kernel
theorem dX1_glide_55 : decode cX1_glide 55 = .ok (.iconst 1, 1) := by decide +kernel
theorem dX1_glide_56 : decode cX1_glide 56 = .ok (.invokevirtual 90, 3) := by decide +kernel
theorem dX1_glide_59 : decode cX1_glide 59 = .ok (.iload_n 3, 1) := by decide +kernel
theorem dX1_glide_60 : decode cX1_glide 60 = .ok (.invokevirtual 96, 3) := by decide +kernel
theorem dX1_glide_63 : decode cX1_glide 63 = .ok (.istore 4, 2) := by decide +kernel
theorem dX1_glide_65 : decode cX1_glide 65 = .ok (.aload_n 0, 1) := by decide +kernel
theorem dX1_glide_66 : decode cX1_glide 66 = .ok (.getfield 25, 3) := by decide +kernel
theorem dX1_glide_69 : decode cX1_glide 69 = .ok (.iconst 0, 1) := by decide +kernel
theorem dX1_glide_70 : decode cX1_glide 70 = .ok (.dup2, 1) := by decide +kernel
theorem dX1_glide_71 : decode cX1_glide 71 = .ok (.iaload, 1) := by decide +kernel
theorem dX1_glide_72 : decode cX1_glide 72 = .ok (.iconst 1, 1) := by decide +kernel
theorem dX1_glide_73 : decode cX1_glide 73 = .ok (.iadd, 1) := by decide +kernel
theorem dX1_glide_74 : decode cX1_glide 74 = .ok (.iastore, 1) := by decide +kernel
theorem dX1_glide_75 : decode cX1_glide 75 = .ok (.iload 4, 2) := by decide +kernel
theorem dX1_glide_77 : decode cX1_glide 77 = .ok (.iconst 2, 1) := by decide +kernel
theorem dX1_glide_78 : decode cX1_glide 78 = .ok (.if_icmp .ne 16, 3) := by decide +kernel
theorem dX1_glide_81 : decode cX1_glide 81 = .ok (.aload_n 0, 1) := by decide +kernel
theorem dX1_glide_82 : decode cX1_glide 82 = .ok (.getfield 25, 3) := by decide +kernel
theorem dX1_glide_85 : decode cX1_glide 85 = .ok (.iconst 1, 1) := by decide +kernel
theorem dX1_glide_86 : decode cX1_glide 86 = .ok (.dup2, 1) := by decide +kernel
theorem dX1_glide_87 : decode cX1_glide 87 = .ok (.iaload, 1) := by decide +kernel
theorem dX1_glide_88 : decode cX1_glide 88 = .ok (.iconst 1, 1) := by decide +kernel
theorem dX1_glide_89 : decode cX1_glide 89 = .ok (.iadd, 1) := by decide +kernel
theorem dX1_glide_90 : decode cX1_glide 90 = .ok (.iastore, 1) := by decide +kernel
theorem dX1_glide_91 : decode cX1_glide 91 = .ok (.goto 19, 3) := by decide +kernel
theorem dX1_glide_94 : decode cX1_glide 94 = .ok (.iload 4, 2) := by decide +kernel
theorem dX1_glide_96 : decode cX1_glide 96 = .ok (.iconst 3, 1) := by decide +kernel
theorem dX1_glide_97 : decode cX1_glide 97 = .ok (.if_icmp .ne 13, 3) := by decide +kernel
theorem dX1_glide_100 : decode cX1_glide 100 = .ok (.aload_n 0, 1) := by decide +kernel
theorem dX1_glide_101 : decode cX1_glide 101 = .ok (.getfield 25, 3) := by decide +kernel
theorem dX1_glide_104 : decode cX1_glide 104 = .ok (.iconst 2, 1) := by decide +kernel
theorem dX1_glide_105 : decode cX1_glide 105 = .ok (.dup2, 1) := by decide +kernel
theorem dX1_glide_106 : decode cX1_glide 106 = .ok (.iaload, 1) := by decide +kernel
theorem dX1_glide_107 : decode cX1_glide 107 = .ok (.iconst 1, 1) := by decide +kernel
theorem dX1_glide_108 : decode cX1_glide 108 = .ok (.iadd, 1) := by decide +kernel
theorem dX1_glide_109 : decode cX1_glide 109 = .ok (.iastore, 1) := by decide +kernel
theorem dX1_glide_110 : decode cX1_glide 110 = .ok (.return_, 1) := by decide +kernel
theorem dX1_playRound_0 : decode cX1_playRound 0 = .ok (.iconst 0, 1) := by decide +kernel
theorem dX1_playRound_1 : decode cX1_playRound 1 = .ok (.istore_n 2, 1) := by decide +kernel
theorem dX1_playRound_2 : decode cX1_playRound 2 = .ok (.iload_n 2, 1) := by decide +kernel
theorem dX1_playRound_3 : decode cX1_playRound 3 = .ok (.aload_n 0, 1) := by decide +kernel
theorem dX1_playRound_4 : decode cX1_playRound 4 = .ok (.getfield 21, 3) := by decide +kernel
theorem dX1_playRound_7 : decode cX1_playRound 7 = .ok (.getfield 61, 3) := by decide +kernel
theorem dX1_playRound_10 : decode cX1_playRound 10 = .ok (.if_icmp .ge 57, 3) := by decide +kernel
theorem dX1_playRound_13 : decode cX1_playRound 13 = .ok (.aload_n 0, 1) := by decide +kernel
theorem dX1_playRound_14 : decode cX1_playRound 14 = .ok (.getfield 21, 3) := by decide +kernel
theorem dX1_playRound_17 : decode cX1_playRound 17 = .ok (.iload_n 2, 1) := by decide +kernel
theorem dX1_playRound_18 : decode cX1_playRound 18 = .ok (.aload_n 1, 1) := by decide +kernel
theorem dX1_playRound_19 : decode cX1_playRound 19 = .ok (.invokevirtual 64, 3) := by decide +kernel
theorem dX1_playRound_22 : decode cX1_playRound 22 = .ok (.istore_n 3, 1) := by decide +kernel
theorem dX1_playRound_23 : decode cX1_playRound 23 = .ok (.iconst 2, 1) := by decide +kernel
theorem dX1_playRound_24 : decode cX1_playRound 24 = .ok (.aload_n 1, 1) := by decide +kernel
theorem dX1_playRound_25 : decode cX1_playRound 25 = .ok (.arraylength, 1) := by decide +kernel
theorem dX1_playRound_26 : decode cX1_playRound 26 = .ok (.if_icmp .ge 35, 3) := by decide +kernel
theorem dX1_playRound_29 : decode cX1_playRound 29 = .ok (.iload_n 3, 1) := by decide +kernel
theorem dX1_playRound_30 : decode cX1_playRound 30 = .ok (.invokestatic 68, 3) := by decide +kernel
theorem dX1_playRound_33 : decode cX1_playRound 33 = .ok (.aload_n 1, 1) := by decide +kernel
theorem dX1_playRound_34 : decode cX1_playRound 34 = .ok (.iconst 2, 1) := by decide +kernel
theorem dX1_playRound_35 : decode cX1_playRound 35 = .ok (.iaload, 1) := by decide +kernel
theorem dX1_playRound_36 : decode cX1_playRound 36 = .ok (.if_icmp .le 25, 3) := by decide +kernel
theorem dX1_playRound_39 : decode cX1_playRound 39 = .ok (.aload_n 0, 1) := by decide +kernel
theorem dX1_playRound_40 : decode cX1_playRound 40 = .ok (.iload_n 2, 1) := by decide +kernel
theorem dX1_playRound_41 : decode cX1_playRound 41 = .ok (.invokevirtual 74, 3) := by decide +kernel
theorem dX1_playRound_44 : decode cX1_playRound 44 = .ok (.ifCond .eq 17, 3) := by decide +kernel
theorem dX1_playRound_47 : decode cX1_playRound 47 = .ok (.aload_n 0, 1) := by decide +kernel
theorem dX1_playRound_48 : decode cX1_playRound 48 = .ok (.iload_n 2, 1) := by decide +kernel
theorem dX1_playRound_49 : decode cX1_playRound 49 = .ok (.iload_n 3, 1) := by decide +kernel
theorem dX1_playRound_50 : decode cX1_playRound 50 = .ok (.ifCond .le 7, 3) := by decide +kernel
theorem dX1_playRound_53 : decode cX1_playRound 53 = .ok (.iconst 1, 1) := by decide +kernel
theorem dX1_playRound_54 : decode cX1_playRound 54 = .ok (.goto 4, 3) := by decide +kernel
theorem dX1_playRound_57 : decode cX1_playRound 57 = .ok (.iconst 0, 1) := by decide +kernel
theorem dX1_playRound_58 : decode cX1_playRound 58 = .ok (.invokevirtual 78, 3) := by decide +kernel
theorem dX1_playRound_61 : decode cX1_playRound 61 = .ok (.iinc 2 1, 3) := by decide +kernel
theorem dX1_playRound_64 : decode cX1_playRound 64 = .ok (.goto (-62), 3) := by decide +kernel
theorem dX1_playRound_67 : decode cX1_playRound 67 = .ok (.aload_n 0, 1) := by decide +kernel
theorem dX1_playRound_68 : decode cX1_playRound 68 = .ok (.getfield 21, 3) := by decide +kernel
theorem dX1_playRound_71 : decode cX1_playRound 71 = .ok (.aload_n 0, 1) := by decide +kernel
theorem dX1_playRound_72 : decode cX1_playRound 72 = .ok (.getfield 12, 3) := by decide +kernel
theorem dX1_playRound_75 : decode cX1_playRound 75 = .ok (.invokevirtual 54, 3) := by decide +kernel
theorem dX1_playRound_78 : decode cX1_playRound 78 = .ok (.return_, 1) := by decide +kernel
theorem dX0_productOf_0 : decode cX0_productOf 0 = .ok (.aload_n 0, 1) := by decide +kernel
theorem dX0_productOf_1 : decode cX0_productOf 1 = .ok (.iload_n 1, 1) := by decide +kernel
theorem dX0_productOf_2 : decode cX0_productOf 2 = .ok (.iconst 0, 1) := by decide +kernel
theorem dX0_productOf_3 : decode cX0_productOf 3 = .ok (.invokevirtual 38, 3) := by decide +kernel
theorem dX0_productOf_6 : decode cX0_productOf 6 = .ok (.aload_n 0, 1) := by decide +kernel
theorem dX0_productOf_7 : decode cX0_productOf 7 = .ok (.iload_n 2, 1) := by decide +kernel
theorem dX0_productOf_8 : decode cX0_productOf 8 = .ok (.iconst 0, 1) := by decide +kernel
theorem dX0_productOf_9 : decode cX0_productOf 9 = .ok (.invokevirtual 38, 3) := by decide +kernel
theorem dX0_productOf_12 : decode cX0_productOf 12 = .ok (.imul, 1) := by decide +kernel
theorem dX0_productOf_13 : decode cX0_productOf 13 = .ok (.aload_n 0, 1) := by decide +kernel
theorem dX0_productOf_14 : decode cX0_productOf 14 = .ok (.iload_n 1, 1) := by decide +kernel
theorem dX0_productOf_15 : decode cX0_productOf 15 = .ok (.iconst 1, 1) := by decide +kernel
theorem dX0_productOf_16 : decode cX0_productOf 16 = .ok (.invokevirtual 38, 3) := by decide +kernel
theorem dX0_productOf_19 : decode cX0_productOf 19 = .ok (.aload_n 0, 1) := by decide +kernel
theorem dX0_productOf_20 : decode cX0_productOf 20 = .ok (.iload_n 2, 1) := by decide +kernel
theorem dX0_productOf_21 : decode cX0_productOf 21 = .ok (.iconst 1, 1) := by decide +kernel
theorem dX0_productOf_22 : decode cX0_productOf 22 = .ok (.invokevirtual 38, 3) := by decide +kernel
theorem dX0_productOf_25 : decode cX0_productOf 25 = .ok (.imul, 1) := by decide +kernel
theorem dX0_productOf_26 : decode cX0_productOf 26 = .ok (.iadd, 1) := by decide +kernel
theorem dX0_productOf_27 : decode cX0_productOf 27 = .ok (.ireturn, 1) := by decide +kernel
theorem dX0_squareBetween_0 : decode cX0_squareBetween 0 = .ok (.aload_n 0, 1) := by decide +kernel
theorem dX0_squareBetween_1 : decode cX0_squareBetween 1 = .ok (.iload_n 1, 1) := by decide +kernel
theorem dX0_squareBetween_2 : decode cX0_squareBetween 2 = .ok (.iconst 0, 1) := by decide +kernel
theorem dX0_squareBetween_3 : decode cX0_squareBetween 3 = .ok (.invokevirtual 45, 3) := by decide +kernel
theorem dX0_squareBetween_6 : decode cX0_squareBetween 6 = .ok (.aload_n 0, 1) := by decide +kernel
theorem dX0_squareBetween_7 : decode cX0_squareBetween 7 = .ok (.iload_n 2, 1) := by decide +kernel
theorem dX0_squareBetween_8 : decode cX0_squareBetween 8 = .ok (.iconst 0, 1) := by decide +kernel
theorem dX0_squareBetween_9 : decode cX0_squareBetween 9 = .ok (.invokevirtual 45, 3) := by decide +kernel
theorem dX0_squareBetween_12 : decode cX0_squareBetween 12 = .ok (.isub, 1) := by decide +kernel
theorem dX0_squareBetween_13 : decode cX0_squareBetween 13 = .ok (.istore_n 3, 1) := by decide +kernel
theorem dX0_squareBetween_14 : decode cX0_squareBetween 14 = .ok (.aload_n 0, 1) := by decide +kernel
theorem dX0_squareBetween_15 : decode cX0_squareBetween 15 = .ok (.iload_n 1, 1) := by decide +kernel
theorem dX0_squareBetween_16 : decode cX0_squareBetween 16 = .ok (.iconst 1, 1) := by decide +kernel
theorem dX0_squareBetween_17 : decode cX0_squareBetween 17 = .ok (.invokevirtual 45, 3) := by decide +kernel
theorem dX0_squareBetween_20 : decode cX0_squareBetween 20 = .ok (.aload_n 0, 1) := by decide +kernel
theorem dX0_squareBetween_21 : decode cX0_squareBetween 21 = .ok (.iload_n 2, 1) := by decide +kernel
theorem dX0_squareBetween_22 : decode cX0_squareBetween 22 = .ok (.iconst 1, 1) := by decide +kernel
theorem dX0_squareBetween_23 : decode cX0_squareBetween 23 = .ok (.invokevirtual 45, 3) := by decide +kernel
theorem dX0_squareBetween_26 : decode cX0_squareBetween 26 = .ok (.isub, 1) := by decide +kernel
theorem dX0_squareBetween_27 : decode cX0_squareBetween 27 = .ok (.istore 4, 2) := by decide +kernel
theorem dX0_squareBetween_29 : decode cX0_squareBetween 29 = .ok (.iload_n 3, 1) := by decide +kernel
theorem dX0_squareBetween_30 : decode cX0_squareBetween 30 = .ok (.iload_n 3, 1) := by decide +kernel
theorem dX0_squareBetween_31 : decode cX0_squareBetween 31 = .ok (.imul, 1) := by decide +kernel
theorem dX0_squareBetween_32 : decode cX0_squareBetween 32 = .ok (.iload 4, 2) := by decide +kernel
theorem dX0_squareBetween_34 : decode cX0_squareBetween 34 = .ok (.iload 4, 2) := by decide +kernel
theorem dX0_squareBetween_36 : decode cX0_squareBetween 36 = .ok (.imul, 1) := by decide +kernel
theorem dX0_squareBetween_37 : decode cX0_squareBetween 37 = .ok (.iadd, 1) := by decide +kernel
theorem dX0_squareBetween_38 : decode cX0_squareBetween 38 = .ok (.ireturn, 1) := by decide +kernel
theorem dX0_energy_0 : decode cX0_energy 0 = .ok (.iconst 0, 1) := by decide +kernel
theorem dX0_energy_1 : decode cX0_energy 1 = .ok (.istore_n 1, 1) := by decide +kernel
theorem dX0_energy_2 : decode cX0_energy 2 = .ok (.iconst 0, 1) := by decide +kernel
theorem dX0_energy_3 : decode cX0_energy 3 = .ok (.istore_n 2, 1) := by decide +kernel
theorem dX0_energy_4 : decode cX0_energy 4 = .ok (.iload_n 2, 1) := by decide +kernel
theorem dX0_energy_5 : decode cX0_energy 5 = .ok (.aload_n 0, 1) := by decide +kernel
theorem dX0_energy_6 : decode cX0_energy 6 = .ok (.getfield 18, 3) := by decide +kernel
theorem dX0_energy_9 : decode cX0_energy 9 = .ok (.if_icmp .ge 71, 3) := by decide +kernel
theorem dX0_energy_12 : decode cX0_energy 12 = .ok (.iload_n 1, 1) := by decide +kernel
theorem dX0_energy_13 : decode cX0_energy 13 = .ok (.bipush 50, 2) := by decide +kernel
theorem dX0_energy_15 : decode cX0_energy 15 = .ok (.aload_n 0, 1) := by decide +kernel
theorem dX0_energy_16 : decode cX0_energy 16 = .ok (.iload_n 2, 1) := by decide +kernel
theorem dX0_energy_17 : decode cX0_energy 17 = .ok (.iload_n 2, 1) := by decide +kernel
theorem dX0_energy_18 : decode cX0_energy 18 = .ok (.invokevirtual 77, 3) := by decide +kernel
theorem dX0_energy_21 : decode cX0_energy 21 = .ok (.imul, 1) := by decide +kernel
theorem dX0_energy_22 : decode cX0_energy 22 = .ok (.iadd, 1) := by decide +kernel
theorem dX0_energy_23 : decode cX0_energy 23 = .ok (.istore_n 1, 1) := by decide +kernel
theorem dX0_energy_24 : decode cX0_energy 24 = .ok (.iload_n 2, 1) := by decide +kernel
theorem dX0_energy_25 : decode cX0_energy 25 = .ok (.iconst 1, 1) := by decide +kernel
theorem dX0_energy_26 : decode cX0_energy 26 = .ok (.iadd, 1) := by decide +kernel
theorem dX0_energy_27 : decode cX0_energy 27 = .ok (.istore_n 3, 1) := by decide +kernel
theorem dX0_energy_28 : decode cX0_energy 28 = .ok (.iload_n 3, 1) := by decide +kernel
theorem dX0_energy_29 : decode cX0_energy 29 = .ok (.aload_n 0, 1) := by decide +kernel
theorem dX0_energy_30 : decode cX0_energy 30 = .ok (.getfield 18, 3) := by decide +kernel
theorem dX0_energy_33 : decode cX0_energy 33 = .ok (.if_icmp .ge 41, 3) := by decide +kernel
theorem dX0_energy_36 : decode cX0_energy 36 = .ok (.aload_n 0, 1) := by decide +kernel
theorem dX0_energy_37 : decode cX0_energy 37 = .ok (.iload_n 2, 1) := by decide +kernel
theorem dX0_energy_38 : decode cX0_energy 38 = .ok (.iload_n 3, 1) := by decide +kernel
theorem dX0_energy_39 : decode cX0_energy 39 = .ok (.invokevirtual 80, 3) := by decide +kernel
theorem dX0_energy_42 : decode cX0_energy 42 = .ok (.istore 4, 2) := by decide +kernel
theorem dX0_energy_44 : decode cX0_energy 44 = .ok (.iload_n 1, 1) := by decide +kernel
theorem dX0_energy_45 : decode cX0_energy 45 = .ok (.iload 4, 2) := by decide +kernel
theorem dX0_energy_47 : decode cX0_energy 47 = .ok (.ifCond .le 18, 3) := by decide +kernel
theorem dX0_energy_50 : decode cX0_energy 50 = .ok (.bipush 100, 2) := by decide +kernel
theorem dX0_energy_52 : decode cX0_energy 52 = .ok (.aload_n 0, 1) := by decide +kernel
theorem dX0_energy_53 : decode cX0_energy 53 = .ok (.iload_n 2, 1) := by decide +kernel
theorem dX0_energy_54 : decode cX0_energy 54 = .ok (.iload_n 3, 1) := by decide +kernel
theorem dX0_energy_55 : decode cX0_energy 55 = .ok (.invokevirtual 77, 3) := by decide +kernel
theorem dX0_energy_58 : decode cX0_energy 58 = .ok (.imul, 1) := by decide +kernel
theorem dX0_energy_59 : decode cX0_energy 59 = .ok (.iload 4, 2) := by decide +kernel
theorem dX0_energy_61 : decode cX0_energy 61 = .ok (.idiv, 1) := by decide +kernel
theorem dX0_energy_62 : decode cX0_energy 62 = .ok (.goto 4, 3) := by decide +kernel
theorem dX0_energy_65 : decode cX0_energy 65 = .ok (.iconst 0, 1) := by decide +kernel
theorem dX0_energy_66 : decode cX0_energy 66 = .ok (.iadd, 1) := by decide +kernel
theorem dX0_energy_67 : decode cX0_energy 67 = .ok (.istore_n 1, 1) := by decide +kernel
theorem dX0_energy_68 : decode cX0_energy 68 = .ok (.iinc 3 1, 3) := by decide +kernel
theorem dX0_energy_71 : decode cX0_energy 71 = .ok (.goto (-43), 3) := by decide +kernel
theorem dX0_energy_74 : decode cX0_energy 74 = .ok (.iinc 2 1, 3) := by decide +kernel
theorem dX0_energy_77 : decode cX0_energy 77 = .ok (.goto (-73), 3) := by decide +kernel
theorem dX0_energy_80 : decode cX0_energy 80 = .ok (.iload_n 1, 1) := by decide +kernel
theorem dX0_energy_81 : decode cX0_energy 81 = .ok (.ireturn, 1) := by decide +kernel
theorem dX7_stepOf_0 : decode cX7_stepOf 0 = .ok (.aload_n 0, 1) := by decide +kernel
theorem dX7_stepOf_1 : decode cX7_stepOf 1 = .ok (.iload_n 1, 1) := by decide +kernel
theorem dX7_stepOf_2 : decode cX7_stepOf 2 = .ok (.iload_n 2, 1) := by decide +kernel
theorem dX7_stepOf_3 : decode cX7_stepOf 3 = .ok (.iload_n 3, 1) := by decide +kernel
theorem dX7_stepOf_4 : decode cX7_stepOf 4 = .ok (.invokevirtual 28, 3) := by decide +kernel
theorem dX7_stepOf_7 : decode cX7_stepOf 7 = .ok (.ifCond .eq 31, 3) := by decide +kernel
theorem dX7_stepOf_10 : decode cX7_stepOf 10 = .ok (.iload 4, 2) := by decide +kernel
theorem dX7_stepOf_12 : decode cX7_stepOf 12 = .ok (.ifCond .eq 9, 3) := by decide +kernel
theorem dX7_stepOf_15 : decode cX7_stepOf 15 = .ok (.iload 4, 2) := by decide +kernel
theorem dX7_stepOf_17 : decode cX7_stepOf 17 = .ok (.iconst 1, 1) := by decide +kernel
theorem dX7_stepOf_18 : decode cX7_stepOf 18 = .ok (.if_icmp .ne 20, 3) := by decide +kernel
theorem dX7_stepOf_21 : decode cX7_stepOf 21 = .ok (.aload_n 0, 1) := by decide +kernel
theorem dX7_stepOf_22 : decode cX7_stepOf 22 = .ok (.getfield 11, 3) := by decide +kernel
theorem dX7_stepOf_25 : decode cX7_stepOf 25 = .ok (.iload_n 1, 1) := by decide +kernel
theorem dX7_stepOf_26 : decode cX7_stepOf 26 = .ok (.iload_n 2, 1) := by decide +kernel
theorem dX7_stepOf_27 : decode cX7_stepOf 27 = .ok (.iload_n 3, 1) := by decide +kernel
theorem dX7_stepOf_28 : decode cX7_stepOf 28 = .ok (.invokestatic 32, 3) := by decide +kernel
theorem dX7_stepOf_31 : decode cX7_stepOf 31 = .ok (.iload 4, 2) := by decide +kernel
theorem dX7_stepOf_33 : decode cX7_stepOf 33 = .ok (.iadd, 1) := by decide +kernel
theorem dX7_stepOf_34 : decode cX7_stepOf 34 = .ok (.iaload, 1) := by decide +kernel
theorem dX7_stepOf_35 : decode cX7_stepOf 35 = .ok (.goto 4, 3) := by decide +kernel
theorem dX7_stepOf_38 : decode cX7_stepOf 38 = .ok (.iconst 0, 1) := by decide +kernel
theorem dX7_stepOf_39 : decode cX7_stepOf 39 = .ok (.ireturn, 1) := by decide +kernel
theorem dX7_isSlipped_0 : decode cX7_isSlipped 0 = .ok (.aload_n 0, 1) := by decide +kernel
theorem dX7_isSlipped_1 : decode cX7_isSlipped 1 = .ok (.iload_n 1, 1) := by decide +kernel
theorem dX7_isSlipped_2 : decode cX7_isSlipped 2 = .ok (.iload_n 2, 1) := by decide +kernel
theorem dX7_isSlipped_3 : decode cX7_isSlipped 3 = .ok (.iload_n 3, 1) := by decide +kernel
theorem dX7_isSlipped_4 : decode cX7_isSlipped 4 = .ok (.invokevirtual 28, 3) := by decide +kernel
theorem dX7_isSlipped_7 : decode cX7_isSlipped 7 = .ok (.ifCond .eq 33, 3) := by decide +kernel
theorem dX7_isSlipped_10 : decode cX7_isSlipped 10 = .ok (.aload_n 0, 1) := by decide +kernel
theorem dX7_isSlipped_11 : decode cX7_isSlipped 11 = .ok (.iload_n 1, 1) := by decide +kernel
theorem dX7_isSlipped_12 : decode cX7_isSlipped 12 = .ok (.iload_n 2, 1) := by decide +kernel
theorem dX7_isSlipped_13 : decode cX7_isSlipped 13 = .ok (.iload_n 3, 1) := by decide +kernel
theorem dX7_isSlipped_14 : decode cX7_isSlipped 14 = .ok (.iconst 0, 1) := by decide +kernel
theorem dX7_isSlipped_15 : decode cX7_isSlipped 15 = .ok (.invokevirtual 36, 3) := by decide +kernel
theorem dX7_isSlipped_18 : decode cX7_isSlipped 18 = .ok (.iconst 1, 1) := by decide +kernel
theorem dX7_isSlipped_19 : decode cX7_isSlipped 19 = .ok (.iload_n 3, 1) := by decide +kernel
theorem dX7_isSlipped_20 : decode cX7_isSlipped 20 = .ok (.isub, 1) := by decide +kernel
theorem dX7_isSlipped_21 : decode cX7_isSlipped 21 = .ok (.if_icmp .ne 15, 3) := by decide +kernel
theorem dX7_isSlipped_24 : decode cX7_isSlipped 24 = .ok (.aload_n 0, 1) := by decide +kernel
theorem dX7_isSlipped_25 : decode cX7_isSlipped 25 = .ok (.iload_n 1, 1) := by decide +kernel
theorem dX7_isSlipped_26 : decode cX7_isSlipped 26 = .ok (.iload_n 2, 1) := by decide +kernel
theorem dX7_isSlipped_27 : decode cX7_isSlipped 27 = .ok (.iload_n 3, 1) := by decide +kernel
theorem dX7_isSlipped_28 : decode cX7_isSlipped 28 = .ok (.iconst 1, 1) := by decide +kernel
theorem dX7_isSlipped_29 : decode cX7_isSlipped 29 = .ok (.invokevirtual 36, 3) := by decide +kernel
theorem dX7_isSlipped_32 : decode cX7_isSlipped 32 = .ok (.iload_n 3, 1) := by decide +kernel
theorem dX7_isSlipped_33 : decode cX7_isSlipped 33 = .ok (.if_icmp .eq 7, 3) := by decide +kernel
theorem dX7_isSlipped_36 : decode cX7_isSlipped 36 = .ok (.iconst 1, 1) := by decide +kernel
theorem dX7_isSlipped_37 : decode cX7_isSlipped 37 = .ok (.goto 4, 3) := by decide +kernel
theorem dX7_isSlipped_40 : decode cX7_isSlipped 40 = .ok (.iconst 0, 1) := by decide +kernel
theorem dX7_isSlipped_41 : decode cX7_isSlipped 41 = .ok (.ireturn, 1) := by decide +kernel
theorem dX7_slippedFrom_0 : decode cX7_slippedFrom 0 = .ok (.iconst 0, 1) := by decide +kernel
theorem dX7_slippedFrom_1 : decode cX7_slippedFrom 1 = .ok (.istore_n 3, 1) := by decide +kernel
theorem dX7_slippedFrom_2 : decode cX7_slippedFrom 2 = .ok (.iconst 0, 1) := by decide +kernel
theorem dX7_slippedFrom_3 : decode cX7_slippedFrom 3 = .ok (.istore 4, 2) := by decide +kernel
theorem dX7_slippedFrom_5 : decode cX7_slippedFrom 5 = .ok (.iload 4, 2) := by decide +kernel
theorem dX7_slippedFrom_7 : decode cX7_slippedFrom 7 = .ok (.aload_n 0, 1) := by decide +kernel
theorem dX7_slippedFrom_8 : decode cX7_slippedFrom 8 = .ok (.getfield 15, 3) := by decide +kernel
theorem dX7_slippedFrom_11 : decode cX7_slippedFrom 11 = .ok (.if_icmp .ge 23, 3) := by decide +kernel
theorem dX7_slippedFrom_14 : decode cX7_slippedFrom 14 = .ok (.aload_n 0, 1) := by decide +kernel
theorem dX7_slippedFrom_15 : decode cX7_slippedFrom 15 = .ok (.iload 4, 2) := by decide +kernel
theorem dX7_slippedFrom_17 : decode cX7_slippedFrom 17 = .ok (.iload_n 1, 1) := by decide +kernel
theorem dX7_slippedFrom_18 : decode cX7_slippedFrom 18 = .ok (.iload_n 2, 1) := by decide +kernel
theorem dX7_slippedFrom_19 : decode cX7_slippedFrom 19 = .ok (.invokevirtual 44, 3) := by decide +kernel
theorem dX7_slippedFrom_22 : decode cX7_slippedFrom 22 = .ok (.ifCond .eq 6, 3) := by decide +kernel
theorem dX7_slippedFrom_25 : decode cX7_slippedFrom 25 = .ok (.iinc 3 1, 3) := by decide +kernel
theorem dX7_slippedFrom_28 : decode cX7_slippedFrom 28 = .ok (.iinc 4 1, 3) := by decide +kernel
theorem dX7_slippedFrom_31 : decode cX7_slippedFrom 31 = .ok (.goto (-26), 3) := by decide +kernel
theorem dX7_slippedFrom_34 : decode cX7_slippedFrom 34 = .ok (.iload_n 3, 1) := by decide +kernel
theorem dX7_slippedFrom_35 : decode cX7_slippedFrom 35 = .ok (.ireturn, 1) := by decide +kernel
theorem dX7_slippedLinks_0 : decode cX7_slippedLinks 0 = .ok (.iconst 0, 1) := by decide +kernel
theorem dX7_slippedLinks_1 : decode cX7_slippedLinks 1 = .ok (.istore_n 1, 1) := by decide +kernel
theorem dX7_slippedLinks_2 : decode cX7_slippedLinks 2 = .ok (.iconst 0, 1) := by decide +kernel
theorem dX7_slippedLinks_3 : decode cX7_slippedLinks 3 = .ok (.istore_n 2, 1) := by decide +kernel
theorem dX7_slippedLinks_4 : decode cX7_slippedLinks 4 = .ok (.iload_n 2, 1) := by decide +kernel
theorem dX7_slippedLinks_5 : decode cX7_slippedLinks 5 = .ok (.aload_n 0, 1) := by decide +kernel
theorem dX7_slippedLinks_6 : decode cX7_slippedLinks 6 = .ok (.getfield 19, 3) := by decide +kernel
theorem dX7_slippedLinks_9 : decode cX7_slippedLinks 9 = .ok (.if_icmp .ge 25, 3) := by decide +kernel
theorem dX7_slippedLinks_12 : decode cX7_slippedLinks 12 = .ok (.iload_n 1, 1) := by decide +kernel
theorem dX7_slippedLinks_13 : decode cX7_slippedLinks 13 = .ok (.aload_n 0, 1) := by decide +kernel
theorem dX7_slippedLinks_14 : decode cX7_slippedLinks 14 = .ok (.iload_n 2, 1) := by decide +kernel
theorem dX7_slippedLinks_15 : decode cX7_slippedLinks 15 = .ok (.iconst 0, 1) := by decide +kernel
theorem dX7_slippedLinks_16 : decode cX7_slippedLinks 16 = .ok (.invokevirtual 40, 3) := by decide +kernel
theorem dX7_slippedLinks_19 : decode cX7_slippedLinks 19 = .ok (.aload_n 0, 1) := by decide +kernel
theorem dX7_slippedLinks_20 : decode cX7_slippedLinks 20 = .ok (.iload_n 2, 1) := by decide +kernel
theorem dX7_slippedLinks_21 : decode cX7_slippedLinks 21 = .ok (.iconst 1, 1) := by decide +kernel
theorem dX7_slippedLinks_22 : decode cX7_slippedLinks 22 = .ok (.invokevirtual 40, 3) := by decide +kernel
theorem dX7_slippedLinks_25 : decode cX7_slippedLinks 25 = .ok (.iadd, 1) := by decide +kernel
theorem dX7_slippedLinks_26 : decode cX7_slippedLinks 26 = .ok (.iadd, 1) := by decide +kernel
theorem dX7_slippedLinks_27 : decode cX7_slippedLinks 27 = .ok (.istore_n 1, 1) := by decide +kernel
theorem dX7_slippedLinks_28 : decode cX7_slippedLinks 28 = .ok (.iinc 2 1, 3) := by decide +kernel
theorem dX7_slippedLinks_31 : decode cX7_slippedLinks 31 = .ok (.goto (-27), 3) := by decide +kernel
theorem dX7_slippedLinks_34 : decode cX7_slippedLinks 34 = .ok (.iload_n 1, 1) := by decide +kernel
theorem dX7_slippedLinks_35 : decode cX7_slippedLinks 35 = .ok (.ireturn, 1) := by decide +kernel
theorem dX11_ahead_0 : decode cX11_ahead 0 = .ok (.aload_n 0, 1) := by decide +kernel
theorem dX11_ahead_1 : decode cX11_ahead 1 = .ok (.invokevirtual 136, 3) := by decide +kernel
theorem dX11_ahead_4 : decode cX11_ahead 4 = .ok (.ifCond .ne 22, 3) := by decide +kernel
theorem dX11_ahead_7 : decode cX11_ahead 7 = .ok (.iload_n 1, 1) := by decide +kernel
theorem dX11_ahead_8 : decode cX11_ahead 8 = .ok (.ifCond .lt 18, 3) := by decide +kernel
theorem dX11_ahead_11 : decode cX11_ahead 11 = .ok (.iload_n 1, 1) := by decide +kernel
theorem dX11_ahead_12 : decode cX11_ahead 12 = .ok (.bipush 40, 2) := by decide +kernel
theorem dX11_ahead_14 : decode cX11_ahead 14 = .ok (.if_icmp .gt 12, 3) := by decide +kernel
theorem dX11_ahead_17 : decode cX11_ahead 17 = .ok (.iload_n 2, 1) := by decide +kernel
theorem dX11_ahead_18 : decode cX11_ahead 18 = .ok (.ifCond .lt 8, 3) := by decide +kernel
theorem dX11_ahead_21 : decode cX11_ahead 21 = .ok (.iload_n 2, 1) := by decide +kernel
theorem dX11_ahead_22 : decode cX11_ahead 22 = .ok (.iconst 5, 1) := by decide +kernel
theorem dX11_ahead_23 : decode cX11_ahead 23 = .ok (.if_icmp .le 6, 3) := by decide +kernel
theorem dX11_ahead_26 : decode cX11_ahead 26 = .ok (.ldc 140, 2) := by decide +kernel
theorem dX11_ahead_28 : decode cX11_ahead 28 = .ok (.ireturn, 1) := by decide +kernel
theorem dX11_ahead_29 : decode cX11_ahead 29 = .ok (.aload_n 0, 1) := by decide +kernel
theorem dX11_ahead_30 : decode cX11_ahead 30 = .ok (.getfield 32, 3) := by decide +kernel
theorem dX11_ahead_33 : decode cX11_ahead 33 = .ok (.aload_n 0, 1) := by decide +kernel
theorem dX11_ahead_34 : decode cX11_ahead 34 = .ok (.getfield 28, 3) := by decide +kernel
theorem dX11_ahead_37 : decode cX11_ahead 37 = .ok (.invokevirtual 325, 3) := by decide +kernel
theorem dX11_ahead_40 : decode cX11_ahead 40 = .ok (.aload_n 0, 1) := by decide +kernel
theorem dX11_ahead_41 : decode cX11_ahead 41 = .ok (.getfield 32, 3) := by decide +kernel
theorem dX11_ahead_44 : decode cX11_ahead 44 = .ok (.invokevirtual 261, 3) := by decide +kernel
theorem dX11_ahead_47 : decode cX11_ahead 47 = .ok (.iconst 0, 1) := by decide +kernel
theorem dX11_ahead_48 : decode cX11_ahead 48 = .ok (.istore_n 3, 1) := by decide +kernel
theorem dX11_ahead_49 : decode cX11_ahead 49 = .ok (.iload_n 3, 1) := by decide +kernel
theorem dX11_ahead_50 : decode cX11_ahead 50 = .ok (.iload_n 1, 1) := by decide +kernel
theorem dX11_ahead_51 : decode cX11_ahead 51 = .ok (.if_icmp .ge 20, 3) := by decide +kernel
theorem dX11_ahead_54 : decode cX11_ahead 54 = .ok (.aload_n 0, 1) := by decide +kernel
theorem dX11_ahead_55 : decode cX11_ahead 55 = .ok (.getfield 32, 3) := by decide +kernel
theorem dX11_ahead_58 : decode cX11_ahead 58 = .ok (.aload_n 0, 1) := by decide +kernel
theorem dX11_ahead_59 : decode cX11_ahead 59 = .ok (.getfield 35, 3) := by decide +kernel
theorem dX11_ahead_62 : decode cX11_ahead 62 = .ok (.invokevirtual 264, 3) := by decide +kernel
theorem dX11_ahead_65 : decode cX11_ahead 65 = .ok (.iinc 3 1, 3) := by decide +kernel
theorem dX11_ahead_68 : decode cX11_ahead 68 = .ok (.goto (-19), 3) := by decide +kernel
theorem dX11_ahead_71 : decode cX11_ahead 71 = .ok (.iload_n 2, 1) := by decide +kernel
theorem dX11_ahead_72 : decode cX11_ahead 72 = .ok (.lookupswitch 69 #[(0, 36), (4, 47), (5, 58)], 36) := by decide +kernel
theorem dX11_ahead_108 : decode cX11_ahead 108 = .ok (.aload_n 0, 1) := by decide +kernel
theorem dX11_ahead_109 : decode cX11_ahead 109 = .ok (.getfield 32, 3) := by decide +kernel
theorem dX11_ahead_112 : decode cX11_ahead 112 = .ok (.getfield 127, 3) := by decide +kernel
theorem dX11_ahead_115 : decode cX11_ahead 115 = .ok (.getfield 131, 3) := by decide +kernel
theorem dX11_ahead_118 : decode cX11_ahead 118 = .ok (.ireturn, 1) := by decide +kernel
theorem dX11_ahead_119 : decode cX11_ahead 119 = .ok (.aload_n 0, 1) := by decide +kernel
theorem dX11_ahead_120 : decode cX11_ahead 120 = .ok (.getfield 32, 3) := by decide +kernel
theorem dX11_ahead_123 : decode cX11_ahead 123 = .ok (.getfield 127, 3) := by decide +kernel
theorem dX11_ahead_126 : decode cX11_ahead 126 = .ok (.invokevirtual 159, 3) := by decide +kernel
theorem dX11_ahead_129 : decode cX11_ahead 129 = .ok (.ireturn, 1) := by decide +kernel
theorem dX11_ahead_130 : decode cX11_ahead 130 = .ok (.aload_n 0, 1) := by decide +kernel
theorem dX11_ahead_131 : decode cX11_ahead 131 = .ok (.getfield 32, 3) := by decide +kernel
theorem dX11_ahead_134 : decode cX11_ahead 134 = .ok (.getfield 141, 3) := by decide +kernel
theorem dX11_ahead_137 : decode cX11_ahead 137 = .ok (.invokevirtual 153, 3) := by decide +kernel
theorem dX11_ahead_140 : decode cX11_ahead 140 = .ok (.ireturn, 1) := by decide +kernel
theorem dX11_ahead_141 : decode cX11_ahead 141 = .ok (.aload_n 0, 1) := by decide +kernel
theorem dX11_ahead_142 : decode cX11_ahead 142 = .ok (.getfield 32, 3) := by decide +kernel
theorem dX11_ahead_145 : decode cX11_ahead 145 = .ok (.getfield 268, 3) := by decide +kernel
theorem dX11_ahead_148 : decode cX11_ahead 148 = .ok (.iload_n 2, 1) := by decide +kernel
theorem dX11_ahead_149 : decode cX11_ahead 149 = .ok (.iconst 1, 1) := by decide +kernel
theorem dX11_ahead_150 : decode cX11_ahead 150 = .ok (.isub, 1) := by decide +kernel
theorem dX11_ahead_151 : decode cX11_ahead 151 = .ok (.iaload, 1) := by decide +kernel
theorem dX11_ahead_152 : decode cX11_ahead 152 = .ok (.ireturn, 1) := by decide +kernel
theorem dX8_give_0 : decode cX8_give 0 = .ok (.aload_n 0, 1) := by decide +kernel
theorem dX8_give_1 : decode cX8_give 1 = .ok (.getfield 9, 3) := by decide +kernel
theorem dX8_give_4 : decode cX8_give 4 = .ok (.iconst 0, 1) := by decide +kernel
theorem dX8_give_5 : decode cX8_give 5 = .ok (.aload_n 1, 1) := by decide +kernel
theorem dX8_give_6 : decode cX8_give 6 = .ok (.getfield 20, 3) := by decide +kernel
theorem dX8_give_9 : decode cX8_give 9 = .ok (.iconst 0, 1) := by decide +kernel
theorem dX8_give_10 : decode cX8_give 10 = .ok (.aload_n 0, 1) := by decide +kernel
theorem dX8_give_11 : decode cX8_give 11 = .ok (.getfield 9, 3) := by decide +kernel
theorem dX8_give_14 : decode cX8_give 14 = .ok (.arraylength, 1) := by decide +kernel
theorem dX8_give_15 : decode cX8_give 15 = .ok (.invokestatic 21, 3) := by decide +kernel
theorem dX8_give_18 : decode cX8_give 18 = .ok (.aload_n 0, 1) := by decide +kernel
theorem dX8_give_19 : decode cX8_give 19 = .ok (.getfield 17, 3) := by decide +kernel
theorem dX8_give_22 : decode cX8_give 22 = .ok (.iconst 0, 1) := by decide +kernel
theorem dX8_give_23 : decode cX8_give 23 = .ok (.aload_n 2, 1) := by decide +kernel
theorem dX8_give_24 : decode cX8_give 24 = .ok (.getfield 27, 3) := by decide +kernel
theorem dX8_give_27 : decode cX8_give 27 = .ok (.iconst 0, 1) := by decide +kernel
theorem dX8_give_28 : decode cX8_give 28 = .ok (.aload_n 0, 1) := by decide +kernel
theorem dX8_give_29 : decode cX8_give 29 = .ok (.getfield 17, 3) := by decide +kernel
theorem dX8_give_32 : decode cX8_give 32 = .ok (.arraylength, 1) := by decide +kernel
theorem dX8_give_33 : decode cX8_give 33 = .ok (.invokestatic 21, 3) := by decide +kernel
theorem dX8_give_36 : decode cX8_give 36 = .ok (.aload_n 2, 1) := by decide +kernel
theorem dX8_give_37 : decode cX8_give 37 = .ok (.aload_n 0, 1) := by decide +kernel
theorem dX8_give_38 : decode cX8_give 38 = .ok (.getfield 32, 3) := by decide +kernel
theorem dX8_give_41 : decode cX8_give 41 = .ok (.putfield 28, 3) := by decide +kernel
theorem dX8_give_44 : decode cX8_give 44 = .ok (.return_, 1) := by decide +kernel
theorem dX4_forget_0 : decode cX4_forget 0 = .ok (.aload_n 0, 1) := by decide +kernel
theorem dX4_forget_1 : decode cX4_forget 1 = .ok (.iconst 0, 1) := by decide +kernel
theorem dX4_forget_2 : decode cX4_forget 2 = .ok (.putfield 15, 3) := by decide +kernel
theorem dX4_forget_5 : decode cX4_forget 5 = .ok (.return_, 1) := by decide +kernel
theorem dX11_back_0 : decode cX11_back 0 = .ok (.aload_n 0, 1) := by decide +kernel
theorem dX11_back_1 : decode cX11_back 1 = .ok (.getfield 120, 3) := by decide +kernel
theorem dX11_back_4 : decode cX11_back 4 = .ok (.ifCond .ne 5, 3) := by decide +kernel
theorem dX11_back_7 : decode cX11_back 7 = .ok (.iconst (-1), 1) := by decide +kernel
theorem dX11_back_8 : decode cX11_back 8 = .ok (.ireturn, 1) := by decide +kernel
theorem dX11_back_9 : decode cX11_back 9 = .ok (.aload_n 0, 1) := by decide +kernel
theorem dX11_back_10 : decode cX11_back 10 = .ok (.getfield 56, 3) := by decide +kernel
theorem dX11_back_13 : decode cX11_back 13 = .ok (.aload_n 0, 1) := by decide +kernel
theorem dX11_back_14 : decode cX11_back 14 = .ok (.getfield 28, 3) := by decide +kernel
theorem dX11_back_17 : decode cX11_back 17 = .ok (.getfield 141, 3) := by decide +kernel
theorem dX11_back_20 : decode cX11_back 20 = .ok (.aload_n 0, 1) := by decide +kernel
theorem dX11_back_21 : decode cX11_back 21 = .ok (.getfield 42, 3) := by decide +kernel
theorem dX11_back_24 : decode cX11_back 24 = .ok (.invokevirtual 358, 3) := by decide +kernel
theorem dX11_back_27 : decode cX11_back 27 = .ok (.aload_n 0, 1) := by decide +kernel
theorem dX11_back_28 : decode cX11_back 28 = .ok (.getfield 49, 3) := by decide +kernel
theorem dX11_back_31 : decode cX11_back 31 = .ok (.invokevirtual 117, 3) := by decide +kernel
theorem dX11_back_34 : decode cX11_back 34 = .ok (.aload_n 0, 1) := by decide +kernel
theorem dX11_back_35 : decode cX11_back 35 = .ok (.aload_n 0, 1) := by decide +kernel
theorem dX11_back_36 : decode cX11_back 36 = .ok (.getfield 42, 3) := by decide +kernel
theorem dX11_back_39 : decode cX11_back 39 = .ok (.getfield 114, 3) := by decide +kernel
theorem dX11_back_42 : decode cX11_back 42 = .ok (.invokevirtual 352, 3) := by decide +kernel
theorem dX11_back_45 : decode cX11_back 45 = .ok (.ireturn, 1) := by decide +kernel
theorem dX7_hasSite_0 : decode cX7_hasSite 0 = .ok (.iload_n 1, 1) := by decide +kernel
theorem dX7_hasSite_1 : decode cX7_hasSite 1 = .ok (.ifCond .lt 39, 3) := by decide +kernel
theorem dX7_hasSite_4 : decode cX7_hasSite 4 = .ok (.iload_n 1, 1) := by decide +kernel
theorem dX7_hasSite_5 : decode cX7_hasSite 5 = .ok (.aload_n 0, 1) := by decide +kernel
theorem dX7_hasSite_6 : decode cX7_hasSite 6 = .ok (.getfield 15, 3) := by decide +kernel
theorem dX7_hasSite_9 : decode cX7_hasSite 9 = .ok (.if_icmp .ge 31, 3) := by decide +kernel
theorem dX7_hasSite_12 : decode cX7_hasSite 12 = .ok (.iload_n 1, 1) := by decide +kernel
theorem dX7_hasSite_13 : decode cX7_hasSite 13 = .ok (.bipush 9, 2) := by decide +kernel
theorem dX7_hasSite_15 : decode cX7_hasSite 15 = .ok (.if_icmp .ge 25, 3) := by decide +kernel
theorem dX7_hasSite_18 : decode cX7_hasSite 18 = .ok (.iload_n 2, 1) := by decide +kernel
theorem dX7_hasSite_19 : decode cX7_hasSite 19 = .ok (.ifCond .lt 21, 3) := by decide +kernel
theorem dX7_hasSite_22 : decode cX7_hasSite 22 = .ok (.iload_n 2, 1) := by decide +kernel
theorem dX7_hasSite_23 : decode cX7_hasSite 23 = .ok (.aload_n 0, 1) := by decide +kernel
theorem dX7_hasSite_24 : decode cX7_hasSite 24 = .ok (.getfield 19, 3) := by decide +kernel
theorem dX7_hasSite_27 : decode cX7_hasSite 27 = .ok (.if_icmp .ge 13, 3) := by decide +kernel
theorem dX7_hasSite_30 : decode cX7_hasSite 30 = .ok (.iload_n 2, 1) := by decide +kernel
theorem dX7_hasSite_31 : decode cX7_hasSite 31 = .ok (.bipush 9, 2) := by decide +kernel
theorem dX7_hasSite_33 : decode cX7_hasSite 33 = .ok (.if_icmp .ge 7, 3) := by decide +kernel
theorem dX7_hasSite_36 : decode cX7_hasSite 36 = .ok (.iconst 1, 1) := by decide +kernel
theorem dX7_hasSite_37 : decode cX7_hasSite 37 = .ok (.goto 4, 3) := by decide +kernel
theorem dX7_hasSite_40 : decode cX7_hasSite 40 = .ok (.iconst 0, 1) := by decide +kernel
theorem dX7_hasSite_41 : decode cX7_hasSite 41 = .ok (.ireturn, 1) := by decide +kernel
theorem dX7_sumRound_0 : decode cX7_sumRound 0 = .ok (.iconst 0, 1) := by decide +kernel
theorem dX7_sumRound_1 : decode cX7_sumRound 1 = .ok (.istore 6, 2) := by decide +kernel
theorem dX7_sumRound_3 : decode cX7_sumRound 3 = .ok (.iload_n 1, 1) := by decide +kernel
theorem dX7_sumRound_4 : decode cX7_sumRound 4 = .ok (.istore 7, 2) := by decide +kernel
theorem dX7_sumRound_6 : decode cX7_sumRound 6 = .ok (.iload 7, 2) := by decide +kernel
theorem dX7_sumRound_8 : decode cX7_sumRound 8 = .ok (.iload_n 3, 1) := by decide +kernel
theorem dX7_sumRound_9 : decode cX7_sumRound 9 = .ok (.if_icmp .ge 36, 3) := by decide +kernel
theorem dX7_sumRound_12 : decode cX7_sumRound 12 = .ok (.iload 6, 2) := by decide +kernel
theorem dX7_sumRound_14 : decode cX7_sumRound 14 = .ok (.aload_n 0, 1) := by decide +kernel
theorem dX7_sumRound_15 : decode cX7_sumRound 15 = .ok (.iload 7, 2) := by decide +kernel
theorem dX7_sumRound_17 : decode cX7_sumRound 17 = .ok (.iload_n 2, 1) := by decide +kernel
theorem dX7_sumRound_18 : decode cX7_sumRound 18 = .ok (.iconst 0, 1) := by decide +kernel
theorem dX7_sumRound_19 : decode cX7_sumRound 19 = .ok (.iload 5, 2) := by decide +kernel
theorem dX7_sumRound_21 : decode cX7_sumRound 21 = .ok (.invokevirtual 36, 3) := by decide +kernel
theorem dX7_sumRound_24 : decode cX7_sumRound 24 = .ok (.aload_n 0, 1) := by decide +kernel
theorem dX7_sumRound_25 : decode cX7_sumRound 25 = .ok (.iload 7, 2) := by decide +kernel
theorem dX7_sumRound_27 : decode cX7_sumRound 27 = .ok (.iload 4, 2) := by decide +kernel
theorem dX7_sumRound_29 : decode cX7_sumRound 29 = .ok (.iconst 0, 1) := by decide +kernel
theorem dX7_sumRound_30 : decode cX7_sumRound 30 = .ok (.iload 5, 2) := by decide +kernel
theorem dX7_sumRound_32 : decode cX7_sumRound 32 = .ok (.invokevirtual 36, 3) := by decide +kernel
theorem dX7_sumRound_35 : decode cX7_sumRound 35 = .ok (.isub, 1) := by decide +kernel
theorem dX7_sumRound_36 : decode cX7_sumRound 36 = .ok (.iadd, 1) := by decide +kernel
theorem dX7_sumRound_37 : decode cX7_sumRound 37 = .ok (.istore 6, 2) := by decide +kernel
theorem dX7_sumRound_39 : decode cX7_sumRound 39 = .ok (.iinc 7 1, 3) := by decide +kernel
theorem dX7_sumRound_42 : decode cX7_sumRound 42 = .ok (.goto (-36), 3) := by decide +kernel
theorem dX7_sumRound_45 : decode cX7_sumRound 45 = .ok (.iload_n 2, 1) := by decide +kernel
theorem dX7_sumRound_46 : decode cX7_sumRound 46 = .ok (.istore 7, 2) := by decide +kernel
theorem dX7_sumRound_48 : decode cX7_sumRound 48 = .ok (.iload 7, 2) := by decide +kernel
theorem dX7_sumRound_50 : decode cX7_sumRound 50 = .ok (.iload 4, 2) := by decide +kernel
theorem dX7_sumRound_52 : decode cX7_sumRound 52 = .ok (.if_icmp .ge 35, 3) := by decide +kernel
theorem dX7_sumRound_55 : decode cX7_sumRound 55 = .ok (.iload 6, 2) := by decide +kernel
theorem dX7_sumRound_57 : decode cX7_sumRound 57 = .ok (.aload_n 0, 1) := by decide +kernel
theorem dX7_sumRound_58 : decode cX7_sumRound 58 = .ok (.iload_n 3, 1) := by decide +kernel
theorem dX7_sumRound_59 : decode cX7_sumRound 59 = .ok (.iload 7, 2) := by decide +kernel
theorem dX7_sumRound_61 : decode cX7_sumRound 61 = .ok (.iconst 1, 1) := by decide +kernel
theorem dX7_sumRound_62 : decode cX7_sumRound 62 = .ok (.iload 5, 2) := by decide +kernel
theorem dX7_sumRound_64 : decode cX7_sumRound 64 = .ok (.invokevirtual 36, 3) := by decide +kernel
theorem dX7_sumRound_67 : decode cX7_sumRound 67 = .ok (.aload_n 0, 1) := by decide +kernel
theorem dX7_sumRound_68 : decode cX7_sumRound 68 = .ok (.iload_n 1, 1) := by decide +kernel
theorem dX7_sumRound_69 : decode cX7_sumRound 69 = .ok (.iload 7, 2) := by decide +kernel
theorem dX7_sumRound_71 : decode cX7_sumRound 71 = .ok (.iconst 1, 1) := by decide +kernel
theorem dX7_sumRound_72 : decode cX7_sumRound 72 = .ok (.iload 5, 2) := by decide +kernel
theorem dX7_sumRound_74 : decode cX7_sumRound 74 = .ok (.invokevirtual 36, 3) := by decide +kernel
theorem dX7_sumRound_77 : decode cX7_sumRound 77 = .ok (.isub, 1) := by decide +kernel
theorem dX7_sumRound_78 : decode cX7_sumRound 78 = .ok (.iadd, 1) := by decide +kernel
theorem dX7_sumRound_79 : decode cX7_sumRound 79 = .ok (.istore 6, 2) := by decide +kernel
theorem dX7_sumRound_81 : decode cX7_sumRound 81 = .ok (.iinc 7 1, 3) := by decide +kernel
theorem dX7_sumRound_84 : decode cX7_sumRound 84 = .ok (.goto (-36), 3) := by decide +kernel
theorem dX7_sumRound_87 : decode cX7_sumRound 87 = .ok (.iload 6, 2) := by decide +kernel
theorem dX7_sumRound_89 : decode cX7_sumRound 89 = .ok (.ireturn, 1) := by decide +kernel
theorem dX0_inBox_0 : decode cX0_inBox 0 = .ok (.iconst 0, 1) := by decide +kernel
theorem dX0_inBox_1 : decode cX0_inBox 1 = .ok (.istore 5, 2) := by decide +kernel
theorem dX0_inBox_3 : decode cX0_inBox 3 = .ok (.iconst 0, 1) := by decide +kernel
theorem dX0_inBox_4 : decode cX0_inBox 4 = .ok (.istore 6, 2) := by decide +kernel
theorem dX0_inBox_6 : decode cX0_inBox 6 = .ok (.iload 6, 2) := by decide +kernel
theorem dX0_inBox_8 : decode cX0_inBox 8 = .ok (.aload_n 0, 1) := by decide +kernel
theorem dX0_inBox_9 : decode cX0_inBox 9 = .ok (.getfield 18, 3) := by decide +kernel
theorem dX0_inBox_12 : decode cX0_inBox 12 = .ok (.if_icmp .ge 55, 3) := by decide +kernel
theorem dX0_inBox_15 : decode cX0_inBox 15 = .ok (.aload_n 0, 1) := by decide +kernel
theorem dX0_inBox_16 : decode cX0_inBox 16 = .ok (.iload 6, 2) := by decide +kernel
theorem dX0_inBox_18 : decode cX0_inBox 18 = .ok (.iconst 0, 1) := by decide +kernel
theorem dX0_inBox_19 : decode cX0_inBox 19 = .ok (.invokevirtual 45, 3) := by decide +kernel
theorem dX0_inBox_22 : decode cX0_inBox 22 = .ok (.istore 7, 2) := by decide +kernel
theorem dX0_inBox_24 : decode cX0_inBox 24 = .ok (.aload_n 0, 1) := by decide +kernel
theorem dX0_inBox_25 : decode cX0_inBox 25 = .ok (.iload 6, 2) := by decide +kernel
theorem dX0_inBox_27 : decode cX0_inBox 27 = .ok (.iconst 1, 1) := by decide +kernel
theorem dX0_inBox_28 : decode cX0_inBox 28 = .ok (.invokevirtual 45, 3) := by decide +kernel
theorem dX0_inBox_31 : decode cX0_inBox 31 = .ok (.istore 8, 2) := by decide +kernel
theorem dX0_inBox_33 : decode cX0_inBox 33 = .ok (.iload 7, 2) := by decide +kernel
theorem dX0_inBox_35 : decode cX0_inBox 35 = .ok (.iload_n 1, 1) := by decide +kernel
theorem dX0_inBox_36 : decode cX0_inBox 36 = .ok (.if_icmp .lt 25, 3) := by decide +kernel
theorem dX0_inBox_39 : decode cX0_inBox 39 = .ok (.iload 7, 2) := by decide +kernel
theorem dX0_inBox_41 : decode cX0_inBox 41 = .ok (.iload_n 3, 1) := by decide +kernel
theorem dX0_inBox_42 : decode cX0_inBox 42 = .ok (.if_icmp .ge 19, 3) := by decide +kernel
theorem dX0_inBox_45 : decode cX0_inBox 45 = .ok (.iload 8, 2) := by decide +kernel
theorem dX0_inBox_47 : decode cX0_inBox 47 = .ok (.iload_n 2, 1) := by decide +kernel
theorem dX0_inBox_48 : decode cX0_inBox 48 = .ok (.if_icmp .lt 13, 3) := by decide +kernel
theorem dX0_inBox_51 : decode cX0_inBox 51 = .ok (.iload 8, 2) := by decide +kernel
theorem dX0_inBox_53 : decode cX0_inBox 53 = .ok (.iload 4, 2) := by decide +kernel
theorem dX0_inBox_55 : decode cX0_inBox 55 = .ok (.if_icmp .ge 6, 3) := by decide +kernel
theorem dX0_inBox_58 : decode cX0_inBox 58 = .ok (.iinc 5 1, 3) := by decide +kernel
theorem dX0_inBox_61 : decode cX0_inBox 61 = .ok (.iinc 6 1, 3) := by decide +kernel
theorem dX0_inBox_64 : decode cX0_inBox 64 = .ok (.goto (-58), 3) := by decide +kernel
theorem dX0_inBox_67 : decode cX0_inBox 67 = .ok (.iload 5, 2) := by decide +kernel
theorem dX0_inBox_69 : decode cX0_inBox 69 = .ok (.ireturn, 1) := by decide +kernel
theorem dX11_box_0 : decode cX11_box 0 = .ok (.aload_n 0, 1) := by decide +kernel
theorem dX11_box_1 : decode cX11_box 1 = .ok (.getfield 28, 3) := by decide +kernel
theorem dX11_box_4 : decode cX11_box 4 = .ok (.getfield 141, 3) := by decide +kernel
theorem dX11_box_7 : decode cX11_box 7 = .ok (.astore 6, 2) := by decide +kernel
theorem dX11_box_9 : decode cX11_box 9 = .ok (.aload 6, 2) := by decide +kernel
theorem dX11_box_11 : decode cX11_box 11 = .ok (.iload_n 1, 1) := by decide +kernel
theorem dX11_box_12 : decode cX11_box 12 = .ok (.iload_n 2, 1) := by decide +kernel
theorem dX11_box_13 : decode cX11_box 13 = .ok (.invokevirtual 207, 3) := by decide +kernel
theorem dX11_box_16 : decode cX11_box 16 = .ok (.ifCond .eq 36, 3) := by decide +kernel
theorem dX11_box_19 : decode cX11_box 19 = .ok (.aload 6, 2) := by decide +kernel
theorem dX11_box_21 : decode cX11_box 21 = .ok (.iload_n 3, 1) := by decide +kernel
theorem dX11_box_22 : decode cX11_box 22 = .ok (.iload 4, 2) := by decide +kernel
theorem dX11_box_24 : decode cX11_box 24 = .ok (.invokevirtual 207, 3) := by decide +kernel
theorem dX11_box_27 : decode cX11_box 27 = .ok (.ifCond .eq 25, 3) := by decide +kernel
theorem dX11_box_30 : decode cX11_box 30 = .ok (.iload_n 1, 1) := by decide +kernel
theorem dX11_box_31 : decode cX11_box 31 = .ok (.iload_n 3, 1) := by decide +kernel
theorem dX11_box_32 : decode cX11_box 32 = .ok (.if_icmp .ge 20, 3) := by decide +kernel
theorem dX11_box_35 : decode cX11_box 35 = .ok (.iload_n 2, 1) := by decide +kernel
theorem dX11_box_36 : decode cX11_box 36 = .ok (.iload 4, 2) := by decide +kernel
theorem dX11_box_38 : decode cX11_box 38 = .ok (.if_icmp .ge 14, 3) := by decide +kernel
theorem dX11_box_41 : decode cX11_box 41 = .ok (.iload 5, 2) := by decide +kernel
theorem dX11_box_43 : decode cX11_box 43 = .ok (.ifCond .lt 9, 3) := by decide +kernel
theorem dX11_box_46 : decode cX11_box 46 = .ok (.iload 5, 2) := by decide +kernel
theorem dX11_box_48 : decode cX11_box 48 = .ok (.iconst 3, 1) := by decide +kernel
theorem dX11_box_49 : decode cX11_box 49 = .ok (.if_icmp .le 6, 3) := by decide +kernel
theorem dX11_box_52 : decode cX11_box 52 = .ok (.ldc 140, 2) := by decide +kernel
theorem dX11_box_54 : decode cX11_box 54 = .ok (.ireturn, 1) := by decide +kernel
theorem dX11_box_55 : decode cX11_box 55 = .ok (.iload 5, 2) := by decide +kernel
theorem dX11_box_57 : decode cX11_box 57 = .ok (.iconst 2, 1) := by decide +kernel
theorem dX11_box_58 : decode cX11_box 58 = .ok (.if_icmp .ne 19, 3) := by decide +kernel
theorem dX11_box_61 : decode cX11_box 61 = .ok (.aload_n 0, 1) := by decide +kernel
theorem dX11_box_62 : decode cX11_box 62 = .ok (.getfield 28, 3) := by decide +kernel
theorem dX11_box_65 : decode cX11_box 65 = .ok (.getfield 127, 3) := by decide +kernel
theorem dX11_box_68 : decode cX11_box 68 = .ok (.iload_n 1, 1) := by decide +kernel
theorem dX11_box_69 : decode cX11_box 69 = .ok (.iload_n 2, 1) := by decide +kernel
theorem dX11_box_70 : decode cX11_box 70 = .ok (.iload_n 3, 1) := by decide +kernel
theorem dX11_box_71 : decode cX11_box 71 = .ok (.iload 4, 2) := by decide +kernel
theorem dX11_box_73 : decode cX11_box 73 = .ok (.invokevirtual 210, 3) := by decide +kernel
theorem dX11_box_76 : decode cX11_box 76 = .ok (.ireturn, 1) := by decide +kernel
theorem dX11_box_77 : decode cX11_box 77 = .ok (.iload 5, 2) := by decide +kernel
theorem dX11_box_79 : decode cX11_box 79 = .ok (.iconst 3, 1) := by decide +kernel
theorem dX11_box_80 : decode cX11_box 80 = .ok (.if_icmp .ne 14, 3) := by decide +kernel
theorem dX11_box_83 : decode cX11_box 83 = .ok (.iconst 2, 1) := by decide +kernel
theorem dX11_box_84 : decode cX11_box 84 = .ok (.iload_n 3, 1) := by decide +kernel
theorem dX11_box_85 : decode cX11_box 85 = .ok (.iload_n 1, 1) := by decide +kernel
theorem dX11_box_86 : decode cX11_box 86 = .ok (.isub, 1) := by decide +kernel
theorem dX11_box_87 : decode cX11_box 87 = .ok (.iload 4, 2) := by decide +kernel
theorem dX11_box_89 : decode cX11_box 89 = .ok (.iadd, 1) := by decide +kernel
theorem dX11_box_90 : decode cX11_box 90 = .ok (.iload_n 2, 1) := by decide +kernel
theorem dX11_box_91 : decode cX11_box 91 = .ok (.isub, 1) := by decide +kernel
theorem dX11_box_92 : decode cX11_box 92 = .ok (.imul, 1) := by decide +kernel
theorem dX11_box_93 : decode cX11_box 93 = .ok (.ireturn, 1) := by decide +kernel
theorem dX11_box_94 : decode cX11_box 94 = .ok (.aload 6, 2) := by decide +kernel
theorem dX11_box_96 : decode cX11_box 96 = .ok (.iload_n 1, 1) := by decide +kernel
theorem dX11_box_97 : decode cX11_box 97 = .ok (.iload_n 2, 1) := by decide +kernel
theorem dX11_box_98 : decode cX11_box 98 = .ok (.iload_n 3, 1) := by decide +kernel
theorem dX11_box_99 : decode cX11_box 99 = .ok (.iload 4, 2) := by decide +kernel
theorem dX11_box_101 : decode cX11_box 101 = .ok (.iload 5, 2) := by decide +kernel
theorem dX11_box_103 : decode cX11_box 103 = .ok (.invokevirtual 213, 3) := by decide +kernel
theorem dX11_box_106 : decode cX11_box 106 = .ok (.ireturn, 1) := by decide +kernel
theorem dJ9_min_7cf53_0 : decode cJ9_min_7cf53 0 = .ok (.iload_n 0, 1) := by decide +kernel
theorem dJ9_min_7cf53_1 : decode cJ9_min_7cf53 1 = .ok (.iload_n 1, 1) := by decide +kernel
theorem dJ9_min_7cf53_2 : decode cJ9_min_7cf53 2 = .ok (.if_icmp .gt 7, 3) := by decide +kernel
theorem dJ9_min_7cf53_5 : decode cJ9_min_7cf53 5 = .ok (.iload_n 0, 1) := by decide +kernel
theorem dJ9_min_7cf53_6 : decode cJ9_min_7cf53 6 = .ok (.goto 4, 3) := by decide +kernel
theorem dJ9_min_7cf53_9 : decode cJ9_min_7cf53 9 = .ok (.iload_n 1, 1) := by decide +kernel
theorem dJ9_min_7cf53_10 : decode cJ9_min_7cf53 10 = .ok (.ireturn, 1) := by decide +kernel
theorem dX3_size_0 : decode cX3_size 0 = .ok (.aload_n 0, 1) := by decide +kernel
theorem dX3_size_1 : decode cX3_size 1 = .ok (.getfield 15, 3) := by decide +kernel
theorem dX3_size_4 : decode cX3_size 4 = .ok (.bipush 40, 2) := by decide +kernel
theorem dX3_size_6 : decode cX3_size 6 = .ok (.invokestatic 19, 3) := by decide +kernel
theorem dX3_size_9 : decode cX3_size 9 = .ok (.ireturn, 1) := by decide +kernel
theorem dX11_count_0 : decode cX11_count 0 = .ok (.iload_n 1, 1) := by decide +kernel
theorem dX11_count_1 : decode cX11_count 1 = .ok (.tableswitch 51 0 2 #[27, 35, 43], 27) := by decide +kernel
theorem dX11_count_28 : decode cX11_count 28 = .ok (.aload_n 0, 1) := by decide +kernel
theorem dX11_count_29 : decode cX11_count 29 = .ok (.getfield 10, 3) := by decide +kernel
theorem dX11_count_32 : decode cX11_count 32 = .ok (.getfield 91, 3) := by decide +kernel
theorem dX11_count_35 : decode cX11_count 35 = .ok (.ireturn, 1) := by decide +kernel
theorem dX11_count_36 : decode cX11_count 36 = .ok (.aload_n 0, 1) := by decide +kernel
theorem dX11_count_37 : decode cX11_count 37 = .ok (.getfield 49, 3) := by decide +kernel
theorem dX11_count_40 : decode cX11_count 40 = .ok (.getfield 351, 3) := by decide +kernel
theorem dX11_count_43 : decode cX11_count 43 = .ok (.ireturn, 1) := by decide +kernel
theorem dX11_count_44 : decode cX11_count 44 = .ok (.aload_n 0, 1) := by decide +kernel
theorem dX11_count_45 : decode cX11_count 45 = .ok (.getfield 42, 3) := by decide +kernel
theorem dX11_count_48 : decode cX11_count 48 = .ok (.invokevirtual 275, 3) := by decide +kernel
theorem dX11_count_51 : decode cX11_count 51 = .ok (.ireturn, 1) := by decide +kernel
theorem dX11_count_52 : decode cX11_count 52 = .ok (.iconst (-1), 1) := by decide +kernel
theorem dX11_count_53 : decode cX11_count 53 = .ok (.ireturn, 1) := by decide +kernel
theorem dX11_directionOf_0 : decode cX11_directionOf 0 = .ok (.iload_n 0, 1) := by decide +kernel
theorem dX11_directionOf_1 : decode cX11_directionOf 1 = .ok (.lookupswitch 51 #[(100, 49), (108, 47), (114, 43), (117, 45)], 43) := by decide +kernel
theorem dX11_directionOf_44 : decode cX11_directionOf 44 = .ok (.iconst 0, 1) := by decide +kernel
theorem dX11_directionOf_45 : decode cX11_directionOf 45 = .ok (.ireturn, 1) := by decide +kernel
theorem dX11_directionOf_46 : decode cX11_directionOf 46 = .ok (.iconst 1, 1) := by decide +kernel
theorem dX11_directionOf_47 : decode cX11_directionOf 47 = .ok (.ireturn, 1) := by decide +kernel
theorem dX11_directionOf_48 : decode cX11_directionOf 48 = .ok (.iconst 2, 1) := by decide +kernel
theorem dX11_directionOf_49 : decode cX11_directionOf 49 = .ok (.ireturn, 1) := by decide +kernel
theorem dX11_directionOf_50 : decode cX11_directionOf 50 = .ok (.iconst 3, 1) := by decide +kernel
theorem dX11_directionOf_51 : decode cX11_directionOf 51 = .ok (.ireturn, 1) := by decide +kernel
theorem dX11_directionOf_52 : decode cX11_directionOf 52 = .ok (.iconst (-1), 1) := by decide +kernel
theorem dX11_directionOf_53 : decode cX11_directionOf 53 = .ok (.ireturn, 1) := by decide +kernel
theorem dX11_drawOf_0 : decode cX11_drawOf 0 = .ok (.iload_n 2, 1) := by decide +kernel
theorem dX11_drawOf_1 : decode cX11_drawOf 1 = .ok (.ifCond .le 14, 3) := by decide +kernel
theorem dX11_drawOf_4 : decode cX11_drawOf 4 = .ok (.lload_n 0, 1) := by decide +kernel
theorem dX11_drawOf_5 : decode cX11_drawOf 5 = .ok (.bipush 33, 2) := by decide +kernel
theorem dX11_drawOf_7 : decode cX11_drawOf 7 = .ok (.lushr, 1) := by decide +kernel
theorem dX11_drawOf_8 : decode cX11_drawOf 8 = .ok (.iload_n 2, 1) := by decide +kernel
theorem dX11_drawOf_9 : decode cX11_drawOf 9 = .ok (.i2l, 1) := by decide +kernel
theorem dX11_drawOf_10 : decode cX11_drawOf 10 = .ok (.lrem, 1) := by decide +kernel
theorem dX11_drawOf_11 : decode cX11_drawOf 11 = .ok (.l2i, 1) := by decide +kernel
theorem dX11_drawOf_12 : decode cX11_drawOf 12 = .ok (.goto 4, 3) := by decide +kernel
theorem dX11_drawOf_15 : decode cX11_drawOf 15 = .ok (.iconst 0, 1) := by decide +kernel
theorem dX11_drawOf_16 : decode cX11_drawOf 16 = .ok (.ireturn, 1) := by decide +kernel
theorem dX11_end_0 : decode cX11_end 0 = .ok (.iload_n 1, 1) := by decide +kernel
theorem dX11_end_1 : decode cX11_end 1 = .ok (.ifCond .lt 14, 3) := by decide +kernel
theorem dX11_end_4 : decode cX11_end 4 = .ok (.iload_n 1, 1) := by decide +kernel
theorem dX11_end_5 : decode cX11_end 5 = .ok (.aload_n 0, 1) := by decide +kernel
theorem dX11_end_6 : decode cX11_end 6 = .ok (.getfield 10, 3) := by decide +kernel
theorem dX11_end_9 : decode cX11_end 9 = .ok (.getfield 91, 3) := by decide +kernel
theorem dX11_end_12 : decode cX11_end 12 = .ok (.if_icmp .le 5, 3) := by decide +kernel
theorem dX11_end_15 : decode cX11_end 15 = .ok (.iconst 0, 1) := by decide +kernel
theorem dX11_end_16 : decode cX11_end 16 = .ok (.ireturn, 1) := by decide +kernel
theorem dX11_end_17 : decode cX11_end 17 = .ok (.aload_n 0, 1) := by decide +kernel
theorem dX11_end_18 : decode cX11_end 18 = .ok (.getfield 10, 3) := by decide +kernel
theorem dX11_end_21 : decode cX11_end 21 = .ok (.iload_n 1, 1) := by decide +kernel
theorem dX11_end_22 : decode cX11_end 22 = .ok (.putfield 91, 3) := by decide +kernel
theorem dX11_end_25 : decode cX11_end 25 = .ok (.iconst 1, 1) := by decide +kernel
theorem dX11_end_26 : decode cX11_end 26 = .ok (.ireturn, 1) := by decide +kernel
theorem dX0_indexAt_0 : decode cX0_indexAt 0 = .ok (.iconst 0, 1) := by decide +kernel
theorem dX0_indexAt_1 : decode cX0_indexAt 1 = .ok (.istore_n 3, 1) := by decide +kernel
theorem dX0_indexAt_2 : decode cX0_indexAt 2 = .ok (.iload_n 3, 1) := by decide +kernel
theorem dX0_indexAt_3 : decode cX0_indexAt 3 = .ok (.aload_n 0, 1) := by decide +kernel
theorem dX0_indexAt_4 : decode cX0_indexAt 4 = .ok (.getfield 18, 3) := by decide +kernel
theorem dX0_indexAt_7 : decode cX0_indexAt 7 = .ok (.if_icmp .ge 31, 3) := by decide +kernel
theorem dX0_indexAt_10 : decode cX0_indexAt 10 = .ok (.aload_n 0, 1) := by decide +kernel
theorem dX0_indexAt_11 : decode cX0_indexAt 11 = .ok (.iload_n 3, 1) := by decide +kernel
theorem dX0_indexAt_12 : decode cX0_indexAt 12 = .ok (.iconst 0, 1) := by decide +kernel
theorem dX0_indexAt_13 : decode cX0_indexAt 13 = .ok (.invokevirtual 45, 3) := by decide +kernel
theorem dX0_indexAt_16 : decode cX0_indexAt 16 = .ok (.iload_n 1, 1) := by decide +kernel
theorem dX0_indexAt_17 : decode cX0_indexAt 17 = .ok (.if_icmp .ne 15, 3) := by decide +kernel
theorem dX0_indexAt_20 : decode cX0_indexAt 20 = .ok (.aload_n 0, 1) := by decide +kernel
theorem dX0_indexAt_21 : decode cX0_indexAt 21 = .ok (.iload_n 3, 1) := by decide +kernel
theorem dX0_indexAt_22 : decode cX0_indexAt 22 = .ok (.iconst 1, 1) := by decide +kernel
theorem dX0_indexAt_23 : decode cX0_indexAt 23 = .ok (.invokevirtual 45, 3) := by decide +kernel
theorem dX0_indexAt_26 : decode cX0_indexAt 26 = .ok (.iload_n 2, 1) := by decide +kernel
theorem dX0_indexAt_27 : decode cX0_indexAt 27 = .ok (.if_icmp .ne 5, 3) := by decide +kernel
theorem dX0_indexAt_30 : decode cX0_indexAt 30 = .ok (.iload_n 3, 1) := by decide +kernel
theorem dX0_indexAt_31 : decode cX0_indexAt 31 = .ok (.ireturn, 1) := by decide +kernel
theorem dX0_indexAt_32 : decode cX0_indexAt 32 = .ok (.iinc 3 1, 3) := by decide +kernel
theorem dX0_indexAt_35 : decode cX0_indexAt 35 = .ok (.goto (-33), 3) := by decide +kernel
theorem dX0_indexAt_38 : decode cX0_indexAt 38 = .ok (.iconst (-1), 1) := by decide +kernel
theorem dX0_indexAt_39 : decode cX0_indexAt 39 = .ok (.ireturn, 1) := by decide +kernel
theorem dX11_face_0 : decode cX11_face 0 = .ok (.aload_n 0, 1) := by decide +kernel
theorem dX11_face_1 : decode cX11_face 1 = .ok (.getfield 28, 3) := by decide +kernel
theorem dX11_face_4 : decode cX11_face 4 = .ok (.getfield 141, 3) := by decide +kernel
theorem dX11_face_7 : decode cX11_face 7 = .ok (.iload_n 1, 1) := by decide +kernel
theorem dX11_face_8 : decode cX11_face 8 = .ok (.iload_n 2, 1) := by decide +kernel
theorem dX11_face_9 : decode cX11_face 9 = .ok (.invokevirtual 188, 3) := by decide +kernel
theorem dX11_face_12 : decode cX11_face 12 = .ok (.ifCond .eq 12, 3) := by decide +kernel
theorem dX11_face_15 : decode cX11_face 15 = .ok (.iload_n 3, 1) := by decide +kernel
theorem dX11_face_16 : decode cX11_face 16 = .ok (.ifCond .lt 8, 3) := by decide +kernel
theorem dX11_face_19 : decode cX11_face 19 = .ok (.iload_n 3, 1) := by decide +kernel
theorem dX11_face_20 : decode cX11_face 20 = .ok (.iconst 2, 1) := by decide +kernel
theorem dX11_face_21 : decode cX11_face 21 = .ok (.if_icmp .le 6, 3) := by decide +kernel
theorem dX11_face_24 : decode cX11_face 24 = .ok (.ldc 140, 2) := by decide +kernel
theorem dX11_face_26 : decode cX11_face 26 = .ok (.ireturn, 1) := by decide +kernel
theorem dX11_face_27 : decode cX11_face 27 = .ok (.iload_n 3, 1) := by decide +kernel
theorem dX11_face_28 : decode cX11_face 28 = .ok (.iconst 2, 1) := by decide +kernel
theorem dX11_face_29 : decode cX11_face 29 = .ok (.if_icmp .ne 18, 3) := by decide +kernel
theorem dX11_face_32 : decode cX11_face 32 = .ok (.aload_n 0, 1) := by decide +kernel
theorem dX11_face_33 : decode cX11_face 33 = .ok (.getfield 28, 3) := by decide +kernel
theorem dX11_face_36 : decode cX11_face 36 = .ok (.getfield 127, 3) := by decide +kernel
theorem dX11_face_39 : decode cX11_face 39 = .ok (.iload_n 1, 1) := by decide +kernel
theorem dX11_face_40 : decode cX11_face 40 = .ok (.iload_n 2, 1) := by decide +kernel
theorem dX11_face_41 : decode cX11_face 41 = .ok (.invokevirtual 192, 3) := by decide +kernel
theorem dX11_face_44 : decode cX11_face 44 = .ok (.goto 16, 3) := by decide +kernel
theorem dX11_face_47 : decode cX11_face 47 = .ok (.aload_n 0, 1) := by decide +kernel
theorem dX11_face_48 : decode cX11_face 48 = .ok (.getfield 28, 3) := by decide +kernel
theorem dX11_face_51 : decode cX11_face 51 = .ok (.getfield 141, 3) := by decide +kernel
theorem dX11_face_54 : decode cX11_face 54 = .ok (.iload_n 1, 1) := by decide +kernel
theorem dX11_face_55 : decode cX11_face 55 = .ok (.iload_n 2, 1) := by decide +kernel
theorem dX11_face_56 : decode cX11_face 56 = .ok (.iload_n 3, 1) := by decide +kernel
theorem dX11_face_57 : decode cX11_face 57 = .ok (.invokevirtual 195, 3) := by decide +kernel
theorem dX11_face_60 : decode cX11_face 60 = .ok (.ireturn, 1) := by decide +kernel
theorem dX9_byteAt_0 : decode cX9_byteAt 0 = .ok (.iload_n 1, 1) := by decide +kernel
theorem dX9_byteAt_1 : decode cX9_byteAt 1 = .ok (.ifCond .lt 27, 3) := by decide +kernel
theorem dX9_byteAt_4 : decode cX9_byteAt 4 = .ok (.iload_n 1, 1) := by decide +kernel
theorem dX9_byteAt_5 : decode cX9_byteAt 5 = .ok (.aload_n 0, 1) := by decide +kernel
theorem dX9_byteAt_6 : decode cX9_byteAt 6 = .ok (.getfield 13, 3) := by decide +kernel
theorem dX9_byteAt_9 : decode cX9_byteAt 9 = .ok (.if_icmp .ge 19, 3) := by decide +kernel
theorem dX9_byteAt_12 : decode cX9_byteAt 12 = .ok (.iload_n 1, 1) := by decide +kernel
theorem dX9_byteAt_13 : decode cX9_byteAt 13 = .ok (.sipush 300, 3) := by decide +kernel
theorem dX9_byteAt_16 : decode cX9_byteAt 16 = .ok (.if_icmp .ge 12, 3) := by decide +kernel
theorem dX9_byteAt_19 : decode cX9_byteAt 19 = .ok (.aload_n 0, 1) := by decide +kernel
theorem dX9_byteAt_20 : decode cX9_byteAt 20 = .ok (.getfield 9, 3) := by decide +kernel
theorem dX9_byteAt_23 : decode cX9_byteAt 23 = .ok (.iload_n 1, 1) := by decide +kernel
theorem dX9_byteAt_24 : decode cX9_byteAt 24 = .ok (.iaload, 1) := by decide +kernel
theorem dX9_byteAt_25 : decode cX9_byteAt 25 = .ok (.goto 4, 3) := by decide +kernel
theorem dX9_byteAt_28 : decode cX9_byteAt 28 = .ok (.iconst 0, 1) := by decide +kernel
theorem dX9_byteAt_29 : decode cX9_byteAt 29 = .ok (.ireturn, 1) := by decide +kernel
theorem dX5_nextByte_0 : decode cX5_nextByte 0 = .ok (.aload_n 0, 1) := by decide +kernel
theorem dX5_nextByte_1 : decode cX5_nextByte 1 = .ok (.getfield 25, 3) := by decide +kernel
theorem dX5_nextByte_4 : decode cX5_nextByte 4 = .ok (.aload_n 0, 1) := by decide +kernel
theorem dX5_nextByte_5 : decode cX5_nextByte 5 = .ok (.getfield 21, 3) := by decide +kernel
theorem dX5_nextByte_8 : decode cX5_nextByte 8 = .ok (.getfield 118, 3) := by decide +kernel
theorem dX5_nextByte_11 : decode cX5_nextByte 11 = .ok (.if_icmp .ge 32, 3) := by decide +kernel
theorem dX5_nextByte_14 : decode cX5_nextByte 14 = .ok (.aload_n 0, 1) := by decide +kernel
theorem dX5_nextByte_15 : decode cX5_nextByte 15 = .ok (.getfield 21, 3) := by decide +kernel
theorem dX5_nextByte_18 : decode cX5_nextByte 18 = .ok (.aload_n 0, 1) := by decide +kernel
theorem dX5_nextByte_19 : decode cX5_nextByte 19 = .ok (.getfield 25, 3) := by decide +kernel
theorem dX5_nextByte_22 : decode cX5_nextByte 22 = .ok (.invokevirtual 121, 3) := by decide +kernel
theorem dX5_nextByte_25 : decode cX5_nextByte 25 = .ok (.bipush 32, 2) := by decide +kernel
theorem dX5_nextByte_27 : decode cX5_nextByte 27 = .ok (.if_icmp .ne 16, 3) := by decide +kernel
theorem dX5_nextByte_30 : decode cX5_nextByte 30 = .ok (.aload_n 0, 1) := by decide +kernel
theorem dX5_nextByte_31 : decode cX5_nextByte 31 = .ok (.dup, 1) := by decide +kernel
theorem dX5_nextByte_32 : decode cX5_nextByte 32 = .ok (.getfield 25, 3) := by decide +kernel
theorem dX5_nextByte_35 : decode cX5_nextByte 35 = .ok (.iconst 1, 1) := by decide +kernel
theorem dX5_nextByte_36 : decode cX5_nextByte 36 = .ok (.iadd, 1) := by decide +kernel
theorem dX5_nextByte_37 : decode cX5_nextByte 37 = .ok (.putfield 25, 3) := by decide +kernel
theorem dX5_nextByte_40 : decode cX5_nextByte 40 = .ok (.goto (-40), 3) := by decide +kernel
theorem dX5_nextByte_43 : decode cX5_nextByte 43 = .ok (.aload_n 0, 1) := by decide +kernel
theorem dX5_nextByte_44 : decode cX5_nextByte 44 = .ok (.getfield 21, 3) := by decide +kernel
theorem dX5_nextByte_47 : decode cX5_nextByte 47 = .ok (.aload_n 0, 1) := by decide +kernel
theorem dX5_nextByte_48 : decode cX5_nextByte 48 = .ok (.getfield 25, 3) := by decide +kernel
theorem dX5_nextByte_51 : decode cX5_nextByte 51 = .ok (.invokevirtual 121, 3) := by decide +kernel
theorem dX5_nextByte_54 : decode cX5_nextByte 54 = .ok (.ireturn, 1) := by decide +kernel
theorem dX5_readWord_0 : decode cX5_readWord 0 = .ok (.aload_n 0, 1) := by decide +kernel
theorem dX5_readWord_1 : decode cX5_readWord 1 = .ok (.invokevirtual 59, 3) := by decide +kernel
theorem dX5_readWord_4 : decode cX5_readWord 4 = .ok (.pop, 1) := by decide +kernel
theorem dX5_readWord_5 : decode cX5_readWord 5 = .ok (.aload_n 0, 1) := by decide +kernel
theorem dX5_readWord_6 : decode cX5_readWord 6 = .ok (.aload_n 0, 1) := by decide +kernel
theorem dX5_readWord_7 : decode cX5_readWord 7 = .ok (.getfield 25, 3) := by decide +kernel
theorem dX5_readWord_10 : decode cX5_readWord 10 = .ok (.putfield 78, 3) := by decide +kernel
theorem dX5_readWord_13 : decode cX5_readWord 13 = .ok (.aload_n 0, 1) := by decide +kernel
theorem dX5_readWord_14 : decode cX5_readWord 14 = .ok (.getfield 25, 3) := by decide +kernel
theorem dX5_readWord_17 : decode cX5_readWord 17 = .ok (.aload_n 0, 1) := by decide +kernel
theorem dX5_readWord_18 : decode cX5_readWord 18 = .ok (.getfield 21, 3) := by decide +kernel
theorem dX5_readWord_21 : decode cX5_readWord 21 = .ok (.getfield 118, 3) := by decide +kernel
theorem dX5_readWord_24 : decode cX5_readWord 24 = .ok (.if_icmp .ge 48, 3) := by decide +kernel
theorem dX5_readWord_27 : decode cX5_readWord 27 = .ok (.aload_n 0, 1) := by decide +kernel
theorem dX5_readWord_28 : decode cX5_readWord 28 = .ok (.getfield 21, 3) := by decide +kernel
theorem dX5_readWord_31 : decode cX5_readWord 31 = .ok (.aload_n 0, 1) := by decide +kernel
theorem dX5_readWord_32 : decode cX5_readWord 32 = .ok (.getfield 25, 3) := by decide +kernel
theorem dX5_readWord_35 : decode cX5_readWord 35 = .ok (.invokevirtual 121, 3) := by decide +kernel
theorem dX5_readWord_38 : decode cX5_readWord 38 = .ok (.bipush 97, 2) := by decide +kernel
theorem dX5_readWord_40 : decode cX5_readWord 40 = .ok (.if_icmp .lt 32, 3) := by decide +kernel
theorem dX5_readWord_43 : decode cX5_readWord 43 = .ok (.aload_n 0, 1) := by decide +kernel
theorem dX5_readWord_44 : decode cX5_readWord 44 = .ok (.getfield 21, 3) := by decide +kernel
theorem dX5_readWord_47 : decode cX5_readWord 47 = .ok (.aload_n 0, 1) := by decide +kernel
theorem dX5_readWord_48 : decode cX5_readWord 48 = .ok (.getfield 25, 3) := by decide +kernel
theorem dX5_readWord_51 : decode cX5_readWord 51 = .ok (.invokevirtual 121, 3) := by decide +kernel
theorem dX5_readWord_54 : decode cX5_readWord 54 = .ok (.bipush 122, 2) := by decide +kernel
theorem dX5_readWord_56 : decode cX5_readWord 56 = .ok (.if_icmp .gt 16, 3) := by decide +kernel
theorem dX5_readWord_59 : decode cX5_readWord 59 = .ok (.aload_n 0, 1) := by decide +kernel
theorem dX5_readWord_60 : decode cX5_readWord 60 = .ok (.dup, 1) := by decide +kernel
theorem dX5_readWord_61 : decode cX5_readWord 61 = .ok (.getfield 25, 3) := by decide +kernel
theorem dX5_readWord_64 : decode cX5_readWord 64 = .ok (.iconst 1, 1) := by decide +kernel
theorem dX5_readWord_65 : decode cX5_readWord 65 = .ok (.iadd, 1) := by decide +kernel
theorem dX5_readWord_66 : decode cX5_readWord 66 = .ok (.putfield 25, 3) := by decide +kernel
theorem dX5_readWord_69 : decode cX5_readWord 69 = .ok (.goto (-56), 3) := by decide +kernel
theorem dX5_readWord_72 : decode cX5_readWord 72 = .ok (.return_, 1) := by decide +kernel
theorem dJ0_coder_7d493_0 : decode cJ0_coder_7d493 0 = .ok (.getstatic 38, 3) := by decide +kernel
theorem dJ0_coder_7d493_3 : decode cJ0_coder_7d493 3 = .ok (.ifCond .eq 10, 3) := by decide +kernel
theorem dJ0_coder_7d493_6 : decode cJ0_coder_7d493 6 = .ok (.aload_n 0, 1) := by decide +kernel
theorem dJ0_coder_7d493_7 : decode cJ0_coder_7d493 7 = .ok (.getfield 15, 3) := by decide +kernel
theorem dJ0_coder_7d493_10 : decode cJ0_coder_7d493 10 = .ok (.goto 4, 3) := by decide +kernel
theorem dJ0_coder_7d493_13 : decode cJ0_coder_7d493 13 = .ok (.iconst 1, 1) := by decide +kernel
theorem dJ0_coder_7d493_14 : decode cJ0_coder_7d493 14 = .ok (.ireturn, 1) := by decide +kernel
theorem dJ0_length_8abf5_0 : decode cJ0_length_8abf5 0 = .ok (.aload_n 0, 1) := by decide +kernel
theorem dJ0_length_8abf5_1 : decode cJ0_length_8abf5 1 = .ok (.getfield 9, 3) := by decide +kernel
theorem dJ0_length_8abf5_4 : decode cJ0_length_8abf5 4 = .ok (.arraylength, 1) := by decide +kernel
theorem dJ0_length_8abf5_5 : decode cJ0_length_8abf5 5 = .ok (.aload_n 0, 1) := by decide +kernel
theorem dJ0_length_8abf5_6 : decode cJ0_length_8abf5 6 = .ok (.invokevirtual 335, 3) := by decide +kernel
theorem dJ0_length_8abf5_9 : decode cJ0_length_8abf5 9 = .ok (.ishr, 1) := by decide +kernel
theorem dJ0_length_8abf5_10 : decode cJ0_length_8abf5 10 = .ok (.ireturn, 1) := by decide +kernel
theorem dJ0_isLatin1_aae02_0 : decode cJ0_isLatin1_aae02 0 = .ok (.getstatic 38, 3) := by decide +kernel
theorem dJ0_isLatin1_aae02_3 : decode cJ0_isLatin1_aae02 3 = .ok (.ifCond .eq 14, 3) := by decide +kernel
theorem dJ0_isLatin1_aae02_6 : decode cJ0_isLatin1_aae02 6 = .ok (.aload_n 0, 1) := by decide +kernel
theorem dJ0_isLatin1_aae02_7 : decode cJ0_isLatin1_aae02 7 = .ok (.getfield 15, 3) := by decide +kernel
theorem dJ0_isLatin1_aae02_10 : decode cJ0_isLatin1_aae02 10 = .ok (.ifCond .ne 7, 3) := by decide +kernel
theorem dJ0_isLatin1_aae02_13 : decode cJ0_isLatin1_aae02 13 = .ok (.iconst 1, 1) := by decide +kernel
theorem dJ0_isLatin1_aae02_14 : decode cJ0_isLatin1_aae02 14 = .ok (.goto 4, 3) := by decide +kernel
theorem dJ0_isLatin1_aae02_17 : decode cJ0_isLatin1_aae02 17 = .ok (.iconst 0, 1) := by decide +kernel
theorem dJ0_isLatin1_aae02_18 : decode cJ0_isLatin1_aae02 18 = .ok (.ireturn, 1) := by decide +kernel
theorem dJ3_checkIndex_8e157_0 : decode cJ3_checkIndex_8e157 0 = .ok (.iload_n 0, 1) := by decide +kernel
theorem dJ3_checkIndex_8e157_1 : decode cJ3_checkIndex_8e157 1 = .ok (.ifCond .lt 8, 3) := by decide +kernel
theorem dJ3_checkIndex_8e157_4 : decode cJ3_checkIndex_8e157 4 = .ok (.iload_n 0, 1) := by decide +kernel
theorem dJ3_checkIndex_8e157_5 : decode cJ3_checkIndex_8e157 5 = .ok (.iload_n 1, 1) := by decide +kernel
theorem dJ3_checkIndex_8e157_6 : decode cJ3_checkIndex_8e157 6 = .ok (.if_icmp .lt 10, 3) := by decide +kernel
theorem dJ3_checkIndex_8e157_9 : decode cJ3_checkIndex_8e157 9 = .ok (.aload_n 2, 1) := by decide +kernel
theorem dJ3_checkIndex_8e157_10 : decode cJ3_checkIndex_8e157 10 = .ok (.iload_n 0, 1) := by decide +kernel
theorem dJ3_checkIndex_8e157_11 : decode cJ3_checkIndex_8e157 11 = .ok (.iload_n 1, 1) := by decide +kernel
theorem dJ3_checkIndex_8e157_12 : decode cJ3_checkIndex_8e157 12 = .ok (.invokestatic 95, 3) := by decide +kernel
theorem dJ3_checkIndex_8e157_15 : decode cJ3_checkIndex_8e157 15 = .ok (.athrow, 1) := by decide +kernel
theorem dJ3_checkIndex_8e157_16 : decode cJ3_checkIndex_8e157 16 = .ok (.iload_n 0, 1) := by decide +kernel
theorem dJ3_checkIndex_8e157_17 : decode cJ3_checkIndex_8e157 17 = .ok (.ireturn, 1) := by decide +kernel
theorem dJ0_checkIndex_df160_0 : decode cJ0_checkIndex_df160 0 = .ok (.iload_n 0, 1) := by decide +kernel
theorem dJ0_checkIndex_df160_1 : decode cJ0_checkIndex_df160 1 = .ok (.iload_n 1, 1) := by decide +kernel
theorem dJ0_checkIndex_df160_2 : decode cJ0_checkIndex_df160 2 = .ok (.getstatic 1053, 3) := by decide +kernel
theorem dJ0_checkIndex_df160_5 : decode cJ0_checkIndex_df160 5 = .ok (.invokestatic 1059, 3) := by decide +kernel
theorem dJ0_checkIndex_df160_8 : decode cJ0_checkIndex_df160 8 = .ok (.pop, 1) := by decide +kernel
theorem dJ0_checkIndex_df160_9 : decode cJ0_checkIndex_df160 9 = .ok (.return_, 1) := by decide +kernel
theorem dJ1_charAt_3b067_0 : decode cJ1_charAt_3b067 0 = .ok (.iload_n 1, 1) := by decide +kernel
theorem dJ1_charAt_3b067_1 : decode cJ1_charAt_3b067 1 = .ok (.aload_n 0, 1) := by decide +kernel
theorem dJ1_charAt_3b067_2 : decode cJ1_charAt_3b067 2 = .ok (.arraylength, 1) := by decide +kernel
theorem dJ1_charAt_3b067_3 : decode cJ1_charAt_3b067 3 = .ok (.invokestatic 9, 3) := by decide +kernel
theorem dJ1_charAt_3b067_6 : decode cJ1_charAt_3b067 6 = .ok (.aload_n 0, 1) := by decide +kernel
theorem dJ1_charAt_3b067_7 : decode cJ1_charAt_3b067 7 = .ok (.iload_n 1, 1) := by decide +kernel
theorem dJ1_charAt_3b067_8 : decode cJ1_charAt_3b067 8 = .ok (.baload, 1) := by decide +kernel
theorem dJ1_charAt_3b067_9 : decode cJ1_charAt_3b067 9 = .ok (.sipush 255, 3) := by decide +kernel
theorem dJ1_charAt_3b067_12 : decode cJ1_charAt_3b067 12 = .ok (.iand, 1) := by decide +kernel
theorem dJ1_charAt_3b067_13 : decode cJ1_charAt_3b067 13 = .ok (.i2c, 1) := by decide +kernel
theorem dJ1_charAt_3b067_14 : decode cJ1_charAt_3b067 14 = .ok (.ireturn, 1) := by decide +kernel
theorem dJ0_charAt_5068e_0 : decode cJ0_charAt_5068e 0 = .ok (.aload_n 0, 1) := by decide +kernel
theorem dJ0_charAt_5068e_1 : decode cJ0_charAt_5068e 1 = .ok (.invokevirtual 492, 3) := by decide +kernel
theorem dJ0_charAt_5068e_4 : decode cJ0_charAt_5068e 4 = .ok (.ifCond .eq 12, 3) := by decide +kernel
theorem dJ0_charAt_5068e_7 : decode cJ0_charAt_5068e 7 = .ok (.aload_n 0, 1) := by decide +kernel
theorem dJ0_charAt_5068e_8 : decode cJ0_charAt_5068e 8 = .ok (.getfield 9, 3) := by decide +kernel
theorem dJ0_charAt_5068e_11 : decode cJ0_charAt_5068e 11 = .ok (.iload_n 1, 1) := by decide +kernel
