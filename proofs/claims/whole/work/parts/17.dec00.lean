theorem dX7_hasFace_0 : decode cX7_hasFace 0 = .ok (.iload_n 1, 1) := by decide +kernel
theorem dX7_hasFace_1 : decode cX7_hasFace 1 = .ok (.ifCond .lt 43, 3) := by decide +kernel
theorem dX7_hasFace_4 : decode cX7_hasFace 4 = .ok (.iload_n 1, 1) := by decide +kernel
theorem dX7_hasFace_5 : decode cX7_hasFace 5 = .ok (.aload_n 0, 1) := by decide +kernel
theorem dX7_hasFace_6 : decode cX7_hasFace 6 = .ok (.getfield 15, 3) := by decide +kernel
theorem dX7_hasFace_9 : decode cX7_hasFace 9 = .ok (.iconst 1, 1) := by decide +kernel
theorem dX7_hasFace_10 : decode cX7_hasFace 10 = .ok (.isub, 1) := by decide +kernel
theorem dX7_hasFace_11 : decode cX7_hasFace 11 = .ok (.if_icmp .ge 33, 3) := by decide +kernel
theorem dX7_hasFace_14 : decode cX7_hasFace 14 = .ok (.iload_n 1, 1) := by decide +kernel
theorem dX7_hasFace_15 : decode cX7_hasFace 15 = .ok (.bipush 8, 2) := by decide +kernel
theorem dX7_hasFace_17 : decode cX7_hasFace 17 = .ok (.if_icmp .ge 27, 3) := by decide +kernel
theorem dX7_hasFace_20 : decode cX7_hasFace 20 = .ok (.iload_n 2, 1) := by decide +kernel
theorem dX7_hasFace_21 : decode cX7_hasFace 21 = .ok (.ifCond .lt 23, 3) := by decide +kernel
theorem dX7_hasFace_24 : decode cX7_hasFace 24 = .ok (.iload_n 2, 1) := by decide +kernel
theorem dX7_hasFace_25 : decode cX7_hasFace 25 = .ok (.aload_n 0, 1) := by decide +kernel
theorem dX7_hasFace_26 : decode cX7_hasFace 26 = .ok (.getfield 19, 3) := by decide +kernel
theorem dX7_hasFace_29 : decode cX7_hasFace 29 = .ok (.iconst 1, 1) := by decide +kernel
theorem dX7_hasFace_30 : decode cX7_hasFace 30 = .ok (.isub, 1) := by decide +kernel
theorem dX7_hasFace_31 : decode cX7_hasFace 31 = .ok (.if_icmp .ge 13, 3) := by decide +kernel
theorem dX7_hasFace_34 : decode cX7_hasFace 34 = .ok (.iload_n 2, 1) := by decide +kernel
theorem dX7_hasFace_35 : decode cX7_hasFace 35 = .ok (.bipush 8, 2) := by decide +kernel
theorem dX7_hasFace_37 : decode cX7_hasFace 37 = .ok (.if_icmp .ge 7, 3) := by decide +kernel
theorem dX7_hasFace_40 : decode cX7_hasFace 40 = .ok (.iconst 1, 1) := by decide +kernel
theorem dX7_hasFace_41 : decode cX7_hasFace 41 = .ok (.goto 4, 3) := by decide +kernel
theorem dX7_hasFace_44 : decode cX7_hasFace 44 = .ok (.iconst 0, 1) := by decide +kernel
theorem dX7_hasFace_45 : decode cX7_hasFace 45 = .ok (.ireturn, 1) := by decide +kernel
theorem dX7_placeOf_0 : decode cX7_placeOf 0 = .ok (.iconst 4, 1) := by decide +kernel
theorem dX7_placeOf_1 : decode cX7_placeOf 1 = .ok (.bipush 9, 2) := by decide +kernel
theorem dX7_placeOf_3 : decode cX7_placeOf 3 = .ok (.iload_n 1, 1) := by decide +kernel
theorem dX7_placeOf_4 : decode cX7_placeOf 4 = .ok (.imul, 1) := by decide +kernel
theorem dX7_placeOf_5 : decode cX7_placeOf 5 = .ok (.iload_n 0, 1) := by decide +kernel
theorem dX7_placeOf_6 : decode cX7_placeOf 6 = .ok (.iadd, 1) := by decide +kernel
theorem dX7_placeOf_7 : decode cX7_placeOf 7 = .ok (.imul, 1) := by decide +kernel
theorem dX7_placeOf_8 : decode cX7_placeOf 8 = .ok (.iconst 2, 1) := by decide +kernel
theorem dX7_placeOf_9 : decode cX7_placeOf 9 = .ok (.iload_n 2, 1) := by decide +kernel
theorem dX7_placeOf_10 : decode cX7_placeOf 10 = .ok (.imul, 1) := by decide +kernel
theorem dX7_placeOf_11 : decode cX7_placeOf 11 = .ok (.iadd, 1) := by decide +kernel
theorem dX7_placeOf_12 : decode cX7_placeOf 12 = .ok (.ireturn, 1) := by decide +kernel
theorem dX7_vectorOf_0 : decode cX7_vectorOf 0 = .ok (.aload_n 0, 1) := by decide +kernel
theorem dX7_vectorOf_1 : decode cX7_vectorOf 1 = .ok (.iload_n 1, 1) := by decide +kernel
theorem dX7_vectorOf_2 : decode cX7_vectorOf 2 = .ok (.iload_n 2, 1) := by decide +kernel
theorem dX7_vectorOf_3 : decode cX7_vectorOf 3 = .ok (.invokevirtual 51, 3) := by decide +kernel
theorem dX7_vectorOf_6 : decode cX7_vectorOf 6 = .ok (.ifCond .eq 12, 3) := by decide +kernel
theorem dX7_vectorOf_9 : decode cX7_vectorOf 9 = .ok (.iload_n 3, 1) := by decide +kernel
theorem dX7_vectorOf_10 : decode cX7_vectorOf 10 = .ok (.ifCond .eq 10, 3) := by decide +kernel
theorem dX7_vectorOf_13 : decode cX7_vectorOf 13 = .ok (.iload_n 3, 1) := by decide +kernel
theorem dX7_vectorOf_14 : decode cX7_vectorOf 14 = .ok (.iconst 1, 1) := by decide +kernel
theorem dX7_vectorOf_15 : decode cX7_vectorOf 15 = .ok (.if_icmp .eq 5, 3) := by decide +kernel
theorem dX7_vectorOf_18 : decode cX7_vectorOf 18 = .ok (.iconst 0, 1) := by decide +kernel
theorem dX7_vectorOf_19 : decode cX7_vectorOf 19 = .ok (.ireturn, 1) := by decide +kernel
theorem dX7_vectorOf_20 : decode cX7_vectorOf 20 = .ok (.aload_n 0, 1) := by decide +kernel
theorem dX7_vectorOf_21 : decode cX7_vectorOf 21 = .ok (.getfield 11, 3) := by decide +kernel
theorem dX7_vectorOf_24 : decode cX7_vectorOf 24 = .ok (.iload_n 1, 1) := by decide +kernel
theorem dX7_vectorOf_25 : decode cX7_vectorOf 25 = .ok (.iload_n 2, 1) := by decide +kernel
theorem dX7_vectorOf_26 : decode cX7_vectorOf 26 = .ok (.iconst 0, 1) := by decide +kernel
theorem dX7_vectorOf_27 : decode cX7_vectorOf 27 = .ok (.invokestatic 32, 3) := by decide +kernel
theorem dX7_vectorOf_30 : decode cX7_vectorOf 30 = .ok (.iload_n 3, 1) := by decide +kernel
theorem dX7_vectorOf_31 : decode cX7_vectorOf 31 = .ok (.iadd, 1) := by decide +kernel
theorem dX7_vectorOf_32 : decode cX7_vectorOf 32 = .ok (.iaload, 1) := by decide +kernel
theorem dX7_vectorOf_33 : decode cX7_vectorOf 33 = .ok (.aload_n 0, 1) := by decide +kernel
theorem dX7_vectorOf_34 : decode cX7_vectorOf 34 = .ok (.getfield 11, 3) := by decide +kernel
theorem dX7_vectorOf_37 : decode cX7_vectorOf 37 = .ok (.iload_n 1, 1) := by decide +kernel
theorem dX7_vectorOf_38 : decode cX7_vectorOf 38 = .ok (.iconst 1, 1) := by decide +kernel
theorem dX7_vectorOf_39 : decode cX7_vectorOf 39 = .ok (.iadd, 1) := by decide +kernel
theorem dX7_vectorOf_40 : decode cX7_vectorOf 40 = .ok (.iload_n 2, 1) := by decide +kernel
theorem dX7_vectorOf_41 : decode cX7_vectorOf 41 = .ok (.iconst 1, 1) := by decide +kernel
theorem dX7_vectorOf_42 : decode cX7_vectorOf 42 = .ok (.invokestatic 32, 3) := by decide +kernel
theorem dX7_vectorOf_45 : decode cX7_vectorOf 45 = .ok (.iload_n 3, 1) := by decide +kernel
theorem dX7_vectorOf_46 : decode cX7_vectorOf 46 = .ok (.iadd, 1) := by decide +kernel
theorem dX7_vectorOf_47 : decode cX7_vectorOf 47 = .ok (.iaload, 1) := by decide +kernel
theorem dX7_vectorOf_48 : decode cX7_vectorOf 48 = .ok (.iadd, 1) := by decide +kernel
theorem dX7_vectorOf_49 : decode cX7_vectorOf 49 = .ok (.aload_n 0, 1) := by decide +kernel
theorem dX7_vectorOf_50 : decode cX7_vectorOf 50 = .ok (.getfield 11, 3) := by decide +kernel
theorem dX7_vectorOf_53 : decode cX7_vectorOf 53 = .ok (.iload_n 1, 1) := by decide +kernel
theorem dX7_vectorOf_54 : decode cX7_vectorOf 54 = .ok (.iload_n 2, 1) := by decide +kernel
theorem dX7_vectorOf_55 : decode cX7_vectorOf 55 = .ok (.iconst 1, 1) := by decide +kernel
theorem dX7_vectorOf_56 : decode cX7_vectorOf 56 = .ok (.iadd, 1) := by decide +kernel
theorem dX7_vectorOf_57 : decode cX7_vectorOf 57 = .ok (.iconst 0, 1) := by decide +kernel
theorem dX7_vectorOf_58 : decode cX7_vectorOf 58 = .ok (.invokestatic 32, 3) := by decide +kernel
theorem dX7_vectorOf_61 : decode cX7_vectorOf 61 = .ok (.iload_n 3, 1) := by decide +kernel
theorem dX7_vectorOf_62 : decode cX7_vectorOf 62 = .ok (.iadd, 1) := by decide +kernel
theorem dX7_vectorOf_63 : decode cX7_vectorOf 63 = .ok (.iaload, 1) := by decide +kernel
theorem dX7_vectorOf_64 : decode cX7_vectorOf 64 = .ok (.isub, 1) := by decide +kernel
theorem dX7_vectorOf_65 : decode cX7_vectorOf 65 = .ok (.aload_n 0, 1) := by decide +kernel
theorem dX7_vectorOf_66 : decode cX7_vectorOf 66 = .ok (.getfield 11, 3) := by decide +kernel
theorem dX7_vectorOf_69 : decode cX7_vectorOf 69 = .ok (.iload_n 1, 1) := by decide +kernel
theorem dX7_vectorOf_70 : decode cX7_vectorOf 70 = .ok (.iload_n 2, 1) := by decide +kernel
theorem dX7_vectorOf_71 : decode cX7_vectorOf 71 = .ok (.iconst 1, 1) := by decide +kernel
theorem dX7_vectorOf_72 : decode cX7_vectorOf 72 = .ok (.invokestatic 32, 3) := by decide +kernel
theorem dX7_vectorOf_75 : decode cX7_vectorOf 75 = .ok (.iload_n 3, 1) := by decide +kernel
theorem dX7_vectorOf_76 : decode cX7_vectorOf 76 = .ok (.iadd, 1) := by decide +kernel
theorem dX7_vectorOf_77 : decode cX7_vectorOf 77 = .ok (.iaload, 1) := by decide +kernel
theorem dX7_vectorOf_78 : decode cX7_vectorOf 78 = .ok (.isub, 1) := by decide +kernel
theorem dX7_vectorOf_79 : decode cX7_vectorOf 79 = .ok (.ireturn, 1) := by decide +kernel
theorem dX0_find_0 : decode cX0_find 0 = .ok (.aload_n 0, 1) := by decide +kernel
theorem dX0_find_1 : decode cX0_find 1 = .ok (.iconst 0, 1) := by decide +kernel
theorem dX0_find_2 : decode cX0_find 2 = .ok (.putfield 18, 3) := by decide +kernel
theorem dX0_find_5 : decode cX0_find 5 = .ok (.iconst 0, 1) := by decide +kernel
theorem dX0_find_6 : decode cX0_find 6 = .ok (.istore_n 2, 1) := by decide +kernel
theorem dX0_find_7 : decode cX0_find 7 = .ok (.iload_n 2, 1) := by decide +kernel
theorem dX0_find_8 : decode cX0_find 8 = .ok (.aload_n 1, 1) := by decide +kernel
theorem dX0_find_9 : decode cX0_find 9 = .ok (.getfield 22, 3) := by decide +kernel
theorem dX0_find_12 : decode cX0_find 12 = .ok (.iconst 1, 1) := by decide +kernel
theorem dX0_find_13 : decode cX0_find 13 = .ok (.isub, 1) := by decide +kernel
theorem dX0_find_14 : decode cX0_find 14 = .ok (.if_icmp .ge 128, 3) := by decide +kernel
theorem dX0_find_17 : decode cX0_find 17 = .ok (.iconst 0, 1) := by decide +kernel
theorem dX0_find_18 : decode cX0_find 18 = .ok (.istore_n 3, 1) := by decide +kernel
theorem dX0_find_19 : decode cX0_find 19 = .ok (.iload_n 3, 1) := by decide +kernel
theorem dX0_find_20 : decode cX0_find 20 = .ok (.aload_n 1, 1) := by decide +kernel
theorem dX0_find_21 : decode cX0_find 21 = .ok (.getfield 27, 3) := by decide +kernel
theorem dX0_find_24 : decode cX0_find 24 = .ok (.iconst 1, 1) := by decide +kernel
theorem dX0_find_25 : decode cX0_find 25 = .ok (.isub, 1) := by decide +kernel
theorem dX0_find_26 : decode cX0_find 26 = .ok (.if_icmp .ge 110, 3) := by decide +kernel
theorem dX0_find_29 : decode cX0_find 29 = .ok (.aload_n 1, 1) := by decide +kernel
theorem dX0_find_30 : decode cX0_find 30 = .ok (.iload_n 3, 1) := by decide +kernel
theorem dX0_find_31 : decode cX0_find 31 = .ok (.iload_n 2, 1) := by decide +kernel
theorem dX0_find_32 : decode cX0_find 32 = .ok (.iconst 0, 1) := by decide +kernel
theorem dX0_find_33 : decode cX0_find 33 = .ok (.invokevirtual 30, 3) := by decide +kernel
theorem dX0_find_36 : decode cX0_find 36 = .ok (.istore 4, 2) := by decide +kernel
theorem dX0_find_38 : decode cX0_find 38 = .ok (.aload_n 1, 1) := by decide +kernel
theorem dX0_find_39 : decode cX0_find 39 = .ok (.iload_n 3, 1) := by decide +kernel
theorem dX0_find_40 : decode cX0_find 40 = .ok (.iload_n 2, 1) := by decide +kernel
theorem dX0_find_41 : decode cX0_find 41 = .ok (.iconst 1, 1) := by decide +kernel
theorem dX0_find_42 : decode cX0_find 42 = .ok (.invokevirtual 30, 3) := by decide +kernel
theorem dX0_find_45 : decode cX0_find 45 = .ok (.istore 5, 2) := by decide +kernel
theorem dX0_find_47 : decode cX0_find 47 = .ok (.iload 4, 2) := by decide +kernel
theorem dX0_find_49 : decode cX0_find 49 = .ok (.ifCond .ne 8, 3) := by decide +kernel
theorem dX0_find_52 : decode cX0_find 52 = .ok (.iload 5, 2) := by decide +kernel
theorem dX0_find_54 : decode cX0_find 54 = .ok (.ifCond .eq 76, 3) := by decide +kernel
theorem dX0_find_57 : decode cX0_find 57 = .ok (.aload_n 0, 1) := by decide +kernel
theorem dX0_find_58 : decode cX0_find 58 = .ok (.getfield 18, 3) := by decide +kernel
theorem dX0_find_61 : decode cX0_find 61 = .ok (.bipush 12, 2) := by decide +kernel
theorem dX0_find_63 : decode cX0_find 63 = .ok (.if_icmp .ge 67, 3) := by decide +kernel
theorem dX0_find_66 : decode cX0_find 66 = .ok (.aload_n 0, 1) := by decide +kernel
theorem dX0_find_67 : decode cX0_find 67 = .ok (.getfield 9, 3) := by decide +kernel
theorem dX0_find_70 : decode cX0_find 70 = .ok (.iconst 2, 1) := by decide +kernel
theorem dX0_find_71 : decode cX0_find 71 = .ok (.aload_n 0, 1) := by decide +kernel
theorem dX0_find_72 : decode cX0_find 72 = .ok (.getfield 18, 3) := by decide +kernel
theorem dX0_find_75 : decode cX0_find 75 = .ok (.imul, 1) := by decide +kernel
theorem dX0_find_76 : decode cX0_find 76 = .ok (.iload_n 3, 1) := by decide +kernel
theorem dX0_find_77 : decode cX0_find 77 = .ok (.iastore, 1) := by decide +kernel
theorem dX0_find_78 : decode cX0_find 78 = .ok (.aload_n 0, 1) := by decide +kernel
theorem dX0_find_79 : decode cX0_find 79 = .ok (.getfield 9, 3) := by decide +kernel
theorem dX0_find_82 : decode cX0_find 82 = .ok (.iconst 2, 1) := by decide +kernel
theorem dX0_find_83 : decode cX0_find 83 = .ok (.aload_n 0, 1) := by decide +kernel
theorem dX0_find_84 : decode cX0_find 84 = .ok (.getfield 18, 3) := by decide +kernel
theorem dX0_find_87 : decode cX0_find 87 = .ok (.imul, 1) := by decide +kernel
theorem dX0_find_88 : decode cX0_find 88 = .ok (.iconst 1, 1) := by decide +kernel
theorem dX0_find_89 : decode cX0_find 89 = .ok (.iadd, 1) := by decide +kernel
theorem dX0_find_90 : decode cX0_find 90 = .ok (.iload_n 2, 1) := by decide +kernel
theorem dX0_find_91 : decode cX0_find 91 = .ok (.iastore, 1) := by decide +kernel
theorem dX0_find_92 : decode cX0_find 92 = .ok (.aload_n 0, 1) := by decide +kernel
theorem dX0_find_93 : decode cX0_find 93 = .ok (.getfield 15, 3) := by decide +kernel
theorem dX0_find_96 : decode cX0_find 96 = .ok (.iconst 2, 1) := by decide +kernel
theorem dX0_find_97 : decode cX0_find 97 = .ok (.aload_n 0, 1) := by decide +kernel
theorem dX0_find_98 : decode cX0_find 98 = .ok (.getfield 18, 3) := by decide +kernel
theorem dX0_find_101 : decode cX0_find 101 = .ok (.imul, 1) := by decide +kernel
theorem dX0_find_102 : decode cX0_find 102 = .ok (.iload 4, 2) := by decide +kernel
theorem dX0_find_104 : decode cX0_find 104 = .ok (.iastore, 1) := by decide +kernel
theorem dX0_find_105 : decode cX0_find 105 = .ok (.aload_n 0, 1) := by decide +kernel
theorem dX0_find_106 : decode cX0_find 106 = .ok (.getfield 15, 3) := by decide +kernel
theorem dX0_find_109 : decode cX0_find 109 = .ok (.iconst 2, 1) := by decide +kernel
theorem dX0_find_110 : decode cX0_find 110 = .ok (.aload_n 0, 1) := by decide +kernel
theorem dX0_find_111 : decode cX0_find 111 = .ok (.getfield 18, 3) := by decide +kernel
theorem dX0_find_114 : decode cX0_find 114 = .ok (.imul, 1) := by decide +kernel
theorem dX0_find_115 : decode cX0_find 115 = .ok (.iconst 1, 1) := by decide +kernel
theorem dX0_find_116 : decode cX0_find 116 = .ok (.iadd, 1) := by decide +kernel
theorem dX0_find_117 : decode cX0_find 117 = .ok (.iload 5, 2) := by decide +kernel
theorem dX0_find_119 : decode cX0_find 119 = .ok (.iastore, 1) := by decide +kernel
theorem dX0_find_120 : decode cX0_find 120 = .ok (.aload_n 0, 1) := by decide +kernel
theorem dX0_find_121 : decode cX0_find 121 = .ok (.dup, 1) := by decide +kernel
theorem dX0_find_122 : decode cX0_find 122 = .ok (.getfield 18, 3) := by decide +kernel
theorem dX0_find_125 : decode cX0_find 125 = .ok (.iconst 1, 1) := by decide +kernel
theorem dX0_find_126 : decode cX0_find 126 = .ok (.iadd, 1) := by decide +kernel
theorem dX0_find_127 : decode cX0_find 127 = .ok (.putfield 18, 3) := by decide +kernel
theorem dX0_find_130 : decode cX0_find 130 = .ok (.iinc 3 1, 3) := by decide +kernel
theorem dX0_find_133 : decode cX0_find 133 = .ok (.goto (-114), 3) := by decide +kernel
theorem dX0_find_136 : decode cX0_find 136 = .ok (.iinc 2 1, 3) := by decide +kernel
theorem dX0_find_139 : decode cX0_find 139 = .ok (.goto (-132), 3) := by decide +kernel
theorem dX0_find_142 : decode cX0_find 142 = .ok (.return_, 1) := by decide +kernel
theorem dX7_hasSite_0 : decode cX7_hasSite 0 = .ok (.iload_n 1, 1) := by decide +kernel
theorem dX7_hasSite_1 : decode cX7_hasSite 1 = .ok (.ifCond .lt 39, 3) := by decide +kernel
theorem dX7_hasSite_4 : decode cX7_hasSite 4 = .ok (.iload_n 1, 1) := by decide +kernel
theorem dX7_hasSite_5 : decode cX7_hasSite 5 = .ok (.aload_n 0, 1) := by decide +kernel
theorem dX7_hasSite_6 : decode cX7_hasSite 6 = .ok (.getfield 15, 3) := by decide +kernel
theorem dX7_hasSite_9 : decode cX7_hasSite 9 = .ok (.if_icmp .ge 31, 3) := by decide +kernel
theorem dX7_hasSite_12 : decode cX7_hasSite 12 = .ok (.iload_n 1, 1) := by decide +kernel
theorem dX7_hasSite_13 : decode cX7_hasSite 13 = .ok (.bipush 9, 2) := by decide +kernel
theorem dX7_hasSite_15 : decode cX7_hasSite 15 = .ok (.if_icmp .ge 25, 3) := by decide +kernel
theorem dX7_hasSite_18 : decode cX7_hasSite 18 = .ok (.iload_n 2, 1) := by decide +kernel
theorem dX7_hasSite_19 : decode cX7_hasSite 19 = .ok (.ifCond .lt 21, 3) := by decide +kernel
theorem dX7_hasSite_22 : decode cX7_hasSite 22 = .ok (.iload_n 2, 1) := by decide +kernel
theorem dX7_hasSite_23 : decode cX7_hasSite 23 = .ok (.aload_n 0, 1) := by decide +kernel
theorem dX7_hasSite_24 : decode cX7_hasSite 24 = .ok (.getfield 19, 3) := by decide +kernel
theorem dX7_hasSite_27 : decode cX7_hasSite 27 = .ok (.if_icmp .ge 13, 3) := by decide +kernel
theorem dX7_hasSite_30 : decode cX7_hasSite 30 = .ok (.iload_n 2, 1) := by decide +kernel
theorem dX7_hasSite_31 : decode cX7_hasSite 31 = .ok (.bipush 9, 2) := by decide +kernel
theorem dX7_hasSite_33 : decode cX7_hasSite 33 = .ok (.if_icmp .ge 7, 3) := by decide +kernel
theorem dX7_hasSite_36 : decode cX7_hasSite 36 = .ok (.iconst 1, 1) := by decide +kernel
theorem dX7_hasSite_37 : decode cX7_hasSite 37 = .ok (.goto 4, 3) := by decide +kernel
theorem dX7_hasSite_40 : decode cX7_hasSite 40 = .ok (.iconst 0, 1) := by decide +kernel
theorem dX7_hasSite_41 : decode cX7_hasSite 41 = .ok (.ireturn, 1) := by decide +kernel
