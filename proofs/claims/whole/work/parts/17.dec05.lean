theorem dX12_laysWalls_88 : decode cX12_laysWalls 88 = .ok (.aload_n 0, 1) := by decide +kernel
theorem dX12_laysWalls_89 : decode cX12_laysWalls 89 = .ok (.iconst 0, 1) := by decide +kernel
theorem dX12_laysWalls_90 : decode cX12_laysWalls 90 = .ok (.putfield 431, 3) := by decide +kernel
theorem dX12_laysWalls_93 : decode cX12_laysWalls 93 = .ok (.iconst 0, 1) := by decide +kernel
theorem dX12_laysWalls_94 : decode cX12_laysWalls 94 = .ok (.istore_n 2, 1) := by decide +kernel
theorem dX12_laysWalls_95 : decode cX12_laysWalls 95 = .ok (.iload_n 2, 1) := by decide +kernel
theorem dX12_laysWalls_96 : decode cX12_laysWalls 96 = .ok (.sipush 162, 3) := by decide +kernel
theorem dX12_laysWalls_99 : decode cX12_laysWalls 99 = .ok (.if_icmp .ge 47, 3) := by decide +kernel
theorem dX12_laysWalls_102 : decode cX12_laysWalls 102 = .ok (.aload_n 0, 1) := by decide +kernel
theorem dX12_laysWalls_103 : decode cX12_laysWalls 103 = .ok (.iload_n 2, 1) := by decide +kernel
theorem dX12_laysWalls_104 : decode cX12_laysWalls 104 = .ok (.invokevirtual 293, 3) := by decide +kernel
theorem dX12_laysWalls_107 : decode cX12_laysWalls 107 = .ok (.ifCond .eq 33, 3) := by decide +kernel
theorem dX12_laysWalls_110 : decode cX12_laysWalls 110 = .ok (.aload_n 0, 1) := by decide +kernel
theorem dX12_laysWalls_111 : decode cX12_laysWalls 111 = .ok (.getfield 65, 3) := by decide +kernel
theorem dX12_laysWalls_114 : decode cX12_laysWalls 114 = .ok (.iload_n 2, 1) := by decide +kernel
theorem dX12_laysWalls_115 : decode cX12_laysWalls 115 = .ok (.iaload, 1) := by decide +kernel
theorem dX12_laysWalls_116 : decode cX12_laysWalls 116 = .ok (.iload_n 2, 1) := by decide +kernel
theorem dX12_laysWalls_117 : decode cX12_laysWalls 117 = .ok (.if_icmp .ne 23, 3) := by decide +kernel
theorem dX12_laysWalls_120 : decode cX12_laysWalls 120 = .ok (.aload_n 0, 1) := by decide +kernel
theorem dX12_laysWalls_121 : decode cX12_laysWalls 121 = .ok (.getfield 68, 3) := by decide +kernel
theorem dX12_laysWalls_124 : decode cX12_laysWalls 124 = .ok (.aload_n 0, 1) := by decide +kernel
theorem dX12_laysWalls_125 : decode cX12_laysWalls 125 = .ok (.getfield 431, 3) := by decide +kernel
theorem dX12_laysWalls_128 : decode cX12_laysWalls 128 = .ok (.iload_n 2, 1) := by decide +kernel
theorem dX12_laysWalls_129 : decode cX12_laysWalls 129 = .ok (.iastore, 1) := by decide +kernel
theorem dX12_laysWalls_130 : decode cX12_laysWalls 130 = .ok (.aload_n 0, 1) := by decide +kernel
theorem dX12_laysWalls_131 : decode cX12_laysWalls 131 = .ok (.dup, 1) := by decide +kernel
theorem dX12_laysWalls_132 : decode cX12_laysWalls 132 = .ok (.getfield 431, 3) := by decide +kernel
theorem dX12_laysWalls_135 : decode cX12_laysWalls 135 = .ok (.iconst 1, 1) := by decide +kernel
theorem dX12_laysWalls_136 : decode cX12_laysWalls 136 = .ok (.iadd, 1) := by decide +kernel
theorem dX12_laysWalls_137 : decode cX12_laysWalls 137 = .ok (.putfield 431, 3) := by decide +kernel
theorem dX12_laysWalls_140 : decode cX12_laysWalls 140 = .ok (.iinc 2 1, 3) := by decide +kernel
theorem dX12_laysWalls_143 : decode cX12_laysWalls 143 = .ok (.goto (-48), 3) := by decide +kernel
theorem dX12_laysWalls_146 : decode cX12_laysWalls 146 = .ok (.aload_n 0, 1) := by decide +kernel
theorem dX12_laysWalls_147 : decode cX12_laysWalls 147 = .ok (.getfield 431, 3) := by decide +kernel
theorem dX12_laysWalls_150 : decode cX12_laysWalls 150 = .ok (.ireturn, 1) := by decide +kernel
theorem dX12_nextOn_0 : decode cX12_nextOn 0 = .ok (.iconst (-1), 1) := by decide +kernel
theorem dX12_nextOn_1 : decode cX12_nextOn 1 = .ok (.istore 4, 2) := by decide +kernel
theorem dX12_nextOn_3 : decode cX12_nextOn 3 = .ok (.iconst 0, 1) := by decide +kernel
theorem dX12_nextOn_4 : decode cX12_nextOn 4 = .ok (.istore 5, 2) := by decide +kernel
theorem dX12_nextOn_6 : decode cX12_nextOn 6 = .ok (.iload 5, 2) := by decide +kernel
theorem dX12_nextOn_8 : decode cX12_nextOn 8 = .ok (.aload_n 0, 1) := by decide +kernel
theorem dX12_nextOn_9 : decode cX12_nextOn 9 = .ok (.getfield 241, 3) := by decide +kernel
theorem dX12_nextOn_12 : decode cX12_nextOn 12 = .ok (.if_icmp .ge 113, 3) := by decide +kernel
theorem dX12_nextOn_15 : decode cX12_nextOn 15 = .ok (.iload 5, 2) := by decide +kernel
theorem dX12_nextOn_17 : decode cX12_nextOn 17 = .ok (.iload_n 1, 1) := by decide +kernel
theorem dX12_nextOn_18 : decode cX12_nextOn 18 = .ok (.if_icmp .eq 101, 3) := by decide +kernel
theorem dX12_nextOn_21 : decode cX12_nextOn 21 = .ok (.aload_n 0, 1) := by decide +kernel
theorem dX12_nextOn_22 : decode cX12_nextOn 22 = .ok (.iload 5, 2) := by decide +kernel
theorem dX12_nextOn_24 : decode cX12_nextOn 24 = .ok (.iconst 1, 1) := by decide +kernel
theorem dX12_nextOn_25 : decode cX12_nextOn 25 = .ok (.iload_n 2, 1) := by decide +kernel
theorem dX12_nextOn_26 : decode cX12_nextOn 26 = .ok (.isub, 1) := by decide +kernel
theorem dX12_nextOn_27 : decode cX12_nextOn 27 = .ok (.invokevirtual 275, 3) := by decide +kernel
theorem dX12_nextOn_30 : decode cX12_nextOn 30 = .ok (.aload_n 0, 1) := by decide +kernel
theorem dX12_nextOn_31 : decode cX12_nextOn 31 = .ok (.iload_n 1, 1) := by decide +kernel
theorem dX12_nextOn_32 : decode cX12_nextOn 32 = .ok (.iconst 1, 1) := by decide +kernel
theorem dX12_nextOn_33 : decode cX12_nextOn 33 = .ok (.iload_n 2, 1) := by decide +kernel
theorem dX12_nextOn_34 : decode cX12_nextOn 34 = .ok (.isub, 1) := by decide +kernel
theorem dX12_nextOn_35 : decode cX12_nextOn 35 = .ok (.invokevirtual 275, 3) := by decide +kernel
theorem dX12_nextOn_38 : decode cX12_nextOn 38 = .ok (.if_icmp .ne 81, 3) := by decide +kernel
theorem dX12_nextOn_41 : decode cX12_nextOn 41 = .ok (.aload_n 0, 1) := by decide +kernel
theorem dX12_nextOn_42 : decode cX12_nextOn 42 = .ok (.iload 5, 2) := by decide +kernel
theorem dX12_nextOn_44 : decode cX12_nextOn 44 = .ok (.iload_n 2, 1) := by decide +kernel
theorem dX12_nextOn_45 : decode cX12_nextOn 45 = .ok (.invokevirtual 275, 3) := by decide +kernel
theorem dX12_nextOn_48 : decode cX12_nextOn 48 = .ok (.aload_n 0, 1) := by decide +kernel
theorem dX12_nextOn_49 : decode cX12_nextOn 49 = .ok (.iload_n 1, 1) := by decide +kernel
theorem dX12_nextOn_50 : decode cX12_nextOn 50 = .ok (.iload_n 2, 1) := by decide +kernel
theorem dX12_nextOn_51 : decode cX12_nextOn 51 = .ok (.invokevirtual 275, 3) := by decide +kernel
theorem dX12_nextOn_54 : decode cX12_nextOn 54 = .ok (.if_icmp .le 7, 3) := by decide +kernel
theorem dX12_nextOn_57 : decode cX12_nextOn 57 = .ok (.iconst 1, 1) := by decide +kernel
theorem dX12_nextOn_58 : decode cX12_nextOn 58 = .ok (.goto 4, 3) := by decide +kernel
theorem dX12_nextOn_61 : decode cX12_nextOn 61 = .ok (.iconst 0, 1) := by decide +kernel
theorem dX12_nextOn_62 : decode cX12_nextOn 62 = .ok (.iload_n 3, 1) := by decide +kernel
theorem dX12_nextOn_63 : decode cX12_nextOn 63 = .ok (.if_icmp .ne 56, 3) := by decide +kernel
theorem dX12_nextOn_66 : decode cX12_nextOn 66 = .ok (.iload 4, 2) := by decide +kernel
theorem dX12_nextOn_68 : decode cX12_nextOn 68 = .ok (.iconst (-1), 1) := by decide +kernel
theorem dX12_nextOn_69 : decode cX12_nextOn 69 = .ok (.if_icmp .eq 29, 3) := by decide +kernel
theorem dX12_nextOn_72 : decode cX12_nextOn 72 = .ok (.aload_n 0, 1) := by decide +kernel
theorem dX12_nextOn_73 : decode cX12_nextOn 73 = .ok (.iload 5, 2) := by decide +kernel
theorem dX12_nextOn_75 : decode cX12_nextOn 75 = .ok (.iload_n 2, 1) := by decide +kernel
theorem dX12_nextOn_76 : decode cX12_nextOn 76 = .ok (.invokevirtual 275, 3) := by decide +kernel
theorem dX12_nextOn_79 : decode cX12_nextOn 79 = .ok (.aload_n 0, 1) := by decide +kernel
theorem dX12_nextOn_80 : decode cX12_nextOn 80 = .ok (.iload 4, 2) := by decide +kernel
theorem dX12_nextOn_82 : decode cX12_nextOn 82 = .ok (.iload_n 2, 1) := by decide +kernel
theorem dX12_nextOn_83 : decode cX12_nextOn 83 = .ok (.invokevirtual 275, 3) := by decide +kernel
theorem dX12_nextOn_86 : decode cX12_nextOn 86 = .ok (.if_icmp .ge 7, 3) := by decide +kernel
theorem dX12_nextOn_89 : decode cX12_nextOn 89 = .ok (.iconst 1, 1) := by decide +kernel
theorem dX12_nextOn_90 : decode cX12_nextOn 90 = .ok (.goto 4, 3) := by decide +kernel
theorem dX12_nextOn_93 : decode cX12_nextOn 93 = .ok (.iconst 0, 1) := by decide +kernel
theorem dX12_nextOn_94 : decode cX12_nextOn 94 = .ok (.iload_n 3, 1) := by decide +kernel
theorem dX12_nextOn_95 : decode cX12_nextOn 95 = .ok (.if_icmp .ne 7, 3) := by decide +kernel
theorem dX12_nextOn_98 : decode cX12_nextOn 98 = .ok (.iconst 1, 1) := by decide +kernel
theorem dX12_nextOn_99 : decode cX12_nextOn 99 = .ok (.goto 4, 3) := by decide +kernel
theorem dX12_nextOn_102 : decode cX12_nextOn 102 = .ok (.iconst 0, 1) := by decide +kernel
theorem dX12_nextOn_103 : decode cX12_nextOn 103 = .ok (.istore 6, 2) := by decide +kernel
theorem dX12_nextOn_105 : decode cX12_nextOn 105 = .ok (.iload 6, 2) := by decide +kernel
theorem dX12_nextOn_107 : decode cX12_nextOn 107 = .ok (.ifCond .eq 8, 3) := by decide +kernel
theorem dX12_nextOn_110 : decode cX12_nextOn 110 = .ok (.iload 5, 2) := by decide +kernel
theorem dX12_nextOn_112 : decode cX12_nextOn 112 = .ok (.goto 5, 3) := by decide +kernel
theorem dX12_nextOn_115 : decode cX12_nextOn 115 = .ok (.iload 4, 2) := by decide +kernel
theorem dX12_nextOn_117 : decode cX12_nextOn 117 = .ok (.istore 4, 2) := by decide +kernel
theorem dX12_nextOn_119 : decode cX12_nextOn 119 = .ok (.iinc 5 1, 3) := by decide +kernel
theorem dX12_nextOn_122 : decode cX12_nextOn 122 = .ok (.goto (-116), 3) := by decide +kernel
theorem dX12_nextOn_125 : decode cX12_nextOn 125 = .ok (.iload 4, 2) := by decide +kernel
theorem dX12_nextOn_127 : decode cX12_nextOn 127 = .ok (.ireturn, 1) := by decide +kernel
theorem dX12_line_0 : decode cX12_line 0 = .ok (.aload_n 0, 1) := by decide +kernel
theorem dX12_line_1 : decode cX12_line 1 = .ok (.iconst 0, 1) := by decide +kernel
theorem dX12_line_2 : decode cX12_line 2 = .ok (.putfield 86, 3) := by decide +kernel
theorem dX12_line_5 : decode cX12_line 5 = .ok (.aload_n 0, 1) := by decide +kernel
theorem dX12_line_6 : decode cX12_line 6 = .ok (.invokevirtual 306, 3) := by decide +kernel
theorem dX12_line_9 : decode cX12_line 9 = .ok (.ifCond .eq 15, 3) := by decide +kernel
theorem dX12_line_12 : decode cX12_line 12 = .ok (.iload_n 2, 1) := by decide +kernel
theorem dX12_line_13 : decode cX12_line 13 = .ok (.i2l, 1) := by decide +kernel
theorem dX12_line_14 : decode cX12_line 14 = .ok (.lconst 0, 1) := by decide +kernel
theorem dX12_line_15 : decode cX12_line 15 = .ok (.ldc2_w 291, 3) := by decide +kernel
theorem dX12_line_18 : decode cX12_line 18 = .ok (.invokestatic 97, 3) := by decide +kernel
theorem dX12_line_21 : decode cX12_line 21 = .ok (.ifCond .ne 7, 3) := by decide +kernel
theorem dX12_line_24 : decode cX12_line 24 = .ok (.ldc_w 310, 3) := by decide +kernel
theorem dX12_line_27 : decode cX12_line 27 = .ok (.ireturn, 1) := by decide +kernel
theorem dX12_line_28 : decode cX12_line 28 = .ok (.aload_n 0, 1) := by decide +kernel
theorem dX12_line_29 : decode cX12_line 29 = .ok (.invokevirtual 238, 3) := by decide +kernel
theorem dX12_line_32 : decode cX12_line 32 = .ok (.pop, 1) := by decide +kernel
theorem dX12_line_33 : decode cX12_line 33 = .ok (.iload_n 1, 1) := by decide +kernel
theorem dX12_line_34 : decode cX12_line 34 = .ok (.i2l, 1) := by decide +kernel
theorem dX12_line_35 : decode cX12_line 35 = .ok (.lconst 0, 1) := by decide +kernel
theorem dX12_line_36 : decode cX12_line 36 = .ok (.aload_n 0, 1) := by decide +kernel
theorem dX12_line_37 : decode cX12_line 37 = .ok (.getfield 241, 3) := by decide +kernel
theorem dX12_line_40 : decode cX12_line 40 = .ok (.iconst 1, 1) := by decide +kernel
theorem dX12_line_41 : decode cX12_line 41 = .ok (.isub, 1) := by decide +kernel
theorem dX12_line_42 : decode cX12_line 42 = .ok (.i2l, 1) := by decide +kernel
theorem dX12_line_43 : decode cX12_line 43 = .ok (.invokestatic 97, 3) := by decide +kernel
theorem dX12_line_46 : decode cX12_line 46 = .ok (.ifCond .eq 12, 3) := by decide +kernel
theorem dX12_line_49 : decode cX12_line 49 = .ok (.aload_n 0, 1) := by decide +kernel
theorem dX12_line_50 : decode cX12_line 50 = .ok (.iload_n 1, 1) := by decide +kernel
theorem dX12_line_51 : decode cX12_line 51 = .ok (.invokevirtual 269, 3) := by decide +kernel
theorem dX12_line_54 : decode cX12_line 54 = .ok (.iconst (-1), 1) := by decide +kernel
theorem dX12_line_55 : decode cX12_line 55 = .ok (.if_icmp .ne 7, 3) := by decide +kernel
theorem dX12_line_58 : decode cX12_line 58 = .ok (.ldc_w 310, 3) := by decide +kernel
theorem dX12_line_61 : decode cX12_line 61 = .ok (.ireturn, 1) := by decide +kernel
theorem dX12_line_62 : decode cX12_line 62 = .ok (.aload_n 0, 1) := by decide +kernel
theorem dX12_line_63 : decode cX12_line 63 = .ok (.iload_n 1, 1) := by decide +kernel
theorem dX12_line_64 : decode cX12_line 64 = .ok (.invokevirtual 269, 3) := by decide +kernel
theorem dX12_line_67 : decode cX12_line 67 = .ok (.istore_n 3, 1) := by decide +kernel
theorem dX12_line_68 : decode cX12_line 68 = .ok (.aload_n 0, 1) := by decide +kernel
theorem dX12_line_69 : decode cX12_line 69 = .ok (.iload_n 1, 1) := by decide +kernel
theorem dX12_line_70 : decode cX12_line 70 = .ok (.iload_n 3, 1) := by decide +kernel
theorem dX12_line_71 : decode cX12_line 71 = .ok (.iload_n 2, 1) := by decide +kernel
theorem dX12_line_72 : decode cX12_line 72 = .ok (.iconst 2, 1) := by decide +kernel
theorem dX12_line_73 : decode cX12_line 73 = .ok (.if_icmp .ge 7, 3) := by decide +kernel
theorem dX12_line_76 : decode cX12_line 76 = .ok (.iconst 1, 1) := by decide +kernel
theorem dX12_line_77 : decode cX12_line 77 = .ok (.goto 4, 3) := by decide +kernel
theorem dX12_line_80 : decode cX12_line 80 = .ok (.iconst 0, 1) := by decide +kernel
theorem dX12_line_81 : decode cX12_line 81 = .ok (.invokevirtual 470, 3) := by decide +kernel
theorem dX12_line_84 : decode cX12_line 84 = .ok (.istore 4, 2) := by decide +kernel
theorem dX12_line_86 : decode cX12_line 86 = .ok (.iload 4, 2) := by decide +kernel
theorem dX12_line_88 : decode cX12_line 88 = .ok (.iconst (-1), 1) := by decide +kernel
theorem dX12_line_89 : decode cX12_line 89 = .ok (.if_icmp .eq 9, 3) := by decide +kernel
theorem dX12_line_92 : decode cX12_line 92 = .ok (.iload_n 2, 1) := by decide +kernel
theorem dX12_line_93 : decode cX12_line 93 = .ok (.iconst 2, 1) := by decide +kernel
theorem dX12_line_94 : decode cX12_line 94 = .ok (.irem, 1) := by decide +kernel
theorem dX12_line_95 : decode cX12_line 95 = .ok (.ifCond .ne 8, 3) := by decide +kernel
theorem dX12_line_98 : decode cX12_line 98 = .ok (.iload 4, 2) := by decide +kernel
theorem dX12_line_100 : decode cX12_line 100 = .ok (.goto 20, 3) := by decide +kernel
theorem dX12_line_103 : decode cX12_line 103 = .ok (.aload_n 0, 1) := by decide +kernel
theorem dX12_line_104 : decode cX12_line 104 = .ok (.iload 4, 2) := by decide +kernel
theorem dX12_line_106 : decode cX12_line 106 = .ok (.iload_n 3, 1) := by decide +kernel
theorem dX12_line_107 : decode cX12_line 107 = .ok (.invokevirtual 275, 3) := by decide +kernel
theorem dX12_line_110 : decode cX12_line 110 = .ok (.aload_n 0, 1) := by decide +kernel
theorem dX12_line_111 : decode cX12_line 111 = .ok (.iload_n 1, 1) := by decide +kernel
theorem dX12_line_112 : decode cX12_line 112 = .ok (.iload_n 3, 1) := by decide +kernel
theorem dX12_line_113 : decode cX12_line 113 = .ok (.invokevirtual 275, 3) := by decide +kernel
theorem dX12_line_116 : decode cX12_line 116 = .ok (.isub, 1) := by decide +kernel
theorem dX12_line_117 : decode cX12_line 117 = .ok (.invokestatic 370, 3) := by decide +kernel
theorem dX12_line_120 : decode cX12_line 120 = .ok (.ireturn, 1) := by decide +kernel
theorem dX12_link_0 : decode cX12_link 0 = .ok (.aload_n 0, 1) := by decide +kernel
theorem dX12_link_1 : decode cX12_link 1 = .ok (.iconst 0, 1) := by decide +kernel
theorem dX12_link_2 : decode cX12_link 2 = .ok (.putfield 86, 3) := by decide +kernel
theorem dX12_link_5 : decode cX12_link 5 = .ok (.aload_n 0, 1) := by decide +kernel
theorem dX12_link_6 : decode cX12_link 6 = .ok (.invokevirtual 306, 3) := by decide +kernel
theorem dX12_link_9 : decode cX12_link 9 = .ok (.ifCond .eq 36, 3) := by decide +kernel
theorem dX12_link_12 : decode cX12_link 12 = .ok (.aload_n 0, 1) := by decide +kernel
theorem dX12_link_13 : decode cX12_link 13 = .ok (.iload_n 1, 1) := by decide +kernel
theorem dX12_link_14 : decode cX12_link 14 = .ok (.iload_n 2, 1) := by decide +kernel
theorem dX12_link_15 : decode cX12_link 15 = .ok (.iload_n 3, 1) := by decide +kernel
theorem dX12_link_16 : decode cX12_link 16 = .ok (.invokevirtual 296, 3) := by decide +kernel
theorem dX12_link_19 : decode cX12_link 19 = .ok (.ifCond .eq 26, 3) := by decide +kernel
theorem dX12_link_22 : decode cX12_link 22 = .ok (.iload 4, 2) := by decide +kernel
theorem dX12_link_24 : decode cX12_link 24 = .ok (.i2l, 1) := by decide +kernel
theorem dX12_link_25 : decode cX12_link 25 = .ok (.lconst 0, 1) := by decide +kernel
theorem dX12_link_26 : decode cX12_link 26 = .ok (.lconst 1, 1) := by decide +kernel
theorem dX12_link_27 : decode cX12_link 27 = .ok (.invokestatic 97, 3) := by decide +kernel
theorem dX12_link_30 : decode cX12_link 30 = .ok (.ifCond .eq 15, 3) := by decide +kernel
theorem dX12_link_33 : decode cX12_link 33 = .ok (.aload_n 0, 1) := by decide +kernel
theorem dX12_link_34 : decode cX12_link 34 = .ok (.iload_n 1, 1) := by decide +kernel
theorem dX12_link_35 : decode cX12_link 35 = .ok (.iload_n 2, 1) := by decide +kernel
theorem dX12_link_36 : decode cX12_link 36 = .ok (.iload_n 3, 1) := by decide +kernel
theorem dX12_link_37 : decode cX12_link 37 = .ok (.iload 4, 2) := by decide +kernel
theorem dX12_link_39 : decode cX12_link 39 = .ok (.invokevirtual 218, 3) := by decide +kernel
theorem dX12_link_42 : decode cX12_link 42 = .ok (.goto 6, 3) := by decide +kernel
theorem dX12_link_45 : decode cX12_link 45 = .ok (.ldc_w 310, 3) := by decide +kernel
theorem dX12_link_48 : decode cX12_link 48 = .ok (.ireturn, 1) := by decide +kernel
theorem dX12_linksOf_0 : decode cX12_linksOf 0 = .ok (.iconst 0, 1) := by decide +kernel
theorem dX12_linksOf_1 : decode cX12_linksOf 1 = .ok (.istore_n 2, 1) := by decide +kernel
theorem dX12_linksOf_2 : decode cX12_linksOf 2 = .ok (.iconst 0, 1) := by decide +kernel
theorem dX12_linksOf_3 : decode cX12_linksOf 3 = .ok (.istore_n 3, 1) := by decide +kernel
theorem dX12_linksOf_4 : decode cX12_linksOf 4 = .ok (.iload_n 3, 1) := by decide +kernel
theorem dX12_linksOf_5 : decode cX12_linksOf 5 = .ok (.sipush 162, 3) := by decide +kernel
theorem dX12_linksOf_8 : decode cX12_linksOf 8 = .ok (.if_icmp .ge 35, 3) := by decide +kernel
theorem dX12_linksOf_11 : decode cX12_linksOf 11 = .ok (.iload_n 2, 1) := by decide +kernel
theorem dX12_linksOf_12 : decode cX12_linksOf 12 = .ok (.aload_n 0, 1) := by decide +kernel
theorem dX12_linksOf_13 : decode cX12_linksOf 13 = .ok (.iload_n 3, 1) := by decide +kernel
theorem dX12_linksOf_14 : decode cX12_linksOf 14 = .ok (.invokevirtual 293, 3) := by decide +kernel
theorem dX12_linksOf_17 : decode cX12_linksOf 17 = .ok (.ifCond .eq 17, 3) := by decide +kernel
theorem dX12_linksOf_20 : decode cX12_linksOf 20 = .ok (.aload_n 0, 1) := by decide +kernel
theorem dX12_linksOf_21 : decode cX12_linksOf 21 = .ok (.getfield 65, 3) := by decide +kernel
theorem dX12_linksOf_24 : decode cX12_linksOf 24 = .ok (.iload_n 3, 1) := by decide +kernel
theorem dX12_linksOf_25 : decode cX12_linksOf 25 = .ok (.iaload, 1) := by decide +kernel
theorem dX12_linksOf_26 : decode cX12_linksOf 26 = .ok (.iload_n 1, 1) := by decide +kernel
theorem dX12_linksOf_27 : decode cX12_linksOf 27 = .ok (.if_icmp .ne 7, 3) := by decide +kernel
theorem dX12_linksOf_30 : decode cX12_linksOf 30 = .ok (.iconst 1, 1) := by decide +kernel
theorem dX12_linksOf_31 : decode cX12_linksOf 31 = .ok (.goto 4, 3) := by decide +kernel
theorem dX12_linksOf_34 : decode cX12_linksOf 34 = .ok (.iconst 0, 1) := by decide +kernel
theorem dX12_linksOf_35 : decode cX12_linksOf 35 = .ok (.iadd, 1) := by decide +kernel
theorem dX12_linksOf_36 : decode cX12_linksOf 36 = .ok (.istore_n 2, 1) := by decide +kernel
theorem dX12_linksOf_37 : decode cX12_linksOf 37 = .ok (.iinc 3 1, 3) := by decide +kernel
theorem dX12_linksOf_40 : decode cX12_linksOf 40 = .ok (.goto (-36), 3) := by decide +kernel
theorem dX12_linksOf_43 : decode cX12_linksOf 43 = .ok (.iload_n 2, 1) := by decide +kernel
theorem dX12_linksOf_44 : decode cX12_linksOf 44 = .ok (.ireturn, 1) := by decide +kernel
theorem dX12_log_0 : decode cX12_log 0 = .ok (.aload_n 0, 1) := by decide +kernel
theorem dX12_log_1 : decode cX12_log 1 = .ok (.iconst 0, 1) := by decide +kernel
theorem dX12_log_2 : decode cX12_log 2 = .ok (.putfield 86, 3) := by decide +kernel
theorem dX12_log_5 : decode cX12_log 5 = .ok (.iload_n 1, 1) := by decide +kernel
theorem dX12_log_6 : decode cX12_log 6 = .ok (.i2l, 1) := by decide +kernel
theorem dX12_log_7 : decode cX12_log 7 = .ok (.lconst 0, 1) := by decide +kernel
theorem dX12_log_8 : decode cX12_log 8 = .ok (.aload_n 0, 1) := by decide +kernel
theorem dX12_log_9 : decode cX12_log 9 = .ok (.getfield 28, 3) := by decide +kernel
theorem dX12_log_12 : decode cX12_log 12 = .ok (.sipush 324, 3) := by decide +kernel
theorem dX12_log_15 : decode cX12_log 15 = .ok (.iaload, 1) := by decide +kernel
theorem dX12_log_16 : decode cX12_log 16 = .ok (.iconst 1, 1) := by decide +kernel
theorem dX12_log_17 : decode cX12_log 17 = .ok (.isub, 1) := by decide +kernel
theorem dX12_log_18 : decode cX12_log 18 = .ok (.i2l, 1) := by decide +kernel
theorem dX12_log_19 : decode cX12_log 19 = .ok (.invokestatic 97, 3) := by decide +kernel
theorem dX12_log_22 : decode cX12_log 22 = .ok (.ifCond .eq 43, 3) := by decide +kernel
theorem dX12_log_25 : decode cX12_log 25 = .ok (.iload_n 2, 1) := by decide +kernel
theorem dX12_log_26 : decode cX12_log 26 = .ok (.i2l, 1) := by decide +kernel
theorem dX12_log_27 : decode cX12_log 27 = .ok (.lconst 0, 1) := by decide +kernel
theorem dX12_log_28 : decode cX12_log 28 = .ok (.ldc2_w 291, 3) := by decide +kernel
theorem dX12_log_31 : decode cX12_log 31 = .ok (.invokestatic 97, 3) := by decide +kernel
theorem dX12_log_34 : decode cX12_log 34 = .ok (.ifCond .eq 31, 3) := by decide +kernel
theorem dX12_log_37 : decode cX12_log 37 = .ok (.aload_n 0, 1) := by decide +kernel
theorem dX12_log_38 : decode cX12_log 38 = .ok (.getfield 28, 3) := by decide +kernel
theorem dX12_log_41 : decode cX12_log 41 = .ok (.sipush 326, 3) := by decide +kernel
theorem dX12_log_44 : decode cX12_log 44 = .ok (.iconst 4, 1) := by decide +kernel
theorem dX12_log_45 : decode cX12_log 45 = .ok (.aload_n 0, 1) := by decide +kernel
theorem dX12_log_46 : decode cX12_log 46 = .ok (.getfield 28, 3) := by decide +kernel
theorem dX12_log_49 : decode cX12_log 49 = .ok (.sipush 324, 3) := by decide +kernel
theorem dX12_log_52 : decode cX12_log 52 = .ok (.iaload, 1) := by decide +kernel
theorem dX12_log_53 : decode cX12_log 53 = .ok (.iconst 1, 1) := by decide +kernel
theorem dX12_log_54 : decode cX12_log 54 = .ok (.isub, 1) := by decide +kernel
theorem dX12_log_55 : decode cX12_log 55 = .ok (.iload_n 1, 1) := by decide +kernel
theorem dX12_log_56 : decode cX12_log 56 = .ok (.isub, 1) := by decide +kernel
theorem dX12_log_57 : decode cX12_log 57 = .ok (.imul, 1) := by decide +kernel
theorem dX12_log_58 : decode cX12_log 58 = .ok (.iadd, 1) := by decide +kernel
theorem dX12_log_59 : decode cX12_log 59 = .ok (.iload_n 2, 1) := by decide +kernel
theorem dX12_log_60 : decode cX12_log 60 = .ok (.iadd, 1) := by decide +kernel
theorem dX12_log_61 : decode cX12_log 61 = .ok (.iaload, 1) := by decide +kernel
theorem dX12_log_62 : decode cX12_log 62 = .ok (.goto 4, 3) := by decide +kernel
theorem dX12_log_65 : decode cX12_log 65 = .ok (.iconst (-1), 1) := by decide +kernel
theorem dX12_log_66 : decode cX12_log 66 = .ok (.ireturn, 1) := by decide +kernel
theorem dX12_longestWall_0 : decode cX12_longestWall 0 = .ok (.iconst 0, 1) := by decide +kernel
theorem dX12_longestWall_1 : decode cX12_longestWall 1 = .ok (.istore_n 1, 1) := by decide +kernel
theorem dX12_longestWall_2 : decode cX12_longestWall 2 = .ok (.aload_n 0, 1) := by decide +kernel
theorem dX12_longestWall_3 : decode cX12_longestWall 3 = .ok (.invokevirtual 321, 3) := by decide +kernel
theorem dX12_longestWall_6 : decode cX12_longestWall 6 = .ok (.istore_n 2, 1) := by decide +kernel
theorem dX12_longestWall_7 : decode cX12_longestWall 7 = .ok (.iconst 0, 1) := by decide +kernel
theorem dX12_longestWall_8 : decode cX12_longestWall 8 = .ok (.istore_n 3, 1) := by decide +kernel
theorem dX12_longestWall_9 : decode cX12_longestWall 9 = .ok (.iload_n 3, 1) := by decide +kernel
theorem dX12_longestWall_10 : decode cX12_longestWall 10 = .ok (.iload_n 2, 1) := by decide +kernel
theorem dX12_longestWall_11 : decode cX12_longestWall 11 = .ok (.if_icmp .ge 24, 3) := by decide +kernel
theorem dX12_longestWall_14 : decode cX12_longestWall 14 = .ok (.iload_n 1, 1) := by decide +kernel
theorem dX12_longestWall_15 : decode cX12_longestWall 15 = .ok (.aload_n 0, 1) := by decide +kernel
theorem dX12_longestWall_16 : decode cX12_longestWall 16 = .ok (.aload_n 0, 1) := by decide +kernel
theorem dX12_longestWall_17 : decode cX12_longestWall 17 = .ok (.getfield 68, 3) := by decide +kernel
theorem dX12_longestWall_20 : decode cX12_longestWall 20 = .ok (.iload_n 3, 1) := by decide +kernel
theorem dX12_longestWall_21 : decode cX12_longestWall 21 = .ok (.iaload, 1) := by decide +kernel
theorem dX12_longestWall_22 : decode cX12_longestWall 22 = .ok (.invokevirtual 434, 3) := by decide +kernel
theorem dX12_longestWall_25 : decode cX12_longestWall 25 = .ok (.invokestatic 464, 3) := by decide +kernel
theorem dX12_longestWall_28 : decode cX12_longestWall 28 = .ok (.istore_n 1, 1) := by decide +kernel
theorem dX12_longestWall_29 : decode cX12_longestWall 29 = .ok (.iinc 3 1, 3) := by decide +kernel
theorem dX12_longestWall_32 : decode cX12_longestWall 32 = .ok (.goto (-23), 3) := by decide +kernel
theorem dX12_longestWall_35 : decode cX12_longestWall 35 = .ok (.iload_n 1, 1) := by decide +kernel
theorem dX12_longestWall_36 : decode cX12_longestWall 36 = .ok (.ireturn, 1) := by decide +kernel
theorem dX12_meets_0 : decode cX12_meets 0 = .ok (.aload_n 0, 1) := by decide +kernel
theorem dX12_meets_1 : decode cX12_meets 1 = .ok (.iconst 0, 1) := by decide +kernel
theorem dX12_meets_2 : decode cX12_meets 2 = .ok (.putfield 86, 3) := by decide +kernel
theorem dX12_meets_5 : decode cX12_meets 5 = .ok (.aload_n 0, 1) := by decide +kernel
theorem dX12_meets_6 : decode cX12_meets 6 = .ok (.invokevirtual 306, 3) := by decide +kernel
theorem dX12_meets_9 : decode cX12_meets 9 = .ok (.ifCond .eq 15, 3) := by decide +kernel
theorem dX12_meets_12 : decode cX12_meets 12 = .ok (.iload_n 1, 1) := by decide +kernel
theorem dX12_meets_13 : decode cX12_meets 13 = .ok (.i2l, 1) := by decide +kernel
theorem dX12_meets_14 : decode cX12_meets 14 = .ok (.lconst 1, 1) := by decide +kernel
theorem dX12_meets_15 : decode cX12_meets 15 = .ok (.ldc2_w 399, 3) := by decide +kernel
theorem dX12_meets_18 : decode cX12_meets 18 = .ok (.invokestatic 97, 3) := by decide +kernel
theorem dX12_meets_21 : decode cX12_meets 21 = .ok (.ifCond .ne 5, 3) := by decide +kernel
theorem dX12_meets_24 : decode cX12_meets 24 = .ok (.iconst (-1), 1) := by decide +kernel
theorem dX12_meets_25 : decode cX12_meets 25 = .ok (.ireturn, 1) := by decide +kernel
theorem dX12_meets_26 : decode cX12_meets 26 = .ok (.aload_n 0, 1) := by decide +kernel
theorem dX12_meets_27 : decode cX12_meets 27 = .ok (.iload_n 1, 1) := by decide +kernel
theorem dX12_meets_28 : decode cX12_meets 28 = .ok (.invokevirtual 452, 3) := by decide +kernel
theorem dX12_meets_31 : decode cX12_meets 31 = .ok (.pop, 1) := by decide +kernel
theorem dX12_meets_32 : decode cX12_meets 32 = .ok (.iload_n 2, 1) := by decide +kernel
theorem dX12_meets_33 : decode cX12_meets 33 = .ok (.i2l, 1) := by decide +kernel
theorem dX12_meets_34 : decode cX12_meets 34 = .ok (.lconst 0, 1) := by decide +kernel
theorem dX12_meets_35 : decode cX12_meets 35 = .ok (.aload_n 0, 1) := by decide +kernel
theorem dX12_meets_36 : decode cX12_meets 36 = .ok (.getfield 241, 3) := by decide +kernel
theorem dX12_meets_39 : decode cX12_meets 39 = .ok (.iconst 1, 1) := by decide +kernel
theorem dX12_meets_40 : decode cX12_meets 40 = .ok (.isub, 1) := by decide +kernel
theorem dX12_meets_41 : decode cX12_meets 41 = .ok (.i2l, 1) := by decide +kernel
theorem dX12_meets_42 : decode cX12_meets 42 = .ok (.invokestatic 97, 3) := by decide +kernel
theorem dX12_meets_45 : decode cX12_meets 45 = .ok (.ifCond .eq 12, 3) := by decide +kernel
theorem dX12_meets_48 : decode cX12_meets 48 = .ok (.aload_n 0, 1) := by decide +kernel
theorem dX12_meets_49 : decode cX12_meets 49 = .ok (.getfield 77, 3) := by decide +kernel
theorem dX12_meets_52 : decode cX12_meets 52 = .ok (.iload_n 2, 1) := by decide +kernel
theorem dX12_meets_53 : decode cX12_meets 53 = .ok (.iaload, 1) := by decide +kernel
theorem dX12_meets_54 : decode cX12_meets 54 = .ok (.goto 4, 3) := by decide +kernel
theorem dX12_meets_57 : decode cX12_meets 57 = .ok (.iconst (-1), 1) := by decide +kernel
theorem dX12_meets_58 : decode cX12_meets 58 = .ok (.ireturn, 1) := by decide +kernel
theorem dX12_mostAlike_0 : decode cX12_mostAlike 0 = .ok (.iconst 0, 1) := by decide +kernel
theorem dX12_mostAlike_1 : decode cX12_mostAlike 1 = .ok (.istore_n 2, 1) := by decide +kernel
theorem dX12_mostAlike_2 : decode cX12_mostAlike 2 = .ok (.iconst (-1), 1) := by decide +kernel
theorem dX12_mostAlike_3 : decode cX12_mostAlike 3 = .ok (.istore_n 3, 1) := by decide +kernel
theorem dX12_mostAlike_4 : decode cX12_mostAlike 4 = .ok (.iconst 0, 1) := by decide +kernel
theorem dX12_mostAlike_5 : decode cX12_mostAlike 5 = .ok (.istore 4, 2) := by decide +kernel
theorem dX12_mostAlike_7 : decode cX12_mostAlike 7 = .ok (.iload 4, 2) := by decide +kernel
theorem dX12_mostAlike_9 : decode cX12_mostAlike 9 = .ok (.aload_n 0, 1) := by decide +kernel
theorem dX12_mostAlike_10 : decode cX12_mostAlike 10 = .ok (.getfield 241, 3) := by decide +kernel
theorem dX12_mostAlike_13 : decode cX12_mostAlike 13 = .ok (.if_icmp .ge 51, 3) := by decide +kernel
theorem dX12_mostAlike_16 : decode cX12_mostAlike 16 = .ok (.aload_n 0, 1) := by decide +kernel
theorem dX12_mostAlike_17 : decode cX12_mostAlike 17 = .ok (.iload 4, 2) := by decide +kernel
theorem dX12_mostAlike_19 : decode cX12_mostAlike 19 = .ok (.invokevirtual 473, 3) := by decide +kernel
theorem dX12_mostAlike_22 : decode cX12_mostAlike 22 = .ok (.istore 5, 2) := by decide +kernel
theorem dX12_mostAlike_24 : decode cX12_mostAlike 24 = .ok (.iload 5, 2) := by decide +kernel
theorem dX12_mostAlike_26 : decode cX12_mostAlike 26 = .ok (.iload_n 2, 1) := by decide +kernel
theorem dX12_mostAlike_27 : decode cX12_mostAlike 27 = .ok (.if_icmp .gt 20, 3) := by decide +kernel
theorem dX12_mostAlike_30 : decode cX12_mostAlike 30 = .ok (.iload 5, 2) := by decide +kernel
theorem dX12_mostAlike_32 : decode cX12_mostAlike 32 = .ok (.iload_n 2, 1) := by decide +kernel
theorem dX12_mostAlike_33 : decode cX12_mostAlike 33 = .ok (.if_icmp .ne 25, 3) := by decide +kernel
theorem dX12_mostAlike_36 : decode cX12_mostAlike 36 = .ok (.aload_n 0, 1) := by decide +kernel
theorem dX12_mostAlike_37 : decode cX12_mostAlike 37 = .ok (.getfield 34, 3) := by decide +kernel
theorem dX12_mostAlike_40 : decode cX12_mostAlike 40 = .ok (.iload 4, 2) := by decide +kernel
theorem dX12_mostAlike_42 : decode cX12_mostAlike 42 = .ok (.iaload, 1) := by decide +kernel
theorem dX12_mostAlike_43 : decode cX12_mostAlike 43 = .ok (.iload_n 3, 1) := by decide +kernel
theorem dX12_mostAlike_44 : decode cX12_mostAlike 44 = .ok (.if_icmp .ge 14, 3) := by decide +kernel
theorem dX12_mostAlike_47 : decode cX12_mostAlike 47 = .ok (.iload 5, 2) := by decide +kernel
theorem dX12_mostAlike_49 : decode cX12_mostAlike 49 = .ok (.istore_n 2, 1) := by decide +kernel
theorem dX12_mostAlike_50 : decode cX12_mostAlike 50 = .ok (.aload_n 0, 1) := by decide +kernel
theorem dX12_mostAlike_51 : decode cX12_mostAlike 51 = .ok (.getfield 34, 3) := by decide +kernel
theorem dX12_mostAlike_54 : decode cX12_mostAlike 54 = .ok (.iload 4, 2) := by decide +kernel
theorem dX12_mostAlike_56 : decode cX12_mostAlike 56 = .ok (.iaload, 1) := by decide +kernel
theorem dX12_mostAlike_57 : decode cX12_mostAlike 57 = .ok (.istore_n 3, 1) := by decide +kernel
theorem dX12_mostAlike_58 : decode cX12_mostAlike 58 = .ok (.iinc 4 1, 3) := by decide +kernel
theorem dX12_mostAlike_61 : decode cX12_mostAlike 61 = .ok (.goto (-54), 3) := by decide +kernel
theorem dX12_mostAlike_64 : decode cX12_mostAlike 64 = .ok (.iload_n 1, 1) := by decide +kernel
theorem dX12_mostAlike_65 : decode cX12_mostAlike 65 = .ok (.ifCond .eq 7, 3) := by decide +kernel
theorem dX12_mostAlike_68 : decode cX12_mostAlike 68 = .ok (.iload_n 3, 1) := by decide +kernel
theorem dX12_mostAlike_69 : decode cX12_mostAlike 69 = .ok (.goto 4, 3) := by decide +kernel
theorem dX12_mostAlike_72 : decode cX12_mostAlike 72 = .ok (.iload_n 2, 1) := by decide +kernel
theorem dX12_mostAlike_73 : decode cX12_mostAlike 73 = .ok (.ireturn, 1) := by decide +kernel
theorem dX12_strongest_0 : decode cX12_strongest 0 = .ok (.iconst (-1), 1) := by decide +kernel
theorem dX12_strongest_1 : decode cX12_strongest 1 = .ok (.istore_n 1, 1) := by decide +kernel
theorem dX12_strongest_2 : decode cX12_strongest 2 = .ok (.iconst 0, 1) := by decide +kernel
theorem dX12_strongest_3 : decode cX12_strongest 3 = .ok (.istore_n 2, 1) := by decide +kernel
theorem dX12_strongest_4 : decode cX12_strongest 4 = .ok (.iload_n 2, 1) := by decide +kernel
theorem dX12_strongest_5 : decode cX12_strongest 5 = .ok (.aload_n 0, 1) := by decide +kernel
theorem dX12_strongest_6 : decode cX12_strongest 6 = .ok (.getfield 241, 3) := by decide +kernel
theorem dX12_strongest_9 : decode cX12_strongest 9 = .ok (.if_icmp .ge 41, 3) := by decide +kernel
theorem dX12_strongest_12 : decode cX12_strongest 12 = .ok (.iload_n 1, 1) := by decide +kernel
theorem dX12_strongest_13 : decode cX12_strongest 13 = .ok (.iconst (-1), 1) := by decide +kernel
theorem dX12_strongest_14 : decode cX12_strongest 14 = .ok (.if_icmp .eq 24, 3) := by decide +kernel
theorem dX12_strongest_17 : decode cX12_strongest 17 = .ok (.aload_n 0, 1) := by decide +kernel
theorem dX12_strongest_18 : decode cX12_strongest 18 = .ok (.getfield 46, 3) := by decide +kernel
theorem dX12_strongest_21 : decode cX12_strongest 21 = .ok (.iload_n 2, 1) := by decide +kernel
theorem dX12_strongest_22 : decode cX12_strongest 22 = .ok (.iaload, 1) := by decide +kernel
theorem dX12_strongest_23 : decode cX12_strongest 23 = .ok (.invokestatic 370, 3) := by decide +kernel
theorem dX12_strongest_26 : decode cX12_strongest 26 = .ok (.aload_n 0, 1) := by decide +kernel
theorem dX12_strongest_27 : decode cX12_strongest 27 = .ok (.getfield 46, 3) := by decide +kernel
theorem dX12_strongest_30 : decode cX12_strongest 30 = .ok (.iload_n 1, 1) := by decide +kernel
theorem dX12_strongest_31 : decode cX12_strongest 31 = .ok (.iaload, 1) := by decide +kernel
theorem dX12_strongest_32 : decode cX12_strongest 32 = .ok (.invokestatic 370, 3) := by decide +kernel
theorem dX12_strongest_35 : decode cX12_strongest 35 = .ok (.if_icmp .le 7, 3) := by decide +kernel
theorem dX12_strongest_38 : decode cX12_strongest 38 = .ok (.iload_n 2, 1) := by decide +kernel
theorem dX12_strongest_39 : decode cX12_strongest 39 = .ok (.goto 4, 3) := by decide +kernel
theorem dX12_strongest_42 : decode cX12_strongest 42 = .ok (.iload_n 1, 1) := by decide +kernel
theorem dX12_strongest_43 : decode cX12_strongest 43 = .ok (.istore_n 1, 1) := by decide +kernel
theorem dX12_strongest_44 : decode cX12_strongest 44 = .ok (.iinc 2 1, 3) := by decide +kernel
theorem dX12_strongest_47 : decode cX12_strongest 47 = .ok (.goto (-43), 3) := by decide +kernel
theorem dX12_strongest_50 : decode cX12_strongest 50 = .ok (.iload_n 1, 1) := by decide +kernel
theorem dX12_strongest_51 : decode cX12_strongest 51 = .ok (.ireturn, 1) := by decide +kernel
theorem dX12_nearest_0 : decode cX12_nearest 0 = .ok (.iconst (-1), 1) := by decide +kernel
theorem dX12_nearest_1 : decode cX12_nearest 1 = .ok (.istore_n 2, 1) := by decide +kernel
theorem dX12_nearest_2 : decode cX12_nearest 2 = .ok (.iconst (-1), 1) := by decide +kernel
theorem dX12_nearest_3 : decode cX12_nearest 3 = .ok (.istore_n 3, 1) := by decide +kernel
theorem dX12_nearest_4 : decode cX12_nearest 4 = .ok (.iconst 0, 1) := by decide +kernel
theorem dX12_nearest_5 : decode cX12_nearest 5 = .ok (.istore 4, 2) := by decide +kernel
theorem dX12_nearest_7 : decode cX12_nearest 7 = .ok (.iload 4, 2) := by decide +kernel
theorem dX12_nearest_9 : decode cX12_nearest 9 = .ok (.aload_n 0, 1) := by decide +kernel
theorem dX12_nearest_10 : decode cX12_nearest 10 = .ok (.getfield 241, 3) := by decide +kernel
theorem dX12_nearest_13 : decode cX12_nearest 13 = .ok (.if_icmp .ge 65, 3) := by decide +kernel
theorem dX12_nearest_16 : decode cX12_nearest 16 = .ok (.iload 4, 2) := by decide +kernel
theorem dX12_nearest_18 : decode cX12_nearest 18 = .ok (.iconst 1, 1) := by decide +kernel
theorem dX12_nearest_19 : decode cX12_nearest 19 = .ok (.iadd, 1) := by decide +kernel
theorem dX12_nearest_20 : decode cX12_nearest 20 = .ok (.istore 5, 2) := by decide +kernel
theorem dX12_nearest_22 : decode cX12_nearest 22 = .ok (.iload 5, 2) := by decide +kernel
theorem dX12_nearest_24 : decode cX12_nearest 24 = .ok (.aload_n 0, 1) := by decide +kernel
theorem dX12_nearest_25 : decode cX12_nearest 25 = .ok (.getfield 241, 3) := by decide +kernel
theorem dX12_nearest_28 : decode cX12_nearest 28 = .ok (.if_icmp .ge 44, 3) := by decide +kernel
theorem dX12_nearest_31 : decode cX12_nearest 31 = .ok (.iload_n 2, 1) := by decide +kernel
theorem dX12_nearest_32 : decode cX12_nearest 32 = .ok (.iconst (-1), 1) := by decide +kernel
theorem dX12_nearest_33 : decode cX12_nearest 33 = .ok (.if_icmp .eq 15, 3) := by decide +kernel
theorem dX12_nearest_36 : decode cX12_nearest 36 = .ok (.aload_n 0, 1) := by decide +kernel
theorem dX12_nearest_37 : decode cX12_nearest 37 = .ok (.iload 4, 2) := by decide +kernel
theorem dX12_nearest_39 : decode cX12_nearest 39 = .ok (.iload 5, 2) := by decide +kernel
theorem dX12_nearest_41 : decode cX12_nearest 41 = .ok (.invokevirtual 303, 3) := by decide +kernel
theorem dX12_nearest_44 : decode cX12_nearest 44 = .ok (.iload_n 3, 1) := by decide +kernel
theorem dX12_nearest_45 : decode cX12_nearest 45 = .ok (.if_icmp .ge 21, 3) := by decide +kernel
theorem dX12_nearest_48 : decode cX12_nearest 48 = .ok (.bipush 16, 2) := by decide +kernel
theorem dX12_nearest_50 : decode cX12_nearest 50 = .ok (.iload 4, 2) := by decide +kernel
theorem dX12_nearest_52 : decode cX12_nearest 52 = .ok (.imul, 1) := by decide +kernel
theorem dX12_nearest_53 : decode cX12_nearest 53 = .ok (.iload 5, 2) := by decide +kernel
theorem dX12_nearest_55 : decode cX12_nearest 55 = .ok (.iadd, 1) := by decide +kernel
theorem dX12_nearest_56 : decode cX12_nearest 56 = .ok (.istore_n 2, 1) := by decide +kernel
theorem dX12_nearest_57 : decode cX12_nearest 57 = .ok (.aload_n 0, 1) := by decide +kernel
theorem dX12_nearest_58 : decode cX12_nearest 58 = .ok (.iload 4, 2) := by decide +kernel
theorem dX12_nearest_60 : decode cX12_nearest 60 = .ok (.iload 5, 2) := by decide +kernel
theorem dX12_nearest_62 : decode cX12_nearest 62 = .ok (.invokevirtual 303, 3) := by decide +kernel
theorem dX12_nearest_65 : decode cX12_nearest 65 = .ok (.istore_n 3, 1) := by decide +kernel
theorem dX12_nearest_66 : decode cX12_nearest 66 = .ok (.iinc 5 1, 3) := by decide +kernel
theorem dX12_nearest_69 : decode cX12_nearest 69 = .ok (.goto (-47), 3) := by decide +kernel
theorem dX12_nearest_72 : decode cX12_nearest 72 = .ok (.iinc 4 1, 3) := by decide +kernel
theorem dX12_nearest_75 : decode cX12_nearest 75 = .ok (.goto (-68), 3) := by decide +kernel
theorem dX12_nearest_78 : decode cX12_nearest 78 = .ok (.iload_n 1, 1) := by decide +kernel
theorem dX12_nearest_79 : decode cX12_nearest 79 = .ok (.ifCond .eq 11, 3) := by decide +kernel
theorem dX12_nearest_82 : decode cX12_nearest 82 = .ok (.iconst 0, 1) := by decide +kernel
theorem dX12_nearest_83 : decode cX12_nearest 83 = .ok (.iload_n 3, 1) := by decide +kernel
theorem dX12_nearest_84 : decode cX12_nearest 84 = .ok (.invokestatic 464, 3) := by decide +kernel
theorem dX12_nearest_87 : decode cX12_nearest 87 = .ok (.goto 4, 3) := by decide +kernel
theorem dX12_nearest_90 : decode cX12_nearest 90 = .ok (.iload_n 2, 1) := by decide +kernel
theorem dX12_nearest_91 : decode cX12_nearest 91 = .ok (.ireturn, 1) := by decide +kernel
theorem dX12_opposed_0 : decode cX12_opposed 0 = .ok (.iconst 0, 1) := by decide +kernel
theorem dX12_opposed_1 : decode cX12_opposed 1 = .ok (.istore_n 1, 1) := by decide +kernel
theorem dX12_opposed_2 : decode cX12_opposed 2 = .ok (.iconst 0, 1) := by decide +kernel
theorem dX12_opposed_3 : decode cX12_opposed 3 = .ok (.istore_n 2, 1) := by decide +kernel
theorem dX12_opposed_4 : decode cX12_opposed 4 = .ok (.iload_n 2, 1) := by decide +kernel
theorem dX12_opposed_5 : decode cX12_opposed 5 = .ok (.aload_n 0, 1) := by decide +kernel
theorem dX12_opposed_6 : decode cX12_opposed 6 = .ok (.getfield 241, 3) := by decide +kernel
theorem dX12_opposed_9 : decode cX12_opposed 9 = .ok (.if_icmp .ge 61, 3) := by decide +kernel
theorem dX12_opposed_12 : decode cX12_opposed 12 = .ok (.iconst 0, 1) := by decide +kernel
theorem dX12_opposed_13 : decode cX12_opposed 13 = .ok (.istore_n 3, 1) := by decide +kernel
theorem dX12_opposed_14 : decode cX12_opposed 14 = .ok (.iconst 0, 1) := by decide +kernel
theorem dX12_opposed_15 : decode cX12_opposed 15 = .ok (.istore 4, 2) := by decide +kernel
theorem dX12_opposed_17 : decode cX12_opposed 17 = .ok (.iload 4, 2) := by decide +kernel
theorem dX12_opposed_19 : decode cX12_opposed 19 = .ok (.aload_n 0, 1) := by decide +kernel
theorem dX12_opposed_20 : decode cX12_opposed 20 = .ok (.getfield 241, 3) := by decide +kernel
theorem dX12_opposed_23 : decode cX12_opposed 23 = .ok (.if_icmp .ge 29, 3) := by decide +kernel
theorem dX12_opposed_26 : decode cX12_opposed 26 = .ok (.iload_n 3, 1) := by decide +kernel
theorem dX12_opposed_27 : decode cX12_opposed 27 = .ok (.ifCond .ne 13, 3) := by decide +kernel
theorem dX12_opposed_30 : decode cX12_opposed 30 = .ok (.aload_n 0, 1) := by decide +kernel
theorem dX12_opposed_31 : decode cX12_opposed 31 = .ok (.iload_n 2, 1) := by decide +kernel
theorem dX12_opposed_32 : decode cX12_opposed 32 = .ok (.iload 4, 2) := by decide +kernel
theorem dX12_opposed_34 : decode cX12_opposed 34 = .ok (.invokevirtual 446, 3) := by decide +kernel
theorem dX12_opposed_37 : decode cX12_opposed 37 = .ok (.ifCond .eq 7, 3) := by decide +kernel
theorem dX12_opposed_40 : decode cX12_opposed 40 = .ok (.iconst 1, 1) := by decide +kernel
theorem dX12_opposed_41 : decode cX12_opposed 41 = .ok (.goto 4, 3) := by decide +kernel
theorem dX12_opposed_44 : decode cX12_opposed 44 = .ok (.iconst 0, 1) := by decide +kernel
theorem dX12_opposed_45 : decode cX12_opposed 45 = .ok (.istore_n 3, 1) := by decide +kernel
theorem dX12_opposed_46 : decode cX12_opposed 46 = .ok (.iinc 4 1, 3) := by decide +kernel
theorem dX12_opposed_49 : decode cX12_opposed 49 = .ok (.goto (-32), 3) := by decide +kernel
theorem dX12_opposed_52 : decode cX12_opposed 52 = .ok (.iload_n 1, 1) := by decide +kernel
theorem dX12_opposed_53 : decode cX12_opposed 53 = .ok (.iload_n 3, 1) := by decide +kernel
theorem dX12_opposed_54 : decode cX12_opposed 54 = .ok (.ifCond .eq 7, 3) := by decide +kernel
theorem dX12_opposed_57 : decode cX12_opposed 57 = .ok (.iconst 1, 1) := by decide +kernel
theorem dX12_opposed_58 : decode cX12_opposed 58 = .ok (.goto 4, 3) := by decide +kernel
theorem dX12_opposed_61 : decode cX12_opposed 61 = .ok (.iconst 0, 1) := by decide +kernel
theorem dX12_opposed_62 : decode cX12_opposed 62 = .ok (.iadd, 1) := by decide +kernel
theorem dX12_opposed_63 : decode cX12_opposed 63 = .ok (.istore_n 1, 1) := by decide +kernel
theorem dX12_opposed_64 : decode cX12_opposed 64 = .ok (.iinc 2 1, 3) := by decide +kernel
theorem dX12_opposed_67 : decode cX12_opposed 67 = .ok (.goto (-63), 3) := by decide +kernel
theorem dX12_opposed_70 : decode cX12_opposed 70 = .ok (.iload_n 1, 1) := by decide +kernel
theorem dX12_opposed_71 : decode cX12_opposed 71 = .ok (.ireturn, 1) := by decide +kernel
theorem dX12_most_0 : decode cX12_most 0 = .ok (.aload_n 0, 1) := by decide +kernel
theorem dX12_most_1 : decode cX12_most 1 = .ok (.iconst 0, 1) := by decide +kernel
theorem dX12_most_2 : decode cX12_most 2 = .ok (.putfield 86, 3) := by decide +kernel
theorem dX12_most_5 : decode cX12_most 5 = .ok (.aload_n 0, 1) := by decide +kernel
theorem dX12_most_6 : decode cX12_most 6 = .ok (.invokevirtual 306, 3) := by decide +kernel
theorem dX12_most_9 : decode cX12_most 9 = .ok (.ifCond .ne 5, 3) := by decide +kernel
theorem dX12_most_12 : decode cX12_most 12 = .ok (.iconst (-1), 1) := by decide +kernel
theorem dX12_most_13 : decode cX12_most 13 = .ok (.ireturn, 1) := by decide +kernel
theorem dX12_most_14 : decode cX12_most 14 = .ok (.aload_n 0, 1) := by decide +kernel
theorem dX12_most_15 : decode cX12_most 15 = .ok (.invokevirtual 238, 3) := by decide +kernel
theorem dX12_most_18 : decode cX12_most 18 = .ok (.pop, 1) := by decide +kernel
theorem dX12_most_19 : decode cX12_most 19 = .ok (.iload_n 1, 1) := by decide +kernel
theorem dX12_most_20 : decode cX12_most 20 = .ok (.tableswitch 92 0 7 #[48, 54, 60, 65, 71, 77, 82, 87], 48) := by decide +kernel
theorem dX12_most_68 : decode cX12_most 68 = .ok (.aload_n 0, 1) := by decide +kernel
theorem dX12_most_69 : decode cX12_most 69 = .ok (.iconst 0, 1) := by decide +kernel
theorem dX12_most_70 : decode cX12_most 70 = .ok (.invokevirtual 476, 3) := by decide +kernel
theorem dX12_most_73 : decode cX12_most 73 = .ok (.ireturn, 1) := by decide +kernel
theorem dX12_most_74 : decode cX12_most 74 = .ok (.aload_n 0, 1) := by decide +kernel
theorem dX12_most_75 : decode cX12_most 75 = .ok (.iconst 1, 1) := by decide +kernel
theorem dX12_most_76 : decode cX12_most 76 = .ok (.invokevirtual 476, 3) := by decide +kernel
theorem dX12_most_79 : decode cX12_most 79 = .ok (.ireturn, 1) := by decide +kernel
theorem dX12_most_80 : decode cX12_most 80 = .ok (.aload_n 0, 1) := by decide +kernel
theorem dX12_most_81 : decode cX12_most 81 = .ok (.invokevirtual 480, 3) := by decide +kernel
theorem dX12_most_84 : decode cX12_most 84 = .ok (.ireturn, 1) := by decide +kernel
theorem dX12_most_85 : decode cX12_most 85 = .ok (.aload_n 0, 1) := by decide +kernel
theorem dX12_most_86 : decode cX12_most 86 = .ok (.iconst 0, 1) := by decide +kernel
theorem dX12_most_87 : decode cX12_most 87 = .ok (.invokevirtual 483, 3) := by decide +kernel
theorem dX12_most_90 : decode cX12_most 90 = .ok (.ireturn, 1) := by decide +kernel
theorem dX12_most_91 : decode cX12_most 91 = .ok (.aload_n 0, 1) := by decide +kernel
theorem dX12_most_92 : decode cX12_most 92 = .ok (.iconst 1, 1) := by decide +kernel
theorem dX12_most_93 : decode cX12_most 93 = .ok (.invokevirtual 483, 3) := by decide +kernel
theorem dX12_most_96 : decode cX12_most 96 = .ok (.ireturn, 1) := by decide +kernel
theorem dX12_most_97 : decode cX12_most 97 = .ok (.aload_n 0, 1) := by decide +kernel
theorem dX12_most_98 : decode cX12_most 98 = .ok (.invokevirtual 486, 3) := by decide +kernel
theorem dX12_most_101 : decode cX12_most 101 = .ok (.ireturn, 1) := by decide +kernel
theorem dX12_most_102 : decode cX12_most 102 = .ok (.aload_n 0, 1) := by decide +kernel
theorem dX12_most_103 : decode cX12_most 103 = .ok (.invokevirtual 489, 3) := by decide +kernel
theorem dX12_most_106 : decode cX12_most 106 = .ok (.ireturn, 1) := by decide +kernel
theorem dX12_most_107 : decode cX12_most 107 = .ok (.aload_n 0, 1) := by decide +kernel
theorem dX12_most_108 : decode cX12_most 108 = .ok (.invokevirtual 492, 3) := by decide +kernel
theorem dX12_most_111 : decode cX12_most 111 = .ok (.ireturn, 1) := by decide +kernel
theorem dX12_most_112 : decode cX12_most 112 = .ok (.iconst (-1), 1) := by decide +kernel
theorem dX12_most_113 : decode cX12_most 113 = .ok (.ireturn, 1) := by decide +kernel
theorem dX12_move_0 : decode cX12_move 0 = .ok (.aload_n 0, 1) := by decide +kernel
theorem dX12_move_1 : decode cX12_move 1 = .ok (.iconst 0, 1) := by decide +kernel
theorem dX12_move_2 : decode cX12_move 2 = .ok (.putfield 86, 3) := by decide +kernel
theorem dX12_move_5 : decode cX12_move 5 = .ok (.aload_n 0, 1) := by decide +kernel
theorem dX12_move_6 : decode cX12_move 6 = .ok (.invokevirtual 306, 3) := by decide +kernel
theorem dX12_move_9 : decode cX12_move 9 = .ok (.ifCond .ne 9, 3) := by decide +kernel
theorem dX12_move_12 : decode cX12_move 12 = .ok (.aload_n 0, 1) := by decide +kernel
theorem dX12_move_13 : decode cX12_move 13 = .ok (.iconst 0, 1) := by decide +kernel
theorem dX12_move_14 : decode cX12_move 14 = .ok (.invokevirtual 354, 3) := by decide +kernel
theorem dX12_move_17 : decode cX12_move 17 = .ok (.ireturn, 1) := by decide +kernel
theorem dX12_move_18 : decode cX12_move 18 = .ok (.aload_n 0, 1) := by decide +kernel
theorem dX12_move_19 : decode cX12_move 19 = .ok (.iload_n 1, 1) := by decide +kernel
theorem dX12_move_20 : decode cX12_move 20 = .ok (.iload_n 2, 1) := by decide +kernel
theorem dX12_move_21 : decode cX12_move 21 = .ok (.invokevirtual 288, 3) := by decide +kernel
theorem dX12_move_24 : decode cX12_move 24 = .ok (.ifCond .eq 12, 3) := by decide +kernel
theorem dX12_move_27 : decode cX12_move 27 = .ok (.aload_n 0, 1) := by decide +kernel
theorem dX12_move_28 : decode cX12_move 28 = .ok (.iload_n 1, 1) := by decide +kernel
theorem dX12_move_29 : decode cX12_move 29 = .ok (.iload_n 2, 1) := by decide +kernel
theorem dX12_move_30 : decode cX12_move 30 = .ok (.invokevirtual 244, 3) := by decide +kernel
theorem dX12_move_33 : decode cX12_move 33 = .ok (.ifCond .ne 9, 3) := by decide +kernel
theorem dX12_move_36 : decode cX12_move 36 = .ok (.aload_n 0, 1) := by decide +kernel
theorem dX12_move_37 : decode cX12_move 37 = .ok (.iconst 1, 1) := by decide +kernel
theorem dX12_move_38 : decode cX12_move 38 = .ok (.invokevirtual 354, 3) := by decide +kernel
theorem dX12_move_41 : decode cX12_move 41 = .ok (.ireturn, 1) := by decide +kernel
theorem dX12_move_42 : decode cX12_move 42 = .ok (.iload_n 3, 1) := by decide +kernel
theorem dX12_move_43 : decode cX12_move 43 = .ok (.i2l, 1) := by decide +kernel
theorem dX12_move_44 : decode cX12_move 44 = .ok (.lconst 0, 1) := by decide +kernel
theorem dX12_move_45 : decode cX12_move 45 = .ok (.ldc2_w 329, 3) := by decide +kernel
theorem dX12_move_48 : decode cX12_move 48 = .ok (.invokestatic 97, 3) := by decide +kernel
theorem dX12_move_51 : decode cX12_move 51 = .ok (.ifCond .eq 26, 3) := by decide +kernel
theorem dX12_move_54 : decode cX12_move 54 = .ok (.iload 4, 2) := by decide +kernel
theorem dX12_move_56 : decode cX12_move 56 = .ok (.i2l, 1) := by decide +kernel
theorem dX12_move_57 : decode cX12_move 57 = .ok (.lconst 0, 1) := by decide +kernel
theorem dX12_move_58 : decode cX12_move 58 = .ok (.ldc2_w 291, 3) := by decide +kernel
theorem dX12_move_61 : decode cX12_move 61 = .ok (.invokestatic 97, 3) := by decide +kernel
theorem dX12_move_64 : decode cX12_move 64 = .ok (.ifCond .eq 13, 3) := by decide +kernel
theorem dX12_move_67 : decode cX12_move 67 = .ok (.aload_n 0, 1) := by decide +kernel
theorem dX12_move_68 : decode cX12_move 68 = .ok (.iload_n 1, 1) := by decide +kernel
theorem dX12_move_69 : decode cX12_move 69 = .ok (.iload_n 2, 1) := by decide +kernel
theorem dX12_move_70 : decode cX12_move 70 = .ok (.iload_n 3, 1) := by decide +kernel
theorem dX12_move_71 : decode cX12_move 71 = .ok (.invokevirtual 357, 3) := by decide +kernel
theorem dX12_move_74 : decode cX12_move 74 = .ok (.ifCond .ne 9, 3) := by decide +kernel
theorem dX12_move_77 : decode cX12_move 77 = .ok (.aload_n 0, 1) := by decide +kernel
theorem dX12_move_78 : decode cX12_move 78 = .ok (.iconst 2, 1) := by decide +kernel
theorem dX12_move_79 : decode cX12_move 79 = .ok (.invokevirtual 354, 3) := by decide +kernel
theorem dX12_move_82 : decode cX12_move 82 = .ok (.ireturn, 1) := by decide +kernel
theorem dX12_move_83 : decode cX12_move 83 = .ok (.aload_n 0, 1) := by decide +kernel
theorem dX12_move_84 : decode cX12_move 84 = .ok (.invokevirtual 238, 3) := by decide +kernel
theorem dX12_move_87 : decode cX12_move 87 = .ok (.pop, 1) := by decide +kernel
theorem dX12_move_88 : decode cX12_move 88 = .ok (.iload_n 3, 1) := by decide +kernel
theorem dX12_move_89 : decode cX12_move 89 = .ok (.iconst 2, 1) := by decide +kernel
theorem dX12_move_90 : decode cX12_move 90 = .ok (.if_icmp .ne 7, 3) := by decide +kernel
theorem dX12_move_93 : decode cX12_move 93 = .ok (.iconst 0, 1) := by decide +kernel
theorem dX12_move_94 : decode cX12_move 94 = .ok (.goto 10, 3) := by decide +kernel
theorem dX12_move_97 : decode cX12_move 97 = .ok (.aload_n 0, 1) := by decide +kernel
theorem dX12_move_98 : decode cX12_move 98 = .ok (.iload_n 1, 1) := by decide +kernel
theorem dX12_move_99 : decode cX12_move 99 = .ok (.iload_n 2, 1) := by decide +kernel
theorem dX12_move_100 : decode cX12_move 100 = .ok (.iconst 0, 1) := by decide +kernel
theorem dX12_move_101 : decode cX12_move 101 = .ok (.invokevirtual 221, 3) := by decide +kernel
theorem dX12_move_104 : decode cX12_move 104 = .ok (.istore 5, 2) := by decide +kernel
theorem dX12_move_106 : decode cX12_move 106 = .ok (.iload_n 3, 1) := by decide +kernel
theorem dX12_move_107 : decode cX12_move 107 = .ok (.iconst 1, 1) := by decide +kernel
theorem dX12_move_108 : decode cX12_move 108 = .ok (.if_icmp .ne 7, 3) := by decide +kernel
theorem dX12_move_111 : decode cX12_move 111 = .ok (.iconst 0, 1) := by decide +kernel
theorem dX12_move_112 : decode cX12_move 112 = .ok (.goto 10, 3) := by decide +kernel
theorem dX12_move_115 : decode cX12_move 115 = .ok (.aload_n 0, 1) := by decide +kernel
theorem dX12_move_116 : decode cX12_move 116 = .ok (.iload_n 1, 1) := by decide +kernel
theorem dX12_move_117 : decode cX12_move 117 = .ok (.iload_n 2, 1) := by decide +kernel
theorem dX12_move_118 : decode cX12_move 118 = .ok (.iconst 1, 1) := by decide +kernel
theorem dX12_move_119 : decode cX12_move 119 = .ok (.invokevirtual 221, 3) := by decide +kernel
theorem dX12_move_122 : decode cX12_move 122 = .ok (.istore 6, 2) := by decide +kernel
theorem dX12_move_124 : decode cX12_move 124 = .ok (.aload_n 0, 1) := by decide +kernel
theorem dX12_move_125 : decode cX12_move 125 = .ok (.iload_n 1, 1) := by decide +kernel
theorem dX12_move_126 : decode cX12_move 126 = .ok (.iload_n 2, 1) := by decide +kernel
theorem dX12_move_127 : decode cX12_move 127 = .ok (.iload 4, 2) := by decide +kernel
theorem dX12_move_129 : decode cX12_move 129 = .ok (.iload 5, 2) := by decide +kernel
theorem dX12_move_131 : decode cX12_move 131 = .ok (.iload 6, 2) := by decide +kernel
theorem dX12_move_133 : decode cX12_move 133 = .ok (.invokevirtual 361, 3) := by decide +kernel
theorem dX12_move_136 : decode cX12_move 136 = .ok (.bipush 12, 2) := by decide +kernel
theorem dX12_move_138 : decode cX12_move 138 = .ok (.if_icmp .le 9, 3) := by decide +kernel
theorem dX12_move_141 : decode cX12_move 141 = .ok (.aload_n 0, 1) := by decide +kernel
theorem dX12_move_142 : decode cX12_move 142 = .ok (.iconst 3, 1) := by decide +kernel
theorem dX12_move_143 : decode cX12_move 143 = .ok (.invokevirtual 354, 3) := by decide +kernel
theorem dX12_move_146 : decode cX12_move 146 = .ok (.ireturn, 1) := by decide +kernel
theorem dX12_move_147 : decode cX12_move 147 = .ok (.aload_n 0, 1) := by decide +kernel
theorem dX12_move_148 : decode cX12_move 148 = .ok (.invokevirtual 364, 3) := by decide +kernel
theorem dX12_move_151 : decode cX12_move 151 = .ok (.iload 5, 2) := by decide +kernel
theorem dX12_move_153 : decode cX12_move 153 = .ok (.iload 6, 2) := by decide +kernel
theorem dX12_move_155 : decode cX12_move 155 = .ok (.invokestatic 250, 3) := by decide +kernel
theorem dX12_move_158 : decode cX12_move 158 = .ok (.istore 7, 2) := by decide +kernel
theorem dX12_move_160 : decode cX12_move 160 = .ok (.aload_n 0, 1) := by decide +kernel
theorem dX12_move_161 : decode cX12_move 161 = .ok (.iload_n 1, 1) := by decide +kernel
theorem dX12_move_162 : decode cX12_move 162 = .ok (.iload_n 2, 1) := by decide +kernel
theorem dX12_move_163 : decode cX12_move 163 = .ok (.iload 4, 2) := by decide +kernel
theorem dX12_move_165 : decode cX12_move 165 = .ok (.iload 5, 2) := by decide +kernel
theorem dX12_move_167 : decode cX12_move 167 = .ok (.iload 6, 2) := by decide +kernel
theorem dX12_move_169 : decode cX12_move 169 = .ok (.invokevirtual 367, 3) := by decide +kernel
theorem dX12_move_172 : decode cX12_move 172 = .ok (.istore 8, 2) := by decide +kernel
theorem dX12_move_174 : decode cX12_move 174 = .ok (.iload 8, 2) := by decide +kernel
theorem dX12_move_176 : decode cX12_move 176 = .ok (.ifCond .eq 8, 3) := by decide +kernel
theorem dX12_move_179 : decode cX12_move 179 = .ok (.iload 8, 2) := by decide +kernel
theorem dX12_move_181 : decode cX12_move 181 = .ok (.goto 17, 3) := by decide +kernel
theorem dX12_move_184 : decode cX12_move 184 = .ok (.iload 7, 2) := by decide +kernel
theorem dX12_move_186 : decode cX12_move 186 = .ok (.iload 4, 2) := by decide +kernel
theorem dX12_move_188 : decode cX12_move 188 = .ok (.iconst 2, 1) := by decide +kernel
theorem dX12_move_189 : decode cX12_move 189 = .ok (.irem, 1) := by decide +kernel
theorem dX12_move_190 : decode cX12_move 190 = .ok (.if_icmp .ne 7, 3) := by decide +kernel
theorem dX12_move_193 : decode cX12_move 193 = .ok (.iconst 0, 1) := by decide +kernel
theorem dX12_move_194 : decode cX12_move 194 = .ok (.goto 4, 3) := by decide +kernel
theorem dX12_move_197 : decode cX12_move 197 = .ok (.iconst 1, 1) := by decide +kernel
theorem dX12_move_198 : decode cX12_move 198 = .ok (.ireturn, 1) := by decide +kernel
theorem dX12_path_0 : decode cX12_path 0 = .ok (.aload_n 0, 1) := by decide +kernel
theorem dX12_path_1 : decode cX12_path 1 = .ok (.iconst 0, 1) := by decide +kernel
theorem dX12_path_2 : decode cX12_path 2 = .ok (.putfield 86, 3) := by decide +kernel
theorem dX12_path_5 : decode cX12_path 5 = .ok (.aload_n 0, 1) := by decide +kernel
theorem dX12_path_6 : decode cX12_path 6 = .ok (.invokevirtual 306, 3) := by decide +kernel
theorem dX12_path_9 : decode cX12_path 9 = .ok (.ifCond .eq 12, 3) := by decide +kernel
theorem dX12_path_12 : decode cX12_path 12 = .ok (.aload_n 0, 1) := by decide +kernel
theorem dX12_path_13 : decode cX12_path 13 = .ok (.iload_n 1, 1) := by decide +kernel
theorem dX12_path_14 : decode cX12_path 14 = .ok (.iload_n 2, 1) := by decide +kernel
theorem dX12_path_15 : decode cX12_path 15 = .ok (.invokevirtual 215, 3) := by decide +kernel
theorem dX12_path_18 : decode cX12_path 18 = .ok (.ifCond .ne 5, 3) := by decide +kernel
theorem dX12_path_21 : decode cX12_path 21 = .ok (.iconst (-1), 1) := by decide +kernel
theorem dX12_path_22 : decode cX12_path 22 = .ok (.ireturn, 1) := by decide +kernel
theorem dX12_path_23 : decode cX12_path 23 = .ok (.iload_n 1, 1) := by decide +kernel
theorem dX12_path_24 : decode cX12_path 24 = .ok (.istore_n 3, 1) := by decide +kernel
theorem dX12_path_25 : decode cX12_path 25 = .ok (.iload_n 2, 1) := by decide +kernel
theorem dX12_path_26 : decode cX12_path 26 = .ok (.istore 4, 2) := by decide +kernel
theorem dX12_path_28 : decode cX12_path 28 = .ok (.iconst 0, 1) := by decide +kernel
theorem dX12_path_29 : decode cX12_path 29 = .ok (.istore 5, 2) := by decide +kernel
theorem dX12_path_31 : decode cX12_path 31 = .ok (.iconst 0, 1) := by decide +kernel
theorem dX12_path_32 : decode cX12_path 32 = .ok (.istore 6, 2) := by decide +kernel
theorem dX12_path_34 : decode cX12_path 34 = .ok (.iconst 0, 1) := by decide +kernel
theorem dX12_path_35 : decode cX12_path 35 = .ok (.istore 7, 2) := by decide +kernel
theorem dX12_path_37 : decode cX12_path 37 = .ok (.iload 7, 2) := by decide +kernel
theorem dX12_path_39 : decode cX12_path 39 = .ok (.aload_n 0, 1) := by decide +kernel
theorem dX12_path_40 : decode cX12_path 40 = .ok (.getfield 94, 3) := by decide +kernel
theorem dX12_path_43 : decode cX12_path 43 = .ok (.if_icmp .ge 223, 3) := by decide +kernel
theorem dX12_path_46 : decode cX12_path 46 = .ok (.aload_n 0, 1) := by decide +kernel
theorem dX12_path_47 : decode cX12_path 47 = .ok (.getfield 9, 3) := by decide +kernel
theorem dX12_path_50 : decode cX12_path 50 = .ok (.iload 7, 2) := by decide +kernel
theorem dX12_path_52 : decode cX12_path 52 = .ok (.iaload, 1) := by decide +kernel
theorem dX12_path_53 : decode cX12_path 53 = .ok (.istore 8, 2) := by decide +kernel
theorem dX12_path_55 : decode cX12_path 55 = .ok (.iload 8, 2) := by decide +kernel
theorem dX12_path_57 : decode cX12_path 57 = .ok (.bipush 114, 2) := by decide +kernel
theorem dX12_path_59 : decode cX12_path 59 = .ok (.if_icmp .ne 7, 3) := by decide +kernel
theorem dX12_path_62 : decode cX12_path 62 = .ok (.iconst 0, 1) := by decide +kernel
theorem dX12_path_63 : decode cX12_path 63 = .ok (.goto 37, 3) := by decide +kernel
theorem dX12_path_66 : decode cX12_path 66 = .ok (.iload 8, 2) := by decide +kernel
theorem dX12_path_68 : decode cX12_path 68 = .ok (.bipush 117, 2) := by decide +kernel
theorem dX12_path_70 : decode cX12_path 70 = .ok (.if_icmp .ne 7, 3) := by decide +kernel
theorem dX12_path_73 : decode cX12_path 73 = .ok (.iconst 1, 1) := by decide +kernel
theorem dX12_path_74 : decode cX12_path 74 = .ok (.goto 26, 3) := by decide +kernel
theorem dX12_path_77 : decode cX12_path 77 = .ok (.iload 8, 2) := by decide +kernel
theorem dX12_path_79 : decode cX12_path 79 = .ok (.bipush 108, 2) := by decide +kernel
theorem dX12_path_81 : decode cX12_path 81 = .ok (.if_icmp .ne 7, 3) := by decide +kernel
theorem dX12_path_84 : decode cX12_path 84 = .ok (.iconst 2, 1) := by decide +kernel
theorem dX12_path_85 : decode cX12_path 85 = .ok (.goto 15, 3) := by decide +kernel
theorem dX12_path_88 : decode cX12_path 88 = .ok (.iload 8, 2) := by decide +kernel
theorem dX12_path_90 : decode cX12_path 90 = .ok (.bipush 100, 2) := by decide +kernel
theorem dX12_path_92 : decode cX12_path 92 = .ok (.if_icmp .ne 7, 3) := by decide +kernel
theorem dX12_path_95 : decode cX12_path 95 = .ok (.iconst 3, 1) := by decide +kernel
theorem dX12_path_96 : decode cX12_path 96 = .ok (.goto 4, 3) := by decide +kernel
theorem dX12_path_99 : decode cX12_path 99 = .ok (.iconst (-1), 1) := by decide +kernel
theorem dX12_path_100 : decode cX12_path 100 = .ok (.istore 9, 2) := by decide +kernel
theorem dX12_path_102 : decode cX12_path 102 = .ok (.iload 9, 2) := by decide +kernel
theorem dX12_path_104 : decode cX12_path 104 = .ok (.iconst (-1), 1) := by decide +kernel
theorem dX12_path_105 : decode cX12_path 105 = .ok (.if_icmp .eq 30, 3) := by decide +kernel
theorem dX12_path_108 : decode cX12_path 108 = .ok (.iload 7, 2) := by decide +kernel
theorem dX12_path_110 : decode cX12_path 110 = .ok (.bipush 120, 2) := by decide +kernel
theorem dX12_path_112 : decode cX12_path 112 = .ok (.if_icmp .eq 23, 3) := by decide +kernel
theorem dX12_path_115 : decode cX12_path 115 = .ok (.aload_n 0, 1) := by decide +kernel
theorem dX12_path_116 : decode cX12_path 116 = .ok (.iload_n 3, 1) := by decide +kernel
theorem dX12_path_117 : decode cX12_path 117 = .ok (.iload 9, 2) := by decide +kernel
theorem dX12_path_119 : decode cX12_path 119 = .ok (.invokestatic 282, 3) := by decide +kernel
theorem dX12_path_122 : decode cX12_path 122 = .ok (.iload 4, 2) := by decide +kernel
theorem dX12_path_124 : decode cX12_path 124 = .ok (.iload 9, 2) := by decide +kernel
theorem dX12_path_126 : decode cX12_path 126 = .ok (.invokestatic 285, 3) := by decide +kernel
theorem dX12_path_129 : decode cX12_path 129 = .ok (.invokevirtual 215, 3) := by decide +kernel
theorem dX12_path_132 : decode cX12_path 132 = .ok (.ifCond .ne 9, 3) := by decide +kernel
theorem dX12_path_135 : decode cX12_path 135 = .ok (.bipush (-2), 2) := by decide +kernel
theorem dX12_path_137 : decode cX12_path 137 = .ok (.iload 7, 2) := by decide +kernel
theorem dX12_path_139 : decode cX12_path 139 = .ok (.isub, 1) := by decide +kernel
theorem dX12_path_140 : decode cX12_path 140 = .ok (.ireturn, 1) := by decide +kernel
theorem dX12_path_141 : decode cX12_path 141 = .ok (.iload_n 3, 1) := by decide +kernel
theorem dX12_path_142 : decode cX12_path 142 = .ok (.iload_n 3, 1) := by decide +kernel
theorem dX12_path_143 : decode cX12_path 143 = .ok (.iload 9, 2) := by decide +kernel
theorem dX12_path_145 : decode cX12_path 145 = .ok (.invokestatic 282, 3) := by decide +kernel
theorem dX12_path_148 : decode cX12_path 148 = .ok (.invokestatic 128, 3) := by decide +kernel
theorem dX12_path_151 : decode cX12_path 151 = .ok (.istore 10, 2) := by decide +kernel
theorem dX12_path_153 : decode cX12_path 153 = .ok (.iload 4, 2) := by decide +kernel
theorem dX12_path_155 : decode cX12_path 155 = .ok (.iload 4, 2) := by decide +kernel
theorem dX12_path_157 : decode cX12_path 157 = .ok (.iload 9, 2) := by decide +kernel
theorem dX12_path_159 : decode cX12_path 159 = .ok (.invokestatic 285, 3) := by decide +kernel
theorem dX12_path_162 : decode cX12_path 162 = .ok (.invokestatic 128, 3) := by decide +kernel
theorem dX12_path_165 : decode cX12_path 165 = .ok (.istore 11, 2) := by decide +kernel
theorem dX12_path_167 : decode cX12_path 167 = .ok (.iload 9, 2) := by decide +kernel
theorem dX12_path_169 : decode cX12_path 169 = .ok (.iconst 2, 1) := by decide +kernel
theorem dX12_path_170 : decode cX12_path 170 = .ok (.if_icmp .ge 7, 3) := by decide +kernel
theorem dX12_path_173 : decode cX12_path 173 = .ok (.iconst 1, 1) := by decide +kernel
theorem dX12_path_174 : decode cX12_path 174 = .ok (.goto 4, 3) := by decide +kernel
theorem dX12_path_177 : decode cX12_path 177 = .ok (.iconst (-1), 1) := by decide +kernel
theorem dX12_path_178 : decode cX12_path 178 = .ok (.istore 12, 2) := by decide +kernel
theorem dX12_path_180 : decode cX12_path 180 = .ok (.iload 5, 2) := by decide +kernel
theorem dX12_path_182 : decode cX12_path 182 = .ok (.iload 12, 2) := by decide +kernel
theorem dX12_path_184 : decode cX12_path 184 = .ok (.aload_n 0, 1) := by decide +kernel
theorem dX12_path_185 : decode cX12_path 185 = .ok (.iload 10, 2) := by decide +kernel
theorem dX12_path_187 : decode cX12_path 187 = .ok (.iload 11, 2) := by decide +kernel
theorem dX12_path_189 : decode cX12_path 189 = .ok (.iload 9, 2) := by decide +kernel
theorem dX12_path_191 : decode cX12_path 191 = .ok (.iconst 2, 1) := by decide +kernel
theorem dX12_path_192 : decode cX12_path 192 = .ok (.irem, 1) := by decide +kernel
theorem dX12_path_193 : decode cX12_path 193 = .ok (.iconst 1, 1) := by decide +kernel
theorem dX12_path_194 : decode cX12_path 194 = .ok (.if_icmp .ne 7, 3) := by decide +kernel
theorem dX12_path_197 : decode cX12_path 197 = .ok (.iconst 1, 1) := by decide +kernel
theorem dX12_path_198 : decode cX12_path 198 = .ok (.goto 4, 3) := by decide +kernel
theorem dX12_path_201 : decode cX12_path 201 = .ok (.iconst 0, 1) := by decide +kernel
theorem dX12_path_202 : decode cX12_path 202 = .ok (.iconst 0, 1) := by decide +kernel
theorem dX12_path_203 : decode cX12_path 203 = .ok (.invokevirtual 218, 3) := by decide +kernel
theorem dX12_path_206 : decode cX12_path 206 = .ok (.imul, 1) := by decide +kernel
theorem dX12_path_207 : decode cX12_path 207 = .ok (.iadd, 1) := by decide +kernel
theorem dX12_path_208 : decode cX12_path 208 = .ok (.istore 5, 2) := by decide +kernel
theorem dX12_path_210 : decode cX12_path 210 = .ok (.iload 6, 2) := by decide +kernel
theorem dX12_path_212 : decode cX12_path 212 = .ok (.iload 12, 2) := by decide +kernel
theorem dX12_path_214 : decode cX12_path 214 = .ok (.aload_n 0, 1) := by decide +kernel
theorem dX12_path_215 : decode cX12_path 215 = .ok (.iload 10, 2) := by decide +kernel
theorem dX12_path_217 : decode cX12_path 217 = .ok (.iload 11, 2) := by decide +kernel
theorem dX12_path_219 : decode cX12_path 219 = .ok (.iload 9, 2) := by decide +kernel
theorem dX12_path_221 : decode cX12_path 221 = .ok (.iconst 2, 1) := by decide +kernel
theorem dX12_path_222 : decode cX12_path 222 = .ok (.irem, 1) := by decide +kernel
theorem dX12_path_223 : decode cX12_path 223 = .ok (.iconst 1, 1) := by decide +kernel
theorem dX12_path_224 : decode cX12_path 224 = .ok (.if_icmp .ne 7, 3) := by decide +kernel
theorem dX12_path_227 : decode cX12_path 227 = .ok (.iconst 1, 1) := by decide +kernel
theorem dX12_path_228 : decode cX12_path 228 = .ok (.goto 4, 3) := by decide +kernel
theorem dX12_path_231 : decode cX12_path 231 = .ok (.iconst 0, 1) := by decide +kernel
theorem dX12_path_232 : decode cX12_path 232 = .ok (.iconst 1, 1) := by decide +kernel
theorem dX12_path_233 : decode cX12_path 233 = .ok (.invokevirtual 218, 3) := by decide +kernel
theorem dX12_path_236 : decode cX12_path 236 = .ok (.imul, 1) := by decide +kernel
theorem dX12_path_237 : decode cX12_path 237 = .ok (.iadd, 1) := by decide +kernel
theorem dX12_path_238 : decode cX12_path 238 = .ok (.istore 6, 2) := by decide +kernel
theorem dX12_path_240 : decode cX12_path 240 = .ok (.iload_n 3, 1) := by decide +kernel
theorem dX12_path_241 : decode cX12_path 241 = .ok (.iload 9, 2) := by decide +kernel
theorem dX12_path_243 : decode cX12_path 243 = .ok (.invokestatic 282, 3) := by decide +kernel
theorem dX12_path_246 : decode cX12_path 246 = .ok (.istore 13, 2) := by decide +kernel
theorem dX12_path_248 : decode cX12_path 248 = .ok (.iload 4, 2) := by decide +kernel
theorem dX12_path_250 : decode cX12_path 250 = .ok (.iload 9, 2) := by decide +kernel
theorem dX12_path_252 : decode cX12_path 252 = .ok (.invokestatic 285, 3) := by decide +kernel
theorem dX12_path_255 : decode cX12_path 255 = .ok (.istore 4, 2) := by decide +kernel
theorem dX12_path_257 : decode cX12_path 257 = .ok (.iload 13, 2) := by decide +kernel
theorem dX12_path_259 : decode cX12_path 259 = .ok (.istore_n 3, 1) := by decide +kernel
theorem dX12_path_260 : decode cX12_path 260 = .ok (.iinc 7 1, 3) := by decide +kernel
theorem dX12_path_263 : decode cX12_path 263 = .ok (.goto (-226), 3) := by decide +kernel
theorem dX12_path_266 : decode cX12_path 266 = .ok (.aload_n 0, 1) := by decide +kernel
theorem dX12_path_267 : decode cX12_path 267 = .ok (.getfield 62, 3) := by decide +kernel
theorem dX12_path_270 : decode cX12_path 270 = .ok (.iconst 0, 1) := by decide +kernel
theorem dX12_path_271 : decode cX12_path 271 = .ok (.iload 5, 2) := by decide +kernel
theorem dX12_path_273 : decode cX12_path 273 = .ok (.iastore, 1) := by decide +kernel
theorem dX12_path_274 : decode cX12_path 274 = .ok (.aload_n 0, 1) := by decide +kernel
theorem dX12_path_275 : decode cX12_path 275 = .ok (.getfield 62, 3) := by decide +kernel
theorem dX12_path_278 : decode cX12_path 278 = .ok (.iconst 1, 1) := by decide +kernel
theorem dX12_path_279 : decode cX12_path 279 = .ok (.iload 6, 2) := by decide +kernel
theorem dX12_path_281 : decode cX12_path 281 = .ok (.iastore, 1) := by decide +kernel
theorem dX12_path_282 : decode cX12_path 282 = .ok (.aload_n 0, 1) := by decide +kernel
theorem dX12_path_283 : decode cX12_path 283 = .ok (.getfield 62, 3) := by decide +kernel
theorem dX12_path_286 : decode cX12_path 286 = .ok (.iconst 2, 1) := by decide +kernel
theorem dX12_path_287 : decode cX12_path 287 = .ok (.aload_n 0, 1) := by decide +kernel
theorem dX12_path_288 : decode cX12_path 288 = .ok (.getfield 94, 3) := by decide +kernel
theorem dX12_path_291 : decode cX12_path 291 = .ok (.iastore, 1) := by decide +kernel
theorem dX12_path_292 : decode cX12_path 292 = .ok (.aload_n 0, 1) := by decide +kernel
theorem dX12_path_293 : decode cX12_path 293 = .ok (.getfield 62, 3) := by decide +kernel
theorem dX12_path_296 : decode cX12_path 296 = .ok (.iconst 3, 1) := by decide +kernel
theorem dX12_path_297 : decode cX12_path 297 = .ok (.iload_n 3, 1) := by decide +kernel
theorem dX12_path_298 : decode cX12_path 298 = .ok (.iastore, 1) := by decide +kernel
theorem dX12_path_299 : decode cX12_path 299 = .ok (.aload_n 0, 1) := by decide +kernel
theorem dX12_path_300 : decode cX12_path 300 = .ok (.getfield 62, 3) := by decide +kernel
theorem dX12_path_303 : decode cX12_path 303 = .ok (.iconst 4, 1) := by decide +kernel
theorem dX12_path_304 : decode cX12_path 304 = .ok (.iload 4, 2) := by decide +kernel
theorem dX12_path_306 : decode cX12_path 306 = .ok (.iastore, 1) := by decide +kernel
theorem dX12_path_307 : decode cX12_path 307 = .ok (.aload_n 0, 1) := by decide +kernel
theorem dX12_path_308 : decode cX12_path 308 = .ok (.iconst 1, 1) := by decide +kernel
theorem dX12_path_309 : decode cX12_path 309 = .ok (.putfield 235, 3) := by decide +kernel
theorem dX12_path_312 : decode cX12_path 312 = .ok (.aload_n 0, 1) := by decide +kernel
theorem dX12_path_313 : decode cX12_path 313 = .ok (.iconst 0, 1) := by decide +kernel
theorem dX12_path_314 : decode cX12_path 314 = .ok (.putfield 94, 3) := by decide +kernel
theorem dX12_path_317 : decode cX12_path 317 = .ok (.iload_n 3, 1) := by decide +kernel
theorem dX12_path_318 : decode cX12_path 318 = .ok (.iload_n 1, 1) := by decide +kernel
theorem dX12_path_319 : decode cX12_path 319 = .ok (.if_icmp .ne 13, 3) := by decide +kernel
theorem dX12_path_322 : decode cX12_path 322 = .ok (.iload 4, 2) := by decide +kernel
theorem dX12_path_324 : decode cX12_path 324 = .ok (.iload_n 2, 1) := by decide +kernel
theorem dX12_path_325 : decode cX12_path 325 = .ok (.if_icmp .ne 7, 3) := by decide +kernel
theorem dX12_path_328 : decode cX12_path 328 = .ok (.iconst 1, 1) := by decide +kernel
theorem dX12_path_329 : decode cX12_path 329 = .ok (.goto 4, 3) := by decide +kernel
theorem dX12_path_332 : decode cX12_path 332 = .ok (.iconst 0, 1) := by decide +kernel
theorem dX12_path_333 : decode cX12_path 333 = .ok (.ireturn, 1) := by decide +kernel
theorem dX12_rests_0 : decode cX12_rests 0 = .ok (.aload_n 0, 1) := by decide +kernel
theorem dX12_rests_1 : decode cX12_rests 1 = .ok (.iconst 0, 1) := by decide +kernel
theorem dX12_rests_2 : decode cX12_rests 2 = .ok (.putfield 86, 3) := by decide +kernel
theorem dX12_rests_5 : decode cX12_rests 5 = .ok (.aload_n 0, 1) := by decide +kernel
theorem dX12_rests_6 : decode cX12_rests 6 = .ok (.invokevirtual 306, 3) := by decide +kernel
theorem dX12_rests_9 : decode cX12_rests 9 = .ok (.ifCond .ne 5, 3) := by decide +kernel
theorem dX12_rests_12 : decode cX12_rests 12 = .ok (.iconst (-1), 1) := by decide +kernel
theorem dX12_rests_13 : decode cX12_rests 13 = .ok (.ireturn, 1) := by decide +kernel
theorem dX12_rests_14 : decode cX12_rests 14 = .ok (.aload_n 0, 1) := by decide +kernel
theorem dX12_rests_15 : decode cX12_rests 15 = .ok (.invokevirtual 455, 3) := by decide +kernel
theorem dX12_rests_18 : decode cX12_rests 18 = .ok (.iconst 0, 1) := by decide +kernel
theorem dX12_rests_19 : decode cX12_rests 19 = .ok (.istore_n 1, 1) := by decide +kernel
theorem dX12_rests_20 : decode cX12_rests 20 = .ok (.iload_n 1, 1) := by decide +kernel
theorem dX12_rests_21 : decode cX12_rests 21 = .ok (.bipush 40, 2) := by decide +kernel
theorem dX12_rests_23 : decode cX12_rests 23 = .ok (.if_icmp .gt 26, 3) := by decide +kernel
theorem dX12_rests_26 : decode cX12_rests 26 = .ok (.aload_n 0, 1) := by decide +kernel
theorem dX12_rests_27 : decode cX12_rests 27 = .ok (.invokevirtual 467, 3) := by decide +kernel
theorem dX12_rests_30 : decode cX12_rests 30 = .ok (.aload_n 0, 1) := by decide +kernel
theorem dX12_rests_31 : decode cX12_rests 31 = .ok (.getfield 31, 3) := by decide +kernel
theorem dX12_rests_34 : decode cX12_rests 34 = .ok (.iconst 2, 1) := by decide +kernel
theorem dX12_rests_35 : decode cX12_rests 35 = .ok (.iaload, 1) := by decide +kernel
theorem dX12_rests_36 : decode cX12_rests 36 = .ok (.if_icmp .le 13, 3) := by decide +kernel
theorem dX12_rests_39 : decode cX12_rests 39 = .ok (.aload_n 0, 1) := by decide +kernel
theorem dX12_rests_40 : decode cX12_rests 40 = .ok (.invokevirtual 390, 3) := by decide +kernel
theorem dX12_rests_43 : decode cX12_rests 43 = .ok (.iinc 1 1, 3) := by decide +kernel
theorem dX12_rests_46 : decode cX12_rests 46 = .ok (.goto (-26), 3) := by decide +kernel
theorem dX12_rests_49 : decode cX12_rests 49 = .ok (.aload_n 0, 1) := by decide +kernel
theorem dX12_rests_50 : decode cX12_rests 50 = .ok (.invokevirtual 461, 3) := by decide +kernel
theorem dX12_rests_53 : decode cX12_rests 53 = .ok (.iload_n 1, 1) := by decide +kernel
theorem dX12_rests_54 : decode cX12_rests 54 = .ok (.bipush 40, 2) := by decide +kernel
theorem dX12_rests_56 : decode cX12_rests 56 = .ok (.if_icmp .le 7, 3) := by decide +kernel
theorem dX12_rests_59 : decode cX12_rests 59 = .ok (.iconst (-1), 1) := by decide +kernel
theorem dX12_rests_60 : decode cX12_rests 60 = .ok (.goto 4, 3) := by decide +kernel
theorem dX12_rests_63 : decode cX12_rests 63 = .ok (.iload_n 1, 1) := by decide +kernel
theorem dX12_rests_64 : decode cX12_rests 64 = .ok (.ireturn, 1) := by decide +kernel
theorem dX12_rid_0 : decode cX12_rid 0 = .ok (.aload_n 0, 1) := by decide +kernel
theorem dX12_rid_1 : decode cX12_rid 1 = .ok (.iconst 0, 1) := by decide +kernel
theorem dX12_rid_2 : decode cX12_rid 2 = .ok (.putfield 86, 3) := by decide +kernel
theorem dX12_rid_5 : decode cX12_rid 5 = .ok (.aload_n 0, 1) := by decide +kernel
theorem dX12_rid_6 : decode cX12_rid 6 = .ok (.invokevirtual 306, 3) := by decide +kernel
theorem dX12_rid_9 : decode cX12_rid 9 = .ok (.ifCond .eq 23, 3) := by decide +kernel
theorem dX12_rid_12 : decode cX12_rid 12 = .ok (.iload_n 1, 1) := by decide +kernel
theorem dX12_rid_13 : decode cX12_rid 13 = .ok (.i2l, 1) := by decide +kernel
theorem dX12_rid_14 : decode cX12_rid 14 = .ok (.lconst 1, 1) := by decide +kernel
theorem dX12_rid_15 : decode cX12_rid 15 = .ok (.ldc2_w 399, 3) := by decide +kernel
theorem dX12_rid_18 : decode cX12_rid 18 = .ok (.invokestatic 97, 3) := by decide +kernel
theorem dX12_rid_21 : decode cX12_rid 21 = .ok (.ifCond .eq 11, 3) := by decide +kernel
theorem dX12_rid_24 : decode cX12_rid 24 = .ok (.aload_n 0, 1) := by decide +kernel
theorem dX12_rid_25 : decode cX12_rid 25 = .ok (.iload_n 1, 1) := by decide +kernel
theorem dX12_rid_26 : decode cX12_rid 26 = .ok (.invokevirtual 452, 3) := by decide +kernel
theorem dX12_rid_29 : decode cX12_rid 29 = .ok (.goto 4, 3) := by decide +kernel
theorem dX12_rid_32 : decode cX12_rid 32 = .ok (.iconst (-1), 1) := by decide +kernel
theorem dX12_rid_33 : decode cX12_rid 33 = .ok (.ireturn, 1) := by decide +kernel
theorem dX12_wayless_0 : decode cX12_wayless 0 = .ok (.iconst 0, 1) := by decide +kernel
theorem dX12_wayless_1 : decode cX12_wayless 1 = .ok (.istore_n 1, 1) := by decide +kernel
theorem dX12_wayless_2 : decode cX12_wayless 2 = .ok (.iconst 0, 1) := by decide +kernel
theorem dX12_wayless_3 : decode cX12_wayless 3 = .ok (.istore_n 2, 1) := by decide +kernel
theorem dX12_wayless_4 : decode cX12_wayless 4 = .ok (.iload_n 2, 1) := by decide +kernel
theorem dX12_wayless_5 : decode cX12_wayless 5 = .ok (.aload_n 0, 1) := by decide +kernel
theorem dX12_wayless_6 : decode cX12_wayless 6 = .ok (.getfield 241, 3) := by decide +kernel
theorem dX12_wayless_9 : decode cX12_wayless 9 = .ok (.if_icmp .ge 26, 3) := by decide +kernel
theorem dX12_wayless_12 : decode cX12_wayless 12 = .ok (.iload_n 1, 1) := by decide +kernel
theorem dX12_wayless_13 : decode cX12_wayless 13 = .ok (.aload_n 0, 1) := by decide +kernel
theorem dX12_wayless_14 : decode cX12_wayless 14 = .ok (.iload_n 2, 1) := by decide +kernel
theorem dX12_wayless_15 : decode cX12_wayless 15 = .ok (.invokevirtual 269, 3) := by decide +kernel
theorem dX12_wayless_18 : decode cX12_wayless 18 = .ok (.iconst (-1), 1) := by decide +kernel
theorem dX12_wayless_19 : decode cX12_wayless 19 = .ok (.if_icmp .ne 7, 3) := by decide +kernel
theorem dX12_wayless_22 : decode cX12_wayless 22 = .ok (.iconst 1, 1) := by decide +kernel
theorem dX12_wayless_23 : decode cX12_wayless 23 = .ok (.goto 4, 3) := by decide +kernel
theorem dX12_wayless_26 : decode cX12_wayless 26 = .ok (.iconst 0, 1) := by decide +kernel
theorem dX12_wayless_27 : decode cX12_wayless 27 = .ok (.iadd, 1) := by decide +kernel
theorem dX12_wayless_28 : decode cX12_wayless 28 = .ok (.istore_n 1, 1) := by decide +kernel
theorem dX12_wayless_29 : decode cX12_wayless 29 = .ok (.iinc 2 1, 3) := by decide +kernel
theorem dX12_wayless_32 : decode cX12_wayless 32 = .ok (.goto (-28), 3) := by decide +kernel
theorem dX12_wayless_35 : decode cX12_wayless 35 = .ok (.iload_n 1, 1) := by decide +kernel
theorem dX12_wayless_36 : decode cX12_wayless 36 = .ok (.ireturn, 1) := by decide +kernel
theorem dX12_rule_0 : decode cX12_rule 0 = .ok (.aload_n 0, 1) := by decide +kernel
theorem dX12_rule_1 : decode cX12_rule 1 = .ok (.iconst 0, 1) := by decide +kernel
theorem dX12_rule_2 : decode cX12_rule 2 = .ok (.putfield 86, 3) := by decide +kernel
theorem dX12_rule_5 : decode cX12_rule 5 = .ok (.aload_n 0, 1) := by decide +kernel
theorem dX12_rule_6 : decode cX12_rule 6 = .ok (.invokevirtual 306, 3) := by decide +kernel
theorem dX12_rule_9 : decode cX12_rule 9 = .ok (.ifCond .ne 7, 3) := by decide +kernel
theorem dX12_rule_12 : decode cX12_rule 12 = .ok (.ldc_w 310, 3) := by decide +kernel
theorem dX12_rule_15 : decode cX12_rule 15 = .ok (.ireturn, 1) := by decide +kernel
theorem dX12_rule_16 : decode cX12_rule 16 = .ok (.aload_n 0, 1) := by decide +kernel
theorem dX12_rule_17 : decode cX12_rule 17 = .ok (.invokevirtual 238, 3) := by decide +kernel
theorem dX12_rule_20 : decode cX12_rule 20 = .ok (.pop, 1) := by decide +kernel
theorem dX12_rule_21 : decode cX12_rule 21 = .ok (.iload_n 1, 1) := by decide +kernel
theorem dX12_rule_22 : decode cX12_rule 22 = .ok (.tableswitch 182 0 13 #[70, 75, 80, 87, 94, 101, 108, 113, 118, 127, 147, 167, 172, 177], 70) := by decide +kernel
theorem dX12_rule_92 : decode cX12_rule 92 = .ok (.aload_n 0, 1) := by decide +kernel
theorem dX12_rule_93 : decode cX12_rule 93 = .ok (.getfield 205, 3) := by decide +kernel
theorem dX12_rule_96 : decode cX12_rule 96 = .ok (.ireturn, 1) := by decide +kernel
theorem dX12_rule_97 : decode cX12_rule 97 = .ok (.aload_n 0, 1) := by decide +kernel
theorem dX12_rule_98 : decode cX12_rule 98 = .ok (.getfield 208, 3) := by decide +kernel
theorem dX12_rule_101 : decode cX12_rule 101 = .ok (.ireturn, 1) := by decide +kernel
theorem dX12_rule_102 : decode cX12_rule 102 = .ok (.aload_n 0, 1) := by decide +kernel
theorem dX12_rule_103 : decode cX12_rule 103 = .ok (.getfield 31, 3) := by decide +kernel
theorem dX12_rule_106 : decode cX12_rule 106 = .ok (.iconst 0, 1) := by decide +kernel
theorem dX12_rule_107 : decode cX12_rule 107 = .ok (.iaload, 1) := by decide +kernel
theorem dX12_rule_108 : decode cX12_rule 108 = .ok (.ireturn, 1) := by decide +kernel
theorem dX12_rule_109 : decode cX12_rule 109 = .ok (.aload_n 0, 1) := by decide +kernel
theorem dX12_rule_110 : decode cX12_rule 110 = .ok (.getfield 31, 3) := by decide +kernel
theorem dX12_rule_113 : decode cX12_rule 113 = .ok (.iconst 1, 1) := by decide +kernel
theorem dX12_rule_114 : decode cX12_rule 114 = .ok (.iaload, 1) := by decide +kernel
theorem dX12_rule_115 : decode cX12_rule 115 = .ok (.ireturn, 1) := by decide +kernel
theorem dX12_rule_116 : decode cX12_rule 116 = .ok (.aload_n 0, 1) := by decide +kernel
theorem dX12_rule_117 : decode cX12_rule 117 = .ok (.getfield 31, 3) := by decide +kernel
theorem dX12_rule_120 : decode cX12_rule 120 = .ok (.iconst 2, 1) := by decide +kernel
theorem dX12_rule_121 : decode cX12_rule 121 = .ok (.iaload, 1) := by decide +kernel
theorem dX12_rule_122 : decode cX12_rule 122 = .ok (.ireturn, 1) := by decide +kernel
theorem dX12_rule_123 : decode cX12_rule 123 = .ok (.aload_n 0, 1) := by decide +kernel
theorem dX12_rule_124 : decode cX12_rule 124 = .ok (.getfield 31, 3) := by decide +kernel
theorem dX12_rule_127 : decode cX12_rule 127 = .ok (.iconst 3, 1) := by decide +kernel
theorem dX12_rule_128 : decode cX12_rule 128 = .ok (.iaload, 1) := by decide +kernel
theorem dX12_rule_129 : decode cX12_rule 129 = .ok (.ireturn, 1) := by decide +kernel
theorem dX12_rule_130 : decode cX12_rule 130 = .ok (.aload_n 0, 1) := by decide +kernel
theorem dX12_rule_131 : decode cX12_rule 131 = .ok (.getfield 241, 3) := by decide +kernel
theorem dX12_rule_134 : decode cX12_rule 134 = .ok (.ireturn, 1) := by decide +kernel
theorem dX12_rule_135 : decode cX12_rule 135 = .ok (.aload_n 0, 1) := by decide +kernel
theorem dX12_rule_136 : decode cX12_rule 136 = .ok (.invokevirtual 311, 3) := by decide +kernel
theorem dX12_rule_139 : decode cX12_rule 139 = .ok (.ireturn, 1) := by decide +kernel
theorem dX12_rule_140 : decode cX12_rule 140 = .ok (.aload_n 0, 1) := by decide +kernel
theorem dX12_rule_141 : decode cX12_rule 141 = .ok (.getfield 28, 3) := by decide +kernel
theorem dX12_rule_144 : decode cX12_rule 144 = .ok (.sipush 325, 3) := by decide +kernel
theorem dX12_rule_147 : decode cX12_rule 147 = .ok (.iaload, 1) := by decide +kernel
theorem dX12_rule_148 : decode cX12_rule 148 = .ok (.ireturn, 1) := by decide +kernel
theorem dX12_rule_149 : decode cX12_rule 149 = .ok (.aload_n 0, 1) := by decide +kernel
theorem dX12_rule_150 : decode cX12_rule 150 = .ok (.iconst 0, 1) := by decide +kernel
theorem dX12_rule_151 : decode cX12_rule 151 = .ok (.iconst 0, 1) := by decide +kernel
theorem dX12_rule_152 : decode cX12_rule 152 = .ok (.aload_n 0, 1) := by decide +kernel
theorem dX12_rule_153 : decode cX12_rule 153 = .ok (.getfield 205, 3) := by decide +kernel
theorem dX12_rule_156 : decode cX12_rule 156 = .ok (.iconst 1, 1) := by decide +kernel
theorem dX12_rule_157 : decode cX12_rule 157 = .ok (.isub, 1) := by decide +kernel
theorem dX12_rule_158 : decode cX12_rule 158 = .ok (.aload_n 0, 1) := by decide +kernel
theorem dX12_rule_159 : decode cX12_rule 159 = .ok (.getfield 208, 3) := by decide +kernel
theorem dX12_rule_162 : decode cX12_rule 162 = .ok (.iconst 1, 1) := by decide +kernel
theorem dX12_rule_163 : decode cX12_rule 163 = .ok (.isub, 1) := by decide +kernel
theorem dX12_rule_164 : decode cX12_rule 164 = .ok (.iconst 0, 1) := by decide +kernel
theorem dX12_rule_165 : decode cX12_rule 165 = .ok (.invokevirtual 314, 3) := by decide +kernel
theorem dX12_rule_168 : decode cX12_rule 168 = .ok (.ireturn, 1) := by decide +kernel
theorem dX12_rule_169 : decode cX12_rule 169 = .ok (.aload_n 0, 1) := by decide +kernel
theorem dX12_rule_170 : decode cX12_rule 170 = .ok (.iconst 0, 1) := by decide +kernel
theorem dX12_rule_171 : decode cX12_rule 171 = .ok (.iconst 0, 1) := by decide +kernel
theorem dX12_rule_172 : decode cX12_rule 172 = .ok (.aload_n 0, 1) := by decide +kernel
theorem dX12_rule_173 : decode cX12_rule 173 = .ok (.getfield 205, 3) := by decide +kernel
theorem dX12_rule_176 : decode cX12_rule 176 = .ok (.iconst 1, 1) := by decide +kernel
theorem dX12_rule_177 : decode cX12_rule 177 = .ok (.isub, 1) := by decide +kernel
theorem dX12_rule_178 : decode cX12_rule 178 = .ok (.aload_n 0, 1) := by decide +kernel
theorem dX12_rule_179 : decode cX12_rule 179 = .ok (.getfield 208, 3) := by decide +kernel
theorem dX12_rule_182 : decode cX12_rule 182 = .ok (.iconst 1, 1) := by decide +kernel
theorem dX12_rule_183 : decode cX12_rule 183 = .ok (.isub, 1) := by decide +kernel
theorem dX12_rule_184 : decode cX12_rule 184 = .ok (.iconst 1, 1) := by decide +kernel
theorem dX12_rule_185 : decode cX12_rule 185 = .ok (.invokevirtual 314, 3) := by decide +kernel
theorem dX12_rule_188 : decode cX12_rule 188 = .ok (.ireturn, 1) := by decide +kernel
theorem dX12_rule_189 : decode cX12_rule 189 = .ok (.aload_n 0, 1) := by decide +kernel
theorem dX12_rule_190 : decode cX12_rule 190 = .ok (.invokevirtual 318, 3) := by decide +kernel
theorem dX12_rule_193 : decode cX12_rule 193 = .ok (.ireturn, 1) := by decide +kernel
theorem dX12_rule_194 : decode cX12_rule 194 = .ok (.aload_n 0, 1) := by decide +kernel
theorem dX12_rule_195 : decode cX12_rule 195 = .ok (.invokevirtual 321, 3) := by decide +kernel
theorem dX12_rule_198 : decode cX12_rule 198 = .ok (.ireturn, 1) := by decide +kernel
theorem dX12_rule_199 : decode cX12_rule 199 = .ok (.aload_n 0, 1) := by decide +kernel
theorem dX12_rule_200 : decode cX12_rule 200 = .ok (.invokevirtual 324, 3) := by decide +kernel
theorem dX12_rule_203 : decode cX12_rule 203 = .ok (.ireturn, 1) := by decide +kernel
theorem dX12_rule_204 : decode cX12_rule 204 = .ok (.ldc_w 310, 3) := by decide +kernel
theorem dX12_rule_207 : decode cX12_rule 207 = .ok (.ireturn, 1) := by decide +kernel
theorem dX12_set_0 : decode cX12_set 0 = .ok (.aload_n 0, 1) := by decide +kernel
theorem dX12_set_1 : decode cX12_set 1 = .ok (.iconst 0, 1) := by decide +kernel
theorem dX12_set_2 : decode cX12_set 2 = .ok (.putfield 86, 3) := by decide +kernel
theorem dX12_set_5 : decode cX12_set 5 = .ok (.aload_n 0, 1) := by decide +kernel
theorem dX12_set_6 : decode cX12_set 6 = .ok (.invokevirtual 306, 3) := by decide +kernel
theorem dX12_set_9 : decode cX12_set 9 = .ok (.ifCond .ne 13, 3) := by decide +kernel
theorem dX12_set_12 : decode cX12_set 12 = .ok (.aload_n 0, 1) := by decide +kernel
theorem dX12_set_13 : decode cX12_set 13 = .ok (.iconst 0, 1) := by decide +kernel
theorem dX12_set_14 : decode cX12_set 14 = .ok (.invokevirtual 354, 3) := by decide +kernel
theorem dX12_set_17 : decode cX12_set 17 = .ok (.pop, 1) := by decide +kernel
theorem dX12_set_18 : decode cX12_set 18 = .ok (.ldc_w 310, 3) := by decide +kernel
theorem dX12_set_21 : decode cX12_set 21 = .ok (.ireturn, 1) := by decide +kernel
theorem dX12_set_22 : decode cX12_set 22 = .ok (.iload_n 1, 1) := by decide +kernel
theorem dX12_set_23 : decode cX12_set 23 = .ok (.i2l, 1) := by decide +kernel
theorem dX12_set_24 : decode cX12_set 24 = .ok (.lconst 0, 1) := by decide +kernel
theorem dX12_set_25 : decode cX12_set 25 = .ok (.ldc2_w 291, 3) := by decide +kernel
theorem dX12_set_28 : decode cX12_set 28 = .ok (.invokestatic 97, 3) := by decide +kernel
theorem dX12_set_31 : decode cX12_set 31 = .ok (.ifCond .eq 11, 3) := by decide +kernel
theorem dX12_set_34 : decode cX12_set 34 = .ok (.iload_n 1, 1) := by decide +kernel
theorem dX12_set_35 : decode cX12_set 35 = .ok (.iload_n 2, 1) := by decide +kernel
theorem dX12_set_36 : decode cX12_set 36 = .ok (.invokestatic 418, 3) := by decide +kernel
theorem dX12_set_39 : decode cX12_set 39 = .ok (.ifCond .ne 13, 3) := by decide +kernel
theorem dX12_set_42 : decode cX12_set 42 = .ok (.aload_n 0, 1) := by decide +kernel
theorem dX12_set_43 : decode cX12_set 43 = .ok (.iconst 2, 1) := by decide +kernel
theorem dX12_set_44 : decode cX12_set 44 = .ok (.invokevirtual 354, 3) := by decide +kernel
theorem dX12_set_47 : decode cX12_set 47 = .ok (.pop, 1) := by decide +kernel
theorem dX12_set_48 : decode cX12_set 48 = .ok (.ldc_w 310, 3) := by decide +kernel
theorem dX12_set_51 : decode cX12_set 51 = .ok (.ireturn, 1) := by decide +kernel
theorem dX12_set_52 : decode cX12_set 52 = .ok (.aload_n 0, 1) := by decide +kernel
theorem dX12_set_53 : decode cX12_set 53 = .ok (.getfield 31, 3) := by decide +kernel
theorem dX12_set_56 : decode cX12_set 56 = .ok (.iload_n 1, 1) := by decide +kernel
theorem dX12_set_57 : decode cX12_set 57 = .ok (.iaload, 1) := by decide +kernel
theorem dX12_set_58 : decode cX12_set 58 = .ok (.istore_n 3, 1) := by decide +kernel
theorem dX12_set_59 : decode cX12_set 59 = .ok (.aload_n 0, 1) := by decide +kernel
theorem dX12_set_60 : decode cX12_set 60 = .ok (.getfield 31, 3) := by decide +kernel
theorem dX12_set_63 : decode cX12_set 63 = .ok (.iload_n 1, 1) := by decide +kernel
theorem dX12_set_64 : decode cX12_set 64 = .ok (.iload_n 2, 1) := by decide +kernel
theorem dX12_set_65 : decode cX12_set 65 = .ok (.iastore, 1) := by decide +kernel
theorem dX12_set_66 : decode cX12_set 66 = .ok (.iload_n 3, 1) := by decide +kernel
theorem dX12_set_67 : decode cX12_set 67 = .ok (.ireturn, 1) := by decide +kernel
theorem dX12_shake_0 : decode cX12_shake 0 = .ok (.aload_n 0, 1) := by decide +kernel
theorem dX12_shake_1 : decode cX12_shake 1 = .ok (.iconst 0, 1) := by decide +kernel
theorem dX12_shake_2 : decode cX12_shake 2 = .ok (.putfield 86, 3) := by decide +kernel
theorem dX12_shake_5 : decode cX12_shake 5 = .ok (.aload_n 0, 1) := by decide +kernel
theorem dX12_shake_6 : decode cX12_shake 6 = .ok (.invokevirtual 306, 3) := by decide +kernel
theorem dX12_shake_9 : decode cX12_shake 9 = .ok (.ifCond .ne 9, 3) := by decide +kernel
theorem dX12_shake_12 : decode cX12_shake 12 = .ok (.aload_n 0, 1) := by decide +kernel
theorem dX12_shake_13 : decode cX12_shake 13 = .ok (.iconst 0, 1) := by decide +kernel
theorem dX12_shake_14 : decode cX12_shake 14 = .ok (.invokevirtual 354, 3) := by decide +kernel
theorem dX12_shake_17 : decode cX12_shake 17 = .ok (.ireturn, 1) := by decide +kernel
theorem dX12_shake_18 : decode cX12_shake 18 = .ok (.iload_n 1, 1) := by decide +kernel
theorem dX12_shake_19 : decode cX12_shake 19 = .ok (.i2l, 1) := by decide +kernel
theorem dX12_shake_20 : decode cX12_shake 20 = .ok (.lconst 1, 1) := by decide +kernel
theorem dX12_shake_21 : decode cX12_shake 21 = .ok (.ldc2_w 267, 3) := by decide +kernel
theorem dX12_shake_24 : decode cX12_shake 24 = .ok (.invokestatic 97, 3) := by decide +kernel
theorem dX12_shake_27 : decode cX12_shake 27 = .ok (.ifCond .ne 9, 3) := by decide +kernel
theorem dX12_shake_30 : decode cX12_shake 30 = .ok (.aload_n 0, 1) := by decide +kernel
theorem dX12_shake_31 : decode cX12_shake 31 = .ok (.iconst 2, 1) := by decide +kernel
theorem dX12_shake_32 : decode cX12_shake 32 = .ok (.invokevirtual 354, 3) := by decide +kernel
theorem dX12_shake_35 : decode cX12_shake 35 = .ok (.ireturn, 1) := by decide +kernel
theorem dX12_shake_36 : decode cX12_shake 36 = .ok (.aload_n 0, 1) := by decide +kernel
theorem dX12_shake_37 : decode cX12_shake 37 = .ok (.invokevirtual 364, 3) := by decide +kernel
theorem dX12_shake_40 : decode cX12_shake 40 = .ok (.aload_n 0, 1) := by decide +kernel
theorem dX12_shake_41 : decode cX12_shake 41 = .ok (.lload_n 2, 1) := by decide +kernel
theorem dX12_shake_42 : decode cX12_shake 42 = .ok (.putfield 401, 3) := by decide +kernel
theorem dX12_shake_45 : decode cX12_shake 45 = .ok (.iconst 0, 1) := by decide +kernel
theorem dX12_shake_46 : decode cX12_shake 46 = .ok (.istore 4, 2) := by decide +kernel
theorem dX12_shake_48 : decode cX12_shake 48 = .ok (.iconst 0, 1) := by decide +kernel
theorem dX12_shake_49 : decode cX12_shake 49 = .ok (.istore 5, 2) := by decide +kernel
theorem dX12_shake_51 : decode cX12_shake 51 = .ok (.iload 5, 2) := by decide +kernel
theorem dX12_shake_53 : decode cX12_shake 53 = .ok (.iload_n 1, 1) := by decide +kernel
theorem dX12_shake_54 : decode cX12_shake 54 = .ok (.if_icmp .ge 104, 3) := by decide +kernel
theorem dX12_shake_57 : decode cX12_shake 57 = .ok (.aload_n 0, 1) := by decide +kernel
theorem dX12_shake_58 : decode cX12_shake 58 = .ok (.invokevirtual 238, 3) := by decide +kernel
theorem dX12_shake_61 : decode cX12_shake 61 = .ok (.pop, 1) := by decide +kernel
theorem dX12_shake_62 : decode cX12_shake 62 = .ok (.aload_n 0, 1) := by decide +kernel
theorem dX12_shake_63 : decode cX12_shake 63 = .ok (.getfield 241, 3) := by decide +kernel
theorem dX12_shake_66 : decode cX12_shake 66 = .ok (.ifCond .le 86, 3) := by decide +kernel
theorem dX12_shake_69 : decode cX12_shake 69 = .ok (.aload_n 0, 1) := by decide +kernel
theorem dX12_shake_70 : decode cX12_shake 70 = .ok (.aload_n 0, 1) := by decide +kernel
theorem dX12_shake_71 : decode cX12_shake 71 = .ok (.getfield 241, 3) := by decide +kernel
theorem dX12_shake_74 : decode cX12_shake 74 = .ok (.invokevirtual 409, 3) := by decide +kernel
theorem dX12_shake_77 : decode cX12_shake 77 = .ok (.istore 6, 2) := by decide +kernel
theorem dX12_shake_79 : decode cX12_shake 79 = .ok (.aload_n 0, 1) := by decide +kernel
theorem dX12_shake_80 : decode cX12_shake 80 = .ok (.iconst 2, 1) := by decide +kernel
theorem dX12_shake_81 : decode cX12_shake 81 = .ok (.invokevirtual 409, 3) := by decide +kernel
theorem dX12_shake_84 : decode cX12_shake 84 = .ok (.iconst 1, 1) := by decide +kernel
theorem dX12_shake_85 : decode cX12_shake 85 = .ok (.if_icmp .ne 7, 3) := by decide +kernel
theorem dX12_shake_88 : decode cX12_shake 88 = .ok (.iconst 1, 1) := by decide +kernel
theorem dX12_shake_89 : decode cX12_shake 89 = .ok (.goto 4, 3) := by decide +kernel
theorem dX12_shake_92 : decode cX12_shake 92 = .ok (.iconst 0, 1) := by decide +kernel
theorem dX12_shake_93 : decode cX12_shake 93 = .ok (.istore 7, 2) := by decide +kernel
theorem dX12_shake_95 : decode cX12_shake 95 = .ok (.aload_n 0, 1) := by decide +kernel
theorem dX12_shake_96 : decode cX12_shake 96 = .ok (.iload 6, 2) := by decide +kernel
theorem dX12_shake_98 : decode cX12_shake 98 = .ok (.invokevirtual 269, 3) := by decide +kernel
theorem dX12_shake_101 : decode cX12_shake 101 = .ok (.iconst (-1), 1) := by decide +kernel
theorem dX12_shake_102 : decode cX12_shake 102 = .ok (.if_icmp .eq 50, 3) := by decide +kernel
theorem dX12_shake_105 : decode cX12_shake 105 = .ok (.aload_n 0, 1) := by decide +kernel
theorem dX12_shake_106 : decode cX12_shake 106 = .ok (.aload_n 0, 1) := by decide +kernel
theorem dX12_shake_107 : decode cX12_shake 107 = .ok (.getfield 34, 3) := by decide +kernel
theorem dX12_shake_110 : decode cX12_shake 110 = .ok (.iload 6, 2) := by decide +kernel
theorem dX12_shake_112 : decode cX12_shake 112 = .ok (.iaload, 1) := by decide +kernel
theorem dX12_shake_113 : decode cX12_shake 113 = .ok (.aload_n 0, 1) := by decide +kernel
theorem dX12_shake_114 : decode cX12_shake 114 = .ok (.getfield 37, 3) := by decide +kernel
theorem dX12_shake_117 : decode cX12_shake 117 = .ok (.iload 6, 2) := by decide +kernel
theorem dX12_shake_119 : decode cX12_shake 119 = .ok (.iaload, 1) := by decide +kernel
theorem dX12_shake_120 : decode cX12_shake 120 = .ok (.aload_n 0, 1) := by decide +kernel
theorem dX12_shake_121 : decode cX12_shake 121 = .ok (.iload 6, 2) := by decide +kernel
theorem dX12_shake_123 : decode cX12_shake 123 = .ok (.invokevirtual 269, 3) := by decide +kernel
theorem dX12_shake_126 : decode cX12_shake 126 = .ok (.iload 7, 2) := by decide +kernel
theorem dX12_shake_128 : decode cX12_shake 128 = .ok (.invokestatic 372, 3) := by decide +kernel
theorem dX12_shake_131 : decode cX12_shake 131 = .ok (.aload_n 0, 1) := by decide +kernel
theorem dX12_shake_132 : decode cX12_shake 132 = .ok (.getfield 40, 3) := by decide +kernel
theorem dX12_shake_135 : decode cX12_shake 135 = .ok (.iload 6, 2) := by decide +kernel
theorem dX12_shake_137 : decode cX12_shake 137 = .ok (.iaload, 1) := by decide +kernel
theorem dX12_shake_138 : decode cX12_shake 138 = .ok (.aload_n 0, 1) := by decide +kernel
theorem dX12_shake_139 : decode cX12_shake 139 = .ok (.getfield 43, 3) := by decide +kernel
theorem dX12_shake_142 : decode cX12_shake 142 = .ok (.iload 6, 2) := by decide +kernel
theorem dX12_shake_144 : decode cX12_shake 144 = .ok (.iaload, 1) := by decide +kernel
theorem dX12_shake_145 : decode cX12_shake 145 = .ok (.invokevirtual 367, 3) := by decide +kernel
theorem dX12_shake_148 : decode cX12_shake 148 = .ok (.pop, 1) := by decide +kernel
theorem dX12_shake_149 : decode cX12_shake 149 = .ok (.iinc 4 1, 3) := by decide +kernel
theorem dX12_shake_152 : decode cX12_shake 152 = .ok (.iinc 5 1, 3) := by decide +kernel
theorem dX12_shake_155 : decode cX12_shake 155 = .ok (.goto (-104), 3) := by decide +kernel
theorem dX12_shake_158 : decode cX12_shake 158 = .ok (.iload 4, 2) := by decide +kernel
theorem dX12_shake_160 : decode cX12_shake 160 = .ok (.ireturn, 1) := by decide +kernel
theorem dX12_shift_0 : decode cX12_shift 0 = .ok (.aload_n 0, 1) := by decide +kernel
theorem dX12_shift_1 : decode cX12_shift 1 = .ok (.iconst 0, 1) := by decide +kernel
theorem dX12_shift_2 : decode cX12_shift 2 = .ok (.putfield 86, 3) := by decide +kernel
theorem dX12_shift_5 : decode cX12_shift 5 = .ok (.aload_n 0, 1) := by decide +kernel
theorem dX12_shift_6 : decode cX12_shift 6 = .ok (.invokevirtual 306, 3) := by decide +kernel
theorem dX12_shift_9 : decode cX12_shift 9 = .ok (.ifCond .ne 9, 3) := by decide +kernel
theorem dX12_shift_12 : decode cX12_shift 12 = .ok (.aload_n 0, 1) := by decide +kernel
theorem dX12_shift_13 : decode cX12_shift 13 = .ok (.iconst 0, 1) := by decide +kernel
theorem dX12_shift_14 : decode cX12_shift 14 = .ok (.invokevirtual 354, 3) := by decide +kernel
theorem dX12_shift_17 : decode cX12_shift 17 = .ok (.ireturn, 1) := by decide +kernel
theorem dX12_shift_18 : decode cX12_shift 18 = .ok (.aload_n 0, 1) := by decide +kernel
theorem dX12_shift_19 : decode cX12_shift 19 = .ok (.iload_n 1, 1) := by decide +kernel
theorem dX12_shift_20 : decode cX12_shift 20 = .ok (.iload_n 2, 1) := by decide +kernel
theorem dX12_shift_21 : decode cX12_shift 21 = .ok (.invokevirtual 215, 3) := by decide +kernel
theorem dX12_shift_24 : decode cX12_shift 24 = .ok (.ifCond .ne 9, 3) := by decide +kernel
theorem dX12_shift_27 : decode cX12_shift 27 = .ok (.aload_n 0, 1) := by decide +kernel
theorem dX12_shift_28 : decode cX12_shift 28 = .ok (.iconst 1, 1) := by decide +kernel
theorem dX12_shift_29 : decode cX12_shift 29 = .ok (.invokevirtual 354, 3) := by decide +kernel
theorem dX12_shift_32 : decode cX12_shift 32 = .ok (.ireturn, 1) := by decide +kernel
theorem dX12_shift_33 : decode cX12_shift 33 = .ok (.iload_n 3, 1) := by decide +kernel
theorem dX12_shift_34 : decode cX12_shift 34 = .ok (.i2l, 1) := by decide +kernel
theorem dX12_shift_35 : decode cX12_shift 35 = .ok (.ldc2_w 397, 3) := by decide +kernel
theorem dX12_shift_38 : decode cX12_shift 38 = .ok (.ldc2_w 399, 3) := by decide +kernel
theorem dX12_shift_41 : decode cX12_shift 41 = .ok (.invokestatic 97, 3) := by decide +kernel
theorem dX12_shift_44 : decode cX12_shift 44 = .ok (.ifCond .eq 27, 3) := by decide +kernel
theorem dX12_shift_47 : decode cX12_shift 47 = .ok (.iload 4, 2) := by decide +kernel
theorem dX12_shift_49 : decode cX12_shift 49 = .ok (.i2l, 1) := by decide +kernel
theorem dX12_shift_50 : decode cX12_shift 50 = .ok (.ldc2_w 397, 3) := by decide +kernel
theorem dX12_shift_53 : decode cX12_shift 53 = .ok (.ldc2_w 399, 3) := by decide +kernel
theorem dX12_shift_56 : decode cX12_shift 56 = .ok (.invokestatic 97, 3) := by decide +kernel
theorem dX12_shift_59 : decode cX12_shift 59 = .ok (.ifCond .eq 12, 3) := by decide +kernel
theorem dX12_shift_62 : decode cX12_shift 62 = .ok (.iload_n 3, 1) := by decide +kernel
theorem dX12_shift_63 : decode cX12_shift 63 = .ok (.ifCond .ne 14, 3) := by decide +kernel
theorem dX12_shift_66 : decode cX12_shift 66 = .ok (.iload 4, 2) := by decide +kernel
theorem dX12_shift_68 : decode cX12_shift 68 = .ok (.ifCond .ne 9, 3) := by decide +kernel
theorem dX12_shift_71 : decode cX12_shift 71 = .ok (.aload_n 0, 1) := by decide +kernel
theorem dX12_shift_72 : decode cX12_shift 72 = .ok (.iconst 2, 1) := by decide +kernel
theorem dX12_shift_73 : decode cX12_shift 73 = .ok (.invokevirtual 354, 3) := by decide +kernel
theorem dX12_shift_76 : decode cX12_shift 76 = .ok (.ireturn, 1) := by decide +kernel
theorem dX12_shift_77 : decode cX12_shift 77 = .ok (.aload_n 0, 1) := by decide +kernel
theorem dX12_shift_78 : decode cX12_shift 78 = .ok (.invokevirtual 364, 3) := by decide +kernel
theorem dX12_shift_81 : decode cX12_shift 81 = .ok (.aload_n 0, 1) := by decide +kernel
theorem dX12_shift_82 : decode cX12_shift 82 = .ok (.iload_n 1, 1) := by decide +kernel
theorem dX12_shift_83 : decode cX12_shift 83 = .ok (.iload_n 2, 1) := by decide +kernel
theorem dX12_shift_84 : decode cX12_shift 84 = .ok (.iconst 0, 1) := by decide +kernel
theorem dX12_shift_85 : decode cX12_shift 85 = .ok (.invokevirtual 296, 3) := by decide +kernel
theorem dX12_shift_88 : decode cX12_shift 88 = .ok (.ifCond .eq 15, 3) := by decide +kernel
theorem dX12_shift_91 : decode cX12_shift 91 = .ok (.aload_n 0, 1) := by decide +kernel
theorem dX12_shift_92 : decode cX12_shift 92 = .ok (.iload_n 1, 1) := by decide +kernel
theorem dX12_shift_93 : decode cX12_shift 93 = .ok (.iload_n 2, 1) := by decide +kernel
theorem dX12_shift_94 : decode cX12_shift 94 = .ok (.iconst 0, 1) := by decide +kernel
theorem dX12_shift_95 : decode cX12_shift 95 = .ok (.iload_n 3, 1) := by decide +kernel
theorem dX12_shift_96 : decode cX12_shift 96 = .ok (.ineg, 1) := by decide +kernel
theorem dX12_shift_97 : decode cX12_shift 97 = .ok (.iload 4, 2) := by decide +kernel
theorem dX12_shift_99 : decode cX12_shift 99 = .ok (.ineg, 1) := by decide +kernel
theorem dX12_shift_100 : decode cX12_shift 100 = .ok (.invokevirtual 225, 3) := by decide +kernel
theorem dX12_shift_103 : decode cX12_shift 103 = .ok (.aload_n 0, 1) := by decide +kernel
theorem dX12_shift_104 : decode cX12_shift 104 = .ok (.iload_n 1, 1) := by decide +kernel
theorem dX12_shift_105 : decode cX12_shift 105 = .ok (.iload_n 2, 1) := by decide +kernel
theorem dX12_shift_106 : decode cX12_shift 106 = .ok (.iconst 1, 1) := by decide +kernel
theorem dX12_shift_107 : decode cX12_shift 107 = .ok (.invokevirtual 296, 3) := by decide +kernel
theorem dX12_shift_110 : decode cX12_shift 110 = .ok (.ifCond .eq 15, 3) := by decide +kernel
theorem dX12_shift_113 : decode cX12_shift 113 = .ok (.aload_n 0, 1) := by decide +kernel
theorem dX12_shift_114 : decode cX12_shift 114 = .ok (.iload_n 1, 1) := by decide +kernel
theorem dX12_shift_115 : decode cX12_shift 115 = .ok (.iload_n 2, 1) := by decide +kernel
theorem dX12_shift_116 : decode cX12_shift 116 = .ok (.iconst 1, 1) := by decide +kernel
theorem dX12_shift_117 : decode cX12_shift 117 = .ok (.iload_n 3, 1) := by decide +kernel
theorem dX12_shift_118 : decode cX12_shift 118 = .ok (.ineg, 1) := by decide +kernel
theorem dX12_shift_119 : decode cX12_shift 119 = .ok (.iload 4, 2) := by decide +kernel
theorem dX12_shift_121 : decode cX12_shift 121 = .ok (.ineg, 1) := by decide +kernel
theorem dX12_shift_122 : decode cX12_shift 122 = .ok (.invokevirtual 225, 3) := by decide +kernel
theorem dX12_shift_125 : decode cX12_shift 125 = .ok (.iload_n 1, 1) := by decide +kernel
theorem dX12_shift_126 : decode cX12_shift 126 = .ok (.ifCond .le 15, 3) := by decide +kernel
theorem dX12_shift_129 : decode cX12_shift 129 = .ok (.aload_n 0, 1) := by decide +kernel
theorem dX12_shift_130 : decode cX12_shift 130 = .ok (.iload_n 1, 1) := by decide +kernel
theorem dX12_shift_131 : decode cX12_shift 131 = .ok (.iconst 1, 1) := by decide +kernel
theorem dX12_shift_132 : decode cX12_shift 132 = .ok (.isub, 1) := by decide +kernel
theorem dX12_shift_133 : decode cX12_shift 133 = .ok (.iload_n 2, 1) := by decide +kernel
theorem dX12_shift_134 : decode cX12_shift 134 = .ok (.iconst 0, 1) := by decide +kernel
theorem dX12_shift_135 : decode cX12_shift 135 = .ok (.iload_n 3, 1) := by decide +kernel
theorem dX12_shift_136 : decode cX12_shift 136 = .ok (.iload 4, 2) := by decide +kernel
theorem dX12_shift_138 : decode cX12_shift 138 = .ok (.invokevirtual 225, 3) := by decide +kernel
theorem dX12_shift_141 : decode cX12_shift 141 = .ok (.iload_n 2, 1) := by decide +kernel
theorem dX12_shift_142 : decode cX12_shift 142 = .ok (.ifCond .le 15, 3) := by decide +kernel
theorem dX12_shift_145 : decode cX12_shift 145 = .ok (.aload_n 0, 1) := by decide +kernel
theorem dX12_shift_146 : decode cX12_shift 146 = .ok (.iload_n 1, 1) := by decide +kernel
theorem dX12_shift_147 : decode cX12_shift 147 = .ok (.iload_n 2, 1) := by decide +kernel
theorem dX12_shift_148 : decode cX12_shift 148 = .ok (.iconst 1, 1) := by decide +kernel
theorem dX12_shift_149 : decode cX12_shift 149 = .ok (.isub, 1) := by decide +kernel
theorem dX12_shift_150 : decode cX12_shift 150 = .ok (.iconst 1, 1) := by decide +kernel
theorem dX12_shift_151 : decode cX12_shift 151 = .ok (.iload_n 3, 1) := by decide +kernel
theorem dX12_shift_152 : decode cX12_shift 152 = .ok (.iload 4, 2) := by decide +kernel
theorem dX12_shift_154 : decode cX12_shift 154 = .ok (.invokevirtual 225, 3) := by decide +kernel
theorem dX12_shift_157 : decode cX12_shift 157 = .ok (.aload_n 0, 1) := by decide +kernel
theorem dX12_shift_158 : decode cX12_shift 158 = .ok (.invokevirtual 311, 3) := by decide +kernel
theorem dX12_shift_161 : decode cX12_shift 161 = .ok (.ireturn, 1) := by decide +kernel
theorem dX12_status_0 : decode cX12_status 0 = .ok (.aload_n 0, 1) := by decide +kernel
theorem dX12_status_1 : decode cX12_status 1 = .ok (.iconst 0, 1) := by decide +kernel
theorem dX12_status_2 : decode cX12_status 2 = .ok (.putfield 86, 3) := by decide +kernel
theorem dX12_status_5 : decode cX12_status 5 = .ok (.iload_n 1, 1) := by decide +kernel
theorem dX12_status_6 : decode cX12_status 6 = .ok (.i2l, 1) := by decide +kernel
theorem dX12_status_7 : decode cX12_status 7 = .ok (.lconst 0, 1) := by decide +kernel
theorem dX12_status_8 : decode cX12_status 8 = .ok (.ldc2_w 291, 3) := by decide +kernel
theorem dX12_status_11 : decode cX12_status 11 = .ok (.invokestatic 97, 3) := by decide +kernel
theorem dX12_status_14 : decode cX12_status 14 = .ok (.ifCond .eq 12, 3) := by decide +kernel
theorem dX12_status_17 : decode cX12_status 17 = .ok (.aload_n 0, 1) := by decide +kernel
theorem dX12_status_18 : decode cX12_status 18 = .ok (.getfield 52, 3) := by decide +kernel
theorem dX12_status_21 : decode cX12_status 21 = .ok (.iload_n 1, 1) := by decide +kernel
theorem dX12_status_22 : decode cX12_status 22 = .ok (.iaload, 1) := by decide +kernel
theorem dX12_status_23 : decode cX12_status 23 = .ok (.goto 4, 3) := by decide +kernel
theorem dX12_status_26 : decode cX12_status 26 = .ok (.iconst (-1), 1) := by decide +kernel
theorem dX12_status_27 : decode cX12_status 27 = .ok (.ireturn, 1) := by decide +kernel
theorem dX12_stills_0 : decode cX12_stills 0 = .ok (.aload_n 0, 1) := by decide +kernel
theorem dX12_stills_1 : decode cX12_stills 1 = .ok (.iconst 0, 1) := by decide +kernel
theorem dX12_stills_2 : decode cX12_stills 2 = .ok (.putfield 86, 3) := by decide +kernel
theorem dX12_stills_5 : decode cX12_stills 5 = .ok (.aload_n 0, 1) := by decide +kernel
theorem dX12_stills_6 : decode cX12_stills 6 = .ok (.invokevirtual 306, 3) := by decide +kernel
theorem dX12_stills_9 : decode cX12_stills 9 = .ok (.ifCond .ne 5, 3) := by decide +kernel
theorem dX12_stills_12 : decode cX12_stills 12 = .ok (.iconst (-1), 1) := by decide +kernel
theorem dX12_stills_13 : decode cX12_stills 13 = .ok (.ireturn, 1) := by decide +kernel
theorem dX12_stills_14 : decode cX12_stills 14 = .ok (.aload_n 0, 1) := by decide +kernel
theorem dX12_stills_15 : decode cX12_stills 15 = .ok (.invokevirtual 467, 3) := by decide +kernel
theorem dX12_stills_18 : decode cX12_stills 18 = .ok (.istore_n 1, 1) := by decide +kernel
theorem dX12_stills_19 : decode cX12_stills 19 = .ok (.iload_n 1, 1) := by decide +kernel
theorem dX12_stills_20 : decode cX12_stills 20 = .ok (.bipush 99, 2) := by decide +kernel
theorem dX12_stills_22 : decode cX12_stills 22 = .ok (.if_icmp .le 7, 3) := by decide +kernel
theorem dX12_stills_25 : decode cX12_stills 25 = .ok (.iconst (-1), 1) := by decide +kernel
theorem dX12_stills_26 : decode cX12_stills 26 = .ok (.goto 4, 3) := by decide +kernel
theorem dX12_stills_29 : decode cX12_stills 29 = .ok (.iload_n 1, 1) := by decide +kernel
theorem dX12_stills_30 : decode cX12_stills 30 = .ok (.ireturn, 1) := by decide +kernel
theorem dX12_text_0 : decode cX12_text 0 = .ok (.aload_n 0, 1) := by decide +kernel
theorem dX12_text_1 : decode cX12_text 1 = .ok (.iconst 0, 1) := by decide +kernel
theorem dX12_text_2 : decode cX12_text 2 = .ok (.putfield 86, 3) := by decide +kernel
theorem dX12_text_5 : decode cX12_text 5 = .ok (.aload_n 0, 1) := by decide +kernel
theorem dX12_text_6 : decode cX12_text 6 = .ok (.invokevirtual 202, 3) := by decide +kernel
theorem dX12_text_9 : decode cX12_text 9 = .ok (.iconst (-1), 1) := by decide +kernel
theorem dX12_text_10 : decode cX12_text 10 = .ok (.if_icmp .eq 5, 3) := by decide +kernel
theorem dX12_text_13 : decode cX12_text 13 = .ok (.iconst (-1), 1) := by decide +kernel
theorem dX12_text_14 : decode cX12_text 14 = .ok (.ireturn, 1) := by decide +kernel
theorem dX12_text_15 : decode cX12_text 15 = .ok (.aload_n 0, 1) := by decide +kernel
theorem dX12_text_16 : decode cX12_text 16 = .ok (.iconst 0, 1) := by decide +kernel
theorem dX12_text_17 : decode cX12_text 17 = .ok (.putfield 94, 3) := by decide +kernel
theorem dX12_text_20 : decode cX12_text 20 = .ok (.aload_n 0, 1) := by decide +kernel
theorem dX12_text_21 : decode cX12_text 21 = .ok (.aload_n 0, 1) := by decide +kernel
theorem dX12_text_22 : decode cX12_text 22 = .ok (.getfield 156, 3) := by decide +kernel
theorem dX12_text_25 : decode cX12_text 25 = .ok (.putfield 205, 3) := by decide +kernel
theorem dX12_text_28 : decode cX12_text 28 = .ok (.aload_n 0, 1) := by decide +kernel
theorem dX12_text_29 : decode cX12_text 29 = .ok (.aload_n 0, 1) := by decide +kernel
theorem dX12_text_30 : decode cX12_text 30 = .ok (.getfield 166, 3) := by decide +kernel
theorem dX12_text_33 : decode cX12_text 33 = .ok (.putfield 208, 3) := by decide +kernel
theorem dX12_text_36 : decode cX12_text 36 = .ok (.iconst 0, 1) := by decide +kernel
theorem dX12_text_37 : decode cX12_text 37 = .ok (.istore_n 1, 1) := by decide +kernel
theorem dX12_text_38 : decode cX12_text 38 = .ok (.iload_n 1, 1) := by decide +kernel
theorem dX12_text_39 : decode cX12_text 39 = .ok (.iconst 4, 1) := by decide +kernel
theorem dX12_text_40 : decode cX12_text 40 = .ok (.if_icmp .ge 21, 3) := by decide +kernel
theorem dX12_text_43 : decode cX12_text 43 = .ok (.aload_n 0, 1) := by decide +kernel
theorem dX12_text_44 : decode cX12_text 44 = .ok (.getfield 31, 3) := by decide +kernel
theorem dX12_text_47 : decode cX12_text 47 = .ok (.iload_n 1, 1) := by decide +kernel
theorem dX12_text_48 : decode cX12_text 48 = .ok (.aload_n 0, 1) := by decide +kernel
theorem dX12_text_49 : decode cX12_text 49 = .ok (.getfield 25, 3) := by decide +kernel
theorem dX12_text_52 : decode cX12_text 52 = .ok (.iload_n 1, 1) := by decide +kernel
theorem dX12_text_53 : decode cX12_text 53 = .ok (.iaload, 1) := by decide +kernel
theorem dX12_text_54 : decode cX12_text 54 = .ok (.iastore, 1) := by decide +kernel
theorem dX12_text_55 : decode cX12_text 55 = .ok (.iinc 1 1, 3) := by decide +kernel
theorem dX12_text_58 : decode cX12_text 58 = .ok (.goto (-20), 3) := by decide +kernel
theorem dX12_text_61 : decode cX12_text 61 = .ok (.iconst 0, 1) := by decide +kernel
theorem dX12_text_62 : decode cX12_text 62 = .ok (.istore_n 1, 1) := by decide +kernel
theorem dX12_text_63 : decode cX12_text 63 = .ok (.iload_n 1, 1) := by decide +kernel
theorem dX12_text_64 : decode cX12_text 64 = .ok (.sipush 486, 3) := by decide +kernel
theorem dX12_text_67 : decode cX12_text 67 = .ok (.if_icmp .ge 16, 3) := by decide +kernel
theorem dX12_text_70 : decode cX12_text 70 = .ok (.aload_n 0, 1) := by decide +kernel
theorem dX12_text_71 : decode cX12_text 71 = .ok (.getfield 28, 3) := by decide +kernel
theorem dX12_text_74 : decode cX12_text 74 = .ok (.iload_n 1, 1) := by decide +kernel
theorem dX12_text_75 : decode cX12_text 75 = .ok (.iconst 0, 1) := by decide +kernel
theorem dX12_text_76 : decode cX12_text 76 = .ok (.iastore, 1) := by decide +kernel
theorem dX12_text_77 : decode cX12_text 77 = .ok (.iinc 1 1, 3) := by decide +kernel
theorem dX12_text_80 : decode cX12_text 80 = .ok (.goto (-17), 3) := by decide +kernel
theorem dX12_text_83 : decode cX12_text 83 = .ok (.iconst 0, 1) := by decide +kernel
theorem dX12_text_84 : decode cX12_text 84 = .ok (.istore_n 1, 1) := by decide +kernel
theorem dX12_text_85 : decode cX12_text 85 = .ok (.iload_n 1, 1) := by decide +kernel
theorem dX12_text_86 : decode cX12_text 86 = .ok (.aload_n 0, 1) := by decide +kernel
theorem dX12_text_87 : decode cX12_text 87 = .ok (.getfield 208, 3) := by decide +kernel
theorem dX12_text_90 : decode cX12_text 90 = .ok (.if_icmp .ge 51, 3) := by decide +kernel
theorem dX12_text_93 : decode cX12_text 93 = .ok (.iconst 0, 1) := by decide +kernel
theorem dX12_text_94 : decode cX12_text 94 = .ok (.istore_n 2, 1) := by decide +kernel
theorem dX12_text_95 : decode cX12_text 95 = .ok (.iload_n 2, 1) := by decide +kernel
theorem dX12_text_96 : decode cX12_text 96 = .ok (.aload_n 0, 1) := by decide +kernel
theorem dX12_text_97 : decode cX12_text 97 = .ok (.getfield 205, 3) := by decide +kernel
theorem dX12_text_100 : decode cX12_text 100 = .ok (.if_icmp .ge 35, 3) := by decide +kernel
theorem dX12_text_103 : decode cX12_text 103 = .ok (.aload_n 0, 1) := by decide +kernel
theorem dX12_text_104 : decode cX12_text 104 = .ok (.getfield 28, 3) := by decide +kernel
theorem dX12_text_107 : decode cX12_text 107 = .ok (.iload_n 2, 1) := by decide +kernel
theorem dX12_text_108 : decode cX12_text 108 = .ok (.iload_n 1, 1) := by decide +kernel
theorem dX12_text_109 : decode cX12_text 109 = .ok (.iconst 0, 1) := by decide +kernel
theorem dX12_text_110 : decode cX12_text 110 = .ok (.iconst 0, 1) := by decide +kernel
theorem dX12_text_111 : decode cX12_text 111 = .ok (.invokestatic 211, 3) := by decide +kernel
theorem dX12_text_114 : decode cX12_text 114 = .ok (.iconst 1, 1) := by decide +kernel
theorem dX12_text_115 : decode cX12_text 115 = .ok (.iastore, 1) := by decide +kernel
theorem dX12_text_116 : decode cX12_text 116 = .ok (.aload_n 0, 1) := by decide +kernel
theorem dX12_text_117 : decode cX12_text 117 = .ok (.getfield 28, 3) := by decide +kernel
theorem dX12_text_120 : decode cX12_text 120 = .ok (.iload_n 2, 1) := by decide +kernel
theorem dX12_text_121 : decode cX12_text 121 = .ok (.iload_n 1, 1) := by decide +kernel
theorem dX12_text_122 : decode cX12_text 122 = .ok (.iconst 1, 1) := by decide +kernel
theorem dX12_text_123 : decode cX12_text 123 = .ok (.iconst 1, 1) := by decide +kernel
theorem dX12_text_124 : decode cX12_text 124 = .ok (.invokestatic 211, 3) := by decide +kernel
theorem dX12_text_127 : decode cX12_text 127 = .ok (.iconst 1, 1) := by decide +kernel
theorem dX12_text_128 : decode cX12_text 128 = .ok (.iastore, 1) := by decide +kernel
theorem dX12_text_129 : decode cX12_text 129 = .ok (.iinc 2 1, 3) := by decide +kernel
theorem dX12_text_132 : decode cX12_text 132 = .ok (.goto (-37), 3) := by decide +kernel
theorem dX12_text_135 : decode cX12_text 135 = .ok (.iinc 1 1, 3) := by decide +kernel
theorem dX12_text_138 : decode cX12_text 138 = .ok (.goto (-53), 3) := by decide +kernel
theorem dX12_text_141 : decode cX12_text 141 = .ok (.iconst 0, 1) := by decide +kernel
theorem dX12_text_142 : decode cX12_text 142 = .ok (.istore_n 1, 1) := by decide +kernel
theorem dX12_text_143 : decode cX12_text 143 = .ok (.iload_n 1, 1) := by decide +kernel
theorem dX12_text_144 : decode cX12_text 144 = .ok (.aload_n 0, 1) := by decide +kernel
theorem dX12_text_145 : decode cX12_text 145 = .ok (.getfield 153, 3) := by decide +kernel
theorem dX12_text_148 : decode cX12_text 148 = .ok (.if_icmp .ge 53, 3) := by decide +kernel
theorem dX12_text_151 : decode cX12_text 151 = .ok (.iconst 0, 1) := by decide +kernel
theorem dX12_text_152 : decode cX12_text 152 = .ok (.istore_n 2, 1) := by decide +kernel
theorem dX12_text_153 : decode cX12_text 153 = .ok (.iload_n 2, 1) := by decide +kernel
theorem dX12_text_154 : decode cX12_text 154 = .ok (.aload_n 0, 1) := by decide +kernel
theorem dX12_text_155 : decode cX12_text 155 = .ok (.getfield 13, 3) := by decide +kernel
theorem dX12_text_158 : decode cX12_text 158 = .ok (.iload_n 1, 1) := by decide +kernel
theorem dX12_text_159 : decode cX12_text 159 = .ok (.iaload, 1) := by decide +kernel
theorem dX12_text_160 : decode cX12_text 160 = .ok (.if_icmp .gt 35, 3) := by decide +kernel
theorem dX12_text_163 : decode cX12_text 163 = .ok (.aload_n 0, 1) := by decide +kernel
theorem dX12_text_164 : decode cX12_text 164 = .ok (.iload_n 2, 1) := by decide +kernel
theorem dX12_text_165 : decode cX12_text 165 = .ok (.aload_n 0, 1) := by decide +kernel
theorem dX12_text_166 : decode cX12_text 166 = .ok (.getfield 16, 3) := by decide +kernel
theorem dX12_text_169 : decode cX12_text 169 = .ok (.iload_n 1, 1) := by decide +kernel
theorem dX12_text_170 : decode cX12_text 170 = .ok (.iaload, 1) := by decide +kernel
theorem dX12_text_171 : decode cX12_text 171 = .ok (.iconst 1, 1) := by decide +kernel
theorem dX12_text_172 : decode cX12_text 172 = .ok (.aload_n 0, 1) := by decide +kernel
theorem dX12_text_173 : decode cX12_text 173 = .ok (.getfield 19, 3) := by decide +kernel
theorem dX12_text_176 : decode cX12_text 176 = .ok (.iload_n 1, 1) := by decide +kernel
theorem dX12_text_177 : decode cX12_text 177 = .ok (.iaload, 1) := by decide +kernel
theorem dX12_text_178 : decode cX12_text 178 = .ok (.ineg, 1) := by decide +kernel
theorem dX12_text_179 : decode cX12_text 179 = .ok (.aload_n 0, 1) := by decide +kernel
theorem dX12_text_180 : decode cX12_text 180 = .ok (.getfield 22, 3) := by decide +kernel
theorem dX12_text_183 : decode cX12_text 183 = .ok (.iload_n 1, 1) := by decide +kernel
theorem dX12_text_184 : decode cX12_text 184 = .ok (.iaload, 1) := by decide +kernel
theorem dX12_text_185 : decode cX12_text 185 = .ok (.ineg, 1) := by decide +kernel
theorem dX12_text_186 : decode cX12_text 186 = .ok (.invokevirtual 225, 3) := by decide +kernel
theorem dX12_text_189 : decode cX12_text 189 = .ok (.iinc 2 1, 3) := by decide +kernel
theorem dX12_text_192 : decode cX12_text 192 = .ok (.goto (-39), 3) := by decide +kernel
theorem dX12_text_195 : decode cX12_text 195 = .ok (.iinc 1 1, 3) := by decide +kernel
theorem dX12_text_198 : decode cX12_text 198 = .ok (.goto (-55), 3) := by decide +kernel
theorem dX12_text_201 : decode cX12_text 201 = .ok (.aload_n 0, 1) := by decide +kernel
theorem dX12_text_202 : decode cX12_text 202 = .ok (.iconst 0, 1) := by decide +kernel
theorem dX12_text_203 : decode cX12_text 203 = .ok (.putfield 229, 3) := by decide +kernel
theorem dX12_text_206 : decode cX12_text 206 = .ok (.aload_n 0, 1) := by decide +kernel
theorem dX12_text_207 : decode cX12_text 207 = .ok (.iconst 0, 1) := by decide +kernel
theorem dX12_text_208 : decode cX12_text 208 = .ok (.putfield 232, 3) := by decide +kernel
theorem dX12_text_211 : decode cX12_text 211 = .ok (.aload_n 0, 1) := by decide +kernel
theorem dX12_text_212 : decode cX12_text 212 = .ok (.iconst 0, 1) := by decide +kernel
theorem dX12_text_213 : decode cX12_text 213 = .ok (.putfield 235, 3) := by decide +kernel
theorem dX12_text_216 : decode cX12_text 216 = .ok (.aload_n 0, 1) := by decide +kernel
theorem dX12_text_217 : decode cX12_text 217 = .ok (.invokevirtual 238, 3) := by decide +kernel
theorem dX12_text_220 : decode cX12_text 220 = .ok (.ireturn, 1) := by decide +kernel
theorem dX12_thrown_0 : decode cX12_thrown 0 = .ok (.aload_n 0, 1) := by decide +kernel
theorem dX12_thrown_1 : decode cX12_thrown 1 = .ok (.getfield 86, 3) := by decide +kernel
theorem dX12_thrown_4 : decode cX12_thrown 4 = .ok (.ireturn, 1) := by decide +kernel
theorem dX12_undo_0 : decode cX12_undo 0 = .ok (.aload_n 0, 1) := by decide +kernel
theorem dX12_undo_1 : decode cX12_undo 1 = .ok (.iconst 0, 1) := by decide +kernel
theorem dX12_undo_2 : decode cX12_undo 2 = .ok (.putfield 86, 3) := by decide +kernel
theorem dX12_undo_5 : decode cX12_undo 5 = .ok (.aload_n 0, 1) := by decide +kernel
theorem dX12_undo_6 : decode cX12_undo 6 = .ok (.getfield 229, 3) := by decide +kernel
theorem dX12_undo_9 : decode cX12_undo 9 = .ok (.ifCond .ne 5, 3) := by decide +kernel
theorem dX12_undo_12 : decode cX12_undo 12 = .ok (.iconst (-1), 1) := by decide +kernel
theorem dX12_undo_13 : decode cX12_undo 13 = .ok (.ireturn, 1) := by decide +kernel
theorem dX12_undo_14 : decode cX12_undo 14 = .ok (.aload_n 0, 1) := by decide +kernel
theorem dX12_undo_15 : decode cX12_undo 15 = .ok (.dup, 1) := by decide +kernel
theorem dX12_undo_16 : decode cX12_undo 16 = .ok (.getfield 229, 3) := by decide +kernel
theorem dX12_undo_19 : decode cX12_undo 19 = .ok (.iconst 1, 1) := by decide +kernel
theorem dX12_undo_20 : decode cX12_undo 20 = .ok (.isub, 1) := by decide +kernel
theorem dX12_undo_21 : decode cX12_undo 21 = .ok (.putfield 229, 3) := by decide +kernel
theorem dX12_undo_24 : decode cX12_undo 24 = .ok (.iconst 0, 1) := by decide +kernel
theorem dX12_undo_25 : decode cX12_undo 25 = .ok (.istore_n 1, 1) := by decide +kernel
theorem dX12_undo_26 : decode cX12_undo 26 = .ok (.iload_n 1, 1) := by decide +kernel
theorem dX12_undo_27 : decode cX12_undo 27 = .ok (.sipush 486, 3) := by decide +kernel
theorem dX12_undo_30 : decode cX12_undo 30 = .ok (.if_icmp .ge 30, 3) := by decide +kernel
theorem dX12_undo_33 : decode cX12_undo 33 = .ok (.aload_n 0, 1) := by decide +kernel
theorem dX12_undo_34 : decode cX12_undo 34 = .ok (.getfield 28, 3) := by decide +kernel
theorem dX12_undo_37 : decode cX12_undo 37 = .ok (.iload_n 1, 1) := by decide +kernel
theorem dX12_undo_38 : decode cX12_undo 38 = .ok (.aload_n 0, 1) := by decide +kernel
theorem dX12_undo_39 : decode cX12_undo 39 = .ok (.getfield 49, 3) := by decide +kernel
theorem dX12_undo_42 : decode cX12_undo 42 = .ok (.sipush 486, 3) := by decide +kernel
theorem dX12_undo_45 : decode cX12_undo 45 = .ok (.aload_n 0, 1) := by decide +kernel
theorem dX12_undo_46 : decode cX12_undo 46 = .ok (.getfield 229, 3) := by decide +kernel
theorem dX12_undo_49 : decode cX12_undo 49 = .ok (.imul, 1) := by decide +kernel
theorem dX12_undo_50 : decode cX12_undo 50 = .ok (.iload_n 1, 1) := by decide +kernel
theorem dX12_undo_51 : decode cX12_undo 51 = .ok (.iadd, 1) := by decide +kernel
theorem dX12_undo_52 : decode cX12_undo 52 = .ok (.iaload, 1) := by decide +kernel
theorem dX12_undo_53 : decode cX12_undo 53 = .ok (.iastore, 1) := by decide +kernel
theorem dX12_undo_54 : decode cX12_undo 54 = .ok (.iinc 1 1, 3) := by decide +kernel
theorem dX12_undo_57 : decode cX12_undo 57 = .ok (.goto (-31), 3) := by decide +kernel
theorem dX12_undo_60 : decode cX12_undo 60 = .ok (.aload_n 0, 1) := by decide +kernel
theorem dX12_undo_61 : decode cX12_undo 61 = .ok (.getfield 229, 3) := by decide +kernel
theorem dX12_undo_64 : decode cX12_undo 64 = .ok (.ireturn, 1) := by decide +kernel
theorem dX12_wall_0 : decode cX12_wall 0 = .ok (.aload_n 0, 1) := by decide +kernel
theorem dX12_wall_1 : decode cX12_wall 1 = .ok (.iconst 0, 1) := by decide +kernel
theorem dX12_wall_2 : decode cX12_wall 2 = .ok (.putfield 86, 3) := by decide +kernel
theorem dX12_wall_5 : decode cX12_wall 5 = .ok (.aload_n 0, 1) := by decide +kernel
theorem dX12_wall_6 : decode cX12_wall 6 = .ok (.invokevirtual 306, 3) := by decide +kernel
theorem dX12_wall_9 : decode cX12_wall 9 = .ok (.ifCond .eq 31, 3) := by decide +kernel
theorem dX12_wall_12 : decode cX12_wall 12 = .ok (.iload_n 1, 1) := by decide +kernel
theorem dX12_wall_13 : decode cX12_wall 13 = .ok (.i2l, 1) := by decide +kernel
theorem dX12_wall_14 : decode cX12_wall 14 = .ok (.lconst 0, 1) := by decide +kernel
theorem dX12_wall_15 : decode cX12_wall 15 = .ok (.aload_n 0, 1) := by decide +kernel
theorem dX12_wall_16 : decode cX12_wall 16 = .ok (.invokevirtual 321, 3) := by decide +kernel
theorem dX12_wall_19 : decode cX12_wall 19 = .ok (.iconst 1, 1) := by decide +kernel
theorem dX12_wall_20 : decode cX12_wall 20 = .ok (.isub, 1) := by decide +kernel
theorem dX12_wall_21 : decode cX12_wall 21 = .ok (.i2l, 1) := by decide +kernel
theorem dX12_wall_22 : decode cX12_wall 22 = .ok (.invokestatic 97, 3) := by decide +kernel
theorem dX12_wall_25 : decode cX12_wall 25 = .ok (.ifCond .eq 15, 3) := by decide +kernel
theorem dX12_wall_28 : decode cX12_wall 28 = .ok (.iload_n 2, 1) := by decide +kernel
theorem dX12_wall_29 : decode cX12_wall 29 = .ok (.i2l, 1) := by decide +kernel
theorem dX12_wall_30 : decode cX12_wall 30 = .ok (.lconst 0, 1) := by decide +kernel
theorem dX12_wall_31 : decode cX12_wall 31 = .ok (.ldc2_w 352, 3) := by decide +kernel
theorem dX12_wall_34 : decode cX12_wall 34 = .ok (.invokestatic 97, 3) := by decide +kernel
theorem dX12_wall_37 : decode cX12_wall 37 = .ok (.ifCond .ne 5, 3) := by decide +kernel
theorem dX12_wall_40 : decode cX12_wall 40 = .ok (.iconst (-1), 1) := by decide +kernel
theorem dX12_wall_41 : decode cX12_wall 41 = .ok (.ireturn, 1) := by decide +kernel
theorem dX12_wall_42 : decode cX12_wall 42 = .ok (.aload_n 0, 1) := by decide +kernel
theorem dX12_wall_43 : decode cX12_wall 43 = .ok (.getfield 68, 3) := by decide +kernel
theorem dX12_wall_46 : decode cX12_wall 46 = .ok (.iload_n 1, 1) := by decide +kernel
theorem dX12_wall_47 : decode cX12_wall 47 = .ok (.iaload, 1) := by decide +kernel
theorem dX12_wall_48 : decode cX12_wall 48 = .ok (.istore_n 3, 1) := by decide +kernel
theorem dX12_wall_49 : decode cX12_wall 49 = .ok (.iload_n 2, 1) := by decide +kernel
theorem dX12_wall_50 : decode cX12_wall 50 = .ok (.tableswitch 54 0 3 #[30, 36, 43, 50], 30) := by decide +kernel
theorem dX12_wall_80 : decode cX12_wall 80 = .ok (.aload_n 0, 1) := by decide +kernel
theorem dX12_wall_81 : decode cX12_wall 81 = .ok (.iload_n 3, 1) := by decide +kernel
theorem dX12_wall_82 : decode cX12_wall 82 = .ok (.invokevirtual 434, 3) := by decide +kernel
theorem dX12_wall_85 : decode cX12_wall 85 = .ok (.ireturn, 1) := by decide +kernel
theorem dX12_wall_86 : decode cX12_wall 86 = .ok (.iload_n 3, 1) := by decide +kernel
theorem dX12_wall_87 : decode cX12_wall 87 = .ok (.iconst 2, 1) := by decide +kernel
theorem dX12_wall_88 : decode cX12_wall 88 = .ok (.idiv, 1) := by decide +kernel
theorem dX12_wall_89 : decode cX12_wall 89 = .ok (.bipush 9, 2) := by decide +kernel
theorem dX12_wall_91 : decode cX12_wall 91 = .ok (.irem, 1) := by decide +kernel
theorem dX12_wall_92 : decode cX12_wall 92 = .ok (.ireturn, 1) := by decide +kernel
theorem dX12_wall_93 : decode cX12_wall 93 = .ok (.iload_n 3, 1) := by decide +kernel
theorem dX12_wall_94 : decode cX12_wall 94 = .ok (.iconst 2, 1) := by decide +kernel
theorem dX12_wall_95 : decode cX12_wall 95 = .ok (.idiv, 1) := by decide +kernel
theorem dX12_wall_96 : decode cX12_wall 96 = .ok (.bipush 9, 2) := by decide +kernel
theorem dX12_wall_98 : decode cX12_wall 98 = .ok (.idiv, 1) := by decide +kernel
theorem dX12_wall_99 : decode cX12_wall 99 = .ok (.ireturn, 1) := by decide +kernel
theorem dX12_wall_100 : decode cX12_wall 100 = .ok (.iload_n 3, 1) := by decide +kernel
theorem dX12_wall_101 : decode cX12_wall 101 = .ok (.iconst 2, 1) := by decide +kernel
theorem dX12_wall_102 : decode cX12_wall 102 = .ok (.irem, 1) := by decide +kernel
theorem dX12_wall_103 : decode cX12_wall 103 = .ok (.ireturn, 1) := by decide +kernel
theorem dX12_wall_104 : decode cX12_wall 104 = .ok (.aload_n 0, 1) := by decide +kernel
theorem dX12_wall_105 : decode cX12_wall 105 = .ok (.iload_n 3, 1) := by decide +kernel
theorem dX12_wall_106 : decode cX12_wall 106 = .ok (.invokevirtual 437, 3) := by decide +kernel
theorem dX12_wall_109 : decode cX12_wall 109 = .ok (.ireturn, 1) := by decide +kernel
