theorem dX11_gone_0 : decode cX11_gone 0 = .ok (.aload_n 0, 1) := by decide +kernel
theorem dX11_gone_1 : decode cX11_gone 1 = .ok (.getfield 124, 3) := by decide +kernel
theorem dX11_gone_4 : decode cX11_gone 4 = .ok (.ifCond .eq 25, 3) := by decide +kernel
theorem dX11_gone_7 : decode cX11_gone 7 = .ok (.iload_n 1, 1) := by decide +kernel
theorem dX11_gone_8 : decode cX11_gone 8 = .ok (.ifCond .lt 21, 3) := by decide +kernel
theorem dX11_gone_11 : decode cX11_gone 11 = .ok (.iload_n 1, 1) := by decide +kernel
theorem dX11_gone_12 : decode cX11_gone 12 = .ok (.aload_n 0, 1) := by decide +kernel
theorem dX11_gone_13 : decode cX11_gone 13 = .ok (.getfield 60, 3) := by decide +kernel
theorem dX11_gone_16 : decode cX11_gone 16 = .ok (.arraylength, 1) := by decide +kernel
theorem dX11_gone_17 : decode cX11_gone 17 = .ok (.if_icmp .ge 12, 3) := by decide +kernel
theorem dX11_gone_20 : decode cX11_gone 20 = .ok (.aload_n 0, 1) := by decide +kernel
theorem dX11_gone_21 : decode cX11_gone 21 = .ok (.getfield 60, 3) := by decide +kernel
theorem dX11_gone_24 : decode cX11_gone 24 = .ok (.iload_n 1, 1) := by decide +kernel
theorem dX11_gone_25 : decode cX11_gone 25 = .ok (.iaload, 1) := by decide +kernel
theorem dX11_gone_26 : decode cX11_gone 26 = .ok (.goto 5, 3) := by decide +kernel
theorem dX11_gone_29 : decode cX11_gone 29 = .ok (.ldc 140, 2) := by decide +kernel
theorem dX11_gone_31 : decode cX11_gone 31 = .ok (.ireturn, 1) := by decide +kernel
theorem dX11_halved_0 : decode cX11_halved 0 = .ok (.aload_n 0, 1) := by decide +kernel
theorem dX11_halved_1 : decode cX11_halved 1 = .ok (.invokevirtual 136, 3) := by decide +kernel
theorem dX11_halved_4 : decode cX11_halved 4 = .ok (.ifCond .eq 5, 3) := by decide +kernel
theorem dX11_halved_7 : decode cX11_halved 7 = .ok (.iconst (-1), 1) := by decide +kernel
theorem dX11_halved_8 : decode cX11_halved 8 = .ok (.ireturn, 1) := by decide +kernel
theorem dX11_halved_9 : decode cX11_halved 9 = .ok (.aload_n 0, 1) := by decide +kernel
theorem dX11_halved_10 : decode cX11_halved 10 = .ok (.getfield 69, 3) := by decide +kernel
theorem dX11_halved_13 : decode cX11_halved 13 = .ok (.aload_n 0, 1) := by decide +kernel
theorem dX11_halved_14 : decode cX11_halved 14 = .ok (.getfield 28, 3) := by decide +kernel
theorem dX11_halved_17 : decode cX11_halved 17 = .ok (.getfield 141, 3) := by decide +kernel
theorem dX11_halved_20 : decode cX11_halved 20 = .ok (.invokevirtual 217, 3) := by decide +kernel
theorem dX11_halved_23 : decode cX11_halved 23 = .ok (.istore_n 3, 1) := by decide +kernel
theorem dX11_halved_24 : decode cX11_halved 24 = .ok (.iload_n 1, 1) := by decide +kernel
theorem dX11_halved_25 : decode cX11_halved 25 = .ok (.iconst (-1), 1) := by decide +kernel
theorem dX11_halved_26 : decode cX11_halved 26 = .ok (.if_icmp .ne 5, 3) := by decide +kernel
theorem dX11_halved_29 : decode cX11_halved 29 = .ok (.iload_n 3, 1) := by decide +kernel
theorem dX11_halved_30 : decode cX11_halved 30 = .ok (.ireturn, 1) := by decide +kernel
theorem dX11_halved_31 : decode cX11_halved 31 = .ok (.iload_n 1, 1) := by decide +kernel
theorem dX11_halved_32 : decode cX11_halved 32 = .ok (.ifCond .lt 17, 3) := by decide +kernel
theorem dX11_halved_35 : decode cX11_halved 35 = .ok (.iload_n 1, 1) := by decide +kernel
theorem dX11_halved_36 : decode cX11_halved 36 = .ok (.iload_n 3, 1) := by decide +kernel
theorem dX11_halved_37 : decode cX11_halved 37 = .ok (.if_icmp .ge 12, 3) := by decide +kernel
theorem dX11_halved_40 : decode cX11_halved 40 = .ok (.iload_n 2, 1) := by decide +kernel
theorem dX11_halved_41 : decode cX11_halved 41 = .ok (.ifCond .lt 8, 3) := by decide +kernel
theorem dX11_halved_44 : decode cX11_halved 44 = .ok (.iload_n 2, 1) := by decide +kernel
theorem dX11_halved_45 : decode cX11_halved 45 = .ok (.iconst 3, 1) := by decide +kernel
theorem dX11_halved_46 : decode cX11_halved 46 = .ok (.if_icmp .le 5, 3) := by decide +kernel
theorem dX11_halved_49 : decode cX11_halved 49 = .ok (.iconst (-1), 1) := by decide +kernel
theorem dX11_halved_50 : decode cX11_halved 50 = .ok (.ireturn, 1) := by decide +kernel
theorem dX11_halved_51 : decode cX11_halved 51 = .ok (.aload_n 0, 1) := by decide +kernel
theorem dX11_halved_52 : decode cX11_halved 52 = .ok (.getfield 69, 3) := by decide +kernel
theorem dX11_halved_55 : decode cX11_halved 55 = .ok (.aload_n 0, 1) := by decide +kernel
theorem dX11_halved_56 : decode cX11_halved 56 = .ok (.getfield 28, 3) := by decide +kernel
theorem dX11_halved_59 : decode cX11_halved 59 = .ok (.getfield 141, 3) := by decide +kernel
theorem dX11_halved_62 : decode cX11_halved 62 = .ok (.iload_n 1, 1) := by decide +kernel
theorem dX11_halved_63 : decode cX11_halved 63 = .ok (.invokevirtual 221, 3) := by decide +kernel
theorem dX11_halved_66 : decode cX11_halved 66 = .ok (.aload_n 0, 1) := by decide +kernel
theorem dX11_halved_67 : decode cX11_halved 67 = .ok (.getfield 69, 3) := by decide +kernel
theorem dX11_halved_70 : decode cX11_halved 70 = .ok (.iload_n 2, 1) := by decide +kernel
theorem dX11_halved_71 : decode cX11_halved 71 = .ok (.invokevirtual 225, 3) := by decide +kernel
theorem dX11_halved_74 : decode cX11_halved 74 = .ok (.ireturn, 1) := by decide +kernel
theorem dX11_image_0 : decode cX11_image 0 = .ok (.aload_n 0, 1) := by decide +kernel
theorem dX11_image_1 : decode cX11_image 1 = .ok (.invokevirtual 136, 3) := by decide +kernel
theorem dX11_image_4 : decode cX11_image 4 = .ok (.ifCond .eq 5, 3) := by decide +kernel
theorem dX11_image_7 : decode cX11_image 7 = .ok (.iconst (-1), 1) := by decide +kernel
theorem dX11_image_8 : decode cX11_image 8 = .ok (.ireturn, 1) := by decide +kernel
theorem dX11_image_9 : decode cX11_image 9 = .ok (.aload_n 0, 1) := by decide +kernel
theorem dX11_image_10 : decode cX11_image 10 = .ok (.getfield 56, 3) := by decide +kernel
theorem dX11_image_13 : decode cX11_image 13 = .ok (.aload_n 0, 1) := by decide +kernel
theorem dX11_image_14 : decode cX11_image 14 = .ok (.getfield 28, 3) := by decide +kernel
theorem dX11_image_17 : decode cX11_image 17 = .ok (.getfield 141, 3) := by decide +kernel
theorem dX11_image_20 : decode cX11_image 20 = .ok (.aload_n 0, 1) := by decide +kernel
theorem dX11_image_21 : decode cX11_image 21 = .ok (.getfield 42, 3) := by decide +kernel
theorem dX11_image_24 : decode cX11_image 24 = .ok (.invokevirtual 355, 3) := by decide +kernel
theorem dX11_image_27 : decode cX11_image 27 = .ok (.aload_n 0, 1) := by decide +kernel
theorem dX11_image_28 : decode cX11_image 28 = .ok (.iconst 1, 1) := by decide +kernel
theorem dX11_image_29 : decode cX11_image 29 = .ok (.putfield 120, 3) := by decide +kernel
theorem dX11_image_32 : decode cX11_image 32 = .ok (.aload_n 0, 1) := by decide +kernel
theorem dX11_image_33 : decode cX11_image 33 = .ok (.getfield 42, 3) := by decide +kernel
theorem dX11_image_36 : decode cX11_image 36 = .ok (.getfield 114, 3) := by decide +kernel
theorem dX11_image_39 : decode cX11_image 39 = .ok (.ireturn, 1) := by decide +kernel
theorem dX11_init_0 : decode cX11_init 0 = .ok (.aload_n 0, 1) := by decide +kernel
theorem dX11_init_1 : decode cX11_init 1 = .ok (.invokespecial 1, 3) := by decide +kernel
theorem dX11_init_4 : decode cX11_init 4 = .ok (.aload_n 0, 1) := by decide +kernel
theorem dX11_init_5 : decode cX11_init 5 = .ok (.new 7, 3) := by decide +kernel
theorem dX11_init_8 : decode cX11_init 8 = .ok (.dup, 1) := by decide +kernel
theorem dX11_init_9 : decode cX11_init 9 = .ok (.invokespecial 9, 3) := by decide +kernel
theorem dX11_init_12 : decode cX11_init 12 = .ok (.putfield 10, 3) := by decide +kernel
theorem dX11_init_15 : decode cX11_init 15 = .ok (.aload_n 0, 1) := by decide +kernel
theorem dX11_init_16 : decode cX11_init 16 = .ok (.new 16, 3) := by decide +kernel
theorem dX11_init_19 : decode cX11_init 19 = .ok (.dup, 1) := by decide +kernel
theorem dX11_init_20 : decode cX11_init 20 = .ok (.aload_n 0, 1) := by decide +kernel
theorem dX11_init_21 : decode cX11_init 21 = .ok (.getfield 10, 3) := by decide +kernel
theorem dX11_init_24 : decode cX11_init 24 = .ok (.invokespecial 18, 3) := by decide +kernel
theorem dX11_init_27 : decode cX11_init 27 = .ok (.putfield 21, 3) := by decide +kernel
theorem dX11_init_30 : decode cX11_init 30 = .ok (.aload_n 0, 1) := by decide +kernel
theorem dX11_init_31 : decode cX11_init 31 = .ok (.new 25, 3) := by decide +kernel
theorem dX11_init_34 : decode cX11_init 34 = .ok (.dup, 1) := by decide +kernel
theorem dX11_init_35 : decode cX11_init 35 = .ok (.invokespecial 27, 3) := by decide +kernel
theorem dX11_init_38 : decode cX11_init 38 = .ok (.putfield 28, 3) := by decide +kernel
theorem dX11_init_41 : decode cX11_init 41 = .ok (.aload_n 0, 1) := by decide +kernel
theorem dX11_init_42 : decode cX11_init 42 = .ok (.new 25, 3) := by decide +kernel
theorem dX11_init_45 : decode cX11_init 45 = .ok (.dup, 1) := by decide +kernel
theorem dX11_init_46 : decode cX11_init 46 = .ok (.invokespecial 27, 3) := by decide +kernel
theorem dX11_init_49 : decode cX11_init 49 = .ok (.putfield 32, 3) := by decide +kernel
theorem dX11_init_52 : decode cX11_init 52 = .ok (.aload_n 0, 1) := by decide +kernel
theorem dX11_init_53 : decode cX11_init 53 = .ok (.iconst 4, 1) := by decide +kernel
theorem dX11_init_54 : decode cX11_init 54 = .ok (.newarray .int, 2) := by decide +kernel
theorem dX11_init_56 : decode cX11_init 56 = .ok (.putfield 35, 3) := by decide +kernel
theorem dX11_init_59 : decode cX11_init 59 = .ok (.aload_n 0, 1) := by decide +kernel
theorem dX11_init_60 : decode cX11_init 60 = .ok (.new 39, 3) := by decide +kernel
theorem dX11_init_63 : decode cX11_init 63 = .ok (.dup, 1) := by decide +kernel
theorem dX11_init_64 : decode cX11_init 64 = .ok (.invokespecial 41, 3) := by decide +kernel
theorem dX11_init_67 : decode cX11_init 67 = .ok (.putfield 42, 3) := by decide +kernel
theorem dX11_init_70 : decode cX11_init 70 = .ok (.aload_n 0, 1) := by decide +kernel
theorem dX11_init_71 : decode cX11_init 71 = .ok (.new 46, 3) := by decide +kernel
theorem dX11_init_74 : decode cX11_init 74 = .ok (.dup, 1) := by decide +kernel
theorem dX11_init_75 : decode cX11_init 75 = .ok (.invokespecial 48, 3) := by decide +kernel
theorem dX11_init_78 : decode cX11_init 78 = .ok (.putfield 49, 3) := by decide +kernel
theorem dX11_init_81 : decode cX11_init 81 = .ok (.aload_n 0, 1) := by decide +kernel
theorem dX11_init_82 : decode cX11_init 82 = .ok (.new 53, 3) := by decide +kernel
theorem dX11_init_85 : decode cX11_init 85 = .ok (.dup, 1) := by decide +kernel
theorem dX11_init_86 : decode cX11_init 86 = .ok (.invokespecial 55, 3) := by decide +kernel
theorem dX11_init_89 : decode cX11_init 89 = .ok (.putfield 56, 3) := by decide +kernel
theorem dX11_init_92 : decode cX11_init 92 = .ok (.aload_n 0, 1) := by decide +kernel
theorem dX11_init_93 : decode cX11_init 93 = .ok (.iconst 5, 1) := by decide +kernel
theorem dX11_init_94 : decode cX11_init 94 = .ok (.newarray .int, 2) := by decide +kernel
theorem dX11_init_96 : decode cX11_init 96 = .ok (.putfield 60, 3) := by decide +kernel
theorem dX11_init_99 : decode cX11_init 99 = .ok (.aload_n 0, 1) := by decide +kernel
theorem dX11_init_100 : decode cX11_init 100 = .ok (.iconst 4, 1) := by decide +kernel
theorem dX11_init_101 : decode cX11_init 101 = .ok (.newarray .int, 2) := by decide +kernel
theorem dX11_init_103 : decode cX11_init 103 = .ok (.putfield 63, 3) := by decide +kernel
theorem dX11_init_106 : decode cX11_init 106 = .ok (.aload_n 0, 1) := by decide +kernel
theorem dX11_init_107 : decode cX11_init 107 = .ok (.new 66, 3) := by decide +kernel
theorem dX11_init_110 : decode cX11_init 110 = .ok (.dup, 1) := by decide +kernel
theorem dX11_init_111 : decode cX11_init 111 = .ok (.invokespecial 68, 3) := by decide +kernel
theorem dX11_init_114 : decode cX11_init 114 = .ok (.putfield 69, 3) := by decide +kernel
theorem dX11_init_117 : decode cX11_init 117 = .ok (.aload_n 0, 1) := by decide +kernel
theorem dX11_init_118 : decode cX11_init 118 = .ok (.new 73, 3) := by decide +kernel
theorem dX11_init_121 : decode cX11_init 121 = .ok (.dup, 1) := by decide +kernel
theorem dX11_init_122 : decode cX11_init 122 = .ok (.invokespecial 75, 3) := by decide +kernel
theorem dX11_init_125 : decode cX11_init 125 = .ok (.putfield 76, 3) := by decide +kernel
theorem dX11_init_128 : decode cX11_init 128 = .ok (.aload_n 0, 1) := by decide +kernel
theorem dX11_init_129 : decode cX11_init 129 = .ok (.new 80, 3) := by decide +kernel
theorem dX11_init_132 : decode cX11_init 132 = .ok (.dup, 1) := by decide +kernel
theorem dX11_init_133 : decode cX11_init 133 = .ok (.invokespecial 82, 3) := by decide +kernel
theorem dX11_init_136 : decode cX11_init 136 = .ok (.putfield 83, 3) := by decide +kernel
theorem dX11_init_139 : decode cX11_init 139 = .ok (.return_, 1) := by decide +kernel
theorem dX11_isEmpty_0 : decode cX11_isEmpty 0 = .ok (.aload_n 0, 1) := by decide +kernel
theorem dX11_isEmpty_1 : decode cX11_isEmpty 1 = .ok (.getfield 28, 3) := by decide +kernel
theorem dX11_isEmpty_4 : decode cX11_isEmpty 4 = .ok (.getfield 141, 3) := by decide +kernel
theorem dX11_isEmpty_7 : decode cX11_isEmpty 7 = .ok (.getfield 145, 3) := by decide +kernel
theorem dX11_isEmpty_10 : decode cX11_isEmpty 10 = .ok (.ifCond .ne 7, 3) := by decide +kernel
theorem dX11_isEmpty_13 : decode cX11_isEmpty 13 = .ok (.iconst 1, 1) := by decide +kernel
theorem dX11_isEmpty_14 : decode cX11_isEmpty 14 = .ok (.goto 4, 3) := by decide +kernel
theorem dX11_isEmpty_17 : decode cX11_isEmpty 17 = .ok (.iconst 0, 1) := by decide +kernel
theorem dX11_isEmpty_18 : decode cX11_isEmpty 18 = .ok (.ireturn, 1) := by decide +kernel
theorem dX11_isShift_0 : decode cX11_isShift 0 = .ok (.iload_n 0, 1) := by decide +kernel
theorem dX11_isShift_1 : decode cX11_isShift 1 = .ok (.bipush (-9), 2) := by decide +kernel
theorem dX11_isShift_3 : decode cX11_isShift 3 = .ok (.if_icmp .lt 13, 3) := by decide +kernel
theorem dX11_isShift_6 : decode cX11_isShift 6 = .ok (.iload_n 0, 1) := by decide +kernel
theorem dX11_isShift_7 : decode cX11_isShift 7 = .ok (.bipush 9, 2) := by decide +kernel
theorem dX11_isShift_9 : decode cX11_isShift 9 = .ok (.if_icmp .gt 7, 3) := by decide +kernel
theorem dX11_isShift_12 : decode cX11_isShift 12 = .ok (.iconst 1, 1) := by decide +kernel
theorem dX11_isShift_13 : decode cX11_isShift 13 = .ok (.goto 4, 3) := by decide +kernel
theorem dX11_isShift_16 : decode cX11_isShift 16 = .ok (.iconst 0, 1) := by decide +kernel
theorem dX11_isShift_17 : decode cX11_isShift 17 = .ok (.ireturn, 1) := by decide +kernel
theorem dX11_layer_0 : decode cX11_layer 0 = .ok (.aload_n 0, 1) := by decide +kernel
theorem dX11_layer_1 : decode cX11_layer 1 = .ok (.getfield 28, 3) := by decide +kernel
theorem dX11_layer_4 : decode cX11_layer 4 = .ok (.getfield 141, 3) := by decide +kernel
theorem dX11_layer_7 : decode cX11_layer 7 = .ok (.iconst 0, 1) := by decide +kernel
theorem dX11_layer_8 : decode cX11_layer 8 = .ok (.iload_n 1, 1) := by decide +kernel
theorem dX11_layer_9 : decode cX11_layer 9 = .ok (.invokevirtual 207, 3) := by decide +kernel
theorem dX11_layer_12 : decode cX11_layer 12 = .ok (.ifCond .eq 12, 3) := by decide +kernel
theorem dX11_layer_15 : decode cX11_layer 15 = .ok (.iload_n 2, 1) := by decide +kernel
theorem dX11_layer_16 : decode cX11_layer 16 = .ok (.ifCond .lt 8, 3) := by decide +kernel
theorem dX11_layer_19 : decode cX11_layer 19 = .ok (.iload_n 2, 1) := by decide +kernel
theorem dX11_layer_20 : decode cX11_layer 20 = .ok (.iconst 3, 1) := by decide +kernel
theorem dX11_layer_21 : decode cX11_layer 21 = .ok (.if_icmp .le 6, 3) := by decide +kernel
theorem dX11_layer_24 : decode cX11_layer 24 = .ok (.ldc 140, 2) := by decide +kernel
theorem dX11_layer_26 : decode cX11_layer 26 = .ok (.ireturn, 1) := by decide +kernel
theorem dX11_layer_27 : decode cX11_layer 27 = .ok (.iload_n 2, 1) := by decide +kernel
theorem dX11_layer_28 : decode cX11_layer 28 = .ok (.iconst 2, 1) := by decide +kernel
theorem dX11_layer_29 : decode cX11_layer 29 = .ok (.if_icmp .ge 18, 3) := by decide +kernel
theorem dX11_layer_32 : decode cX11_layer 32 = .ok (.aload_n 0, 1) := by decide +kernel
theorem dX11_layer_33 : decode cX11_layer 33 = .ok (.getfield 28, 3) := by decide +kernel
theorem dX11_layer_36 : decode cX11_layer 36 = .ok (.getfield 141, 3) := by decide +kernel
theorem dX11_layer_39 : decode cX11_layer 39 = .ok (.iload_n 1, 1) := by decide +kernel
theorem dX11_layer_40 : decode cX11_layer 40 = .ok (.iload_n 2, 1) := by decide +kernel
theorem dX11_layer_41 : decode cX11_layer 41 = .ok (.invokevirtual 333, 3) := by decide +kernel
theorem dX11_layer_44 : decode cX11_layer 44 = .ok (.goto 17, 3) := by decide +kernel
theorem dX11_layer_47 : decode cX11_layer 47 = .ok (.aload_n 0, 1) := by decide +kernel
theorem dX11_layer_48 : decode cX11_layer 48 = .ok (.getfield 28, 3) := by decide +kernel
theorem dX11_layer_51 : decode cX11_layer 51 = .ok (.getfield 141, 3) := by decide +kernel
theorem dX11_layer_54 : decode cX11_layer 54 = .ok (.iload_n 1, 1) := by decide +kernel
theorem dX11_layer_55 : decode cX11_layer 55 = .ok (.iload_n 2, 1) := by decide +kernel
theorem dX11_layer_56 : decode cX11_layer 56 = .ok (.iconst 2, 1) := by decide +kernel
theorem dX11_layer_57 : decode cX11_layer 57 = .ok (.isub, 1) := by decide +kernel
theorem dX11_layer_58 : decode cX11_layer 58 = .ok (.invokevirtual 336, 3) := by decide +kernel
theorem dX11_layer_61 : decode cX11_layer 61 = .ok (.ireturn, 1) := by decide +kernel
theorem dX11_line_0 : decode cX11_line 0 = .ok (.aload_n 0, 1) := by decide +kernel
theorem dX11_line_1 : decode cX11_line 1 = .ok (.getfield 28, 3) := by decide +kernel
theorem dX11_line_4 : decode cX11_line 4 = .ok (.getfield 127, 3) := by decide +kernel
theorem dX11_line_7 : decode cX11_line 7 = .ok (.iload_n 1, 1) := by decide +kernel
theorem dX11_line_8 : decode cX11_line 8 = .ok (.invokevirtual 181, 3) := by decide +kernel
theorem dX11_line_11 : decode cX11_line 11 = .ok (.istore_n 3, 1) := by decide +kernel
theorem dX11_line_12 : decode cX11_line 12 = .ok (.iload_n 3, 1) := by decide +kernel
theorem dX11_line_13 : decode cX11_line 13 = .ok (.iconst (-1), 1) := by decide +kernel
theorem dX11_line_14 : decode cX11_line 14 = .ok (.if_icmp .eq 12, 3) := by decide +kernel
theorem dX11_line_17 : decode cX11_line 17 = .ok (.iload_n 2, 1) := by decide +kernel
theorem dX11_line_18 : decode cX11_line 18 = .ok (.ifCond .lt 8, 3) := by decide +kernel
theorem dX11_line_21 : decode cX11_line 21 = .ok (.iload_n 2, 1) := by decide +kernel
theorem dX11_line_22 : decode cX11_line 22 = .ok (.iconst 3, 1) := by decide +kernel
theorem dX11_line_23 : decode cX11_line 23 = .ok (.if_icmp .le 6, 3) := by decide +kernel
theorem dX11_line_26 : decode cX11_line 26 = .ok (.ldc 140, 2) := by decide +kernel
theorem dX11_line_28 : decode cX11_line 28 = .ok (.ireturn, 1) := by decide +kernel
theorem dX11_line_29 : decode cX11_line 29 = .ok (.aload_n 0, 1) := by decide +kernel
theorem dX11_line_30 : decode cX11_line 30 = .ok (.getfield 28, 3) := by decide +kernel
theorem dX11_line_33 : decode cX11_line 33 = .ok (.getfield 127, 3) := by decide +kernel
theorem dX11_line_36 : decode cX11_line 36 = .ok (.iload_n 1, 1) := by decide +kernel
theorem dX11_line_37 : decode cX11_line 37 = .ok (.iload_n 3, 1) := by decide +kernel
theorem dX11_line_38 : decode cX11_line 38 = .ok (.iload_n 2, 1) := by decide +kernel
theorem dX11_line_39 : decode cX11_line 39 = .ok (.iconst 2, 1) := by decide +kernel
theorem dX11_line_40 : decode cX11_line 40 = .ok (.if_icmp .ge 7, 3) := by decide +kernel
theorem dX11_line_43 : decode cX11_line 43 = .ok (.iconst 1, 1) := by decide +kernel
theorem dX11_line_44 : decode cX11_line 44 = .ok (.goto 4, 3) := by decide +kernel
theorem dX11_line_47 : decode cX11_line 47 = .ok (.iconst (-1), 1) := by decide +kernel
theorem dX11_line_48 : decode cX11_line 48 = .ok (.invokevirtual 339, 3) := by decide +kernel
theorem dX11_line_51 : decode cX11_line 51 = .ok (.istore 4, 2) := by decide +kernel
theorem dX11_line_53 : decode cX11_line 53 = .ok (.iload 4, 2) := by decide +kernel
theorem dX11_line_55 : decode cX11_line 55 = .ok (.iconst (-1), 1) := by decide +kernel
theorem dX11_line_56 : decode cX11_line 56 = .ok (.if_icmp .eq 9, 3) := by decide +kernel
theorem dX11_line_59 : decode cX11_line 59 = .ok (.iload_n 2, 1) := by decide +kernel
theorem dX11_line_60 : decode cX11_line 60 = .ok (.iconst 2, 1) := by decide +kernel
theorem dX11_line_61 : decode cX11_line 61 = .ok (.irem, 1) := by decide +kernel
theorem dX11_line_62 : decode cX11_line 62 = .ok (.ifCond .ne 6, 3) := by decide +kernel
theorem dX11_line_65 : decode cX11_line 65 = .ok (.iload 4, 2) := by decide +kernel
theorem dX11_line_67 : decode cX11_line 67 = .ok (.ireturn, 1) := by decide +kernel
theorem dX11_line_68 : decode cX11_line 68 = .ok (.aload_n 0, 1) := by decide +kernel
theorem dX11_line_69 : decode cX11_line 69 = .ok (.getfield 28, 3) := by decide +kernel
theorem dX11_line_72 : decode cX11_line 72 = .ok (.getfield 127, 3) := by decide +kernel
theorem dX11_line_75 : decode cX11_line 75 = .ok (.iload 4, 2) := by decide +kernel
theorem dX11_line_77 : decode cX11_line 77 = .ok (.iload_n 3, 1) := by decide +kernel
theorem dX11_line_78 : decode cX11_line 78 = .ok (.invokevirtual 174, 3) := by decide +kernel
theorem dX11_line_81 : decode cX11_line 81 = .ok (.aload_n 0, 1) := by decide +kernel
theorem dX11_line_82 : decode cX11_line 82 = .ok (.getfield 28, 3) := by decide +kernel
theorem dX11_line_85 : decode cX11_line 85 = .ok (.getfield 127, 3) := by decide +kernel
theorem dX11_line_88 : decode cX11_line 88 = .ok (.iload_n 1, 1) := by decide +kernel
theorem dX11_line_89 : decode cX11_line 89 = .ok (.iload_n 3, 1) := by decide +kernel
theorem dX11_line_90 : decode cX11_line 90 = .ok (.invokevirtual 174, 3) := by decide +kernel
theorem dX11_line_93 : decode cX11_line 93 = .ok (.isub, 1) := by decide +kernel
theorem dX11_line_94 : decode cX11_line 94 = .ok (.invokestatic 342, 3) := by decide +kernel
theorem dX11_line_97 : decode cX11_line 97 = .ok (.ireturn, 1) := by decide +kernel
theorem dX11_link_0 : decode cX11_link 0 = .ok (.iload_n 3, 1) := by decide +kernel
theorem dX11_link_1 : decode cX11_link 1 = .ok (.ifCond .eq 7, 3) := by decide +kernel
theorem dX11_link_4 : decode cX11_link 4 = .ok (.iconst 1, 1) := by decide +kernel
theorem dX11_link_5 : decode cX11_link 5 = .ok (.goto 4, 3) := by decide +kernel
theorem dX11_link_8 : decode cX11_link 8 = .ok (.iconst 0, 1) := by decide +kernel
theorem dX11_link_9 : decode cX11_link 9 = .ok (.istore 5, 2) := by decide +kernel
theorem dX11_link_11 : decode cX11_link 11 = .ok (.aload_n 0, 1) := by decide +kernel
theorem dX11_link_12 : decode cX11_link 12 = .ok (.getfield 28, 3) := by decide +kernel
theorem dX11_link_15 : decode cX11_link 15 = .ok (.getfield 141, 3) := by decide +kernel
theorem dX11_link_18 : decode cX11_link 18 = .ok (.iload_n 1, 1) := by decide +kernel
theorem dX11_link_19 : decode cX11_link 19 = .ok (.iload_n 2, 1) := by decide +kernel
theorem dX11_link_20 : decode cX11_link 20 = .ok (.iload 5, 2) := by decide +kernel
theorem dX11_link_22 : decode cX11_link 22 = .ok (.invokevirtual 199, 3) := by decide +kernel
theorem dX11_link_25 : decode cX11_link 25 = .ok (.ifCond .eq 14, 3) := by decide +kernel
theorem dX11_link_28 : decode cX11_link 28 = .ok (.iload 4, 2) := by decide +kernel
theorem dX11_link_30 : decode cX11_link 30 = .ok (.ifCond .lt 9, 3) := by decide +kernel
theorem dX11_link_33 : decode cX11_link 33 = .ok (.iload 4, 2) := by decide +kernel
theorem dX11_link_35 : decode cX11_link 35 = .ok (.iconst 1, 1) := by decide +kernel
theorem dX11_link_36 : decode cX11_link 36 = .ok (.if_icmp .le 6, 3) := by decide +kernel
theorem dX11_link_39 : decode cX11_link 39 = .ok (.ldc 140, 2) := by decide +kernel
theorem dX11_link_41 : decode cX11_link 41 = .ok (.ireturn, 1) := by decide +kernel
theorem dX11_link_42 : decode cX11_link 42 = .ok (.aload_n 0, 1) := by decide +kernel
theorem dX11_link_43 : decode cX11_link 43 = .ok (.getfield 28, 3) := by decide +kernel
theorem dX11_link_46 : decode cX11_link 46 = .ok (.getfield 141, 3) := by decide +kernel
theorem dX11_link_49 : decode cX11_link 49 = .ok (.iload_n 1, 1) := by decide +kernel
theorem dX11_link_50 : decode cX11_link 50 = .ok (.iload_n 2, 1) := by decide +kernel
theorem dX11_link_51 : decode cX11_link 51 = .ok (.iload 5, 2) := by decide +kernel
theorem dX11_link_53 : decode cX11_link 53 = .ok (.iload 4, 2) := by decide +kernel
theorem dX11_link_55 : decode cX11_link 55 = .ok (.invokevirtual 203, 3) := by decide +kernel
theorem dX11_link_58 : decode cX11_link 58 = .ok (.ireturn, 1) := by decide +kernel
theorem dX11_log_0 : decode cX11_log 0 = .ok (.iload_n 1, 1) := by decide +kernel
theorem dX11_log_1 : decode cX11_log 1 = .ok (.ifCond .lt 23, 3) := by decide +kernel
theorem dX11_log_4 : decode cX11_log 4 = .ok (.iload_n 1, 1) := by decide +kernel
theorem dX11_log_5 : decode cX11_log 5 = .ok (.aload_n 0, 1) := by decide +kernel
theorem dX11_log_6 : decode cX11_log 6 = .ok (.getfield 42, 3) := by decide +kernel
theorem dX11_log_9 : decode cX11_log 9 = .ok (.invokevirtual 275, 3) := by decide +kernel
theorem dX11_log_12 : decode cX11_log 12 = .ok (.if_icmp .ge 12, 3) := by decide +kernel
theorem dX11_log_15 : decode cX11_log 15 = .ok (.iload_n 2, 1) := by decide +kernel
theorem dX11_log_16 : decode cX11_log 16 = .ok (.ifCond .lt 8, 3) := by decide +kernel
theorem dX11_log_19 : decode cX11_log 19 = .ok (.iload_n 2, 1) := by decide +kernel
theorem dX11_log_20 : decode cX11_log 20 = .ok (.iconst 3, 1) := by decide +kernel
theorem dX11_log_21 : decode cX11_log 21 = .ok (.if_icmp .le 5, 3) := by decide +kernel
theorem dX11_log_24 : decode cX11_log 24 = .ok (.iconst (-1), 1) := by decide +kernel
theorem dX11_log_25 : decode cX11_log 25 = .ok (.ireturn, 1) := by decide +kernel
theorem dX11_log_26 : decode cX11_log 26 = .ok (.aload_n 0, 1) := by decide +kernel
theorem dX11_log_27 : decode cX11_log 27 = .ok (.getfield 42, 3) := by decide +kernel
theorem dX11_log_30 : decode cX11_log 30 = .ok (.iload_n 1, 1) := by decide +kernel
theorem dX11_log_31 : decode cX11_log 31 = .ok (.iload_n 2, 1) := by decide +kernel
theorem dX11_log_32 : decode cX11_log 32 = .ok (.invokevirtual 276, 3) := by decide +kernel
theorem dX11_log_35 : decode cX11_log 35 = .ok (.ireturn, 1) := by decide +kernel
theorem dX11_meets_0 : decode cX11_meets 0 = .ok (.aload_n 0, 1) := by decide +kernel
theorem dX11_meets_1 : decode cX11_meets 1 = .ok (.invokevirtual 136, 3) := by decide +kernel
theorem dX11_meets_4 : decode cX11_meets 4 = .ok (.ifCond .ne 32, 3) := by decide +kernel
theorem dX11_meets_7 : decode cX11_meets 7 = .ok (.iload_n 1, 1) := by decide +kernel
theorem dX11_meets_8 : decode cX11_meets 8 = .ok (.iconst 1, 1) := by decide +kernel
theorem dX11_meets_9 : decode cX11_meets 9 = .ok (.if_icmp .lt 27, 3) := by decide +kernel
theorem dX11_meets_12 : decode cX11_meets 12 = .ok (.iload_n 1, 1) := by decide +kernel
theorem dX11_meets_13 : decode cX11_meets 13 = .ok (.bipush 9, 2) := by decide +kernel
theorem dX11_meets_15 : decode cX11_meets 15 = .ok (.if_icmp .gt 21, 3) := by decide +kernel
theorem dX11_meets_18 : decode cX11_meets 18 = .ok (.iload_n 2, 1) := by decide +kernel
theorem dX11_meets_19 : decode cX11_meets 19 = .ok (.ifCond .lt 17, 3) := by decide +kernel
theorem dX11_meets_22 : decode cX11_meets 22 = .ok (.iload_n 2, 1) := by decide +kernel
theorem dX11_meets_23 : decode cX11_meets 23 = .ok (.aload_n 0, 1) := by decide +kernel
theorem dX11_meets_24 : decode cX11_meets 24 = .ok (.getfield 28, 3) := by decide +kernel
theorem dX11_meets_27 : decode cX11_meets 27 = .ok (.getfield 127, 3) := by decide +kernel
theorem dX11_meets_30 : decode cX11_meets 30 = .ok (.getfield 131, 3) := by decide +kernel
theorem dX11_meets_33 : decode cX11_meets 33 = .ok (.if_icmp .lt 5, 3) := by decide +kernel
theorem dX11_meets_36 : decode cX11_meets 36 = .ok (.iconst (-1), 1) := by decide +kernel
theorem dX11_meets_37 : decode cX11_meets 37 = .ok (.ireturn, 1) := by decide +kernel
theorem dX11_meets_38 : decode cX11_meets 38 = .ok (.aload_n 0, 1) := by decide +kernel
theorem dX11_meets_39 : decode cX11_meets 39 = .ok (.getfield 83, 3) := by decide +kernel
theorem dX11_meets_42 : decode cX11_meets 42 = .ok (.aload_n 0, 1) := by decide +kernel
theorem dX11_meets_43 : decode cX11_meets 43 = .ok (.getfield 28, 3) := by decide +kernel
theorem dX11_meets_46 : decode cX11_meets 46 = .ok (.iload_n 1, 1) := by decide +kernel
theorem dX11_meets_47 : decode cX11_meets 47 = .ok (.invokevirtual 315, 3) := by decide +kernel
theorem dX11_meets_50 : decode cX11_meets 50 = .ok (.aload_n 0, 1) := by decide +kernel
theorem dX11_meets_51 : decode cX11_meets 51 = .ok (.getfield 83, 3) := by decide +kernel
theorem dX11_meets_54 : decode cX11_meets 54 = .ok (.iload_n 2, 1) := by decide +kernel
theorem dX11_meets_55 : decode cX11_meets 55 = .ok (.invokevirtual 322, 3) := by decide +kernel
theorem dX11_meets_58 : decode cX11_meets 58 = .ok (.ireturn, 1) := by decide +kernel
theorem dX11_most_0 : decode cX11_most 0 = .ok (.aload_n 0, 1) := by decide +kernel
theorem dX11_most_1 : decode cX11_most 1 = .ok (.invokevirtual 136, 3) := by decide +kernel
theorem dX11_most_4 : decode cX11_most 4 = .ok (.ifCond .eq 5, 3) := by decide +kernel
theorem dX11_most_7 : decode cX11_most 7 = .ok (.iconst (-1), 1) := by decide +kernel
theorem dX11_most_8 : decode cX11_most 8 = .ok (.ireturn, 1) := by decide +kernel
theorem dX11_most_9 : decode cX11_most 9 = .ok (.iload_n 1, 1) := by decide +kernel
theorem dX11_most_10 : decode cX11_most 10 = .ok (.tableswitch 159 0 7 #[46, 57, 68, 83, 94, 115, 137, 148], 46) := by decide +kernel
theorem dX11_most_56 : decode cX11_most 56 = .ok (.aload_n 0, 1) := by decide +kernel
theorem dX11_most_57 : decode cX11_most 57 = .ok (.getfield 28, 3) := by decide +kernel
theorem dX11_most_60 : decode cX11_most 60 = .ok (.getfield 127, 3) := by decide +kernel
theorem dX11_most_63 : decode cX11_most 63 = .ok (.invokevirtual 361, 3) := by decide +kernel
theorem dX11_most_66 : decode cX11_most 66 = .ok (.ireturn, 1) := by decide +kernel
theorem dX11_most_67 : decode cX11_most 67 = .ok (.aload_n 0, 1) := by decide +kernel
theorem dX11_most_68 : decode cX11_most 68 = .ok (.getfield 28, 3) := by decide +kernel
theorem dX11_most_71 : decode cX11_most 71 = .ok (.getfield 127, 3) := by decide +kernel
theorem dX11_most_74 : decode cX11_most 74 = .ok (.invokevirtual 364, 3) := by decide +kernel
theorem dX11_most_77 : decode cX11_most 77 = .ok (.ireturn, 1) := by decide +kernel
theorem dX11_most_78 : decode cX11_most 78 = .ok (.aload_n 0, 1) := by decide +kernel
theorem dX11_most_79 : decode cX11_most 79 = .ok (.getfield 28, 3) := by decide +kernel
theorem dX11_most_82 : decode cX11_most 82 = .ok (.getfield 127, 3) := by decide +kernel
theorem dX11_most_85 : decode cX11_most 85 = .ok (.aload_n 0, 1) := by decide +kernel
theorem dX11_most_86 : decode cX11_most 86 = .ok (.getfield 35, 3) := by decide +kernel
theorem dX11_most_89 : decode cX11_most 89 = .ok (.invokevirtual 367, 3) := by decide +kernel
theorem dX11_most_92 : decode cX11_most 92 = .ok (.ireturn, 1) := by decide +kernel
theorem dX11_most_93 : decode cX11_most 93 = .ok (.aload_n 0, 1) := by decide +kernel
theorem dX11_most_94 : decode cX11_most 94 = .ok (.getfield 28, 3) := by decide +kernel
theorem dX11_most_97 : decode cX11_most 97 = .ok (.getfield 127, 3) := by decide +kernel
theorem dX11_most_100 : decode cX11_most 100 = .ok (.invokevirtual 370, 3) := by decide +kernel
theorem dX11_most_103 : decode cX11_most 103 = .ok (.ireturn, 1) := by decide +kernel
theorem dX11_most_104 : decode cX11_most 104 = .ok (.aload_n 0, 1) := by decide +kernel
theorem dX11_most_105 : decode cX11_most 105 = .ok (.getfield 28, 3) := by decide +kernel
theorem dX11_most_108 : decode cX11_most 108 = .ok (.getfield 127, 3) := by decide +kernel
theorem dX11_most_111 : decode cX11_most 111 = .ok (.aload_n 0, 1) := by decide +kernel
theorem dX11_most_112 : decode cX11_most 112 = .ok (.getfield 28, 3) := by decide +kernel
theorem dX11_most_115 : decode cX11_most 115 = .ok (.getfield 127, 3) := by decide +kernel
theorem dX11_most_118 : decode cX11_most 118 = .ok (.invokevirtual 370, 3) := by decide +kernel
theorem dX11_most_121 : decode cX11_most 121 = .ok (.invokevirtual 373, 3) := by decide +kernel
theorem dX11_most_124 : decode cX11_most 124 = .ok (.ireturn, 1) := by decide +kernel
theorem dX11_most_125 : decode cX11_most 125 = .ok (.aload_n 0, 1) := by decide +kernel
theorem dX11_most_126 : decode cX11_most 126 = .ok (.getfield 76, 3) := by decide +kernel
theorem dX11_most_129 : decode cX11_most 129 = .ok (.aload_n 0, 1) := by decide +kernel
theorem dX11_most_130 : decode cX11_most 130 = .ok (.getfield 28, 3) := by decide +kernel
theorem dX11_most_133 : decode cX11_most 133 = .ok (.getfield 141, 3) := by decide +kernel
theorem dX11_most_136 : decode cX11_most 136 = .ok (.invokevirtual 162, 3) := by decide +kernel
theorem dX11_most_139 : decode cX11_most 139 = .ok (.aload_n 0, 1) := by decide +kernel
theorem dX11_most_140 : decode cX11_most 140 = .ok (.getfield 76, 3) := by decide +kernel
theorem dX11_most_143 : decode cX11_most 143 = .ok (.invokevirtual 376, 3) := by decide +kernel
theorem dX11_most_146 : decode cX11_most 146 = .ok (.ireturn, 1) := by decide +kernel
theorem dX11_most_147 : decode cX11_most 147 = .ok (.aload_n 0, 1) := by decide +kernel
theorem dX11_most_148 : decode cX11_most 148 = .ok (.getfield 28, 3) := by decide +kernel
theorem dX11_most_151 : decode cX11_most 151 = .ok (.getfield 127, 3) := by decide +kernel
theorem dX11_most_154 : decode cX11_most 154 = .ok (.invokevirtual 379, 3) := by decide +kernel
theorem dX11_most_157 : decode cX11_most 157 = .ok (.ireturn, 1) := by decide +kernel
theorem dX11_most_158 : decode cX11_most 158 = .ok (.aload_n 0, 1) := by decide +kernel
theorem dX11_most_159 : decode cX11_most 159 = .ok (.getfield 28, 3) := by decide +kernel
theorem dX11_most_162 : decode cX11_most 162 = .ok (.getfield 127, 3) := by decide +kernel
theorem dX11_most_165 : decode cX11_most 165 = .ok (.invokevirtual 382, 3) := by decide +kernel
theorem dX11_most_168 : decode cX11_most 168 = .ok (.ireturn, 1) := by decide +kernel
theorem dX11_most_169 : decode cX11_most 169 = .ok (.iconst (-1), 1) := by decide +kernel
theorem dX11_most_170 : decode cX11_most 170 = .ok (.ireturn, 1) := by decide +kernel
theorem dX11_move_0 : decode cX11_move 0 = .ok (.aload_n 0, 1) := by decide +kernel
theorem dX11_move_1 : decode cX11_move 1 = .ok (.invokevirtual 136, 3) := by decide +kernel
theorem dX11_move_4 : decode cX11_move 4 = .ok (.ifCond .eq 9, 3) := by decide +kernel
theorem dX11_move_7 : decode cX11_move 7 = .ok (.aload_n 0, 1) := by decide +kernel
theorem dX11_move_8 : decode cX11_move 8 = .ok (.iconst 0, 1) := by decide +kernel
theorem dX11_move_9 : decode cX11_move 9 = .ok (.invokevirtual 243, 3) := by decide +kernel
theorem dX11_move_12 : decode cX11_move 12 = .ok (.ireturn, 1) := by decide +kernel
theorem dX11_move_13 : decode cX11_move 13 = .ok (.aload_n 0, 1) := by decide +kernel
theorem dX11_move_14 : decode cX11_move 14 = .ok (.getfield 28, 3) := by decide +kernel
theorem dX11_move_17 : decode cX11_move 17 = .ok (.getfield 127, 3) := by decide +kernel
theorem dX11_move_20 : decode cX11_move 20 = .ok (.iload_n 1, 1) := by decide +kernel
theorem dX11_move_21 : decode cX11_move 21 = .ok (.iload_n 2, 1) := by decide +kernel
theorem dX11_move_22 : decode cX11_move 22 = .ok (.invokevirtual 192, 3) := by decide +kernel
theorem dX11_move_25 : decode cX11_move 25 = .ok (.iconst (-1), 1) := by decide +kernel
theorem dX11_move_26 : decode cX11_move 26 = .ok (.if_icmp .ne 9, 3) := by decide +kernel
theorem dX11_move_29 : decode cX11_move 29 = .ok (.aload_n 0, 1) := by decide +kernel
theorem dX11_move_30 : decode cX11_move 30 = .ok (.iconst 1, 1) := by decide +kernel
theorem dX11_move_31 : decode cX11_move 31 = .ok (.invokevirtual 243, 3) := by decide +kernel
theorem dX11_move_34 : decode cX11_move 34 = .ok (.ireturn, 1) := by decide +kernel
theorem dX11_move_35 : decode cX11_move 35 = .ok (.iload_n 3, 1) := by decide +kernel
theorem dX11_move_36 : decode cX11_move 36 = .ok (.ifCond .lt 19, 3) := by decide +kernel
theorem dX11_move_39 : decode cX11_move 39 = .ok (.iload_n 3, 1) := by decide +kernel
theorem dX11_move_40 : decode cX11_move 40 = .ok (.iconst 2, 1) := by decide +kernel
theorem dX11_move_41 : decode cX11_move 41 = .ok (.if_icmp .gt 14, 3) := by decide +kernel
theorem dX11_move_44 : decode cX11_move 44 = .ok (.iload 4, 2) := by decide +kernel
theorem dX11_move_46 : decode cX11_move 46 = .ok (.ifCond .lt 9, 3) := by decide +kernel
theorem dX11_move_49 : decode cX11_move 49 = .ok (.iload 4, 2) := by decide +kernel
theorem dX11_move_51 : decode cX11_move 51 = .ok (.iconst 3, 1) := by decide +kernel
theorem dX11_move_52 : decode cX11_move 52 = .ok (.if_icmp .le 9, 3) := by decide +kernel
theorem dX11_move_55 : decode cX11_move 55 = .ok (.aload_n 0, 1) := by decide +kernel
theorem dX11_move_56 : decode cX11_move 56 = .ok (.iconst 2, 1) := by decide +kernel
theorem dX11_move_57 : decode cX11_move 57 = .ok (.invokevirtual 243, 3) := by decide +kernel
theorem dX11_move_60 : decode cX11_move 60 = .ok (.ireturn, 1) := by decide +kernel
theorem dX11_move_61 : decode cX11_move 61 = .ok (.iload_n 3, 1) := by decide +kernel
theorem dX11_move_62 : decode cX11_move 62 = .ok (.iconst 2, 1) := by decide +kernel
theorem dX11_move_63 : decode cX11_move 63 = .ok (.if_icmp .ne 7, 3) := by decide +kernel
theorem dX11_move_66 : decode cX11_move 66 = .ok (.iconst 0, 1) := by decide +kernel
theorem dX11_move_67 : decode cX11_move 67 = .ok (.goto 16, 3) := by decide +kernel
theorem dX11_move_70 : decode cX11_move 70 = .ok (.aload_n 0, 1) := by decide +kernel
theorem dX11_move_71 : decode cX11_move 71 = .ok (.getfield 28, 3) := by decide +kernel
theorem dX11_move_74 : decode cX11_move 74 = .ok (.getfield 141, 3) := by decide +kernel
theorem dX11_move_77 : decode cX11_move 77 = .ok (.iload_n 1, 1) := by decide +kernel
theorem dX11_move_78 : decode cX11_move 78 = .ok (.iload_n 2, 1) := by decide +kernel
theorem dX11_move_79 : decode cX11_move 79 = .ok (.iconst 0, 1) := by decide +kernel
theorem dX11_move_80 : decode cX11_move 80 = .ok (.invokevirtual 195, 3) := by decide +kernel
theorem dX11_move_83 : decode cX11_move 83 = .ok (.istore 5, 2) := by decide +kernel
theorem dX11_move_85 : decode cX11_move 85 = .ok (.iload_n 3, 1) := by decide +kernel
theorem dX11_move_86 : decode cX11_move 86 = .ok (.iconst 1, 1) := by decide +kernel
theorem dX11_move_87 : decode cX11_move 87 = .ok (.if_icmp .ne 7, 3) := by decide +kernel
theorem dX11_move_90 : decode cX11_move 90 = .ok (.iconst 0, 1) := by decide +kernel
theorem dX11_move_91 : decode cX11_move 91 = .ok (.goto 16, 3) := by decide +kernel
theorem dX11_move_94 : decode cX11_move 94 = .ok (.aload_n 0, 1) := by decide +kernel
theorem dX11_move_95 : decode cX11_move 95 = .ok (.getfield 28, 3) := by decide +kernel
theorem dX11_move_98 : decode cX11_move 98 = .ok (.getfield 141, 3) := by decide +kernel
theorem dX11_move_101 : decode cX11_move 101 = .ok (.iload_n 1, 1) := by decide +kernel
theorem dX11_move_102 : decode cX11_move 102 = .ok (.iload_n 2, 1) := by decide +kernel
theorem dX11_move_103 : decode cX11_move 103 = .ok (.iconst 1, 1) := by decide +kernel
theorem dX11_move_104 : decode cX11_move 104 = .ok (.invokevirtual 195, 3) := by decide +kernel
theorem dX11_move_107 : decode cX11_move 107 = .ok (.istore 6, 2) := by decide +kernel
theorem dX11_move_109 : decode cX11_move 109 = .ok (.iload 5, 2) := by decide +kernel
theorem dX11_move_111 : decode cX11_move 111 = .ok (.ifCond .ne 14, 3) := by decide +kernel
theorem dX11_move_114 : decode cX11_move 114 = .ok (.iload 6, 2) := by decide +kernel
theorem dX11_move_116 : decode cX11_move 116 = .ok (.ifCond .ne 9, 3) := by decide +kernel
theorem dX11_move_119 : decode cX11_move 119 = .ok (.aload_n 0, 1) := by decide +kernel
theorem dX11_move_120 : decode cX11_move 120 = .ok (.iconst 2, 1) := by decide +kernel
theorem dX11_move_121 : decode cX11_move 121 = .ok (.invokevirtual 243, 3) := by decide +kernel
theorem dX11_move_124 : decode cX11_move 124 = .ok (.ireturn, 1) := by decide +kernel
theorem dX11_move_125 : decode cX11_move 125 = .ok (.aload_n 0, 1) := by decide +kernel
theorem dX11_move_126 : decode cX11_move 126 = .ok (.getfield 28, 3) := by decide +kernel
theorem dX11_move_129 : decode cX11_move 129 = .ok (.getfield 127, 3) := by decide +kernel
theorem dX11_move_132 : decode cX11_move 132 = .ok (.getfield 131, 3) := by decide +kernel
theorem dX11_move_135 : decode cX11_move 135 = .ok (.bipush 12, 2) := by decide +kernel
theorem dX11_move_137 : decode cX11_move 137 = .ok (.if_icmp .lt 24, 3) := by decide +kernel
theorem dX11_move_140 : decode cX11_move 140 = .ok (.aload_n 0, 1) := by decide +kernel
theorem dX11_move_141 : decode cX11_move 141 = .ok (.iload_n 1, 1) := by decide +kernel
theorem dX11_move_142 : decode cX11_move 142 = .ok (.iload_n 2, 1) := by decide +kernel
theorem dX11_move_143 : decode cX11_move 143 = .ok (.iload 5, 2) := by decide +kernel
theorem dX11_move_145 : decode cX11_move 145 = .ok (.iload 6, 2) := by decide +kernel
theorem dX11_move_147 : decode cX11_move 147 = .ok (.iload 4, 2) := by decide +kernel
theorem dX11_move_149 : decode cX11_move 149 = .ok (.invokevirtual 246, 3) := by decide +kernel
theorem dX11_move_152 : decode cX11_move 152 = .ok (.ifCond .eq 9, 3) := by decide +kernel
theorem dX11_move_155 : decode cX11_move 155 = .ok (.aload_n 0, 1) := by decide +kernel
theorem dX11_move_156 : decode cX11_move 156 = .ok (.iconst 3, 1) := by decide +kernel
theorem dX11_move_157 : decode cX11_move 157 = .ok (.invokevirtual 243, 3) := by decide +kernel
theorem dX11_move_160 : decode cX11_move 160 = .ok (.ireturn, 1) := by decide +kernel
theorem dX11_move_161 : decode cX11_move 161 = .ok (.aload_n 0, 1) := by decide +kernel
theorem dX11_move_162 : decode cX11_move 162 = .ok (.getfield 49, 3) := by decide +kernel
theorem dX11_move_165 : decode cX11_move 165 = .ok (.aload_n 0, 1) := by decide +kernel
theorem dX11_move_166 : decode cX11_move 166 = .ok (.getfield 28, 3) := by decide +kernel
theorem dX11_move_169 : decode cX11_move 169 = .ok (.getfield 141, 3) := by decide +kernel
theorem dX11_move_172 : decode cX11_move 172 = .ok (.aload_n 0, 1) := by decide +kernel
theorem dX11_move_173 : decode cX11_move 173 = .ok (.getfield 42, 3) := by decide +kernel
theorem dX11_move_176 : decode cX11_move 176 = .ok (.invokevirtual 250, 3) := by decide +kernel
theorem dX11_move_179 : decode cX11_move 179 = .ok (.aload_n 0, 1) := by decide +kernel
theorem dX11_move_180 : decode cX11_move 180 = .ok (.getfield 28, 3) := by decide +kernel
theorem dX11_move_183 : decode cX11_move 183 = .ok (.getfield 141, 3) := by decide +kernel
theorem dX11_move_186 : decode cX11_move 186 = .ok (.iload_n 1, 1) := by decide +kernel
theorem dX11_move_187 : decode cX11_move 187 = .ok (.iload_n 2, 1) := by decide +kernel
theorem dX11_move_188 : decode cX11_move 188 = .ok (.iload 5, 2) := by decide +kernel
theorem dX11_move_190 : decode cX11_move 190 = .ok (.iload 6, 2) := by decide +kernel
theorem dX11_move_192 : decode cX11_move 192 = .ok (.iload 4, 2) := by decide +kernel
theorem dX11_move_194 : decode cX11_move 194 = .ok (.invokevirtual 254, 3) := by decide +kernel
theorem dX11_move_197 : decode cX11_move 197 = .ok (.istore 7, 2) := by decide +kernel
theorem dX11_move_199 : decode cX11_move 199 = .ok (.aload_n 0, 1) := by decide +kernel
theorem dX11_move_200 : decode cX11_move 200 = .ok (.getfield 28, 3) := by decide +kernel
theorem dX11_move_203 : decode cX11_move 203 = .ok (.getfield 127, 3) := by decide +kernel
theorem dX11_move_206 : decode cX11_move 206 = .ok (.aload_n 0, 1) := by decide +kernel
theorem dX11_move_207 : decode cX11_move 207 = .ok (.getfield 28, 3) := by decide +kernel
theorem dX11_move_210 : decode cX11_move 210 = .ok (.getfield 141, 3) := by decide +kernel
theorem dX11_move_213 : decode cX11_move 213 = .ok (.invokevirtual 257, 3) := by decide +kernel
theorem dX11_move_216 : decode cX11_move 216 = .ok (.iload 7, 2) := by decide +kernel
theorem dX11_move_218 : decode cX11_move 218 = .ok (.ifCond .eq 6, 3) := by decide +kernel
theorem dX11_move_221 : decode cX11_move 221 = .ok (.iload 7, 2) := by decide +kernel
theorem dX11_move_223 : decode cX11_move 223 = .ok (.ireturn, 1) := by decide +kernel
theorem dX11_move_224 : decode cX11_move 224 = .ok (.iload 5, 2) := by decide +kernel
theorem dX11_move_226 : decode cX11_move 226 = .ok (.iload 6, 2) := by decide +kernel
theorem dX11_move_228 : decode cX11_move 228 = .ok (.invokestatic 258, 3) := by decide +kernel
theorem dX11_move_231 : decode cX11_move 231 = .ok (.iload 4, 2) := by decide +kernel
theorem dX11_move_233 : decode cX11_move 233 = .ok (.iconst 2, 1) := by decide +kernel
theorem dX11_move_234 : decode cX11_move 234 = .ok (.irem, 1) := by decide +kernel
theorem dX11_move_235 : decode cX11_move 235 = .ok (.if_icmp .ne 7, 3) := by decide +kernel
theorem dX11_move_238 : decode cX11_move 238 = .ok (.iconst 0, 1) := by decide +kernel
theorem dX11_move_239 : decode cX11_move 239 = .ok (.goto 4, 3) := by decide +kernel
theorem dX11_move_242 : decode cX11_move 242 = .ok (.iconst 1, 1) := by decide +kernel
theorem dX11_move_243 : decode cX11_move 243 = .ok (.ireturn, 1) := by decide +kernel
theorem dX11_nextState_0 : decode cX11_nextState 0 = .ok (.lload_n 0, 1) := by decide +kernel
theorem dX11_nextState_1 : decode cX11_nextState 1 = .ok (.ldc2_w 388, 3) := by decide +kernel
theorem dX11_nextState_4 : decode cX11_nextState 4 = .ok (.lmul, 1) := by decide +kernel
theorem dX11_nextState_5 : decode cX11_nextState 5 = .ok (.ldc2_w 390, 3) := by decide +kernel
theorem dX11_nextState_8 : decode cX11_nextState 8 = .ok (.ladd, 1) := by decide +kernel
theorem dX11_nextState_9 : decode cX11_nextState 9 = .ok (.lreturn, 1) := by decide +kernel
theorem dX11_path_0 : decode cX11_path 0 = .ok (.aload_n 0, 1) := by decide +kernel
theorem dX11_path_1 : decode cX11_path 1 = .ok (.getfield 28, 3) := by decide +kernel
theorem dX11_path_4 : decode cX11_path 4 = .ok (.getfield 141, 3) := by decide +kernel
theorem dX11_path_7 : decode cX11_path 7 = .ok (.iload_n 1, 1) := by decide +kernel
theorem dX11_path_8 : decode cX11_path 8 = .ok (.iload_n 2, 1) := by decide +kernel
theorem dX11_path_9 : decode cX11_path 9 = .ok (.invokevirtual 207, 3) := by decide +kernel
theorem dX11_path_12 : decode cX11_path 12 = .ok (.ifCond .ne 5, 3) := by decide +kernel
theorem dX11_path_15 : decode cX11_path 15 = .ok (.iconst (-1), 1) := by decide +kernel
theorem dX11_path_16 : decode cX11_path 16 = .ok (.ireturn, 1) := by decide +kernel
theorem dX11_path_17 : decode cX11_path 17 = .ok (.iload_n 1, 1) := by decide +kernel
theorem dX11_path_18 : decode cX11_path 18 = .ok (.istore_n 3, 1) := by decide +kernel
theorem dX11_path_19 : decode cX11_path 19 = .ok (.iload_n 2, 1) := by decide +kernel
theorem dX11_path_20 : decode cX11_path 20 = .ok (.istore 4, 2) := by decide +kernel
theorem dX11_path_22 : decode cX11_path 22 = .ok (.iconst 0, 1) := by decide +kernel
theorem dX11_path_23 : decode cX11_path 23 = .ok (.istore 5, 2) := by decide +kernel
theorem dX11_path_25 : decode cX11_path 25 = .ok (.iconst 0, 1) := by decide +kernel
theorem dX11_path_26 : decode cX11_path 26 = .ok (.istore 6, 2) := by decide +kernel
theorem dX11_path_28 : decode cX11_path 28 = .ok (.iconst 0, 1) := by decide +kernel
theorem dX11_path_29 : decode cX11_path 29 = .ok (.istore 7, 2) := by decide +kernel
theorem dX11_path_31 : decode cX11_path 31 = .ok (.iload 7, 2) := by decide +kernel
theorem dX11_path_33 : decode cX11_path 33 = .ok (.aload_n 0, 1) := by decide +kernel
theorem dX11_path_34 : decode cX11_path 34 = .ok (.getfield 10, 3) := by decide +kernel
theorem dX11_path_37 : decode cX11_path 37 = .ok (.getfield 91, 3) := by decide +kernel
theorem dX11_path_40 : decode cX11_path 40 = .ok (.if_icmp .ge 143, 3) := by decide +kernel
theorem dX11_path_43 : decode cX11_path 43 = .ok (.iload 7, 2) := by decide +kernel
theorem dX11_path_45 : decode cX11_path 45 = .ok (.bipush 120, 2) := by decide +kernel
theorem dX11_path_47 : decode cX11_path 47 = .ok (.if_icmp .ge 18, 3) := by decide +kernel
theorem dX11_path_50 : decode cX11_path 50 = .ok (.aload_n 0, 1) := by decide +kernel
theorem dX11_path_51 : decode cX11_path 51 = .ok (.getfield 10, 3) := by decide +kernel
theorem dX11_path_54 : decode cX11_path 54 = .ok (.iload 7, 2) := by decide +kernel
theorem dX11_path_56 : decode cX11_path 56 = .ok (.invokevirtual 228, 3) := by decide +kernel
theorem dX11_path_59 : decode cX11_path 59 = .ok (.invokestatic 231, 3) := by decide +kernel
theorem dX11_path_62 : decode cX11_path 62 = .ok (.goto 4, 3) := by decide +kernel
theorem dX11_path_65 : decode cX11_path 65 = .ok (.iconst (-1), 1) := by decide +kernel
theorem dX11_path_66 : decode cX11_path 66 = .ok (.istore 8, 2) := by decide +kernel
theorem dX11_path_68 : decode cX11_path 68 = .ok (.iload 8, 2) := by decide +kernel
theorem dX11_path_70 : decode cX11_path 70 = .ok (.ifCond .lt 39, 3) := by decide +kernel
theorem dX11_path_73 : decode cX11_path 73 = .ok (.iload 8, 2) := by decide +kernel
theorem dX11_path_75 : decode cX11_path 75 = .ok (.iconst 3, 1) := by decide +kernel
theorem dX11_path_76 : decode cX11_path 76 = .ok (.if_icmp .gt 33, 3) := by decide +kernel
theorem dX11_path_79 : decode cX11_path 79 = .ok (.aload_n 0, 1) := by decide +kernel
theorem dX11_path_80 : decode cX11_path 80 = .ok (.getfield 28, 3) := by decide +kernel
theorem dX11_path_83 : decode cX11_path 83 = .ok (.getfield 141, 3) := by decide +kernel
theorem dX11_path_86 : decode cX11_path 86 = .ok (.iload_n 3, 1) := by decide +kernel
theorem dX11_path_87 : decode cX11_path 87 = .ok (.getstatic 234, 3) := by decide +kernel
theorem dX11_path_90 : decode cX11_path 90 = .ok (.iload 8, 2) := by decide +kernel
theorem dX11_path_92 : decode cX11_path 92 = .ok (.iaload, 1) := by decide +kernel
theorem dX11_path_93 : decode cX11_path 93 = .ok (.iadd, 1) := by decide +kernel
theorem dX11_path_94 : decode cX11_path 94 = .ok (.iload 4, 2) := by decide +kernel
theorem dX11_path_96 : decode cX11_path 96 = .ok (.getstatic 237, 3) := by decide +kernel
theorem dX11_path_99 : decode cX11_path 99 = .ok (.iload 8, 2) := by decide +kernel
theorem dX11_path_101 : decode cX11_path 101 = .ok (.iaload, 1) := by decide +kernel
theorem dX11_path_102 : decode cX11_path 102 = .ok (.iadd, 1) := by decide +kernel
theorem dX11_path_103 : decode cX11_path 103 = .ok (.invokevirtual 207, 3) := by decide +kernel
theorem dX11_path_106 : decode cX11_path 106 = .ok (.ifCond .ne 9, 3) := by decide +kernel
theorem dX11_path_109 : decode cX11_path 109 = .ok (.bipush (-2), 2) := by decide +kernel
theorem dX11_path_111 : decode cX11_path 111 = .ok (.iload 7, 2) := by decide +kernel
theorem dX11_path_113 : decode cX11_path 113 = .ok (.isub, 1) := by decide +kernel
theorem dX11_path_114 : decode cX11_path 114 = .ok (.ireturn, 1) := by decide +kernel
theorem dX11_path_115 : decode cX11_path 115 = .ok (.iload 5, 2) := by decide +kernel
theorem dX11_path_117 : decode cX11_path 117 = .ok (.aload_n 0, 1) := by decide +kernel
theorem dX11_path_118 : decode cX11_path 118 = .ok (.getfield 28, 3) := by decide +kernel
theorem dX11_path_121 : decode cX11_path 121 = .ok (.getfield 141, 3) := by decide +kernel
theorem dX11_path_124 : decode cX11_path 124 = .ok (.iload_n 3, 1) := by decide +kernel
theorem dX11_path_125 : decode cX11_path 125 = .ok (.iload 4, 2) := by decide +kernel
theorem dX11_path_127 : decode cX11_path 127 = .ok (.iload 8, 2) := by decide +kernel
theorem dX11_path_129 : decode cX11_path 129 = .ok (.iconst 0, 1) := by decide +kernel
theorem dX11_path_130 : decode cX11_path 130 = .ok (.invokevirtual 240, 3) := by decide +kernel
theorem dX11_path_133 : decode cX11_path 133 = .ok (.iadd, 1) := by decide +kernel
theorem dX11_path_134 : decode cX11_path 134 = .ok (.istore 5, 2) := by decide +kernel
theorem dX11_path_136 : decode cX11_path 136 = .ok (.iload 6, 2) := by decide +kernel
theorem dX11_path_138 : decode cX11_path 138 = .ok (.aload_n 0, 1) := by decide +kernel
theorem dX11_path_139 : decode cX11_path 139 = .ok (.getfield 28, 3) := by decide +kernel
theorem dX11_path_142 : decode cX11_path 142 = .ok (.getfield 141, 3) := by decide +kernel
theorem dX11_path_145 : decode cX11_path 145 = .ok (.iload_n 3, 1) := by decide +kernel
theorem dX11_path_146 : decode cX11_path 146 = .ok (.iload 4, 2) := by decide +kernel
theorem dX11_path_148 : decode cX11_path 148 = .ok (.iload 8, 2) := by decide +kernel
theorem dX11_path_150 : decode cX11_path 150 = .ok (.iconst 1, 1) := by decide +kernel
theorem dX11_path_151 : decode cX11_path 151 = .ok (.invokevirtual 240, 3) := by decide +kernel
theorem dX11_path_154 : decode cX11_path 154 = .ok (.iadd, 1) := by decide +kernel
theorem dX11_path_155 : decode cX11_path 155 = .ok (.istore 6, 2) := by decide +kernel
theorem dX11_path_157 : decode cX11_path 157 = .ok (.iload_n 3, 1) := by decide +kernel
theorem dX11_path_158 : decode cX11_path 158 = .ok (.getstatic 234, 3) := by decide +kernel
theorem dX11_path_161 : decode cX11_path 161 = .ok (.iload 8, 2) := by decide +kernel
theorem dX11_path_163 : decode cX11_path 163 = .ok (.iaload, 1) := by decide +kernel
theorem dX11_path_164 : decode cX11_path 164 = .ok (.iadd, 1) := by decide +kernel
theorem dX11_path_165 : decode cX11_path 165 = .ok (.istore_n 3, 1) := by decide +kernel
theorem dX11_path_166 : decode cX11_path 166 = .ok (.iload 4, 2) := by decide +kernel
theorem dX11_path_168 : decode cX11_path 168 = .ok (.getstatic 237, 3) := by decide +kernel
theorem dX11_path_171 : decode cX11_path 171 = .ok (.iload 8, 2) := by decide +kernel
theorem dX11_path_173 : decode cX11_path 173 = .ok (.iaload, 1) := by decide +kernel
theorem dX11_path_174 : decode cX11_path 174 = .ok (.iadd, 1) := by decide +kernel
theorem dX11_path_175 : decode cX11_path 175 = .ok (.istore 4, 2) := by decide +kernel
theorem dX11_path_177 : decode cX11_path 177 = .ok (.iinc 7 1, 3) := by decide +kernel
theorem dX11_path_180 : decode cX11_path 180 = .ok (.goto (-149), 3) := by decide +kernel
theorem dX11_path_183 : decode cX11_path 183 = .ok (.aload_n 0, 1) := by decide +kernel
theorem dX11_path_184 : decode cX11_path 184 = .ok (.getfield 60, 3) := by decide +kernel
theorem dX11_path_187 : decode cX11_path 187 = .ok (.iconst 0, 1) := by decide +kernel
theorem dX11_path_188 : decode cX11_path 188 = .ok (.iload 5, 2) := by decide +kernel
theorem dX11_path_190 : decode cX11_path 190 = .ok (.iastore, 1) := by decide +kernel
theorem dX11_path_191 : decode cX11_path 191 = .ok (.aload_n 0, 1) := by decide +kernel
theorem dX11_path_192 : decode cX11_path 192 = .ok (.getfield 60, 3) := by decide +kernel
theorem dX11_path_195 : decode cX11_path 195 = .ok (.iconst 1, 1) := by decide +kernel
theorem dX11_path_196 : decode cX11_path 196 = .ok (.iload 6, 2) := by decide +kernel
theorem dX11_path_198 : decode cX11_path 198 = .ok (.iastore, 1) := by decide +kernel
theorem dX11_path_199 : decode cX11_path 199 = .ok (.aload_n 0, 1) := by decide +kernel
theorem dX11_path_200 : decode cX11_path 200 = .ok (.getfield 60, 3) := by decide +kernel
theorem dX11_path_203 : decode cX11_path 203 = .ok (.iconst 2, 1) := by decide +kernel
theorem dX11_path_204 : decode cX11_path 204 = .ok (.aload_n 0, 1) := by decide +kernel
theorem dX11_path_205 : decode cX11_path 205 = .ok (.getfield 10, 3) := by decide +kernel
theorem dX11_path_208 : decode cX11_path 208 = .ok (.getfield 91, 3) := by decide +kernel
theorem dX11_path_211 : decode cX11_path 211 = .ok (.iastore, 1) := by decide +kernel
theorem dX11_path_212 : decode cX11_path 212 = .ok (.aload_n 0, 1) := by decide +kernel
theorem dX11_path_213 : decode cX11_path 213 = .ok (.getfield 60, 3) := by decide +kernel
theorem dX11_path_216 : decode cX11_path 216 = .ok (.iconst 3, 1) := by decide +kernel
theorem dX11_path_217 : decode cX11_path 217 = .ok (.iload_n 3, 1) := by decide +kernel
theorem dX11_path_218 : decode cX11_path 218 = .ok (.iastore, 1) := by decide +kernel
theorem dX11_path_219 : decode cX11_path 219 = .ok (.aload_n 0, 1) := by decide +kernel
theorem dX11_path_220 : decode cX11_path 220 = .ok (.getfield 60, 3) := by decide +kernel
theorem dX11_path_223 : decode cX11_path 223 = .ok (.iconst 4, 1) := by decide +kernel
theorem dX11_path_224 : decode cX11_path 224 = .ok (.iload 4, 2) := by decide +kernel
theorem dX11_path_226 : decode cX11_path 226 = .ok (.iastore, 1) := by decide +kernel
theorem dX11_path_227 : decode cX11_path 227 = .ok (.aload_n 0, 1) := by decide +kernel
theorem dX11_path_228 : decode cX11_path 228 = .ok (.iconst 1, 1) := by decide +kernel
theorem dX11_path_229 : decode cX11_path 229 = .ok (.putfield 124, 3) := by decide +kernel
theorem dX11_path_232 : decode cX11_path 232 = .ok (.aload_n 0, 1) := by decide +kernel
theorem dX11_path_233 : decode cX11_path 233 = .ok (.getfield 10, 3) := by decide +kernel
theorem dX11_path_236 : decode cX11_path 236 = .ok (.iconst 0, 1) := by decide +kernel
theorem dX11_path_237 : decode cX11_path 237 = .ok (.putfield 91, 3) := by decide +kernel
theorem dX11_path_240 : decode cX11_path 240 = .ok (.iload_n 3, 1) := by decide +kernel
theorem dX11_path_241 : decode cX11_path 241 = .ok (.iload_n 1, 1) := by decide +kernel
theorem dX11_path_242 : decode cX11_path 242 = .ok (.if_icmp .ne 13, 3) := by decide +kernel
theorem dX11_path_245 : decode cX11_path 245 = .ok (.iload 4, 2) := by decide +kernel
theorem dX11_path_247 : decode cX11_path 247 = .ok (.iload_n 2, 1) := by decide +kernel
theorem dX11_path_248 : decode cX11_path 248 = .ok (.if_icmp .ne 7, 3) := by decide +kernel
theorem dX11_path_251 : decode cX11_path 251 = .ok (.iconst 1, 1) := by decide +kernel
theorem dX11_path_252 : decode cX11_path 252 = .ok (.goto 4, 3) := by decide +kernel
theorem dX11_path_255 : decode cX11_path 255 = .ok (.iconst 0, 1) := by decide +kernel
theorem dX11_path_256 : decode cX11_path 256 = .ok (.ireturn, 1) := by decide +kernel
theorem dX11_refuse_0 : decode cX11_refuse 0 = .ok (.iload_n 1, 1) := by decide +kernel
theorem dX11_refuse_1 : decode cX11_refuse 1 = .ok (.ifCond .lt 22, 3) := by decide +kernel
theorem dX11_refuse_4 : decode cX11_refuse 4 = .ok (.iload_n 1, 1) := by decide +kernel
theorem dX11_refuse_5 : decode cX11_refuse 5 = .ok (.aload_n 0, 1) := by decide +kernel
theorem dX11_refuse_6 : decode cX11_refuse 6 = .ok (.getfield 63, 3) := by decide +kernel
theorem dX11_refuse_9 : decode cX11_refuse 9 = .ok (.arraylength, 1) := by decide +kernel
theorem dX11_refuse_10 : decode cX11_refuse 10 = .ok (.if_icmp .ge 13, 3) := by decide +kernel
theorem dX11_refuse_13 : decode cX11_refuse 13 = .ok (.aload_n 0, 1) := by decide +kernel
theorem dX11_refuse_14 : decode cX11_refuse 14 = .ok (.getfield 63, 3) := by decide +kernel
theorem dX11_refuse_17 : decode cX11_refuse 17 = .ok (.iload_n 1, 1) := by decide +kernel
theorem dX11_refuse_18 : decode cX11_refuse 18 = .ok (.dup2, 1) := by decide +kernel
theorem dX11_refuse_19 : decode cX11_refuse 19 = .ok (.iaload, 1) := by decide +kernel
theorem dX11_refuse_20 : decode cX11_refuse 20 = .ok (.iconst 1, 1) := by decide +kernel
theorem dX11_refuse_21 : decode cX11_refuse 21 = .ok (.iadd, 1) := by decide +kernel
theorem dX11_refuse_22 : decode cX11_refuse 22 = .ok (.iastore, 1) := by decide +kernel
theorem dX11_refuse_23 : decode cX11_refuse 23 = .ok (.iconst (-1), 1) := by decide +kernel
theorem dX11_refuse_24 : decode cX11_refuse 24 = .ok (.ireturn, 1) := by decide +kernel
theorem dX11_rests_0 : decode cX11_rests 0 = .ok (.aload_n 0, 1) := by decide +kernel
theorem dX11_rests_1 : decode cX11_rests 1 = .ok (.invokevirtual 136, 3) := by decide +kernel
theorem dX11_rests_4 : decode cX11_rests 4 = .ok (.ifCond .eq 5, 3) := by decide +kernel
theorem dX11_rests_7 : decode cX11_rests 7 = .ok (.iconst (-1), 1) := by decide +kernel
theorem dX11_rests_8 : decode cX11_rests 8 = .ok (.ireturn, 1) := by decide +kernel
theorem dX11_rests_9 : decode cX11_rests 9 = .ok (.aload_n 0, 1) := by decide +kernel
theorem dX11_rests_10 : decode cX11_rests 10 = .ok (.getfield 32, 3) := by decide +kernel
theorem dX11_rests_13 : decode cX11_rests 13 = .ok (.aload_n 0, 1) := by decide +kernel
theorem dX11_rests_14 : decode cX11_rests 14 = .ok (.getfield 28, 3) := by decide +kernel
theorem dX11_rests_17 : decode cX11_rests 17 = .ok (.invokevirtual 325, 3) := by decide +kernel
theorem dX11_rests_20 : decode cX11_rests 20 = .ok (.iconst 0, 1) := by decide +kernel
theorem dX11_rests_21 : decode cX11_rests 21 = .ok (.istore_n 1, 1) := by decide +kernel
theorem dX11_rests_22 : decode cX11_rests 22 = .ok (.iload_n 1, 1) := by decide +kernel
theorem dX11_rests_23 : decode cX11_rests 23 = .ok (.bipush 40, 2) := by decide +kernel
theorem dX11_rests_25 : decode cX11_rests 25 = .ok (.if_icmp .gt 45, 3) := by decide +kernel
theorem dX11_rests_28 : decode cX11_rests 28 = .ok (.aload_n 0, 1) := by decide +kernel
theorem dX11_rests_29 : decode cX11_rests 29 = .ok (.getfield 32, 3) := by decide +kernel
theorem dX11_rests_32 : decode cX11_rests 32 = .ok (.getfield 127, 3) := by decide +kernel
theorem dX11_rests_35 : decode cX11_rests 35 = .ok (.aload_n 0, 1) := by decide +kernel
theorem dX11_rests_36 : decode cX11_rests 36 = .ok (.getfield 35, 3) := by decide +kernel
theorem dX11_rests_39 : decode cX11_rests 39 = .ok (.invokevirtual 329, 3) := by decide +kernel
theorem dX11_rests_42 : decode cX11_rests 42 = .ok (.aload_n 0, 1) := by decide +kernel
theorem dX11_rests_43 : decode cX11_rests 43 = .ok (.getfield 35, 3) := by decide +kernel
theorem dX11_rests_46 : decode cX11_rests 46 = .ok (.iconst 2, 1) := by decide +kernel
theorem dX11_rests_47 : decode cX11_rests 47 = .ok (.iaload, 1) := by decide +kernel
theorem dX11_rests_48 : decode cX11_rests 48 = .ok (.if_icmp .gt 5, 3) := by decide +kernel
theorem dX11_rests_51 : decode cX11_rests 51 = .ok (.iload_n 1, 1) := by decide +kernel
theorem dX11_rests_52 : decode cX11_rests 52 = .ok (.ireturn, 1) := by decide +kernel
theorem dX11_rests_53 : decode cX11_rests 53 = .ok (.aload_n 0, 1) := by decide +kernel
theorem dX11_rests_54 : decode cX11_rests 54 = .ok (.getfield 32, 3) := by decide +kernel
theorem dX11_rests_57 : decode cX11_rests 57 = .ok (.aload_n 0, 1) := by decide +kernel
theorem dX11_rests_58 : decode cX11_rests 58 = .ok (.getfield 35, 3) := by decide +kernel
theorem dX11_rests_61 : decode cX11_rests 61 = .ok (.invokevirtual 264, 3) := by decide +kernel
theorem dX11_rests_64 : decode cX11_rests 64 = .ok (.iinc 1 1, 3) := by decide +kernel
theorem dX11_rests_67 : decode cX11_rests 67 = .ok (.goto (-45), 3) := by decide +kernel
theorem dX11_rests_70 : decode cX11_rests 70 = .ok (.iconst (-1), 1) := by decide +kernel
theorem dX11_rests_71 : decode cX11_rests 71 = .ok (.ireturn, 1) := by decide +kernel
theorem dX11_rid_0 : decode cX11_rid 0 = .ok (.aload_n 0, 1) := by decide +kernel
theorem dX11_rid_1 : decode cX11_rid 1 = .ok (.invokevirtual 136, 3) := by decide +kernel
theorem dX11_rid_4 : decode cX11_rid 4 = .ok (.ifCond .ne 14, 3) := by decide +kernel
theorem dX11_rid_7 : decode cX11_rid 7 = .ok (.iload_n 1, 1) := by decide +kernel
theorem dX11_rid_8 : decode cX11_rid 8 = .ok (.iconst 1, 1) := by decide +kernel
theorem dX11_rid_9 : decode cX11_rid 9 = .ok (.if_icmp .lt 9, 3) := by decide +kernel
theorem dX11_rid_12 : decode cX11_rid 12 = .ok (.iload_n 1, 1) := by decide +kernel
theorem dX11_rid_13 : decode cX11_rid 13 = .ok (.bipush 9, 2) := by decide +kernel
theorem dX11_rid_15 : decode cX11_rid 15 = .ok (.if_icmp .le 5, 3) := by decide +kernel
theorem dX11_rid_18 : decode cX11_rid 18 = .ok (.iconst (-1), 1) := by decide +kernel
theorem dX11_rid_19 : decode cX11_rid 19 = .ok (.ireturn, 1) := by decide +kernel
theorem dX11_rid_20 : decode cX11_rid 20 = .ok (.aload_n 0, 1) := by decide +kernel
theorem dX11_rid_21 : decode cX11_rid 21 = .ok (.getfield 83, 3) := by decide +kernel
theorem dX11_rid_24 : decode cX11_rid 24 = .ok (.aload_n 0, 1) := by decide +kernel
theorem dX11_rid_25 : decode cX11_rid 25 = .ok (.getfield 28, 3) := by decide +kernel
theorem dX11_rid_28 : decode cX11_rid 28 = .ok (.iload_n 1, 1) := by decide +kernel
theorem dX11_rid_29 : decode cX11_rid 29 = .ok (.invokevirtual 315, 3) := by decide +kernel
theorem dX11_rid_32 : decode cX11_rid 32 = .ok (.aload_n 0, 1) := by decide +kernel
theorem dX11_rid_33 : decode cX11_rid 33 = .ok (.getfield 83, 3) := by decide +kernel
theorem dX11_rid_36 : decode cX11_rid 36 = .ok (.getfield 319, 3) := by decide +kernel
theorem dX11_rid_39 : decode cX11_rid 39 = .ok (.ireturn, 1) := by decide +kernel
theorem dX11_rule_0 : decode cX11_rule 0 = .ok (.aload_n 0, 1) := by decide +kernel
theorem dX11_rule_1 : decode cX11_rule 1 = .ok (.invokevirtual 136, 3) := by decide +kernel
theorem dX11_rule_4 : decode cX11_rule 4 = .ok (.ifCond .eq 6, 3) := by decide +kernel
theorem dX11_rule_7 : decode cX11_rule 7 = .ok (.ldc 140, 2) := by decide +kernel
theorem dX11_rule_9 : decode cX11_rule 9 = .ok (.ireturn, 1) := by decide +kernel
theorem dX11_rule_10 : decode cX11_rule 10 = .ok (.iload_n 1, 1) := by decide +kernel
theorem dX11_rule_11 : decode cX11_rule 11 = .ok (.tableswitch 189 0 13 #[69, 80, 91, 91, 91, 91, 100, 111, 122, 130, 130, 145, 156, 178], 69) := by decide +kernel
theorem dX11_rule_80 : decode cX11_rule 80 = .ok (.aload_n 0, 1) := by decide +kernel
theorem dX11_rule_81 : decode cX11_rule 81 = .ok (.getfield 28, 3) := by decide +kernel
theorem dX11_rule_84 : decode cX11_rule 84 = .ok (.getfield 141, 3) := by decide +kernel
theorem dX11_rule_87 : decode cX11_rule 87 = .ok (.getfield 145, 3) := by decide +kernel
theorem dX11_rule_90 : decode cX11_rule 90 = .ok (.ireturn, 1) := by decide +kernel
theorem dX11_rule_91 : decode cX11_rule 91 = .ok (.aload_n 0, 1) := by decide +kernel
theorem dX11_rule_92 : decode cX11_rule 92 = .ok (.getfield 28, 3) := by decide +kernel
theorem dX11_rule_95 : decode cX11_rule 95 = .ok (.getfield 141, 3) := by decide +kernel
theorem dX11_rule_98 : decode cX11_rule 98 = .ok (.getfield 150, 3) := by decide +kernel
theorem dX11_rule_101 : decode cX11_rule 101 = .ok (.ireturn, 1) := by decide +kernel
theorem dX11_rule_102 : decode cX11_rule 102 = .ok (.aload_n 0, 1) := by decide +kernel
theorem dX11_rule_103 : decode cX11_rule 103 = .ok (.getfield 35, 3) := by decide +kernel
theorem dX11_rule_106 : decode cX11_rule 106 = .ok (.iload_n 1, 1) := by decide +kernel
theorem dX11_rule_107 : decode cX11_rule 107 = .ok (.iconst 2, 1) := by decide +kernel
theorem dX11_rule_108 : decode cX11_rule 108 = .ok (.isub, 1) := by decide +kernel
theorem dX11_rule_109 : decode cX11_rule 109 = .ok (.iaload, 1) := by decide +kernel
theorem dX11_rule_110 : decode cX11_rule 110 = .ok (.ireturn, 1) := by decide +kernel
theorem dX11_rule_111 : decode cX11_rule 111 = .ok (.aload_n 0, 1) := by decide +kernel
theorem dX11_rule_112 : decode cX11_rule 112 = .ok (.getfield 28, 3) := by decide +kernel
theorem dX11_rule_115 : decode cX11_rule 115 = .ok (.getfield 127, 3) := by decide +kernel
theorem dX11_rule_118 : decode cX11_rule 118 = .ok (.getfield 131, 3) := by decide +kernel
theorem dX11_rule_121 : decode cX11_rule 121 = .ok (.ireturn, 1) := by decide +kernel
theorem dX11_rule_122 : decode cX11_rule 122 = .ok (.aload_n 0, 1) := by decide +kernel
theorem dX11_rule_123 : decode cX11_rule 123 = .ok (.getfield 28, 3) := by decide +kernel
theorem dX11_rule_126 : decode cX11_rule 126 = .ok (.getfield 141, 3) := by decide +kernel
theorem dX11_rule_129 : decode cX11_rule 129 = .ok (.invokevirtual 153, 3) := by decide +kernel
theorem dX11_rule_132 : decode cX11_rule 132 = .ok (.ireturn, 1) := by decide +kernel
theorem dX11_rule_133 : decode cX11_rule 133 = .ok (.aload_n 0, 1) := by decide +kernel
theorem dX11_rule_134 : decode cX11_rule 134 = .ok (.getfield 42, 3) := by decide +kernel
theorem dX11_rule_137 : decode cX11_rule 137 = .ok (.getfield 114, 3) := by decide +kernel
theorem dX11_rule_140 : decode cX11_rule 140 = .ok (.ireturn, 1) := by decide +kernel
theorem dX11_rule_141 : decode cX11_rule 141 = .ok (.aload_n 0, 1) := by decide +kernel
theorem dX11_rule_142 : decode cX11_rule 142 = .ok (.getfield 28, 3) := by decide +kernel
theorem dX11_rule_145 : decode cX11_rule 145 = .ok (.getfield 141, 3) := by decide +kernel
theorem dX11_rule_148 : decode cX11_rule 148 = .ok (.iload_n 1, 1) := by decide +kernel
theorem dX11_rule_149 : decode cX11_rule 149 = .ok (.bipush 9, 2) := by decide +kernel
theorem dX11_rule_151 : decode cX11_rule 151 = .ok (.isub, 1) := by decide +kernel
theorem dX11_rule_152 : decode cX11_rule 152 = .ok (.invokevirtual 156, 3) := by decide +kernel
theorem dX11_rule_155 : decode cX11_rule 155 = .ok (.ireturn, 1) := by decide +kernel
theorem dX11_rule_156 : decode cX11_rule 156 = .ok (.aload_n 0, 1) := by decide +kernel
theorem dX11_rule_157 : decode cX11_rule 157 = .ok (.getfield 28, 3) := by decide +kernel
theorem dX11_rule_160 : decode cX11_rule 160 = .ok (.getfield 127, 3) := by decide +kernel
theorem dX11_rule_163 : decode cX11_rule 163 = .ok (.invokevirtual 159, 3) := by decide +kernel
theorem dX11_rule_166 : decode cX11_rule 166 = .ok (.ireturn, 1) := by decide +kernel
theorem dX11_rule_167 : decode cX11_rule 167 = .ok (.aload_n 0, 1) := by decide +kernel
theorem dX11_rule_168 : decode cX11_rule 168 = .ok (.getfield 76, 3) := by decide +kernel
theorem dX11_rule_171 : decode cX11_rule 171 = .ok (.aload_n 0, 1) := by decide +kernel
theorem dX11_rule_172 : decode cX11_rule 172 = .ok (.getfield 28, 3) := by decide +kernel
theorem dX11_rule_175 : decode cX11_rule 175 = .ok (.getfield 141, 3) := by decide +kernel
theorem dX11_rule_178 : decode cX11_rule 178 = .ok (.invokevirtual 162, 3) := by decide +kernel
theorem dX11_rule_181 : decode cX11_rule 181 = .ok (.aload_n 0, 1) := by decide +kernel
theorem dX11_rule_182 : decode cX11_rule 182 = .ok (.getfield 76, 3) := by decide +kernel
theorem dX11_rule_185 : decode cX11_rule 185 = .ok (.invokevirtual 166, 3) := by decide +kernel
theorem dX11_rule_188 : decode cX11_rule 188 = .ok (.ireturn, 1) := by decide +kernel
theorem dX11_rule_189 : decode cX11_rule 189 = .ok (.aload_n 0, 1) := by decide +kernel
theorem dX11_rule_190 : decode cX11_rule 190 = .ok (.getfield 28, 3) := by decide +kernel
theorem dX11_rule_193 : decode cX11_rule 193 = .ok (.getfield 127, 3) := by decide +kernel
theorem dX11_rule_196 : decode cX11_rule 196 = .ok (.invokevirtual 168, 3) := by decide +kernel
theorem dX11_rule_199 : decode cX11_rule 199 = .ok (.ireturn, 1) := by decide +kernel
theorem dX11_rule_200 : decode cX11_rule 200 = .ok (.ldc 140, 2) := by decide +kernel
theorem dX11_rule_202 : decode cX11_rule 202 = .ok (.ireturn, 1) := by decide +kernel
theorem dX11_set_0 : decode cX11_set 0 = .ok (.aload_n 0, 1) := by decide +kernel
theorem dX11_set_1 : decode cX11_set 1 = .ok (.invokevirtual 136, 3) := by decide +kernel
theorem dX11_set_4 : decode cX11_set 4 = .ok (.ifCond .eq 12, 3) := by decide +kernel
theorem dX11_set_7 : decode cX11_set 7 = .ok (.aload_n 0, 1) := by decide +kernel
theorem dX11_set_8 : decode cX11_set 8 = .ok (.iconst 0, 1) := by decide +kernel
theorem dX11_set_9 : decode cX11_set 9 = .ok (.invokevirtual 243, 3) := by decide +kernel
theorem dX11_set_12 : decode cX11_set 12 = .ok (.pop, 1) := by decide +kernel
theorem dX11_set_13 : decode cX11_set 13 = .ok (.ldc 140, 2) := by decide +kernel
theorem dX11_set_15 : decode cX11_set 15 = .ok (.ireturn, 1) := by decide +kernel
theorem dX11_set_16 : decode cX11_set 16 = .ok (.iload_n 1, 1) := by decide +kernel
theorem dX11_set_17 : decode cX11_set 17 = .ok (.ifCond .lt 30, 3) := by decide +kernel
theorem dX11_set_20 : decode cX11_set 20 = .ok (.iload_n 1, 1) := by decide +kernel
theorem dX11_set_21 : decode cX11_set 21 = .ok (.aload_n 0, 1) := by decide +kernel
theorem dX11_set_22 : decode cX11_set 22 = .ok (.getfield 35, 3) := by decide +kernel
theorem dX11_set_25 : decode cX11_set 25 = .ok (.arraylength, 1) := by decide +kernel
theorem dX11_set_26 : decode cX11_set 26 = .ok (.if_icmp .ge 21, 3) := by decide +kernel
theorem dX11_set_29 : decode cX11_set 29 = .ok (.iload_n 2, 1) := by decide +kernel
theorem dX11_set_30 : decode cX11_set 30 = .ok (.getstatic 299, 3) := by decide +kernel
theorem dX11_set_33 : decode cX11_set 33 = .ok (.iload_n 1, 1) := by decide +kernel
theorem dX11_set_34 : decode cX11_set 34 = .ok (.iaload, 1) := by decide +kernel
theorem dX11_set_35 : decode cX11_set 35 = .ok (.if_icmp .lt 12, 3) := by decide +kernel
theorem dX11_set_38 : decode cX11_set 38 = .ok (.iload_n 2, 1) := by decide +kernel
theorem dX11_set_39 : decode cX11_set 39 = .ok (.getstatic 302, 3) := by decide +kernel
theorem dX11_set_42 : decode cX11_set 42 = .ok (.iload_n 1, 1) := by decide +kernel
theorem dX11_set_43 : decode cX11_set 43 = .ok (.iaload, 1) := by decide +kernel
theorem dX11_set_44 : decode cX11_set 44 = .ok (.if_icmp .le 12, 3) := by decide +kernel
theorem dX11_set_47 : decode cX11_set 47 = .ok (.aload_n 0, 1) := by decide +kernel
theorem dX11_set_48 : decode cX11_set 48 = .ok (.iconst 2, 1) := by decide +kernel
theorem dX11_set_49 : decode cX11_set 49 = .ok (.invokevirtual 243, 3) := by decide +kernel
theorem dX11_set_52 : decode cX11_set 52 = .ok (.pop, 1) := by decide +kernel
theorem dX11_set_53 : decode cX11_set 53 = .ok (.ldc 140, 2) := by decide +kernel
theorem dX11_set_55 : decode cX11_set 55 = .ok (.ireturn, 1) := by decide +kernel
theorem dX11_set_56 : decode cX11_set 56 = .ok (.aload_n 0, 1) := by decide +kernel
theorem dX11_set_57 : decode cX11_set 57 = .ok (.getfield 35, 3) := by decide +kernel
theorem dX11_set_60 : decode cX11_set 60 = .ok (.iload_n 1, 1) := by decide +kernel
theorem dX11_set_61 : decode cX11_set 61 = .ok (.iaload, 1) := by decide +kernel
theorem dX11_set_62 : decode cX11_set 62 = .ok (.istore_n 3, 1) := by decide +kernel
theorem dX11_set_63 : decode cX11_set 63 = .ok (.aload_n 0, 1) := by decide +kernel
theorem dX11_set_64 : decode cX11_set 64 = .ok (.getfield 35, 3) := by decide +kernel
theorem dX11_set_67 : decode cX11_set 67 = .ok (.iload_n 1, 1) := by decide +kernel
theorem dX11_set_68 : decode cX11_set 68 = .ok (.iload_n 2, 1) := by decide +kernel
theorem dX11_set_69 : decode cX11_set 69 = .ok (.iastore, 1) := by decide +kernel
theorem dX11_set_70 : decode cX11_set 70 = .ok (.iload_n 3, 1) := by decide +kernel
theorem dX11_set_71 : decode cX11_set 71 = .ok (.ireturn, 1) := by decide +kernel
theorem dX11_shake_0 : decode cX11_shake 0 = .ok (.aload_n 0, 1) := by decide +kernel
theorem dX11_shake_1 : decode cX11_shake 1 = .ok (.invokevirtual 136, 3) := by decide +kernel
theorem dX11_shake_4 : decode cX11_shake 4 = .ok (.ifCond .eq 9, 3) := by decide +kernel
theorem dX11_shake_7 : decode cX11_shake 7 = .ok (.aload_n 0, 1) := by decide +kernel
theorem dX11_shake_8 : decode cX11_shake 8 = .ok (.iconst 0, 1) := by decide +kernel
theorem dX11_shake_9 : decode cX11_shake 9 = .ok (.invokevirtual 243, 3) := by decide +kernel
theorem dX11_shake_12 : decode cX11_shake 12 = .ok (.ireturn, 1) := by decide +kernel
theorem dX11_shake_13 : decode cX11_shake 13 = .ok (.iload_n 1, 1) := by decide +kernel
theorem dX11_shake_14 : decode cX11_shake 14 = .ok (.iconst 1, 1) := by decide +kernel
theorem dX11_shake_15 : decode cX11_shake 15 = .ok (.if_icmp .lt 9, 3) := by decide +kernel
theorem dX11_shake_18 : decode cX11_shake 18 = .ok (.iload_n 1, 1) := by decide +kernel
theorem dX11_shake_19 : decode cX11_shake 19 = .ok (.bipush 60, 2) := by decide +kernel
theorem dX11_shake_21 : decode cX11_shake 21 = .ok (.if_icmp .le 9, 3) := by decide +kernel
theorem dX11_shake_24 : decode cX11_shake 24 = .ok (.aload_n 0, 1) := by decide +kernel
theorem dX11_shake_25 : decode cX11_shake 25 = .ok (.iconst 2, 1) := by decide +kernel
theorem dX11_shake_26 : decode cX11_shake 26 = .ok (.invokevirtual 243, 3) := by decide +kernel
theorem dX11_shake_29 : decode cX11_shake 29 = .ok (.ireturn, 1) := by decide +kernel
theorem dX11_shake_30 : decode cX11_shake 30 = .ok (.aload_n 0, 1) := by decide +kernel
theorem dX11_shake_31 : decode cX11_shake 31 = .ok (.getfield 49, 3) := by decide +kernel
theorem dX11_shake_34 : decode cX11_shake 34 = .ok (.aload_n 0, 1) := by decide +kernel
theorem dX11_shake_35 : decode cX11_shake 35 = .ok (.getfield 28, 3) := by decide +kernel
theorem dX11_shake_38 : decode cX11_shake 38 = .ok (.getfield 141, 3) := by decide +kernel
theorem dX11_shake_41 : decode cX11_shake 41 = .ok (.aload_n 0, 1) := by decide +kernel
theorem dX11_shake_42 : decode cX11_shake 42 = .ok (.getfield 42, 3) := by decide +kernel
theorem dX11_shake_45 : decode cX11_shake 45 = .ok (.invokevirtual 250, 3) := by decide +kernel
theorem dX11_shake_48 : decode cX11_shake 48 = .ok (.iconst 0, 1) := by decide +kernel
theorem dX11_shake_49 : decode cX11_shake 49 = .ok (.istore 4, 2) := by decide +kernel
theorem dX11_shake_51 : decode cX11_shake 51 = .ok (.lload_n 2, 1) := by decide +kernel
theorem dX11_shake_52 : decode cX11_shake 52 = .ok (.lstore 5, 2) := by decide +kernel
theorem dX11_shake_54 : decode cX11_shake 54 = .ok (.iconst 0, 1) := by decide +kernel
theorem dX11_shake_55 : decode cX11_shake 55 = .ok (.istore 7, 2) := by decide +kernel
theorem dX11_shake_57 : decode cX11_shake 57 = .ok (.iload 7, 2) := by decide +kernel
theorem dX11_shake_59 : decode cX11_shake 59 = .ok (.iload_n 1, 1) := by decide +kernel
theorem dX11_shake_60 : decode cX11_shake 60 = .ok (.if_icmp .ge 117, 3) := by decide +kernel
theorem dX11_shake_63 : decode cX11_shake 63 = .ok (.aload_n 0, 1) := by decide +kernel
theorem dX11_shake_64 : decode cX11_shake 64 = .ok (.getfield 28, 3) := by decide +kernel
theorem dX11_shake_67 : decode cX11_shake 67 = .ok (.getfield 127, 3) := by decide +kernel
theorem dX11_shake_70 : decode cX11_shake 70 = .ok (.getfield 131, 3) := by decide +kernel
theorem dX11_shake_73 : decode cX11_shake 73 = .ok (.ifCond .le 104, 3) := by decide +kernel
theorem dX11_shake_76 : decode cX11_shake 76 = .ok (.lload 5, 2) := by decide +kernel
theorem dX11_shake_78 : decode cX11_shake 78 = .ok (.invokestatic 287, 3) := by decide +kernel
theorem dX11_shake_81 : decode cX11_shake 81 = .ok (.lstore 5, 2) := by decide +kernel
theorem dX11_shake_83 : decode cX11_shake 83 = .ok (.lload 5, 2) := by decide +kernel
theorem dX11_shake_85 : decode cX11_shake 85 = .ok (.aload_n 0, 1) := by decide +kernel
theorem dX11_shake_86 : decode cX11_shake 86 = .ok (.getfield 28, 3) := by decide +kernel
theorem dX11_shake_89 : decode cX11_shake 89 = .ok (.getfield 127, 3) := by decide +kernel
theorem dX11_shake_92 : decode cX11_shake 92 = .ok (.getfield 131, 3) := by decide +kernel
theorem dX11_shake_95 : decode cX11_shake 95 = .ok (.invokestatic 291, 3) := by decide +kernel
theorem dX11_shake_98 : decode cX11_shake 98 = .ok (.istore 8, 2) := by decide +kernel
theorem dX11_shake_100 : decode cX11_shake 100 = .ok (.lload 5, 2) := by decide +kernel
theorem dX11_shake_102 : decode cX11_shake 102 = .ok (.invokestatic 287, 3) := by decide +kernel
theorem dX11_shake_105 : decode cX11_shake 105 = .ok (.lstore 5, 2) := by decide +kernel
theorem dX11_shake_107 : decode cX11_shake 107 = .ok (.lload 5, 2) := by decide +kernel
theorem dX11_shake_109 : decode cX11_shake 109 = .ok (.iconst 2, 1) := by decide +kernel
theorem dX11_shake_110 : decode cX11_shake 110 = .ok (.invokestatic 291, 3) := by decide +kernel
theorem dX11_shake_113 : decode cX11_shake 113 = .ok (.iconst 1, 1) := by decide +kernel
theorem dX11_shake_114 : decode cX11_shake 114 = .ok (.if_icmp .ne 7, 3) := by decide +kernel
theorem dX11_shake_117 : decode cX11_shake 117 = .ok (.iconst 1, 1) := by decide +kernel
theorem dX11_shake_118 : decode cX11_shake 118 = .ok (.goto 4, 3) := by decide +kernel
theorem dX11_shake_121 : decode cX11_shake 121 = .ok (.iconst 0, 1) := by decide +kernel
theorem dX11_shake_122 : decode cX11_shake 122 = .ok (.istore 9, 2) := by decide +kernel
theorem dX11_shake_124 : decode cX11_shake 124 = .ok (.aload_n 0, 1) := by decide +kernel
theorem dX11_shake_125 : decode cX11_shake 125 = .ok (.getfield 28, 3) := by decide +kernel
theorem dX11_shake_128 : decode cX11_shake 128 = .ok (.getfield 127, 3) := by decide +kernel
theorem dX11_shake_131 : decode cX11_shake 131 = .ok (.iload 8, 2) := by decide +kernel
theorem dX11_shake_133 : decode cX11_shake 133 = .ok (.invokevirtual 181, 3) := by decide +kernel
theorem dX11_shake_136 : decode cX11_shake 136 = .ok (.iconst (-1), 1) := by decide +kernel
theorem dX11_shake_137 : decode cX11_shake 137 = .ok (.if_icmp .eq 34, 3) := by decide +kernel
theorem dX11_shake_140 : decode cX11_shake 140 = .ok (.aload_n 0, 1) := by decide +kernel
theorem dX11_shake_141 : decode cX11_shake 141 = .ok (.getfield 28, 3) := by decide +kernel
theorem dX11_shake_144 : decode cX11_shake 144 = .ok (.iload 8, 2) := by decide +kernel
theorem dX11_shake_146 : decode cX11_shake 146 = .ok (.iload 9, 2) := by decide +kernel
theorem dX11_shake_148 : decode cX11_shake 148 = .ok (.invokevirtual 295, 3) := by decide +kernel
theorem dX11_shake_151 : decode cX11_shake 151 = .ok (.aload_n 0, 1) := by decide +kernel
theorem dX11_shake_152 : decode cX11_shake 152 = .ok (.getfield 28, 3) := by decide +kernel
theorem dX11_shake_155 : decode cX11_shake 155 = .ok (.getfield 127, 3) := by decide +kernel
theorem dX11_shake_158 : decode cX11_shake 158 = .ok (.aload_n 0, 1) := by decide +kernel
theorem dX11_shake_159 : decode cX11_shake 159 = .ok (.getfield 28, 3) := by decide +kernel
theorem dX11_shake_162 : decode cX11_shake 162 = .ok (.getfield 141, 3) := by decide +kernel
theorem dX11_shake_165 : decode cX11_shake 165 = .ok (.invokevirtual 257, 3) := by decide +kernel
theorem dX11_shake_168 : decode cX11_shake 168 = .ok (.iinc 4 1, 3) := by decide +kernel
theorem dX11_shake_171 : decode cX11_shake 171 = .ok (.iinc 7 1, 3) := by decide +kernel
theorem dX11_shake_174 : decode cX11_shake 174 = .ok (.goto (-117), 3) := by decide +kernel
theorem dX11_shake_177 : decode cX11_shake 177 = .ok (.iload 4, 2) := by decide +kernel
theorem dX11_shake_179 : decode cX11_shake 179 = .ok (.ireturn, 1) := by decide +kernel
theorem dX11_shift_0 : decode cX11_shift 0 = .ok (.aload_n 0, 1) := by decide +kernel
theorem dX11_shift_1 : decode cX11_shift 1 = .ok (.invokevirtual 136, 3) := by decide +kernel
theorem dX11_shift_4 : decode cX11_shift 4 = .ok (.ifCond .eq 9, 3) := by decide +kernel
theorem dX11_shift_7 : decode cX11_shift 7 = .ok (.aload_n 0, 1) := by decide +kernel
theorem dX11_shift_8 : decode cX11_shift 8 = .ok (.iconst 0, 1) := by decide +kernel
theorem dX11_shift_9 : decode cX11_shift 9 = .ok (.invokevirtual 243, 3) := by decide +kernel
theorem dX11_shift_12 : decode cX11_shift 12 = .ok (.ireturn, 1) := by decide +kernel
theorem dX11_shift_13 : decode cX11_shift 13 = .ok (.aload_n 0, 1) := by decide +kernel
theorem dX11_shift_14 : decode cX11_shift 14 = .ok (.getfield 28, 3) := by decide +kernel
theorem dX11_shift_17 : decode cX11_shift 17 = .ok (.getfield 141, 3) := by decide +kernel
theorem dX11_shift_20 : decode cX11_shift 20 = .ok (.iload_n 1, 1) := by decide +kernel
theorem dX11_shift_21 : decode cX11_shift 21 = .ok (.iload_n 2, 1) := by decide +kernel
theorem dX11_shift_22 : decode cX11_shift 22 = .ok (.invokevirtual 207, 3) := by decide +kernel
theorem dX11_shift_25 : decode cX11_shift 25 = .ok (.ifCond .ne 9, 3) := by decide +kernel
theorem dX11_shift_28 : decode cX11_shift 28 = .ok (.aload_n 0, 1) := by decide +kernel
theorem dX11_shift_29 : decode cX11_shift 29 = .ok (.iconst 1, 1) := by decide +kernel
theorem dX11_shift_30 : decode cX11_shift 30 = .ok (.invokevirtual 243, 3) := by decide +kernel
theorem dX11_shift_33 : decode cX11_shift 33 = .ok (.ireturn, 1) := by decide +kernel
theorem dX11_shift_34 : decode cX11_shift 34 = .ok (.iload_n 3, 1) := by decide +kernel
theorem dX11_shift_35 : decode cX11_shift 35 = .ok (.invokestatic 279, 3) := by decide +kernel
theorem dX11_shift_38 : decode cX11_shift 38 = .ok (.ifCond .eq 20, 3) := by decide +kernel
theorem dX11_shift_41 : decode cX11_shift 41 = .ok (.iload 4, 2) := by decide +kernel
theorem dX11_shift_43 : decode cX11_shift 43 = .ok (.invokestatic 279, 3) := by decide +kernel
theorem dX11_shift_46 : decode cX11_shift 46 = .ok (.ifCond .eq 12, 3) := by decide +kernel
theorem dX11_shift_49 : decode cX11_shift 49 = .ok (.iload_n 3, 1) := by decide +kernel
theorem dX11_shift_50 : decode cX11_shift 50 = .ok (.ifCond .ne 14, 3) := by decide +kernel
theorem dX11_shift_53 : decode cX11_shift 53 = .ok (.iload 4, 2) := by decide +kernel
theorem dX11_shift_55 : decode cX11_shift 55 = .ok (.ifCond .ne 9, 3) := by decide +kernel
theorem dX11_shift_58 : decode cX11_shift 58 = .ok (.aload_n 0, 1) := by decide +kernel
theorem dX11_shift_59 : decode cX11_shift 59 = .ok (.iconst 2, 1) := by decide +kernel
theorem dX11_shift_60 : decode cX11_shift 60 = .ok (.invokevirtual 243, 3) := by decide +kernel
theorem dX11_shift_63 : decode cX11_shift 63 = .ok (.ireturn, 1) := by decide +kernel
theorem dX11_shift_64 : decode cX11_shift 64 = .ok (.aload_n 0, 1) := by decide +kernel
theorem dX11_shift_65 : decode cX11_shift 65 = .ok (.getfield 49, 3) := by decide +kernel
theorem dX11_shift_68 : decode cX11_shift 68 = .ok (.aload_n 0, 1) := by decide +kernel
theorem dX11_shift_69 : decode cX11_shift 69 = .ok (.getfield 28, 3) := by decide +kernel
theorem dX11_shift_72 : decode cX11_shift 72 = .ok (.getfield 141, 3) := by decide +kernel
theorem dX11_shift_75 : decode cX11_shift 75 = .ok (.aload_n 0, 1) := by decide +kernel
theorem dX11_shift_76 : decode cX11_shift 76 = .ok (.getfield 42, 3) := by decide +kernel
theorem dX11_shift_79 : decode cX11_shift 79 = .ok (.invokevirtual 250, 3) := by decide +kernel
theorem dX11_shift_82 : decode cX11_shift 82 = .ok (.aload_n 0, 1) := by decide +kernel
theorem dX11_shift_83 : decode cX11_shift 83 = .ok (.getfield 28, 3) := by decide +kernel
theorem dX11_shift_86 : decode cX11_shift 86 = .ok (.getfield 141, 3) := by decide +kernel
theorem dX11_shift_89 : decode cX11_shift 89 = .ok (.iload_n 1, 1) := by decide +kernel
theorem dX11_shift_90 : decode cX11_shift 90 = .ok (.iload_n 2, 1) := by decide +kernel
theorem dX11_shift_91 : decode cX11_shift 91 = .ok (.iload_n 3, 1) := by decide +kernel
theorem dX11_shift_92 : decode cX11_shift 92 = .ok (.iload 4, 2) := by decide +kernel
theorem dX11_shift_94 : decode cX11_shift 94 = .ok (.invokevirtual 283, 3) := by decide +kernel
theorem dX11_shift_97 : decode cX11_shift 97 = .ok (.aload_n 0, 1) := by decide +kernel
theorem dX11_shift_98 : decode cX11_shift 98 = .ok (.getfield 28, 3) := by decide +kernel
theorem dX11_shift_101 : decode cX11_shift 101 = .ok (.getfield 141, 3) := by decide +kernel
theorem dX11_shift_104 : decode cX11_shift 104 = .ok (.invokevirtual 153, 3) := by decide +kernel
theorem dX11_shift_107 : decode cX11_shift 107 = .ok (.ireturn, 1) := by decide +kernel
theorem dX11_status_0 : decode cX11_status 0 = .ok (.iload_n 1, 1) := by decide +kernel
theorem dX11_status_1 : decode cX11_status 1 = .ok (.ifCond .lt 21, 3) := by decide +kernel
theorem dX11_status_4 : decode cX11_status 4 = .ok (.iload_n 1, 1) := by decide +kernel
theorem dX11_status_5 : decode cX11_status 5 = .ok (.aload_n 0, 1) := by decide +kernel
theorem dX11_status_6 : decode cX11_status 6 = .ok (.getfield 63, 3) := by decide +kernel
theorem dX11_status_9 : decode cX11_status 9 = .ok (.arraylength, 1) := by decide +kernel
theorem dX11_status_10 : decode cX11_status 10 = .ok (.if_icmp .ge 12, 3) := by decide +kernel
theorem dX11_status_13 : decode cX11_status 13 = .ok (.aload_n 0, 1) := by decide +kernel
theorem dX11_status_14 : decode cX11_status 14 = .ok (.getfield 63, 3) := by decide +kernel
theorem dX11_status_17 : decode cX11_status 17 = .ok (.iload_n 1, 1) := by decide +kernel
theorem dX11_status_18 : decode cX11_status 18 = .ok (.iaload, 1) := by decide +kernel
theorem dX11_status_19 : decode cX11_status 19 = .ok (.goto 4, 3) := by decide +kernel
theorem dX11_status_22 : decode cX11_status 22 = .ok (.iconst (-1), 1) := by decide +kernel
theorem dX11_status_23 : decode cX11_status 23 = .ok (.ireturn, 1) := by decide +kernel
theorem dX11_stills_0 : decode cX11_stills 0 = .ok (.aload_n 0, 1) := by decide +kernel
theorem dX11_stills_1 : decode cX11_stills 1 = .ok (.invokevirtual 136, 3) := by decide +kernel
theorem dX11_stills_4 : decode cX11_stills 4 = .ok (.ifCond .eq 5, 3) := by decide +kernel
theorem dX11_stills_7 : decode cX11_stills 7 = .ok (.iconst (-1), 1) := by decide +kernel
theorem dX11_stills_8 : decode cX11_stills 8 = .ok (.ireturn, 1) := by decide +kernel
theorem dX11_stills_9 : decode cX11_stills 9 = .ok (.aload_n 0, 1) := by decide +kernel
theorem dX11_stills_10 : decode cX11_stills 10 = .ok (.getfield 28, 3) := by decide +kernel
theorem dX11_stills_13 : decode cX11_stills 13 = .ok (.getfield 127, 3) := by decide +kernel
theorem dX11_stills_16 : decode cX11_stills 16 = .ok (.aload_n 0, 1) := by decide +kernel
theorem dX11_stills_17 : decode cX11_stills 17 = .ok (.getfield 35, 3) := by decide +kernel
theorem dX11_stills_20 : decode cX11_stills 20 = .ok (.invokevirtual 329, 3) := by decide +kernel
theorem dX11_stills_23 : decode cX11_stills 23 = .ok (.istore_n 1, 1) := by decide +kernel
theorem dX11_stills_24 : decode cX11_stills 24 = .ok (.iload_n 1, 1) := by decide +kernel
theorem dX11_stills_25 : decode cX11_stills 25 = .ok (.bipush 99, 2) := by decide +kernel
theorem dX11_stills_27 : decode cX11_stills 27 = .ok (.if_icmp .le 7, 3) := by decide +kernel
theorem dX11_stills_30 : decode cX11_stills 30 = .ok (.iconst (-1), 1) := by decide +kernel
theorem dX11_stills_31 : decode cX11_stills 31 = .ok (.goto 4, 3) := by decide +kernel
theorem dX11_stills_34 : decode cX11_stills 34 = .ok (.iload_n 1, 1) := by decide +kernel
theorem dX11_stills_35 : decode cX11_stills 35 = .ok (.ireturn, 1) := by decide +kernel
theorem dX11_text_0 : decode cX11_text 0 = .ok (.aload_n 0, 1) := by decide +kernel
theorem dX11_text_1 : decode cX11_text 1 = .ok (.getfield 21, 3) := by decide +kernel
theorem dX11_text_4 : decode cX11_text 4 = .ok (.invokevirtual 99, 3) := by decide +kernel
theorem dX11_text_7 : decode cX11_text 7 = .ok (.iconst (-1), 1) := by decide +kernel
theorem dX11_text_8 : decode cX11_text 8 = .ok (.if_icmp .eq 5, 3) := by decide +kernel
theorem dX11_text_11 : decode cX11_text 11 = .ok (.iconst (-1), 1) := by decide +kernel
theorem dX11_text_12 : decode cX11_text 12 = .ok (.ireturn, 1) := by decide +kernel
theorem dX11_text_13 : decode cX11_text 13 = .ok (.aload_n 0, 1) := by decide +kernel
theorem dX11_text_14 : decode cX11_text 14 = .ok (.getfield 10, 3) := by decide +kernel
theorem dX11_text_17 : decode cX11_text 17 = .ok (.iconst 0, 1) := by decide +kernel
theorem dX11_text_18 : decode cX11_text 18 = .ok (.putfield 91, 3) := by decide +kernel
theorem dX11_text_21 : decode cX11_text 21 = .ok (.aload_n 0, 1) := by decide +kernel
theorem dX11_text_22 : decode cX11_text 22 = .ok (.getfield 28, 3) := by decide +kernel
theorem dX11_text_25 : decode cX11_text 25 = .ok (.aload_n 0, 1) := by decide +kernel
theorem dX11_text_26 : decode cX11_text 26 = .ok (.getfield 21, 3) := by decide +kernel
theorem dX11_text_29 : decode cX11_text 29 = .ok (.invokevirtual 103, 3) := by decide +kernel
theorem dX11_text_32 : decode cX11_text 32 = .ok (.aload_n 0, 1) := by decide +kernel
theorem dX11_text_33 : decode cX11_text 33 = .ok (.getfield 21, 3) := by decide +kernel
theorem dX11_text_36 : decode cX11_text 36 = .ok (.getfield 107, 3) := by decide +kernel
theorem dX11_text_39 : decode cX11_text 39 = .ok (.iconst 0, 1) := by decide +kernel
theorem dX11_text_40 : decode cX11_text 40 = .ok (.aload_n 0, 1) := by decide +kernel
theorem dX11_text_41 : decode cX11_text 41 = .ok (.getfield 35, 3) := by decide +kernel
theorem dX11_text_44 : decode cX11_text 44 = .ok (.iconst 0, 1) := by decide +kernel
theorem dX11_text_45 : decode cX11_text 45 = .ok (.aload_n 0, 1) := by decide +kernel
theorem dX11_text_46 : decode cX11_text 46 = .ok (.getfield 35, 3) := by decide +kernel
theorem dX11_text_49 : decode cX11_text 49 = .ok (.arraylength, 1) := by decide +kernel
theorem dX11_text_50 : decode cX11_text 50 = .ok (.invokestatic 108, 3) := by decide +kernel
theorem dX11_text_53 : decode cX11_text 53 = .ok (.aload_n 0, 1) := by decide +kernel
theorem dX11_text_54 : decode cX11_text 54 = .ok (.getfield 42, 3) := by decide +kernel
theorem dX11_text_57 : decode cX11_text 57 = .ok (.iconst 0, 1) := by decide +kernel
theorem dX11_text_58 : decode cX11_text 58 = .ok (.putfield 114, 3) := by decide +kernel
theorem dX11_text_61 : decode cX11_text 61 = .ok (.aload_n 0, 1) := by decide +kernel
theorem dX11_text_62 : decode cX11_text 62 = .ok (.getfield 49, 3) := by decide +kernel
theorem dX11_text_65 : decode cX11_text 65 = .ok (.invokevirtual 117, 3) := by decide +kernel
theorem dX11_text_68 : decode cX11_text 68 = .ok (.aload_n 0, 1) := by decide +kernel
theorem dX11_text_69 : decode cX11_text 69 = .ok (.iconst 0, 1) := by decide +kernel
theorem dX11_text_70 : decode cX11_text 70 = .ok (.putfield 120, 3) := by decide +kernel
theorem dX11_text_73 : decode cX11_text 73 = .ok (.aload_n 0, 1) := by decide +kernel
theorem dX11_text_74 : decode cX11_text 74 = .ok (.iconst 0, 1) := by decide +kernel
theorem dX11_text_75 : decode cX11_text 75 = .ok (.putfield 124, 3) := by decide +kernel
theorem dX11_text_78 : decode cX11_text 78 = .ok (.aload_n 0, 1) := by decide +kernel
theorem dX11_text_79 : decode cX11_text 79 = .ok (.getfield 28, 3) := by decide +kernel
theorem dX11_text_82 : decode cX11_text 82 = .ok (.getfield 127, 3) := by decide +kernel
theorem dX11_text_85 : decode cX11_text 85 = .ok (.getfield 131, 3) := by decide +kernel
theorem dX11_text_88 : decode cX11_text 88 = .ok (.ireturn, 1) := by decide +kernel
theorem dX11_undo_0 : decode cX11_undo 0 = .ok (.aload_n 0, 1) := by decide +kernel
theorem dX11_undo_1 : decode cX11_undo 1 = .ok (.getfield 49, 3) := by decide +kernel
theorem dX11_undo_4 : decode cX11_undo 4 = .ok (.aload_n 0, 1) := by decide +kernel
theorem dX11_undo_5 : decode cX11_undo 5 = .ok (.getfield 28, 3) := by decide +kernel
theorem dX11_undo_8 : decode cX11_undo 8 = .ok (.getfield 141, 3) := by decide +kernel
theorem dX11_undo_11 : decode cX11_undo 11 = .ok (.aload_n 0, 1) := by decide +kernel
theorem dX11_undo_12 : decode cX11_undo 12 = .ok (.getfield 42, 3) := by decide +kernel
theorem dX11_undo_15 : decode cX11_undo 15 = .ok (.invokevirtual 347, 3) := by decide +kernel
theorem dX11_undo_18 : decode cX11_undo 18 = .ok (.ifCond .eq 17, 3) := by decide +kernel
theorem dX11_undo_21 : decode cX11_undo 21 = .ok (.aload_n 0, 1) := by decide +kernel
theorem dX11_undo_22 : decode cX11_undo 22 = .ok (.aload_n 0, 1) := by decide +kernel
theorem dX11_undo_23 : decode cX11_undo 23 = .ok (.getfield 49, 3) := by decide +kernel
theorem dX11_undo_26 : decode cX11_undo 26 = .ok (.getfield 351, 3) := by decide +kernel
theorem dX11_undo_29 : decode cX11_undo 29 = .ok (.invokevirtual 352, 3) := by decide +kernel
theorem dX11_undo_32 : decode cX11_undo 32 = .ok (.goto 4, 3) := by decide +kernel
theorem dX11_undo_35 : decode cX11_undo 35 = .ok (.iconst (-1), 1) := by decide +kernel
theorem dX11_undo_36 : decode cX11_undo 36 = .ok (.ireturn, 1) := by decide +kernel
theorem dX11_wall_0 : decode cX11_wall 0 = .ok (.aload_n 0, 1) := by decide +kernel
theorem dX11_wall_1 : decode cX11_wall 1 = .ok (.invokevirtual 136, 3) := by decide +kernel
theorem dX11_wall_4 : decode cX11_wall 4 = .ok (.ifCond .ne 12, 3) := by decide +kernel
theorem dX11_wall_7 : decode cX11_wall 7 = .ok (.iload_n 2, 1) := by decide +kernel
theorem dX11_wall_8 : decode cX11_wall 8 = .ok (.ifCond .lt 8, 3) := by decide +kernel
theorem dX11_wall_11 : decode cX11_wall 11 = .ok (.iload_n 2, 1) := by decide +kernel
theorem dX11_wall_12 : decode cX11_wall 12 = .ok (.iconst 4, 1) := by decide +kernel
theorem dX11_wall_13 : decode cX11_wall 13 = .ok (.if_icmp .le 5, 3) := by decide +kernel
theorem dX11_wall_16 : decode cX11_wall 16 = .ok (.iconst (-1), 1) := by decide +kernel
theorem dX11_wall_17 : decode cX11_wall 17 = .ok (.ireturn, 1) := by decide +kernel
theorem dX11_wall_18 : decode cX11_wall 18 = .ok (.aload_n 0, 1) := by decide +kernel
theorem dX11_wall_19 : decode cX11_wall 19 = .ok (.getfield 76, 3) := by decide +kernel
theorem dX11_wall_22 : decode cX11_wall 22 = .ok (.aload_n 0, 1) := by decide +kernel
theorem dX11_wall_23 : decode cX11_wall 23 = .ok (.getfield 28, 3) := by decide +kernel
theorem dX11_wall_26 : decode cX11_wall 26 = .ok (.getfield 141, 3) := by decide +kernel
theorem dX11_wall_29 : decode cX11_wall 29 = .ok (.invokevirtual 162, 3) := by decide +kernel
theorem dX11_wall_32 : decode cX11_wall 32 = .ok (.aload_n 0, 1) := by decide +kernel
theorem dX11_wall_33 : decode cX11_wall 33 = .ok (.getfield 76, 3) := by decide +kernel
theorem dX11_wall_36 : decode cX11_wall 36 = .ok (.iload_n 1, 1) := by decide +kernel
theorem dX11_wall_37 : decode cX11_wall 37 = .ok (.invokevirtual 305, 3) := by decide +kernel
theorem dX11_wall_40 : decode cX11_wall 40 = .ok (.istore_n 3, 1) := by decide +kernel
theorem dX11_wall_41 : decode cX11_wall 41 = .ok (.iload_n 3, 1) := by decide +kernel
theorem dX11_wall_42 : decode cX11_wall 42 = .ok (.iconst (-1), 1) := by decide +kernel
theorem dX11_wall_43 : decode cX11_wall 43 = .ok (.if_icmp .ne 5, 3) := by decide +kernel
theorem dX11_wall_46 : decode cX11_wall 46 = .ok (.iconst (-1), 1) := by decide +kernel
theorem dX11_wall_47 : decode cX11_wall 47 = .ok (.ireturn, 1) := by decide +kernel
theorem dX11_wall_48 : decode cX11_wall 48 = .ok (.iload_n 2, 1) := by decide +kernel
theorem dX11_wall_49 : decode cX11_wall 49 = .ok (.tableswitch 58 0 3 #[31, 40, 47, 54], 31) := by decide +kernel
theorem dX11_wall_80 : decode cX11_wall 80 = .ok (.aload_n 0, 1) := by decide +kernel
theorem dX11_wall_81 : decode cX11_wall 81 = .ok (.getfield 76, 3) := by decide +kernel
theorem dX11_wall_84 : decode cX11_wall 84 = .ok (.iload_n 3, 1) := by decide +kernel
theorem dX11_wall_85 : decode cX11_wall 85 = .ok (.invokevirtual 308, 3) := by decide +kernel
theorem dX11_wall_88 : decode cX11_wall 88 = .ok (.ireturn, 1) := by decide +kernel
theorem dX11_wall_89 : decode cX11_wall 89 = .ok (.iload_n 3, 1) := by decide +kernel
theorem dX11_wall_90 : decode cX11_wall 90 = .ok (.iconst 2, 1) := by decide +kernel
theorem dX11_wall_91 : decode cX11_wall 91 = .ok (.idiv, 1) := by decide +kernel
theorem dX11_wall_92 : decode cX11_wall 92 = .ok (.bipush 9, 2) := by decide +kernel
theorem dX11_wall_94 : decode cX11_wall 94 = .ok (.irem, 1) := by decide +kernel
theorem dX11_wall_95 : decode cX11_wall 95 = .ok (.ireturn, 1) := by decide +kernel
theorem dX11_wall_96 : decode cX11_wall 96 = .ok (.iload_n 3, 1) := by decide +kernel
theorem dX11_wall_97 : decode cX11_wall 97 = .ok (.iconst 2, 1) := by decide +kernel
theorem dX11_wall_98 : decode cX11_wall 98 = .ok (.idiv, 1) := by decide +kernel
theorem dX11_wall_99 : decode cX11_wall 99 = .ok (.bipush 9, 2) := by decide +kernel
theorem dX11_wall_101 : decode cX11_wall 101 = .ok (.idiv, 1) := by decide +kernel
theorem dX11_wall_102 : decode cX11_wall 102 = .ok (.ireturn, 1) := by decide +kernel
theorem dX11_wall_103 : decode cX11_wall 103 = .ok (.iload_n 3, 1) := by decide +kernel
theorem dX11_wall_104 : decode cX11_wall 104 = .ok (.iconst 2, 1) := by decide +kernel
theorem dX11_wall_105 : decode cX11_wall 105 = .ok (.irem, 1) := by decide +kernel
theorem dX11_wall_106 : decode cX11_wall 106 = .ok (.ireturn, 1) := by decide +kernel
theorem dX11_wall_107 : decode cX11_wall 107 = .ok (.aload_n 0, 1) := by decide +kernel
theorem dX11_wall_108 : decode cX11_wall 108 = .ok (.getfield 76, 3) := by decide +kernel
theorem dX11_wall_111 : decode cX11_wall 111 = .ok (.iload_n 3, 1) := by decide +kernel
theorem dX11_wall_112 : decode cX11_wall 112 = .ok (.aload_n 0, 1) := by decide +kernel
theorem dX11_wall_113 : decode cX11_wall 113 = .ok (.getfield 28, 3) := by decide +kernel
theorem dX11_wall_116 : decode cX11_wall 116 = .ok (.getfield 127, 3) := by decide +kernel
theorem dX11_wall_119 : decode cX11_wall 119 = .ok (.invokevirtual 311, 3) := by decide +kernel
theorem dX11_wall_122 : decode cX11_wall 122 = .ok (.ireturn, 1) := by decide +kernel
theorem dX11_wayOfVector_0 : decode cX11_wayOfVector 0 = .ok (.iload_n 1, 1) := by decide +kernel
theorem dX11_wayOfVector_1 : decode cX11_wayOfVector 1 = .ok (.ifCond .ne 13, 3) := by decide +kernel
theorem dX11_wayOfVector_4 : decode cX11_wayOfVector 4 = .ok (.iload_n 0, 1) := by decide +kernel
theorem dX11_wayOfVector_5 : decode cX11_wayOfVector 5 = .ok (.ifCond .ne 7, 3) := by decide +kernel
theorem dX11_wayOfVector_8 : decode cX11_wayOfVector 8 = .ok (.iconst (-1), 1) := by decide +kernel
theorem dX11_wayOfVector_9 : decode cX11_wayOfVector 9 = .ok (.goto 4, 3) := by decide +kernel
theorem dX11_wayOfVector_12 : decode cX11_wayOfVector 12 = .ok (.iconst 0, 1) := by decide +kernel
theorem dX11_wayOfVector_13 : decode cX11_wayOfVector 13 = .ok (.ireturn, 1) := by decide +kernel
theorem dX11_wayOfVector_14 : decode cX11_wayOfVector 14 = .ok (.iload_n 0, 1) := by decide +kernel
theorem dX11_wayOfVector_15 : decode cX11_wayOfVector 15 = .ok (.ifCond .ne 7, 3) := by decide +kernel
theorem dX11_wayOfVector_18 : decode cX11_wayOfVector 18 = .ok (.iconst 1, 1) := by decide +kernel
theorem dX11_wayOfVector_19 : decode cX11_wayOfVector 19 = .ok (.goto 4, 3) := by decide +kernel
theorem dX11_wayOfVector_22 : decode cX11_wayOfVector 22 = .ok (.iconst (-1), 1) := by decide +kernel
theorem dX11_wayOfVector_23 : decode cX11_wayOfVector 23 = .ok (.ireturn, 1) := by decide +kernel
theorem dX11_wouldSplit_0 : decode cX11_wouldSplit 0 = .ok (.iload 5, 2) := by decide +kernel
theorem dX11_wouldSplit_2 : decode cX11_wouldSplit 2 = .ok (.ifCond .lt 9, 3) := by decide +kernel
theorem dX11_wouldSplit_5 : decode cX11_wouldSplit 5 = .ok (.iload 5, 2) := by decide +kernel
theorem dX11_wouldSplit_7 : decode cX11_wouldSplit 7 = .ok (.iconst 3, 1) := by decide +kernel
theorem dX11_wouldSplit_8 : decode cX11_wouldSplit 8 = .ok (.if_icmp .le 5, 3) := by decide +kernel
theorem dX11_wouldSplit_11 : decode cX11_wouldSplit 11 = .ok (.iconst 0, 1) := by decide +kernel
theorem dX11_wouldSplit_12 : decode cX11_wouldSplit 12 = .ok (.ireturn, 1) := by decide +kernel
theorem dX11_wouldSplit_13 : decode cX11_wouldSplit 13 = .ok (.iload_n 1, 1) := by decide +kernel
theorem dX11_wouldSplit_14 : decode cX11_wouldSplit 14 = .ok (.getstatic 234, 3) := by decide +kernel
theorem dX11_wouldSplit_17 : decode cX11_wouldSplit 17 = .ok (.iload 5, 2) := by decide +kernel
theorem dX11_wouldSplit_19 : decode cX11_wouldSplit 19 = .ok (.iaload, 1) := by decide +kernel
theorem dX11_wouldSplit_20 : decode cX11_wouldSplit 20 = .ok (.iadd, 1) := by decide +kernel
theorem dX11_wouldSplit_21 : decode cX11_wouldSplit 21 = .ok (.istore 6, 2) := by decide +kernel
theorem dX11_wouldSplit_23 : decode cX11_wouldSplit 23 = .ok (.iload_n 2, 1) := by decide +kernel
theorem dX11_wouldSplit_24 : decode cX11_wouldSplit 24 = .ok (.getstatic 237, 3) := by decide +kernel
theorem dX11_wouldSplit_27 : decode cX11_wouldSplit 27 = .ok (.iload 5, 2) := by decide +kernel
theorem dX11_wouldSplit_29 : decode cX11_wouldSplit 29 = .ok (.iaload, 1) := by decide +kernel
theorem dX11_wouldSplit_30 : decode cX11_wouldSplit 30 = .ok (.iadd, 1) := by decide +kernel
theorem dX11_wouldSplit_31 : decode cX11_wouldSplit 31 = .ok (.istore 7, 2) := by decide +kernel
theorem dX11_wouldSplit_33 : decode cX11_wouldSplit 33 = .ok (.aload_n 0, 1) := by decide +kernel
theorem dX11_wouldSplit_34 : decode cX11_wouldSplit 34 = .ok (.getfield 28, 3) := by decide +kernel
theorem dX11_wouldSplit_37 : decode cX11_wouldSplit 37 = .ok (.getfield 141, 3) := by decide +kernel
theorem dX11_wouldSplit_40 : decode cX11_wouldSplit 40 = .ok (.iload_n 1, 1) := by decide +kernel
theorem dX11_wouldSplit_41 : decode cX11_wouldSplit 41 = .ok (.iload_n 2, 1) := by decide +kernel
theorem dX11_wouldSplit_42 : decode cX11_wouldSplit 42 = .ok (.iconst 0, 1) := by decide +kernel
theorem dX11_wouldSplit_43 : decode cX11_wouldSplit 43 = .ok (.invokevirtual 195, 3) := by decide +kernel
theorem dX11_wouldSplit_46 : decode cX11_wouldSplit 46 = .ok (.iload_n 3, 1) := by decide +kernel
theorem dX11_wouldSplit_47 : decode cX11_wouldSplit 47 = .ok (.if_icmp .ne 21, 3) := by decide +kernel
theorem dX11_wouldSplit_50 : decode cX11_wouldSplit 50 = .ok (.aload_n 0, 1) := by decide +kernel
theorem dX11_wouldSplit_51 : decode cX11_wouldSplit 51 = .ok (.getfield 28, 3) := by decide +kernel
theorem dX11_wouldSplit_54 : decode cX11_wouldSplit 54 = .ok (.getfield 141, 3) := by decide +kernel
theorem dX11_wouldSplit_57 : decode cX11_wouldSplit 57 = .ok (.iload_n 1, 1) := by decide +kernel
theorem dX11_wouldSplit_58 : decode cX11_wouldSplit 58 = .ok (.iload_n 2, 1) := by decide +kernel
theorem dX11_wouldSplit_59 : decode cX11_wouldSplit 59 = .ok (.iconst 1, 1) := by decide +kernel
theorem dX11_wouldSplit_60 : decode cX11_wouldSplit 60 = .ok (.invokevirtual 195, 3) := by decide +kernel
theorem dX11_wouldSplit_63 : decode cX11_wouldSplit 63 = .ok (.iload 4, 2) := by decide +kernel
theorem dX11_wouldSplit_65 : decode cX11_wouldSplit 65 = .ok (.if_icmp .eq 7, 3) := by decide +kernel
theorem dX11_wouldSplit_68 : decode cX11_wouldSplit 68 = .ok (.iconst 1, 1) := by decide +kernel
theorem dX11_wouldSplit_69 : decode cX11_wouldSplit 69 = .ok (.goto 4, 3) := by decide +kernel
theorem dX11_wouldSplit_72 : decode cX11_wouldSplit 72 = .ok (.iconst 0, 1) := by decide +kernel
theorem dX11_wouldSplit_73 : decode cX11_wouldSplit 73 = .ok (.istore 8, 2) := by decide +kernel
theorem dX11_wouldSplit_75 : decode cX11_wouldSplit 75 = .ok (.iload 8, 2) := by decide +kernel
theorem dX11_wouldSplit_77 : decode cX11_wouldSplit 77 = .ok (.ifCond .eq 41, 3) := by decide +kernel
theorem dX11_wouldSplit_80 : decode cX11_wouldSplit 80 = .ok (.aload_n 0, 1) := by decide +kernel
theorem dX11_wouldSplit_81 : decode cX11_wouldSplit 81 = .ok (.getfield 28, 3) := by decide +kernel
theorem dX11_wouldSplit_84 : decode cX11_wouldSplit 84 = .ok (.getfield 141, 3) := by decide +kernel
theorem dX11_wouldSplit_87 : decode cX11_wouldSplit 87 = .ok (.iload 6, 2) := by decide +kernel
theorem dX11_wouldSplit_89 : decode cX11_wouldSplit 89 = .ok (.iload 7, 2) := by decide +kernel
theorem dX11_wouldSplit_91 : decode cX11_wouldSplit 91 = .ok (.invokevirtual 188, 3) := by decide +kernel
theorem dX11_wouldSplit_94 : decode cX11_wouldSplit 94 = .ok (.ifCond .eq 24, 3) := by decide +kernel
theorem dX11_wouldSplit_97 : decode cX11_wouldSplit 97 = .ok (.aload_n 0, 1) := by decide +kernel
theorem dX11_wouldSplit_98 : decode cX11_wouldSplit 98 = .ok (.getfield 28, 3) := by decide +kernel
theorem dX11_wouldSplit_101 : decode cX11_wouldSplit 101 = .ok (.getfield 141, 3) := by decide +kernel
theorem dX11_wouldSplit_104 : decode cX11_wouldSplit 104 = .ok (.iload 6, 2) := by decide +kernel
theorem dX11_wouldSplit_106 : decode cX11_wouldSplit 106 = .ok (.iload 7, 2) := by decide +kernel
theorem dX11_wouldSplit_108 : decode cX11_wouldSplit 108 = .ok (.invokevirtual 385, 3) := by decide +kernel
theorem dX11_wouldSplit_111 : decode cX11_wouldSplit 111 = .ok (.ifCond .eq 7, 3) := by decide +kernel
theorem dX11_wouldSplit_114 : decode cX11_wouldSplit 114 = .ok (.iconst 1, 1) := by decide +kernel
theorem dX11_wouldSplit_115 : decode cX11_wouldSplit 115 = .ok (.goto 4, 3) := by decide +kernel
theorem dX11_wouldSplit_118 : decode cX11_wouldSplit 118 = .ok (.iconst 0, 1) := by decide +kernel
theorem dX11_wouldSplit_119 : decode cX11_wouldSplit 119 = .ok (.ireturn, 1) := by decide +kernel
