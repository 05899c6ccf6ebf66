theorem dX12_halved_64 : decode cX12_halved 64 = .ok (.imul, 1) := by decide +kernel
theorem dX12_halved_65 : decode cX12_halved 65 = .ok (.iload_n 2, 1) := by decide +kernel
theorem dX12_halved_66 : decode cX12_halved 66 = .ok (.iadd, 1) := by decide +kernel
theorem dX12_halved_67 : decode cX12_halved 67 = .ok (.iaload, 1) := by decide +kernel
theorem dX12_halved_68 : decode cX12_halved 68 = .ok (.goto 4, 3) := by decide +kernel
theorem dX12_halved_71 : decode cX12_halved 71 = .ok (.iconst (-1), 1) := by decide +kernel
theorem dX12_halved_72 : decode cX12_halved 72 = .ok (.ireturn, 1) := by decide +kernel
theorem dX12_image_0 : decode cX12_image 0 = .ok (.aload_n 0, 1) := by decide +kernel
theorem dX12_image_1 : decode cX12_image 1 = .ok (.iconst 0, 1) := by decide +kernel
theorem dX12_image_2 : decode cX12_image 2 = .ok (.putfield 86, 3) := by decide +kernel
theorem dX12_image_5 : decode cX12_image 5 = .ok (.aload_n 0, 1) := by decide +kernel
theorem dX12_image_6 : decode cX12_image 6 = .ok (.invokevirtual 306, 3) := by decide +kernel
theorem dX12_image_9 : decode cX12_image 9 = .ok (.ifCond .ne 5, 3) := by decide +kernel
theorem dX12_image_12 : decode cX12_image 12 = .ok (.iconst (-1), 1) := by decide +kernel
theorem dX12_image_13 : decode cX12_image 13 = .ok (.ireturn, 1) := by decide +kernel
theorem dX12_image_14 : decode cX12_image 14 = .ok (.iconst 0, 1) := by decide +kernel
theorem dX12_image_15 : decode cX12_image 15 = .ok (.istore_n 1, 1) := by decide +kernel
theorem dX12_image_16 : decode cX12_image 16 = .ok (.iload_n 1, 1) := by decide +kernel
theorem dX12_image_17 : decode cX12_image 17 = .ok (.sipush 486, 3) := by decide +kernel
theorem dX12_image_20 : decode cX12_image 20 = .ok (.if_icmp .ge 21, 3) := by decide +kernel
theorem dX12_image_23 : decode cX12_image 23 = .ok (.aload_n 0, 1) := by decide +kernel
theorem dX12_image_24 : decode cX12_image 24 = .ok (.getfield 83, 3) := by decide +kernel
theorem dX12_image_27 : decode cX12_image 27 = .ok (.iload_n 1, 1) := by decide +kernel
theorem dX12_image_28 : decode cX12_image 28 = .ok (.aload_n 0, 1) := by decide +kernel
theorem dX12_image_29 : decode cX12_image 29 = .ok (.getfield 28, 3) := by decide +kernel
theorem dX12_image_32 : decode cX12_image 32 = .ok (.iload_n 1, 1) := by decide +kernel
theorem dX12_image_33 : decode cX12_image 33 = .ok (.iaload, 1) := by decide +kernel
theorem dX12_image_34 : decode cX12_image 34 = .ok (.iastore, 1) := by decide +kernel
theorem dX12_image_35 : decode cX12_image 35 = .ok (.iinc 1 1, 3) := by decide +kernel
theorem dX12_image_38 : decode cX12_image 38 = .ok (.goto (-22), 3) := by decide +kernel
theorem dX12_image_41 : decode cX12_image 41 = .ok (.aload_n 0, 1) := by decide +kernel
theorem dX12_image_42 : decode cX12_image 42 = .ok (.iconst 1, 1) := by decide +kernel
theorem dX12_image_43 : decode cX12_image 43 = .ok (.putfield 232, 3) := by decide +kernel
theorem dX12_image_46 : decode cX12_image 46 = .ok (.aload_n 0, 1) := by decide +kernel
theorem dX12_image_47 : decode cX12_image 47 = .ok (.getfield 28, 3) := by decide +kernel
theorem dX12_image_50 : decode cX12_image 50 = .ok (.sipush 325, 3) := by decide +kernel
theorem dX12_image_53 : decode cX12_image 53 = .ok (.iaload, 1) := by decide +kernel
theorem dX12_image_54 : decode cX12_image 54 = .ok (.ireturn, 1) := by decide +kernel
theorem dX12_isFaceRead_0 : decode cX12_isFaceRead 0 = .ok (.iconst 0, 1) := by decide +kernel
theorem dX12_isFaceRead_1 : decode cX12_isFaceRead 1 = .ok (.istore_n 3, 1) := by decide +kernel
theorem dX12_isFaceRead_2 : decode cX12_isFaceRead 2 = .ok (.iconst 0, 1) := by decide +kernel
theorem dX12_isFaceRead_3 : decode cX12_isFaceRead 3 = .ok (.istore 4, 2) := by decide +kernel
theorem dX12_isFaceRead_5 : decode cX12_isFaceRead 5 = .ok (.iload 4, 2) := by decide +kernel
theorem dX12_isFaceRead_7 : decode cX12_isFaceRead 7 = .ok (.aload_n 0, 1) := by decide +kernel
theorem dX12_isFaceRead_8 : decode cX12_isFaceRead 8 = .ok (.getfield 153, 3) := by decide +kernel
theorem dX12_isFaceRead_11 : decode cX12_isFaceRead 11 = .ok (.if_icmp .ge 41, 3) := by decide +kernel
theorem dX12_isFaceRead_14 : decode cX12_isFaceRead 14 = .ok (.iload_n 3, 1) := by decide +kernel
theorem dX12_isFaceRead_15 : decode cX12_isFaceRead 15 = .ok (.ifCond .ne 25, 3) := by decide +kernel
theorem dX12_isFaceRead_18 : decode cX12_isFaceRead 18 = .ok (.aload_n 0, 1) := by decide +kernel
theorem dX12_isFaceRead_19 : decode cX12_isFaceRead 19 = .ok (.getfield 13, 3) := by decide +kernel
theorem dX12_isFaceRead_22 : decode cX12_isFaceRead 22 = .ok (.iload 4, 2) := by decide +kernel
theorem dX12_isFaceRead_24 : decode cX12_isFaceRead 24 = .ok (.iaload, 1) := by decide +kernel
theorem dX12_isFaceRead_25 : decode cX12_isFaceRead 25 = .ok (.iload_n 1, 1) := by decide +kernel
theorem dX12_isFaceRead_26 : decode cX12_isFaceRead 26 = .ok (.if_icmp .ne 18, 3) := by decide +kernel
theorem dX12_isFaceRead_29 : decode cX12_isFaceRead 29 = .ok (.aload_n 0, 1) := by decide +kernel
theorem dX12_isFaceRead_30 : decode cX12_isFaceRead 30 = .ok (.getfield 16, 3) := by decide +kernel
theorem dX12_isFaceRead_33 : decode cX12_isFaceRead 33 = .ok (.iload 4, 2) := by decide +kernel
theorem dX12_isFaceRead_35 : decode cX12_isFaceRead 35 = .ok (.iaload, 1) := by decide +kernel
theorem dX12_isFaceRead_36 : decode cX12_isFaceRead 36 = .ok (.iload_n 2, 1) := by decide +kernel
theorem dX12_isFaceRead_37 : decode cX12_isFaceRead 37 = .ok (.if_icmp .ne 7, 3) := by decide +kernel
theorem dX12_isFaceRead_40 : decode cX12_isFaceRead 40 = .ok (.iconst 1, 1) := by decide +kernel
theorem dX12_isFaceRead_41 : decode cX12_isFaceRead 41 = .ok (.goto 4, 3) := by decide +kernel
theorem dX12_isFaceRead_44 : decode cX12_isFaceRead 44 = .ok (.iconst 0, 1) := by decide +kernel
theorem dX12_isFaceRead_45 : decode cX12_isFaceRead 45 = .ok (.istore_n 3, 1) := by decide +kernel
theorem dX12_isFaceRead_46 : decode cX12_isFaceRead 46 = .ok (.iinc 4 1, 3) := by decide +kernel
theorem dX12_isFaceRead_49 : decode cX12_isFaceRead 49 = .ok (.goto (-44), 3) := by decide +kernel
theorem dX12_isFaceRead_52 : decode cX12_isFaceRead 52 = .ok (.iload_n 3, 1) := by decide +kernel
theorem dX12_isFaceRead_53 : decode cX12_isFaceRead 53 = .ok (.ireturn, 1) := by decide +kernel
theorem dX12_isPart_0 : decode cX12_isPart 0 = .ok (.iload_n 3, 1) := by decide +kernel
theorem dX12_isPart_1 : decode cX12_isPart 1 = .ok (.ifCond .eq 33, 3) := by decide +kernel
theorem dX12_isPart_4 : decode cX12_isPart 4 = .ok (.iload_n 3, 1) := by decide +kernel
theorem dX12_isPart_5 : decode cX12_isPart 5 = .ok (.iconst 1, 1) := by decide +kernel
theorem dX12_isPart_6 : decode cX12_isPart 6 = .ok (.if_icmp .ne 13, 3) := by decide +kernel
theorem dX12_isPart_9 : decode cX12_isPart 9 = .ok (.aload_n 0, 1) := by decide +kernel
theorem dX12_isPart_10 : decode cX12_isPart 10 = .ok (.iload_n 1, 1) := by decide +kernel
theorem dX12_isPart_11 : decode cX12_isPart 11 = .ok (.iload_n 2, 1) := by decide +kernel
theorem dX12_isPart_12 : decode cX12_isPart 12 = .ok (.iconst 0, 1) := by decide +kernel
theorem dX12_isPart_13 : decode cX12_isPart 13 = .ok (.invokevirtual 221, 3) := by decide +kernel
theorem dX12_isPart_16 : decode cX12_isPart 16 = .ok (.ifCond .ne 18, 3) := by decide +kernel
theorem dX12_isPart_19 : decode cX12_isPart 19 = .ok (.iload_n 3, 1) := by decide +kernel
theorem dX12_isPart_20 : decode cX12_isPart 20 = .ok (.iconst 2, 1) := by decide +kernel
theorem dX12_isPart_21 : decode cX12_isPart 21 = .ok (.if_icmp .ne 17, 3) := by decide +kernel
theorem dX12_isPart_24 : decode cX12_isPart 24 = .ok (.aload_n 0, 1) := by decide +kernel
theorem dX12_isPart_25 : decode cX12_isPart 25 = .ok (.iload_n 1, 1) := by decide +kernel
theorem dX12_isPart_26 : decode cX12_isPart 26 = .ok (.iload_n 2, 1) := by decide +kernel
theorem dX12_isPart_27 : decode cX12_isPart 27 = .ok (.iconst 1, 1) := by decide +kernel
theorem dX12_isPart_28 : decode cX12_isPart 28 = .ok (.invokevirtual 221, 3) := by decide +kernel
theorem dX12_isPart_31 : decode cX12_isPart 31 = .ok (.ifCond .eq 7, 3) := by decide +kernel
theorem dX12_isPart_34 : decode cX12_isPart 34 = .ok (.iconst 1, 1) := by decide +kernel
theorem dX12_isPart_35 : decode cX12_isPart 35 = .ok (.goto 4, 3) := by decide +kernel
theorem dX12_isPart_38 : decode cX12_isPart 38 = .ok (.iconst 0, 1) := by decide +kernel
theorem dX12_isPart_39 : decode cX12_isPart 39 = .ok (.ireturn, 1) := by decide +kernel
theorem dX12_joins_0 : decode cX12_joins 0 = .ok (.sipush 162, 3) := by decide +kernel
theorem dX12_joins_3 : decode cX12_joins 3 = .ok (.istore_n 3, 1) := by decide +kernel
theorem dX12_joins_4 : decode cX12_joins 4 = .ok (.iconst 0, 1) := by decide +kernel
theorem dX12_joins_5 : decode cX12_joins 5 = .ok (.istore 4, 2) := by decide +kernel
theorem dX12_joins_7 : decode cX12_joins 7 = .ok (.iload 4, 2) := by decide +kernel
theorem dX12_joins_9 : decode cX12_joins 9 = .ok (.iconst 4, 1) := by decide +kernel
theorem dX12_joins_10 : decode cX12_joins 10 = .ok (.if_icmp .ge 44, 3) := by decide +kernel
theorem dX12_joins_13 : decode cX12_joins 13 = .ok (.aload_n 0, 1) := by decide +kernel
theorem dX12_joins_14 : decode cX12_joins 14 = .ok (.iload_n 1, 1) := by decide +kernel
theorem dX12_joins_15 : decode cX12_joins 15 = .ok (.iload_n 2, 1) := by decide +kernel
theorem dX12_joins_16 : decode cX12_joins 16 = .ok (.iload 4, 2) := by decide +kernel
theorem dX12_joins_18 : decode cX12_joins 18 = .ok (.invokevirtual 425, 3) := by decide +kernel
theorem dX12_joins_21 : decode cX12_joins 21 = .ok (.istore 5, 2) := by decide +kernel
theorem dX12_joins_23 : decode cX12_joins 23 = .ok (.aload_n 0, 1) := by decide +kernel
theorem dX12_joins_24 : decode cX12_joins 24 = .ok (.iload 5, 2) := by decide +kernel
theorem dX12_joins_26 : decode cX12_joins 26 = .ok (.invokevirtual 293, 3) := by decide +kernel
theorem dX12_joins_29 : decode cX12_joins 29 = .ok (.ifCond .eq 17, 3) := by decide +kernel
theorem dX12_joins_32 : decode cX12_joins 32 = .ok (.iload_n 3, 1) := by decide +kernel
theorem dX12_joins_33 : decode cX12_joins 33 = .ok (.aload_n 0, 1) := by decide +kernel
theorem dX12_joins_34 : decode cX12_joins 34 = .ok (.getfield 65, 3) := by decide +kernel
theorem dX12_joins_37 : decode cX12_joins 37 = .ok (.iload 5, 2) := by decide +kernel
theorem dX12_joins_39 : decode cX12_joins 39 = .ok (.iaload, 1) := by decide +kernel
theorem dX12_joins_40 : decode cX12_joins 40 = .ok (.invokestatic 128, 3) := by decide +kernel
theorem dX12_joins_43 : decode cX12_joins 43 = .ok (.goto 4, 3) := by decide +kernel
theorem dX12_joins_46 : decode cX12_joins 46 = .ok (.iload_n 3, 1) := by decide +kernel
theorem dX12_joins_47 : decode cX12_joins 47 = .ok (.istore_n 3, 1) := by decide +kernel
theorem dX12_joins_48 : decode cX12_joins 48 = .ok (.iinc 4 1, 3) := by decide +kernel
theorem dX12_joins_51 : decode cX12_joins 51 = .ok (.goto (-44), 3) := by decide +kernel
theorem dX12_joins_54 : decode cX12_joins 54 = .ok (.iconst 0, 1) := by decide +kernel
theorem dX12_joins_55 : decode cX12_joins 55 = .ok (.istore 4, 2) := by decide +kernel
theorem dX12_joins_57 : decode cX12_joins 57 = .ok (.iconst 0, 1) := by decide +kernel
theorem dX12_joins_58 : decode cX12_joins 58 = .ok (.istore 5, 2) := by decide +kernel
theorem dX12_joins_60 : decode cX12_joins 60 = .ok (.iload 5, 2) := by decide +kernel
theorem dX12_joins_62 : decode cX12_joins 62 = .ok (.iconst 4, 1) := by decide +kernel
theorem dX12_joins_63 : decode cX12_joins 63 = .ok (.if_icmp .ge 50, 3) := by decide +kernel
theorem dX12_joins_66 : decode cX12_joins 66 = .ok (.aload_n 0, 1) := by decide +kernel
theorem dX12_joins_67 : decode cX12_joins 67 = .ok (.iload_n 1, 1) := by decide +kernel
theorem dX12_joins_68 : decode cX12_joins 68 = .ok (.iload_n 2, 1) := by decide +kernel
theorem dX12_joins_69 : decode cX12_joins 69 = .ok (.iload 5, 2) := by decide +kernel
theorem dX12_joins_71 : decode cX12_joins 71 = .ok (.invokevirtual 425, 3) := by decide +kernel
theorem dX12_joins_74 : decode cX12_joins 74 = .ok (.istore 6, 2) := by decide +kernel
theorem dX12_joins_76 : decode cX12_joins 76 = .ok (.aload_n 0, 1) := by decide +kernel
theorem dX12_joins_77 : decode cX12_joins 77 = .ok (.iload 6, 2) := by decide +kernel
theorem dX12_joins_79 : decode cX12_joins 79 = .ok (.invokevirtual 293, 3) := by decide +kernel
theorem dX12_joins_82 : decode cX12_joins 82 = .ok (.ifCond .eq 25, 3) := by decide +kernel
theorem dX12_joins_85 : decode cX12_joins 85 = .ok (.aload_n 0, 1) := by decide +kernel
theorem dX12_joins_86 : decode cX12_joins 86 = .ok (.getfield 65, 3) := by decide +kernel
theorem dX12_joins_89 : decode cX12_joins 89 = .ok (.iload 6, 2) := by decide +kernel
theorem dX12_joins_91 : decode cX12_joins 91 = .ok (.iaload, 1) := by decide +kernel
theorem dX12_joins_92 : decode cX12_joins 92 = .ok (.iload_n 3, 1) := by decide +kernel
theorem dX12_joins_93 : decode cX12_joins 93 = .ok (.if_icmp .eq 14, 3) := by decide +kernel
theorem dX12_joins_96 : decode cX12_joins 96 = .ok (.aload_n 0, 1) := by decide +kernel
theorem dX12_joins_97 : decode cX12_joins 97 = .ok (.getfield 65, 3) := by decide +kernel
theorem dX12_joins_100 : decode cX12_joins 100 = .ok (.iload 6, 2) := by decide +kernel
theorem dX12_joins_102 : decode cX12_joins 102 = .ok (.iload_n 3, 1) := by decide +kernel
theorem dX12_joins_103 : decode cX12_joins 103 = .ok (.iastore, 1) := by decide +kernel
theorem dX12_joins_104 : decode cX12_joins 104 = .ok (.iconst 1, 1) := by decide +kernel
theorem dX12_joins_105 : decode cX12_joins 105 = .ok (.istore 4, 2) := by decide +kernel
theorem dX12_joins_107 : decode cX12_joins 107 = .ok (.iinc 5 1, 3) := by decide +kernel
theorem dX12_joins_110 : decode cX12_joins 110 = .ok (.goto (-50), 3) := by decide +kernel
theorem dX12_joins_113 : decode cX12_joins 113 = .ok (.iload 4, 2) := by decide +kernel
theorem dX12_joins_115 : decode cX12_joins 115 = .ok (.ireturn, 1) := by decide +kernel
theorem dX12_layer_0 : decode cX12_layer 0 = .ok (.aload_n 0, 1) := by decide +kernel
theorem dX12_layer_1 : decode cX12_layer 1 = .ok (.iconst 0, 1) := by decide +kernel
theorem dX12_layer_2 : decode cX12_layer 2 = .ok (.putfield 86, 3) := by decide +kernel
theorem dX12_layer_5 : decode cX12_layer 5 = .ok (.aload_n 0, 1) := by decide +kernel
theorem dX12_layer_6 : decode cX12_layer 6 = .ok (.invokevirtual 306, 3) := by decide +kernel
theorem dX12_layer_9 : decode cX12_layer 9 = .ok (.ifCond .eq 31, 3) := by decide +kernel
theorem dX12_layer_12 : decode cX12_layer 12 = .ok (.iload_n 1, 1) := by decide +kernel
theorem dX12_layer_13 : decode cX12_layer 13 = .ok (.i2l, 1) := by decide +kernel
theorem dX12_layer_14 : decode cX12_layer 14 = .ok (.lconst 0, 1) := by decide +kernel
theorem dX12_layer_15 : decode cX12_layer 15 = .ok (.aload_n 0, 1) := by decide +kernel
theorem dX12_layer_16 : decode cX12_layer 16 = .ok (.getfield 208, 3) := by decide +kernel
theorem dX12_layer_19 : decode cX12_layer 19 = .ok (.iconst 1, 1) := by decide +kernel
theorem dX12_layer_20 : decode cX12_layer 20 = .ok (.isub, 1) := by decide +kernel
theorem dX12_layer_21 : decode cX12_layer 21 = .ok (.i2l, 1) := by decide +kernel
theorem dX12_layer_22 : decode cX12_layer 22 = .ok (.invokestatic 97, 3) := by decide +kernel
theorem dX12_layer_25 : decode cX12_layer 25 = .ok (.ifCond .eq 15, 3) := by decide +kernel
theorem dX12_layer_28 : decode cX12_layer 28 = .ok (.iload_n 2, 1) := by decide +kernel
theorem dX12_layer_29 : decode cX12_layer 29 = .ok (.i2l, 1) := by decide +kernel
theorem dX12_layer_30 : decode cX12_layer 30 = .ok (.lconst 0, 1) := by decide +kernel
theorem dX12_layer_31 : decode cX12_layer 31 = .ok (.ldc2_w 291, 3) := by decide +kernel
theorem dX12_layer_34 : decode cX12_layer 34 = .ok (.invokestatic 97, 3) := by decide +kernel
theorem dX12_layer_37 : decode cX12_layer 37 = .ok (.ifCond .ne 7, 3) := by decide +kernel
theorem dX12_layer_40 : decode cX12_layer 40 = .ok (.ldc_w 310, 3) := by decide +kernel
theorem dX12_layer_43 : decode cX12_layer 43 = .ok (.ireturn, 1) := by decide +kernel
theorem dX12_layer_44 : decode cX12_layer 44 = .ok (.iconst 0, 1) := by decide +kernel
theorem dX12_layer_45 : decode cX12_layer 45 = .ok (.istore_n 3, 1) := by decide +kernel
theorem dX12_layer_46 : decode cX12_layer 46 = .ok (.iconst 0, 1) := by decide +kernel
theorem dX12_layer_47 : decode cX12_layer 47 = .ok (.istore 4, 2) := by decide +kernel
theorem dX12_layer_49 : decode cX12_layer 49 = .ok (.iload 4, 2) := by decide +kernel
theorem dX12_layer_51 : decode cX12_layer 51 = .ok (.aload_n 0, 1) := by decide +kernel
theorem dX12_layer_52 : decode cX12_layer 52 = .ok (.getfield 205, 3) := by decide +kernel
theorem dX12_layer_55 : decode cX12_layer 55 = .ok (.if_icmp .ge 75, 3) := by decide +kernel
theorem dX12_layer_58 : decode cX12_layer 58 = .ok (.iload_n 2, 1) := by decide +kernel
theorem dX12_layer_59 : decode cX12_layer 59 = .ok (.iconst 2, 1) := by decide +kernel
theorem dX12_layer_60 : decode cX12_layer 60 = .ok (.if_icmp .ge 33, 3) := by decide +kernel
theorem dX12_layer_63 : decode cX12_layer 63 = .ok (.iload_n 3, 1) := by decide +kernel
theorem dX12_layer_64 : decode cX12_layer 64 = .ok (.iload 4, 2) := by decide +kernel
theorem dX12_layer_66 : decode cX12_layer 66 = .ok (.aload_n 0, 1) := by decide +kernel
theorem dX12_layer_67 : decode cX12_layer 67 = .ok (.getfield 205, 3) := by decide +kernel
theorem dX12_layer_70 : decode cX12_layer 70 = .ok (.iconst 1, 1) := by decide +kernel
theorem dX12_layer_71 : decode cX12_layer 71 = .ok (.isub, 1) := by decide +kernel
theorem dX12_layer_72 : decode cX12_layer 72 = .ok (.if_icmp .ge 15, 3) := by decide +kernel
theorem dX12_layer_75 : decode cX12_layer 75 = .ok (.aload_n 0, 1) := by decide +kernel
theorem dX12_layer_76 : decode cX12_layer 76 = .ok (.iload 4, 2) := by decide +kernel
theorem dX12_layer_78 : decode cX12_layer 78 = .ok (.iload_n 1, 1) := by decide +kernel
theorem dX12_layer_79 : decode cX12_layer 79 = .ok (.iconst 0, 1) := by decide +kernel
theorem dX12_layer_80 : decode cX12_layer 80 = .ok (.iload_n 2, 1) := by decide +kernel
theorem dX12_layer_81 : decode cX12_layer 81 = .ok (.invokevirtual 218, 3) := by decide +kernel
theorem dX12_layer_84 : decode cX12_layer 84 = .ok (.goto 4, 3) := by decide +kernel
theorem dX12_layer_87 : decode cX12_layer 87 = .ok (.iconst 0, 1) := by decide +kernel
theorem dX12_layer_88 : decode cX12_layer 88 = .ok (.iadd, 1) := by decide +kernel
theorem dX12_layer_89 : decode cX12_layer 89 = .ok (.istore_n 3, 1) := by decide +kernel
theorem dX12_layer_90 : decode cX12_layer 90 = .ok (.goto 34, 3) := by decide +kernel
theorem dX12_layer_93 : decode cX12_layer 93 = .ok (.iload_n 3, 1) := by decide +kernel
theorem dX12_layer_94 : decode cX12_layer 94 = .ok (.aload_n 0, 1) := by decide +kernel
theorem dX12_layer_95 : decode cX12_layer 95 = .ok (.iload 4, 2) := by decide +kernel
theorem dX12_layer_97 : decode cX12_layer 97 = .ok (.iload_n 1, 1) := by decide +kernel
theorem dX12_layer_98 : decode cX12_layer 98 = .ok (.iload_n 2, 1) := by decide +kernel
theorem dX12_layer_99 : decode cX12_layer 99 = .ok (.iconst 3, 1) := by decide +kernel
theorem dX12_layer_100 : decode cX12_layer 100 = .ok (.if_icmp .ne 7, 3) := by decide +kernel
theorem dX12_layer_103 : decode cX12_layer 103 = .ok (.iconst 1, 1) := by decide +kernel
theorem dX12_layer_104 : decode cX12_layer 104 = .ok (.goto 4, 3) := by decide +kernel
theorem dX12_layer_107 : decode cX12_layer 107 = .ok (.iconst 0, 1) := by decide +kernel
theorem dX12_layer_108 : decode cX12_layer 108 = .ok (.invokestatic 421, 3) := by decide +kernel
theorem dX12_layer_111 : decode cX12_layer 111 = .ok (.invokevirtual 293, 3) := by decide +kernel
theorem dX12_layer_114 : decode cX12_layer 114 = .ok (.ifCond .eq 7, 3) := by decide +kernel
theorem dX12_layer_117 : decode cX12_layer 117 = .ok (.iconst 1, 1) := by decide +kernel
theorem dX12_layer_118 : decode cX12_layer 118 = .ok (.goto 4, 3) := by decide +kernel
theorem dX12_layer_121 : decode cX12_layer 121 = .ok (.iconst 0, 1) := by decide +kernel
theorem dX12_layer_122 : decode cX12_layer 122 = .ok (.iadd, 1) := by decide +kernel
theorem dX12_layer_123 : decode cX12_layer 123 = .ok (.istore_n 3, 1) := by decide +kernel
theorem dX12_layer_124 : decode cX12_layer 124 = .ok (.iinc 4 1, 3) := by decide +kernel
theorem dX12_layer_127 : decode cX12_layer 127 = .ok (.goto (-78), 3) := by decide +kernel
theorem dX12_layer_130 : decode cX12_layer 130 = .ok (.iload_n 3, 1) := by decide +kernel
theorem dX12_layer_131 : decode cX12_layer 131 = .ok (.ireturn, 1) := by decide +kernel
theorem dX12_laysRid_0 : decode cX12_laysRid 0 = .ok (.aload_n 0, 1) := by decide +kernel
theorem dX12_laysRid_1 : decode cX12_laysRid 1 = .ok (.invokevirtual 238, 3) := by decide +kernel
theorem dX12_laysRid_4 : decode cX12_laysRid 4 = .ok (.pop, 1) := by decide +kernel
theorem dX12_laysRid_5 : decode cX12_laysRid 5 = .ok (.aload_n 0, 1) := by decide +kernel
theorem dX12_laysRid_6 : decode cX12_laysRid 6 = .ok (.getfield 71, 3) := by decide +kernel
theorem dX12_laysRid_9 : decode cX12_laysRid 9 = .ok (.iconst 0, 1) := by decide +kernel
theorem dX12_laysRid_10 : decode cX12_laysRid 10 = .ok (.iconst 0, 1) := by decide +kernel
theorem dX12_laysRid_11 : decode cX12_laysRid 11 = .ok (.iastore, 1) := by decide +kernel
theorem dX12_laysRid_12 : decode cX12_laysRid 12 = .ok (.iconst 1, 1) := by decide +kernel
theorem dX12_laysRid_13 : decode cX12_laysRid 13 = .ok (.istore_n 2, 1) := by decide +kernel
theorem dX12_laysRid_14 : decode cX12_laysRid 14 = .ok (.iload_n 2, 1) := by decide +kernel
theorem dX12_laysRid_15 : decode cX12_laysRid 15 = .ok (.iconst 1, 1) := by decide +kernel
theorem dX12_laysRid_16 : decode cX12_laysRid 16 = .ok (.aload_n 0, 1) := by decide +kernel
theorem dX12_laysRid_17 : decode cX12_laysRid 17 = .ok (.getfield 241, 3) := by decide +kernel
theorem dX12_laysRid_20 : decode cX12_laysRid 20 = .ok (.ishl, 1) := by decide +kernel
theorem dX12_laysRid_21 : decode cX12_laysRid 21 = .ok (.if_icmp .ge 160, 3) := by decide +kernel
theorem dX12_laysRid_24 : decode cX12_laysRid 24 = .ok (.iconst 0, 1) := by decide +kernel
theorem dX12_laysRid_25 : decode cX12_laysRid 25 = .ok (.istore_n 3, 1) := by decide +kernel
theorem dX12_laysRid_26 : decode cX12_laysRid 26 = .ok (.iload_n 2, 1) := by decide +kernel
theorem dX12_laysRid_27 : decode cX12_laysRid 27 = .ok (.iload_n 3, 1) := by decide +kernel
theorem dX12_laysRid_28 : decode cX12_laysRid 28 = .ok (.ishr, 1) := by decide +kernel
theorem dX12_laysRid_29 : decode cX12_laysRid 29 = .ok (.iconst 1, 1) := by decide +kernel
theorem dX12_laysRid_30 : decode cX12_laysRid 30 = .ok (.iand, 1) := by decide +kernel
theorem dX12_laysRid_31 : decode cX12_laysRid 31 = .ok (.ifCond .ne 9, 3) := by decide +kernel
theorem dX12_laysRid_34 : decode cX12_laysRid 34 = .ok (.iinc 3 1, 3) := by decide +kernel
theorem dX12_laysRid_37 : decode cX12_laysRid 37 = .ok (.goto (-11), 3) := by decide +kernel
theorem dX12_laysRid_40 : decode cX12_laysRid 40 = .ok (.iload_n 2, 1) := by decide +kernel
theorem dX12_laysRid_41 : decode cX12_laysRid 41 = .ok (.iconst 1, 1) := by decide +kernel
theorem dX12_laysRid_42 : decode cX12_laysRid 42 = .ok (.iload_n 3, 1) := by decide +kernel
theorem dX12_laysRid_43 : decode cX12_laysRid 43 = .ok (.ishl, 1) := by decide +kernel
theorem dX12_laysRid_44 : decode cX12_laysRid 44 = .ok (.iconst (-1), 1) := by decide +kernel
theorem dX12_laysRid_45 : decode cX12_laysRid 45 = .ok (.ixor, 1) := by decide +kernel
theorem dX12_laysRid_46 : decode cX12_laysRid 46 = .ok (.iand, 1) := by decide +kernel
theorem dX12_laysRid_47 : decode cX12_laysRid 47 = .ok (.istore 4, 2) := by decide +kernel
theorem dX12_laysRid_49 : decode cX12_laysRid 49 = .ok (.aload_n 0, 1) := by decide +kernel
theorem dX12_laysRid_50 : decode cX12_laysRid 50 = .ok (.getfield 71, 3) := by decide +kernel
theorem dX12_laysRid_53 : decode cX12_laysRid 53 = .ok (.iload 4, 2) := by decide +kernel
theorem dX12_laysRid_55 : decode cX12_laysRid 55 = .ok (.iaload, 1) := by decide +kernel
theorem dX12_laysRid_56 : decode cX12_laysRid 56 = .ok (.aload_n 0, 1) := by decide +kernel
theorem dX12_laysRid_57 : decode cX12_laysRid 57 = .ok (.iload_n 3, 1) := by decide +kernel
theorem dX12_laysRid_58 : decode cX12_laysRid 58 = .ok (.iload_n 1, 1) := by decide +kernel
theorem dX12_laysRid_59 : decode cX12_laysRid 59 = .ok (.invokevirtual 443, 3) := by decide +kernel
theorem dX12_laysRid_62 : decode cX12_laysRid 62 = .ok (.iadd, 1) := by decide +kernel
theorem dX12_laysRid_63 : decode cX12_laysRid 63 = .ok (.istore 5, 2) := by decide +kernel
theorem dX12_laysRid_65 : decode cX12_laysRid 65 = .ok (.iload_n 3, 1) := by decide +kernel
theorem dX12_laysRid_66 : decode cX12_laysRid 66 = .ok (.istore 6, 2) := by decide +kernel
theorem dX12_laysRid_68 : decode cX12_laysRid 68 = .ok (.iload_n 3, 1) := by decide +kernel
theorem dX12_laysRid_69 : decode cX12_laysRid 69 = .ok (.iconst 1, 1) := by decide +kernel
theorem dX12_laysRid_70 : decode cX12_laysRid 70 = .ok (.iadd, 1) := by decide +kernel
theorem dX12_laysRid_71 : decode cX12_laysRid 71 = .ok (.istore 7, 2) := by decide +kernel
theorem dX12_laysRid_73 : decode cX12_laysRid 73 = .ok (.iload 7, 2) := by decide +kernel
theorem dX12_laysRid_75 : decode cX12_laysRid 75 = .ok (.aload_n 0, 1) := by decide +kernel
theorem dX12_laysRid_76 : decode cX12_laysRid 76 = .ok (.getfield 241, 3) := by decide +kernel
theorem dX12_laysRid_79 : decode cX12_laysRid 79 = .ok (.if_icmp .ge 80, 3) := by decide +kernel
theorem dX12_laysRid_82 : decode cX12_laysRid 82 = .ok (.iload 4, 2) := by decide +kernel
theorem dX12_laysRid_84 : decode cX12_laysRid 84 = .ok (.iload 7, 2) := by decide +kernel
theorem dX12_laysRid_86 : decode cX12_laysRid 86 = .ok (.ishr, 1) := by decide +kernel
theorem dX12_laysRid_87 : decode cX12_laysRid 87 = .ok (.iconst 1, 1) := by decide +kernel
theorem dX12_laysRid_88 : decode cX12_laysRid 88 = .ok (.iand, 1) := by decide +kernel
theorem dX12_laysRid_89 : decode cX12_laysRid 89 = .ok (.iconst 1, 1) := by decide +kernel
theorem dX12_laysRid_90 : decode cX12_laysRid 90 = .ok (.if_icmp .ne 63, 3) := by decide +kernel
theorem dX12_laysRid_93 : decode cX12_laysRid 93 = .ok (.aload_n 0, 1) := by decide +kernel
theorem dX12_laysRid_94 : decode cX12_laysRid 94 = .ok (.iload_n 3, 1) := by decide +kernel
theorem dX12_laysRid_95 : decode cX12_laysRid 95 = .ok (.iload 7, 2) := by decide +kernel
theorem dX12_laysRid_97 : decode cX12_laysRid 97 = .ok (.invokevirtual 446, 3) := by decide +kernel
theorem dX12_laysRid_100 : decode cX12_laysRid 100 = .ok (.ifCond .eq 53, 3) := by decide +kernel
theorem dX12_laysRid_103 : decode cX12_laysRid 103 = .ok (.aload_n 0, 1) := by decide +kernel
theorem dX12_laysRid_104 : decode cX12_laysRid 104 = .ok (.getfield 71, 3) := by decide +kernel
theorem dX12_laysRid_107 : decode cX12_laysRid 107 = .ok (.iload 4, 2) := by decide +kernel
theorem dX12_laysRid_109 : decode cX12_laysRid 109 = .ok (.iconst 1, 1) := by decide +kernel
theorem dX12_laysRid_110 : decode cX12_laysRid 110 = .ok (.iload 7, 2) := by decide +kernel
theorem dX12_laysRid_112 : decode cX12_laysRid 112 = .ok (.ishl, 1) := by decide +kernel
theorem dX12_laysRid_113 : decode cX12_laysRid 113 = .ok (.iconst (-1), 1) := by decide +kernel
theorem dX12_laysRid_114 : decode cX12_laysRid 114 = .ok (.ixor, 1) := by decide +kernel
theorem dX12_laysRid_115 : decode cX12_laysRid 115 = .ok (.iand, 1) := by decide +kernel
theorem dX12_laysRid_116 : decode cX12_laysRid 116 = .ok (.iaload, 1) := by decide +kernel
theorem dX12_laysRid_117 : decode cX12_laysRid 117 = .ok (.aload_n 0, 1) := by decide +kernel
theorem dX12_laysRid_118 : decode cX12_laysRid 118 = .ok (.iload_n 3, 1) := by decide +kernel
theorem dX12_laysRid_119 : decode cX12_laysRid 119 = .ok (.iload 7, 2) := by decide +kernel
theorem dX12_laysRid_121 : decode cX12_laysRid 121 = .ok (.iload_n 1, 1) := by decide +kernel
theorem dX12_laysRid_122 : decode cX12_laysRid 122 = .ok (.invokevirtual 449, 3) := by decide +kernel
theorem dX12_laysRid_125 : decode cX12_laysRid 125 = .ok (.iadd, 1) := by decide +kernel
theorem dX12_laysRid_126 : decode cX12_laysRid 126 = .ok (.istore 8, 2) := by decide +kernel
theorem dX12_laysRid_128 : decode cX12_laysRid 128 = .ok (.iload 8, 2) := by decide +kernel
theorem dX12_laysRid_130 : decode cX12_laysRid 130 = .ok (.iload 5, 2) := by decide +kernel
theorem dX12_laysRid_132 : decode cX12_laysRid 132 = .ok (.if_icmp .ge 8, 3) := by decide +kernel
theorem dX12_laysRid_135 : decode cX12_laysRid 135 = .ok (.iload 7, 2) := by decide +kernel
theorem dX12_laysRid_137 : decode cX12_laysRid 137 = .ok (.goto 5, 3) := by decide +kernel
theorem dX12_laysRid_140 : decode cX12_laysRid 140 = .ok (.iload 6, 2) := by decide +kernel
theorem dX12_laysRid_142 : decode cX12_laysRid 142 = .ok (.istore 6, 2) := by decide +kernel
theorem dX12_laysRid_144 : decode cX12_laysRid 144 = .ok (.iload 5, 2) := by decide +kernel
theorem dX12_laysRid_146 : decode cX12_laysRid 146 = .ok (.iload 8, 2) := by decide +kernel
theorem dX12_laysRid_148 : decode cX12_laysRid 148 = .ok (.invokestatic 128, 3) := by decide +kernel
theorem dX12_laysRid_151 : decode cX12_laysRid 151 = .ok (.istore 5, 2) := by decide +kernel
theorem dX12_laysRid_153 : decode cX12_laysRid 153 = .ok (.iinc 7 1, 3) := by decide +kernel
theorem dX12_laysRid_156 : decode cX12_laysRid 156 = .ok (.goto (-83), 3) := by decide +kernel
theorem dX12_laysRid_159 : decode cX12_laysRid 159 = .ok (.aload_n 0, 1) := by decide +kernel
theorem dX12_laysRid_160 : decode cX12_laysRid 160 = .ok (.getfield 71, 3) := by decide +kernel
theorem dX12_laysRid_163 : decode cX12_laysRid 163 = .ok (.iload_n 2, 1) := by decide +kernel
theorem dX12_laysRid_164 : decode cX12_laysRid 164 = .ok (.iload 5, 2) := by decide +kernel
theorem dX12_laysRid_166 : decode cX12_laysRid 166 = .ok (.iastore, 1) := by decide +kernel
theorem dX12_laysRid_167 : decode cX12_laysRid 167 = .ok (.aload_n 0, 1) := by decide +kernel
theorem dX12_laysRid_168 : decode cX12_laysRid 168 = .ok (.getfield 74, 3) := by decide +kernel
theorem dX12_laysRid_171 : decode cX12_laysRid 171 = .ok (.iload_n 2, 1) := by decide +kernel
theorem dX12_laysRid_172 : decode cX12_laysRid 172 = .ok (.iload 6, 2) := by decide +kernel
theorem dX12_laysRid_174 : decode cX12_laysRid 174 = .ok (.iastore, 1) := by decide +kernel
theorem dX12_laysRid_175 : decode cX12_laysRid 175 = .ok (.iinc 2 1, 3) := by decide +kernel
theorem dX12_laysRid_178 : decode cX12_laysRid 178 = .ok (.goto (-164), 3) := by decide +kernel
theorem dX12_laysRid_181 : decode cX12_laysRid 181 = .ok (.iconst 1, 1) := by decide +kernel
theorem dX12_laysRid_182 : decode cX12_laysRid 182 = .ok (.aload_n 0, 1) := by decide +kernel
theorem dX12_laysRid_183 : decode cX12_laysRid 183 = .ok (.getfield 241, 3) := by decide +kernel
theorem dX12_laysRid_186 : decode cX12_laysRid 186 = .ok (.ishl, 1) := by decide +kernel
theorem dX12_laysRid_187 : decode cX12_laysRid 187 = .ok (.iconst 1, 1) := by decide +kernel
theorem dX12_laysRid_188 : decode cX12_laysRid 188 = .ok (.isub, 1) := by decide +kernel
theorem dX12_laysRid_189 : decode cX12_laysRid 189 = .ok (.istore_n 2, 1) := by decide +kernel
theorem dX12_laysRid_190 : decode cX12_laysRid 190 = .ok (.iconst 0, 1) := by decide +kernel
theorem dX12_laysRid_191 : decode cX12_laysRid 191 = .ok (.istore_n 3, 1) := by decide +kernel
theorem dX12_laysRid_192 : decode cX12_laysRid 192 = .ok (.iload_n 3, 1) := by decide +kernel
theorem dX12_laysRid_193 : decode cX12_laysRid 193 = .ok (.aload_n 0, 1) := by decide +kernel
theorem dX12_laysRid_194 : decode cX12_laysRid 194 = .ok (.getfield 241, 3) := by decide +kernel
theorem dX12_laysRid_197 : decode cX12_laysRid 197 = .ok (.if_icmp .ge 57, 3) := by decide +kernel
theorem dX12_laysRid_200 : decode cX12_laysRid 200 = .ok (.iload_n 2, 1) := by decide +kernel
theorem dX12_laysRid_201 : decode cX12_laysRid 201 = .ok (.iload_n 3, 1) := by decide +kernel
theorem dX12_laysRid_202 : decode cX12_laysRid 202 = .ok (.ishr, 1) := by decide +kernel
theorem dX12_laysRid_203 : decode cX12_laysRid 203 = .ok (.iconst 1, 1) := by decide +kernel
theorem dX12_laysRid_204 : decode cX12_laysRid 204 = .ok (.iand, 1) := by decide +kernel
theorem dX12_laysRid_205 : decode cX12_laysRid 205 = .ok (.iconst 1, 1) := by decide +kernel
theorem dX12_laysRid_206 : decode cX12_laysRid 206 = .ok (.if_icmp .ne 42, 3) := by decide +kernel
theorem dX12_laysRid_209 : decode cX12_laysRid 209 = .ok (.aload_n 0, 1) := by decide +kernel
theorem dX12_laysRid_210 : decode cX12_laysRid 210 = .ok (.getfield 74, 3) := by decide +kernel
theorem dX12_laysRid_213 : decode cX12_laysRid 213 = .ok (.iload_n 2, 1) := by decide +kernel
theorem dX12_laysRid_214 : decode cX12_laysRid 214 = .ok (.iaload, 1) := by decide +kernel
theorem dX12_laysRid_215 : decode cX12_laysRid 215 = .ok (.istore 4, 2) := by decide +kernel
theorem dX12_laysRid_217 : decode cX12_laysRid 217 = .ok (.aload_n 0, 1) := by decide +kernel
theorem dX12_laysRid_218 : decode cX12_laysRid 218 = .ok (.getfield 77, 3) := by decide +kernel
theorem dX12_laysRid_221 : decode cX12_laysRid 221 = .ok (.iload_n 3, 1) := by decide +kernel
theorem dX12_laysRid_222 : decode cX12_laysRid 222 = .ok (.iload 4, 2) := by decide +kernel
theorem dX12_laysRid_224 : decode cX12_laysRid 224 = .ok (.iastore, 1) := by decide +kernel
theorem dX12_laysRid_225 : decode cX12_laysRid 225 = .ok (.aload_n 0, 1) := by decide +kernel
theorem dX12_laysRid_226 : decode cX12_laysRid 226 = .ok (.getfield 77, 3) := by decide +kernel
theorem dX12_laysRid_229 : decode cX12_laysRid 229 = .ok (.iload 4, 2) := by decide +kernel
theorem dX12_laysRid_231 : decode cX12_laysRid 231 = .ok (.iload_n 3, 1) := by decide +kernel
theorem dX12_laysRid_232 : decode cX12_laysRid 232 = .ok (.iastore, 1) := by decide +kernel
theorem dX12_laysRid_233 : decode cX12_laysRid 233 = .ok (.iload_n 2, 1) := by decide +kernel
theorem dX12_laysRid_234 : decode cX12_laysRid 234 = .ok (.iconst 1, 1) := by decide +kernel
theorem dX12_laysRid_235 : decode cX12_laysRid 235 = .ok (.iload_n 3, 1) := by decide +kernel
theorem dX12_laysRid_236 : decode cX12_laysRid 236 = .ok (.ishl, 1) := by decide +kernel
theorem dX12_laysRid_237 : decode cX12_laysRid 237 = .ok (.iconst (-1), 1) := by decide +kernel
theorem dX12_laysRid_238 : decode cX12_laysRid 238 = .ok (.ixor, 1) := by decide +kernel
theorem dX12_laysRid_239 : decode cX12_laysRid 239 = .ok (.iconst 1, 1) := by decide +kernel
theorem dX12_laysRid_240 : decode cX12_laysRid 240 = .ok (.iload 4, 2) := by decide +kernel
theorem dX12_laysRid_242 : decode cX12_laysRid 242 = .ok (.ishl, 1) := by decide +kernel
theorem dX12_laysRid_243 : decode cX12_laysRid 243 = .ok (.iconst (-1), 1) := by decide +kernel
theorem dX12_laysRid_244 : decode cX12_laysRid 244 = .ok (.ixor, 1) := by decide +kernel
theorem dX12_laysRid_245 : decode cX12_laysRid 245 = .ok (.iand, 1) := by decide +kernel
theorem dX12_laysRid_246 : decode cX12_laysRid 246 = .ok (.iand, 1) := by decide +kernel
theorem dX12_laysRid_247 : decode cX12_laysRid 247 = .ok (.istore_n 2, 1) := by decide +kernel
theorem dX12_laysRid_248 : decode cX12_laysRid 248 = .ok (.iinc 3 1, 3) := by decide +kernel
theorem dX12_laysRid_251 : decode cX12_laysRid 251 = .ok (.goto (-59), 3) := by decide +kernel
theorem dX12_laysRid_254 : decode cX12_laysRid 254 = .ok (.aload_n 0, 1) := by decide +kernel
theorem dX12_laysRid_255 : decode cX12_laysRid 255 = .ok (.getfield 71, 3) := by decide +kernel
theorem dX12_laysRid_258 : decode cX12_laysRid 258 = .ok (.iconst 1, 1) := by decide +kernel
theorem dX12_laysRid_259 : decode cX12_laysRid 259 = .ok (.aload_n 0, 1) := by decide +kernel
theorem dX12_laysRid_260 : decode cX12_laysRid 260 = .ok (.getfield 241, 3) := by decide +kernel
theorem dX12_laysRid_263 : decode cX12_laysRid 263 = .ok (.ishl, 1) := by decide +kernel
theorem dX12_laysRid_264 : decode cX12_laysRid 264 = .ok (.iconst 1, 1) := by decide +kernel
theorem dX12_laysRid_265 : decode cX12_laysRid 265 = .ok (.isub, 1) := by decide +kernel
theorem dX12_laysRid_266 : decode cX12_laysRid 266 = .ok (.iaload, 1) := by decide +kernel
theorem dX12_laysRid_267 : decode cX12_laysRid 267 = .ok (.ireturn, 1) := by decide +kernel
theorem dX12_laysWalls_0 : decode cX12_laysWalls 0 = .ok (.iconst 0, 1) := by decide +kernel
theorem dX12_laysWalls_1 : decode cX12_laysWalls 1 = .ok (.istore_n 1, 1) := by decide +kernel
theorem dX12_laysWalls_2 : decode cX12_laysWalls 2 = .ok (.iload_n 1, 1) := by decide +kernel
theorem dX12_laysWalls_3 : decode cX12_laysWalls 3 = .ok (.sipush 162, 3) := by decide +kernel
theorem dX12_laysWalls_6 : decode cX12_laysWalls 6 = .ok (.if_icmp .ge 16, 3) := by decide +kernel
theorem dX12_laysWalls_9 : decode cX12_laysWalls 9 = .ok (.aload_n 0, 1) := by decide +kernel
theorem dX12_laysWalls_10 : decode cX12_laysWalls 10 = .ok (.getfield 65, 3) := by decide +kernel
theorem dX12_laysWalls_13 : decode cX12_laysWalls 13 = .ok (.iload_n 1, 1) := by decide +kernel
theorem dX12_laysWalls_14 : decode cX12_laysWalls 14 = .ok (.iload_n 1, 1) := by decide +kernel
theorem dX12_laysWalls_15 : decode cX12_laysWalls 15 = .ok (.iastore, 1) := by decide +kernel
theorem dX12_laysWalls_16 : decode cX12_laysWalls 16 = .ok (.iinc 1 1, 3) := by decide +kernel
theorem dX12_laysWalls_19 : decode cX12_laysWalls 19 = .ok (.goto (-17), 3) := by decide +kernel
theorem dX12_laysWalls_22 : decode cX12_laysWalls 22 = .ok (.iconst 1, 1) := by decide +kernel
theorem dX12_laysWalls_23 : decode cX12_laysWalls 23 = .ok (.istore_n 1, 1) := by decide +kernel
theorem dX12_laysWalls_24 : decode cX12_laysWalls 24 = .ok (.iload_n 1, 1) := by decide +kernel
theorem dX12_laysWalls_25 : decode cX12_laysWalls 25 = .ok (.ifCond .eq 63, 3) := by decide +kernel
theorem dX12_laysWalls_28 : decode cX12_laysWalls 28 = .ok (.iconst 0, 1) := by decide +kernel
theorem dX12_laysWalls_29 : decode cX12_laysWalls 29 = .ok (.istore_n 1, 1) := by decide +kernel
theorem dX12_laysWalls_30 : decode cX12_laysWalls 30 = .ok (.iconst 0, 1) := by decide +kernel
theorem dX12_laysWalls_31 : decode cX12_laysWalls 31 = .ok (.istore_n 2, 1) := by decide +kernel
theorem dX12_laysWalls_32 : decode cX12_laysWalls 32 = .ok (.iload_n 2, 1) := by decide +kernel
theorem dX12_laysWalls_33 : decode cX12_laysWalls 33 = .ok (.aload_n 0, 1) := by decide +kernel
theorem dX12_laysWalls_34 : decode cX12_laysWalls 34 = .ok (.getfield 208, 3) := by decide +kernel
theorem dX12_laysWalls_37 : decode cX12_laysWalls 37 = .ok (.iconst 1, 1) := by decide +kernel
theorem dX12_laysWalls_38 : decode cX12_laysWalls 38 = .ok (.isub, 1) := by decide +kernel
theorem dX12_laysWalls_39 : decode cX12_laysWalls 39 = .ok (.if_icmp .ge 46, 3) := by decide +kernel
theorem dX12_laysWalls_42 : decode cX12_laysWalls 42 = .ok (.iconst 0, 1) := by decide +kernel
theorem dX12_laysWalls_43 : decode cX12_laysWalls 43 = .ok (.istore_n 3, 1) := by decide +kernel
theorem dX12_laysWalls_44 : decode cX12_laysWalls 44 = .ok (.iload_n 3, 1) := by decide +kernel
theorem dX12_laysWalls_45 : decode cX12_laysWalls 45 = .ok (.aload_n 0, 1) := by decide +kernel
theorem dX12_laysWalls_46 : decode cX12_laysWalls 46 = .ok (.getfield 205, 3) := by decide +kernel
theorem dX12_laysWalls_49 : decode cX12_laysWalls 49 = .ok (.iconst 1, 1) := by decide +kernel
theorem dX12_laysWalls_50 : decode cX12_laysWalls 50 = .ok (.isub, 1) := by decide +kernel
theorem dX12_laysWalls_51 : decode cX12_laysWalls 51 = .ok (.if_icmp .ge 28, 3) := by decide +kernel
theorem dX12_laysWalls_54 : decode cX12_laysWalls 54 = .ok (.aload_n 0, 1) := by decide +kernel
theorem dX12_laysWalls_55 : decode cX12_laysWalls 55 = .ok (.iload_n 3, 1) := by decide +kernel
theorem dX12_laysWalls_56 : decode cX12_laysWalls 56 = .ok (.iload_n 2, 1) := by decide +kernel
theorem dX12_laysWalls_57 : decode cX12_laysWalls 57 = .ok (.invokevirtual 428, 3) := by decide +kernel
theorem dX12_laysWalls_60 : decode cX12_laysWalls 60 = .ok (.ifCond .ne 7, 3) := by decide +kernel
theorem dX12_laysWalls_63 : decode cX12_laysWalls 63 = .ok (.iload_n 1, 1) := by decide +kernel
theorem dX12_laysWalls_64 : decode cX12_laysWalls 64 = .ok (.ifCond .eq 7, 3) := by decide +kernel
theorem dX12_laysWalls_67 : decode cX12_laysWalls 67 = .ok (.iconst 1, 1) := by decide +kernel
theorem dX12_laysWalls_68 : decode cX12_laysWalls 68 = .ok (.goto 4, 3) := by decide +kernel
theorem dX12_laysWalls_71 : decode cX12_laysWalls 71 = .ok (.iconst 0, 1) := by decide +kernel
theorem dX12_laysWalls_72 : decode cX12_laysWalls 72 = .ok (.istore_n 1, 1) := by decide +kernel
theorem dX12_laysWalls_73 : decode cX12_laysWalls 73 = .ok (.iinc 3 1, 3) := by decide +kernel
theorem dX12_laysWalls_76 : decode cX12_laysWalls 76 = .ok (.goto (-32), 3) := by decide +kernel
theorem dX12_laysWalls_79 : decode cX12_laysWalls 79 = .ok (.iinc 2 1, 3) := by decide +kernel
theorem dX12_laysWalls_82 : decode cX12_laysWalls 82 = .ok (.goto (-50), 3) := by decide +kernel
theorem dX12_laysWalls_85 : decode cX12_laysWalls 85 = .ok (.goto (-61), 3) := by decide +kernel
theorem dX12_laysWalls_88 : decode cX12_laysWalls 88 = .ok (.aload_n 0, 1) := by decide +kernel
theorem dX12_laysWalls_89 : decode cX12_laysWalls 89 = .ok (.iconst 0, 1) := by decide +kernel
theorem dX12_laysWalls_90 : decode cX12_laysWalls 90 = .ok (.putfield 431, 3) := by decide +kernel
theorem dX12_laysWalls_93 : decode cX12_laysWalls 93 = .ok (.iconst 0, 1) := by decide +kernel
theorem dX12_laysWalls_94 : decode cX12_laysWalls 94 = .ok (.istore_n 2, 1) := by decide +kernel
theorem dX12_laysWalls_95 : decode cX12_laysWalls 95 = .ok (.iload_n 2, 1) := by decide +kernel
theorem dX12_laysWalls_96 : decode cX12_laysWalls 96 = .ok (.sipush 162, 3) := by decide +kernel
theorem dX12_laysWalls_99 : decode cX12_laysWalls 99 = .ok (.if_icmp .ge 47, 3) := by decide +kernel
theorem dX12_laysWalls_102 : decode cX12_laysWalls 102 = .ok (.aload_n 0, 1) := by decide +kernel
theorem dX12_laysWalls_103 : decode cX12_laysWalls 103 = .ok (.iload_n 2, 1) := by decide +kernel
theorem dX12_laysWalls_104 : decode cX12_laysWalls 104 = .ok (.invokevirtual 293, 3) := by decide +kernel
theorem dX12_laysWalls_107 : decode cX12_laysWalls 107 = .ok (.ifCond .eq 33, 3) := by decide +kernel
theorem dX12_laysWalls_110 : decode cX12_laysWalls 110 = .ok (.aload_n 0, 1) := by decide +kernel
theorem dX12_laysWalls_111 : decode cX12_laysWalls 111 = .ok (.getfield 65, 3) := by decide +kernel
theorem dX12_laysWalls_114 : decode cX12_laysWalls 114 = .ok (.iload_n 2, 1) := by decide +kernel
theorem dX12_laysWalls_115 : decode cX12_laysWalls 115 = .ok (.iaload, 1) := by decide +kernel
theorem dX12_laysWalls_116 : decode cX12_laysWalls 116 = .ok (.iload_n 2, 1) := by decide +kernel
theorem dX12_laysWalls_117 : decode cX12_laysWalls 117 = .ok (.if_icmp .ne 23, 3) := by decide +kernel
theorem dX12_laysWalls_120 : decode cX12_laysWalls 120 = .ok (.aload_n 0, 1) := by decide +kernel
theorem dX12_laysWalls_121 : decode cX12_laysWalls 121 = .ok (.getfield 68, 3) := by decide +kernel
theorem dX12_laysWalls_124 : decode cX12_laysWalls 124 = .ok (.aload_n 0, 1) := by decide +kernel
theorem dX12_laysWalls_125 : decode cX12_laysWalls 125 = .ok (.getfield 431, 3) := by decide +kernel
theorem dX12_laysWalls_128 : decode cX12_laysWalls 128 = .ok (.iload_n 2, 1) := by decide +kernel
theorem dX12_laysWalls_129 : decode cX12_laysWalls 129 = .ok (.iastore, 1) := by decide +kernel
theorem dX12_laysWalls_130 : decode cX12_laysWalls 130 = .ok (.aload_n 0, 1) := by decide +kernel
theorem dX12_laysWalls_131 : decode cX12_laysWalls 131 = .ok (.dup, 1) := by decide +kernel
theorem dX12_laysWalls_132 : decode cX12_laysWalls 132 = .ok (.getfield 431, 3) := by decide +kernel
theorem dX12_laysWalls_135 : decode cX12_laysWalls 135 = .ok (.iconst 1, 1) := by decide +kernel
theorem dX12_laysWalls_136 : decode cX12_laysWalls 136 = .ok (.iadd, 1) := by decide +kernel
theorem dX12_laysWalls_137 : decode cX12_laysWalls 137 = .ok (.putfield 431, 3) := by decide +kernel
theorem dX12_laysWalls_140 : decode cX12_laysWalls 140 = .ok (.iinc 2 1, 3) := by decide +kernel
theorem dX12_laysWalls_143 : decode cX12_laysWalls 143 = .ok (.goto (-48), 3) := by decide +kernel
theorem dX12_laysWalls_146 : decode cX12_laysWalls 146 = .ok (.aload_n 0, 1) := by decide +kernel
theorem dX12_laysWalls_147 : decode cX12_laysWalls 147 = .ok (.getfield 431, 3) := by decide +kernel
theorem dX12_laysWalls_150 : decode cX12_laysWalls 150 = .ok (.ireturn, 1) := by decide +kernel
theorem dX12_nextOn_0 : decode cX12_nextOn 0 = .ok (.iconst (-1), 1) := by decide +kernel
theorem dX12_nextOn_1 : decode cX12_nextOn 1 = .ok (.istore 4, 2) := by decide +kernel
theorem dX12_nextOn_3 : decode cX12_nextOn 3 = .ok (.iconst 0, 1) := by decide +kernel
theorem dX12_nextOn_4 : decode cX12_nextOn 4 = .ok (.istore 5, 2) := by decide +kernel
theorem dX12_nextOn_6 : decode cX12_nextOn 6 = .ok (.iload 5, 2) := by decide +kernel
theorem dX12_nextOn_8 : decode cX12_nextOn 8 = .ok (.aload_n 0, 1) := by decide +kernel
theorem dX12_nextOn_9 : decode cX12_nextOn 9 = .ok (.getfield 241, 3) := by decide +kernel
theorem dX12_nextOn_12 : decode cX12_nextOn 12 = .ok (.if_icmp .ge 113, 3) := by decide +kernel
theorem dX12_nextOn_15 : decode cX12_nextOn 15 = .ok (.iload 5, 2) := by decide +kernel
theorem dX12_nextOn_17 : decode cX12_nextOn 17 = .ok (.iload_n 1, 1) := by decide +kernel
theorem dX12_nextOn_18 : decode cX12_nextOn 18 = .ok (.if_icmp .eq 101, 3) := by decide +kernel
theorem dX12_nextOn_21 : decode cX12_nextOn 21 = .ok (.aload_n 0, 1) := by decide +kernel
theorem dX12_nextOn_22 : decode cX12_nextOn 22 = .ok (.iload 5, 2) := by decide +kernel
theorem dX12_nextOn_24 : decode cX12_nextOn 24 = .ok (.iconst 1, 1) := by decide +kernel
theorem dX12_nextOn_25 : decode cX12_nextOn 25 = .ok (.iload_n 2, 1) := by decide +kernel
theorem dX12_nextOn_26 : decode cX12_nextOn 26 = .ok (.isub, 1) := by decide +kernel
theorem dX12_nextOn_27 : decode cX12_nextOn 27 = .ok (.invokevirtual 275, 3) := by decide +kernel
theorem dX12_nextOn_30 : decode cX12_nextOn 30 = .ok (.aload_n 0, 1) := by decide +kernel
theorem dX12_nextOn_31 : decode cX12_nextOn 31 = .ok (.iload_n 1, 1) := by decide +kernel
theorem dX12_nextOn_32 : decode cX12_nextOn 32 = .ok (.iconst 1, 1) := by decide +kernel
theorem dX12_nextOn_33 : decode cX12_nextOn 33 = .ok (.iload_n 2, 1) := by decide +kernel
theorem dX12_nextOn_34 : decode cX12_nextOn 34 = .ok (.isub, 1) := by decide +kernel
theorem dX12_nextOn_35 : decode cX12_nextOn 35 = .ok (.invokevirtual 275, 3) := by decide +kernel
theorem dX12_nextOn_38 : decode cX12_nextOn 38 = .ok (.if_icmp .ne 81, 3) := by decide +kernel
theorem dX12_nextOn_41 : decode cX12_nextOn 41 = .ok (.aload_n 0, 1) := by decide +kernel
theorem dX12_nextOn_42 : decode cX12_nextOn 42 = .ok (.iload 5, 2) := by decide +kernel
theorem dX12_nextOn_44 : decode cX12_nextOn 44 = .ok (.iload_n 2, 1) := by decide +kernel
theorem dX12_nextOn_45 : decode cX12_nextOn 45 = .ok (.invokevirtual 275, 3) := by decide +kernel
theorem dX12_nextOn_48 : decode cX12_nextOn 48 = .ok (.aload_n 0, 1) := by decide +kernel
theorem dX12_nextOn_49 : decode cX12_nextOn 49 = .ok (.iload_n 1, 1) := by decide +kernel
theorem dX12_nextOn_50 : decode cX12_nextOn 50 = .ok (.iload_n 2, 1) := by decide +kernel
theorem dX12_nextOn_51 : decode cX12_nextOn 51 = .ok (.invokevirtual 275, 3) := by decide +kernel
theorem dX12_nextOn_54 : decode cX12_nextOn 54 = .ok (.if_icmp .le 7, 3) := by decide +kernel
theorem dX12_nextOn_57 : decode cX12_nextOn 57 = .ok (.iconst 1, 1) := by decide +kernel
theorem dX12_nextOn_58 : decode cX12_nextOn 58 = .ok (.goto 4, 3) := by decide +kernel
theorem dX12_nextOn_61 : decode cX12_nextOn 61 = .ok (.iconst 0, 1) := by decide +kernel
theorem dX12_nextOn_62 : decode cX12_nextOn 62 = .ok (.iload_n 3, 1) := by decide +kernel
theorem dX12_nextOn_63 : decode cX12_nextOn 63 = .ok (.if_icmp .ne 56, 3) := by decide +kernel
theorem dX12_nextOn_66 : decode cX12_nextOn 66 = .ok (.iload 4, 2) := by decide +kernel
theorem dX12_nextOn_68 : decode cX12_nextOn 68 = .ok (.iconst (-1), 1) := by decide +kernel
theorem dX12_nextOn_69 : decode cX12_nextOn 69 = .ok (.if_icmp .eq 29, 3) := by decide +kernel
theorem dX12_nextOn_72 : decode cX12_nextOn 72 = .ok (.aload_n 0, 1) := by decide +kernel
theorem dX12_nextOn_73 : decode cX12_nextOn 73 = .ok (.iload 5, 2) := by decide +kernel
theorem dX12_nextOn_75 : decode cX12_nextOn 75 = .ok (.iload_n 2, 1) := by decide +kernel
theorem dX12_nextOn_76 : decode cX12_nextOn 76 = .ok (.invokevirtual 275, 3) := by decide +kernel
theorem dX12_nextOn_79 : decode cX12_nextOn 79 = .ok (.aload_n 0, 1) := by decide +kernel
theorem dX12_nextOn_80 : decode cX12_nextOn 80 = .ok (.iload 4, 2) := by decide +kernel
theorem dX12_nextOn_82 : decode cX12_nextOn 82 = .ok (.iload_n 2, 1) := by decide +kernel
theorem dX12_nextOn_83 : decode cX12_nextOn 83 = .ok (.invokevirtual 275, 3) := by decide +kernel
theorem dX12_nextOn_86 : decode cX12_nextOn 86 = .ok (.if_icmp .ge 7, 3) := by decide +kernel
theorem dX12_nextOn_89 : decode cX12_nextOn 89 = .ok (.iconst 1, 1) := by decide +kernel
theorem dX12_nextOn_90 : decode cX12_nextOn 90 = .ok (.goto 4, 3) := by decide +kernel
theorem dX12_nextOn_93 : decode cX12_nextOn 93 = .ok (.iconst 0, 1) := by decide +kernel
theorem dX12_nextOn_94 : decode cX12_nextOn 94 = .ok (.iload_n 3, 1) := by decide +kernel
theorem dX12_nextOn_95 : decode cX12_nextOn 95 = .ok (.if_icmp .ne 7, 3) := by decide +kernel
theorem dX12_nextOn_98 : decode cX12_nextOn 98 = .ok (.iconst 1, 1) := by decide +kernel
theorem dX12_nextOn_99 : decode cX12_nextOn 99 = .ok (.goto 4, 3) := by decide +kernel
theorem dX12_nextOn_102 : decode cX12_nextOn 102 = .ok (.iconst 0, 1) := by decide +kernel
theorem dX12_nextOn_103 : decode cX12_nextOn 103 = .ok (.istore 6, 2) := by decide +kernel
theorem dX12_nextOn_105 : decode cX12_nextOn 105 = .ok (.iload 6, 2) := by decide +kernel
theorem dX12_nextOn_107 : decode cX12_nextOn 107 = .ok (.ifCond .eq 8, 3) := by decide +kernel
theorem dX12_nextOn_110 : decode cX12_nextOn 110 = .ok (.iload 5, 2) := by decide +kernel
theorem dX12_nextOn_112 : decode cX12_nextOn 112 = .ok (.goto 5, 3) := by decide +kernel
theorem dX12_nextOn_115 : decode cX12_nextOn 115 = .ok (.iload 4, 2) := by decide +kernel
theorem dX12_nextOn_117 : decode cX12_nextOn 117 = .ok (.istore 4, 2) := by decide +kernel
theorem dX12_nextOn_119 : decode cX12_nextOn 119 = .ok (.iinc 5 1, 3) := by decide +kernel
theorem dX12_nextOn_122 : decode cX12_nextOn 122 = .ok (.goto (-116), 3) := by decide +kernel
theorem dX12_nextOn_125 : decode cX12_nextOn 125 = .ok (.iload 4, 2) := by decide +kernel
theorem dX12_nextOn_127 : decode cX12_nextOn 127 = .ok (.ireturn, 1) := by decide +kernel
theorem dX12_line_0 : decode cX12_line 0 = .ok (.aload_n 0, 1) := by decide +kernel
theorem dX12_line_1 : decode cX12_line 1 = .ok (.iconst 0, 1) := by decide +kernel
theorem dX12_line_2 : decode cX12_line 2 = .ok (.putfield 86, 3) := by decide +kernel
theorem dX12_line_5 : decode cX12_line 5 = .ok (.aload_n 0, 1) := by decide +kernel
theorem dX12_line_6 : decode cX12_line 6 = .ok (.invokevirtual 306, 3) := by decide +kernel
theorem dX12_line_9 : decode cX12_line 9 = .ok (.ifCond .eq 15, 3) := by decide +kernel
theorem dX12_line_12 : decode cX12_line 12 = .ok (.iload_n 2, 1) := by decide +kernel
theorem dX12_line_13 : decode cX12_line 13 = .ok (.i2l, 1) := by decide +kernel
theorem dX12_line_14 : decode cX12_line 14 = .ok (.lconst 0, 1) := by decide +kernel
theorem dX12_line_15 : decode cX12_line 15 = .ok (.ldc2_w 291, 3) := by decide +kernel
theorem dX12_line_18 : decode cX12_line 18 = .ok (.invokestatic 97, 3) := by decide +kernel
theorem dX12_line_21 : decode cX12_line 21 = .ok (.ifCond .ne 7, 3) := by decide +kernel
theorem dX12_line_24 : decode cX12_line 24 = .ok (.ldc_w 310, 3) := by decide +kernel
theorem dX12_line_27 : decode cX12_line 27 = .ok (.ireturn, 1) := by decide +kernel
theorem dX12_line_28 : decode cX12_line 28 = .ok (.aload_n 0, 1) := by decide +kernel
theorem dX12_line_29 : decode cX12_line 29 = .ok (.invokevirtual 238, 3) := by decide +kernel
theorem dX12_line_32 : decode cX12_line 32 = .ok (.pop, 1) := by decide +kernel
theorem dX12_line_33 : decode cX12_line 33 = .ok (.iload_n 1, 1) := by decide +kernel
theorem dX12_line_34 : decode cX12_line 34 = .ok (.i2l, 1) := by decide +kernel
theorem dX12_line_35 : decode cX12_line 35 = .ok (.lconst 0, 1) := by decide +kernel
theorem dX12_line_36 : decode cX12_line 36 = .ok (.aload_n 0, 1) := by decide +kernel
theorem dX12_line_37 : decode cX12_line 37 = .ok (.getfield 241, 3) := by decide +kernel
theorem dX12_line_40 : decode cX12_line 40 = .ok (.iconst 1, 1) := by decide +kernel
theorem dX12_line_41 : decode cX12_line 41 = .ok (.isub, 1) := by decide +kernel
theorem dX12_line_42 : decode cX12_line 42 = .ok (.i2l, 1) := by decide +kernel
theorem dX12_line_43 : decode cX12_line 43 = .ok (.invokestatic 97, 3) := by decide +kernel
theorem dX12_line_46 : decode cX12_line 46 = .ok (.ifCond .eq 12, 3) := by decide +kernel
theorem dX12_line_49 : decode cX12_line 49 = .ok (.aload_n 0, 1) := by decide +kernel
theorem dX12_line_50 : decode cX12_line 50 = .ok (.iload_n 1, 1) := by decide +kernel
theorem dX12_line_51 : decode cX12_line 51 = .ok (.invokevirtual 269, 3) := by decide +kernel
theorem dX12_line_54 : decode cX12_line 54 = .ok (.iconst (-1), 1) := by decide +kernel
theorem dX12_line_55 : decode cX12_line 55 = .ok (.if_icmp .ne 7, 3) := by decide +kernel
theorem dX12_line_58 : decode cX12_line 58 = .ok (.ldc_w 310, 3) := by decide +kernel
theorem dX12_line_61 : decode cX12_line 61 = .ok (.ireturn, 1) := by decide +kernel
theorem dX12_line_62 : decode cX12_line 62 = .ok (.aload_n 0, 1) := by decide +kernel
theorem dX12_line_63 : decode cX12_line 63 = .ok (.iload_n 1, 1) := by decide +kernel
theorem dX12_line_64 : decode cX12_line 64 = .ok (.invokevirtual 269, 3) := by decide +kernel
theorem dX12_line_67 : decode cX12_line 67 = .ok (.istore_n 3, 1) := by decide +kernel
theorem dX12_line_68 : decode cX12_line 68 = .ok (.aload_n 0, 1) := by decide +kernel
theorem dX12_line_69 : decode cX12_line 69 = .ok (.iload_n 1, 1) := by decide +kernel
theorem dX12_line_70 : decode cX12_line 70 = .ok (.iload_n 3, 1) := by decide +kernel
theorem dX12_line_71 : decode cX12_line 71 = .ok (.iload_n 2, 1) := by decide +kernel
theorem dX12_line_72 : decode cX12_line 72 = .ok (.iconst 2, 1) := by decide +kernel
theorem dX12_line_73 : decode cX12_line 73 = .ok (.if_icmp .ge 7, 3) := by decide +kernel
theorem dX12_line_76 : decode cX12_line 76 = .ok (.iconst 1, 1) := by decide +kernel
theorem dX12_line_77 : decode cX12_line 77 = .ok (.goto 4, 3) := by decide +kernel
theorem dX12_line_80 : decode cX12_line 80 = .ok (.iconst 0, 1) := by decide +kernel
theorem dX12_line_81 : decode cX12_line 81 = .ok (.invokevirtual 470, 3) := by decide +kernel
theorem dX12_line_84 : decode cX12_line 84 = .ok (.istore 4, 2) := by decide +kernel
theorem dX12_line_86 : decode cX12_line 86 = .ok (.iload 4, 2) := by decide +kernel
theorem dX12_line_88 : decode cX12_line 88 = .ok (.iconst (-1), 1) := by decide +kernel
theorem dX12_line_89 : decode cX12_line 89 = .ok (.if_icmp .eq 9, 3) := by decide +kernel
theorem dX12_line_92 : decode cX12_line 92 = .ok (.iload_n 2, 1) := by decide +kernel
theorem dX12_line_93 : decode cX12_line 93 = .ok (.iconst 2, 1) := by decide +kernel
theorem dX12_line_94 : decode cX12_line 94 = .ok (.irem, 1) := by decide +kernel
theorem dX12_line_95 : decode cX12_line 95 = .ok (.ifCond .ne 8, 3) := by decide +kernel
theorem dX12_line_98 : decode cX12_line 98 = .ok (.iload 4, 2) := by decide +kernel
theorem dX12_line_100 : decode cX12_line 100 = .ok (.goto 20, 3) := by decide +kernel
theorem dX12_line_103 : decode cX12_line 103 = .ok (.aload_n 0, 1) := by decide +kernel
theorem dX12_line_104 : decode cX12_line 104 = .ok (.iload 4, 2) := by decide +kernel
theorem dX12_line_106 : decode cX12_line 106 = .ok (.iload_n 3, 1) := by decide +kernel
theorem dX12_line_107 : decode cX12_line 107 = .ok (.invokevirtual 275, 3) := by decide +kernel
theorem dX12_line_110 : decode cX12_line 110 = .ok (.aload_n 0, 1) := by decide +kernel
theorem dX12_line_111 : decode cX12_line 111 = .ok (.iload_n 1, 1) := by decide +kernel
theorem dX12_line_112 : decode cX12_line 112 = .ok (.iload_n 3, 1) := by decide +kernel
theorem dX12_line_113 : decode cX12_line 113 = .ok (.invokevirtual 275, 3) := by decide +kernel
theorem dX12_line_116 : decode cX12_line 116 = .ok (.isub, 1) := by decide +kernel
theorem dX12_line_117 : decode cX12_line 117 = .ok (.invokestatic 370, 3) := by decide +kernel
theorem dX12_line_120 : decode cX12_line 120 = .ok (.ireturn, 1) := by decide +kernel
theorem dX12_link_0 : decode cX12_link 0 = .ok (.aload_n 0, 1) := by decide +kernel
theorem dX12_link_1 : decode cX12_link 1 = .ok (.iconst 0, 1) := by decide +kernel
theorem dX12_link_2 : decode cX12_link 2 = .ok (.putfield 86, 3) := by decide +kernel
theorem dX12_link_5 : decode cX12_link 5 = .ok (.aload_n 0, 1) := by decide +kernel
theorem dX12_link_6 : decode cX12_link 6 = .ok (.invokevirtual 306, 3) := by decide +kernel
theorem dX12_link_9 : decode cX12_link 9 = .ok (.ifCond .eq 36, 3) := by decide +kernel
theorem dX12_link_12 : decode cX12_link 12 = .ok (.aload_n 0, 1) := by decide +kernel
theorem dX12_link_13 : decode cX12_link 13 = .ok (.iload_n 1, 1) := by decide +kernel
theorem dX12_link_14 : decode cX12_link 14 = .ok (.iload_n 2, 1) := by decide +kernel
theorem dX12_link_15 : decode cX12_link 15 = .ok (.iload_n 3, 1) := by decide +kernel
theorem dX12_link_16 : decode cX12_link 16 = .ok (.invokevirtual 296, 3) := by decide +kernel
theorem dX12_link_19 : decode cX12_link 19 = .ok (.ifCond .eq 26, 3) := by decide +kernel
theorem dX12_link_22 : decode cX12_link 22 = .ok (.iload 4, 2) := by decide +kernel
theorem dX12_link_24 : decode cX12_link 24 = .ok (.i2l, 1) := by decide +kernel
theorem dX12_link_25 : decode cX12_link 25 = .ok (.lconst 0, 1) := by decide +kernel
theorem dX12_link_26 : decode cX12_link 26 = .ok (.lconst 1, 1) := by decide +kernel
theorem dX12_link_27 : decode cX12_link 27 = .ok (.invokestatic 97, 3) := by decide +kernel
theorem dX12_link_30 : decode cX12_link 30 = .ok (.ifCond .eq 15, 3) := by decide +kernel
theorem dX12_link_33 : decode cX12_link 33 = .ok (.aload_n 0, 1) := by decide +kernel
theorem dX12_link_34 : decode cX12_link 34 = .ok (.iload_n 1, 1) := by decide +kernel
theorem dX12_link_35 : decode cX12_link 35 = .ok (.iload_n 2, 1) := by decide +kernel
theorem dX12_link_36 : decode cX12_link 36 = .ok (.iload_n 3, 1) := by decide +kernel
theorem dX12_link_37 : decode cX12_link 37 = .ok (.iload 4, 2) := by decide +kernel
theorem dX12_link_39 : decode cX12_link 39 = .ok (.invokevirtual 218, 3) := by decide +kernel
theorem dX12_link_42 : decode cX12_link 42 = .ok (.goto 6, 3) := by decide +kernel
theorem dX12_link_45 : decode cX12_link 45 = .ok (.ldc_w 310, 3) := by decide +kernel
theorem dX12_link_48 : decode cX12_link 48 = .ok (.ireturn, 1) := by decide +kernel
theorem dX12_linksOf_0 : decode cX12_linksOf 0 = .ok (.iconst 0, 1) := by decide +kernel
theorem dX12_linksOf_1 : decode cX12_linksOf 1 = .ok (.istore_n 2, 1) := by decide +kernel
theorem dX12_linksOf_2 : decode cX12_linksOf 2 = .ok (.iconst 0, 1) := by decide +kernel
theorem dX12_linksOf_3 : decode cX12_linksOf 3 = .ok (.istore_n 3, 1) := by decide +kernel
theorem dX12_linksOf_4 : decode cX12_linksOf 4 = .ok (.iload_n 3, 1) := by decide +kernel
theorem dX12_linksOf_5 : decode cX12_linksOf 5 = .ok (.sipush 162, 3) := by decide +kernel
theorem dX12_linksOf_8 : decode cX12_linksOf 8 = .ok (.if_icmp .ge 35, 3) := by decide +kernel
theorem dX12_linksOf_11 : decode cX12_linksOf 11 = .ok (.iload_n 2, 1) := by decide +kernel
theorem dX12_linksOf_12 : decode cX12_linksOf 12 = .ok (.aload_n 0, 1) := by decide +kernel
theorem dX12_linksOf_13 : decode cX12_linksOf 13 = .ok (.iload_n 3, 1) := by decide +kernel
theorem dX12_linksOf_14 : decode cX12_linksOf 14 = .ok (.invokevirtual 293, 3) := by decide +kernel
theorem dX12_linksOf_17 : decode cX12_linksOf 17 = .ok (.ifCond .eq 17, 3) := by decide +kernel
theorem dX12_linksOf_20 : decode cX12_linksOf 20 = .ok (.aload_n 0, 1) := by decide +kernel
theorem dX12_linksOf_21 : decode cX12_linksOf 21 = .ok (.getfield 65, 3) := by decide +kernel
theorem dX12_linksOf_24 : decode cX12_linksOf 24 = .ok (.iload_n 3, 1) := by decide +kernel
theorem dX12_linksOf_25 : decode cX12_linksOf 25 = .ok (.iaload, 1) := by decide +kernel
theorem dX12_linksOf_26 : decode cX12_linksOf 26 = .ok (.iload_n 1, 1) := by decide +kernel
theorem dX12_linksOf_27 : decode cX12_linksOf 27 = .ok (.if_icmp .ne 7, 3) := by decide +kernel
theorem dX12_linksOf_30 : decode cX12_linksOf 30 = .ok (.iconst 1, 1) := by decide +kernel
theorem dX12_linksOf_31 : decode cX12_linksOf 31 = .ok (.goto 4, 3) := by decide +kernel
theorem dX12_linksOf_34 : decode cX12_linksOf 34 = .ok (.iconst 0, 1) := by decide +kernel
theorem dX12_linksOf_35 : decode cX12_linksOf 35 = .ok (.iadd, 1) := by decide +kernel
theorem dX12_linksOf_36 : decode cX12_linksOf 36 = .ok (.istore_n 2, 1) := by decide +kernel
theorem dX12_linksOf_37 : decode cX12_linksOf 37 = .ok (.iinc 3 1, 3) := by decide +kernel
theorem dX12_linksOf_40 : decode cX12_linksOf 40 = .ok (.goto (-36), 3) := by decide +kernel
theorem dX12_linksOf_43 : decode cX12_linksOf 43 = .ok (.iload_n 2, 1) := by decide +kernel
theorem dX12_linksOf_44 : decode cX12_linksOf 44 = .ok (.ireturn, 1) := by decide +kernel
theorem dX12_log_0 : decode cX12_log 0 = .ok (.aload_n 0, 1) := by decide +kernel
theorem dX12_log_1 : decode cX12_log 1 = .ok (.iconst 0, 1) := by decide +kernel
theorem dX12_log_2 : decode cX12_log 2 = .ok (.putfield 86, 3) := by decide +kernel
theorem dX12_log_5 : decode cX12_log 5 = .ok (.iload_n 1, 1) := by decide +kernel
theorem dX12_log_6 : decode cX12_log 6 = .ok (.i2l, 1) := by decide +kernel
theorem dX12_log_7 : decode cX12_log 7 = .ok (.lconst 0, 1) := by decide +kernel
theorem dX12_log_8 : decode cX12_log 8 = .ok (.aload_n 0, 1) := by decide +kernel
theorem dX12_log_9 : decode cX12_log 9 = .ok (.getfield 28, 3) := by decide +kernel
theorem dX12_log_12 : decode cX12_log 12 = .ok (.sipush 324, 3) := by decide +kernel
theorem dX12_log_15 : decode cX12_log 15 = .ok (.iaload, 1) := by decide +kernel
theorem dX12_log_16 : decode cX12_log 16 = .ok (.iconst 1, 1) := by decide +kernel
theorem dX12_log_17 : decode cX12_log 17 = .ok (.isub, 1) := by decide +kernel
theorem dX12_log_18 : decode cX12_log 18 = .ok (.i2l, 1) := by decide +kernel
theorem dX12_log_19 : decode cX12_log 19 = .ok (.invokestatic 97, 3) := by decide +kernel
theorem dX12_log_22 : decode cX12_log 22 = .ok (.ifCond .eq 43, 3) := by decide +kernel
theorem dX12_log_25 : decode cX12_log 25 = .ok (.iload_n 2, 1) := by decide +kernel
theorem dX12_log_26 : decode cX12_log 26 = .ok (.i2l, 1) := by decide +kernel
theorem dX12_log_27 : decode cX12_log 27 = .ok (.lconst 0, 1) := by decide +kernel
theorem dX12_log_28 : decode cX12_log 28 = .ok (.ldc2_w 291, 3) := by decide +kernel
theorem dX12_log_31 : decode cX12_log 31 = .ok (.invokestatic 97, 3) := by decide +kernel
theorem dX12_log_34 : decode cX12_log 34 = .ok (.ifCond .eq 31, 3) := by decide +kernel
theorem dX12_log_37 : decode cX12_log 37 = .ok (.aload_n 0, 1) := by decide +kernel
theorem dX12_log_38 : decode cX12_log 38 = .ok (.getfield 28, 3) := by decide +kernel
theorem dX12_log_41 : decode cX12_log 41 = .ok (.sipush 326, 3) := by decide +kernel
theorem dX12_log_44 : decode cX12_log 44 = .ok (.iconst 4, 1) := by decide +kernel
theorem dX12_log_45 : decode cX12_log 45 = .ok (.aload_n 0, 1) := by decide +kernel
theorem dX12_log_46 : decode cX12_log 46 = .ok (.getfield 28, 3) := by decide +kernel
theorem dX12_log_49 : decode cX12_log 49 = .ok (.sipush 324, 3) := by decide +kernel
theorem dX12_log_52 : decode cX12_log 52 = .ok (.iaload, 1) := by decide +kernel
theorem dX12_log_53 : decode cX12_log 53 = .ok (.iconst 1, 1) := by decide +kernel
theorem dX12_log_54 : decode cX12_log 54 = .ok (.isub, 1) := by decide +kernel
theorem dX12_log_55 : decode cX12_log 55 = .ok (.iload_n 1, 1) := by decide +kernel
theorem dX12_log_56 : decode cX12_log 56 = .ok (.isub, 1) := by decide +kernel
theorem dX12_log_57 : decode cX12_log 57 = .ok (.imul, 1) := by decide +kernel
theorem dX12_log_58 : decode cX12_log 58 = .ok (.iadd, 1) := by decide +kernel
theorem dX12_log_59 : decode cX12_log 59 = .ok (.iload_n 2, 1) := by decide +kernel
theorem dX12_log_60 : decode cX12_log 60 = .ok (.iadd, 1) := by decide +kernel
theorem dX12_log_61 : decode cX12_log 61 = .ok (.iaload, 1) := by decide +kernel
theorem dX12_log_62 : decode cX12_log 62 = .ok (.goto 4, 3) := by decide +kernel
theorem dX12_log_65 : decode cX12_log 65 = .ok (.iconst (-1), 1) := by decide +kernel
theorem dX12_log_66 : decode cX12_log 66 = .ok (.ireturn, 1) := by decide +kernel
theorem dX12_longestWall_0 : decode cX12_longestWall 0 = .ok (.iconst 0, 1) := by decide +kernel
theorem dX12_longestWall_1 : decode cX12_longestWall 1 = .ok (.istore_n 1, 1) := by decide +kernel
theorem dX12_longestWall_2 : decode cX12_longestWall 2 = .ok (.aload_n 0, 1) := by decide +kernel
theorem dX12_longestWall_3 : decode cX12_longestWall 3 = .ok (.invokevirtual 321, 3) := by decide +kernel
theorem dX12_longestWall_6 : decode cX12_longestWall 6 = .ok (.istore_n 2, 1) := by decide +kernel
theorem dX12_longestWall_7 : decode cX12_longestWall 7 = .ok (.iconst 0, 1) := by decide +kernel
theorem dX12_longestWall_8 : decode cX12_longestWall 8 = .ok (.istore_n 3, 1) := by decide +kernel
theorem dX12_longestWall_9 : decode cX12_longestWall 9 = .ok (.iload_n 3, 1) := by decide +kernel
theorem dX12_longestWall_10 : decode cX12_longestWall 10 = .ok (.iload_n 2, 1) := by decide +kernel
theorem dX12_longestWall_11 : decode cX12_longestWall 11 = .ok (.if_icmp .ge 24, 3) := by decide +kernel
theorem dX12_longestWall_14 : decode cX12_longestWall 14 = .ok (.iload_n 1, 1) := by decide +kernel
theorem dX12_longestWall_15 : decode cX12_longestWall 15 = .ok (.aload_n 0, 1) := by decide +kernel
theorem dX12_longestWall_16 : decode cX12_longestWall 16 = .ok (.aload_n 0, 1) := by decide +kernel
theorem dX12_longestWall_17 : decode cX12_longestWall 17 = .ok (.getfield 68, 3) := by decide +kernel
theorem dX12_longestWall_20 : decode cX12_longestWall 20 = .ok (.iload_n 3, 1) := by decide +kernel
theorem dX12_longestWall_21 : decode cX12_longestWall 21 = .ok (.iaload, 1) := by decide +kernel
theorem dX12_longestWall_22 : decode cX12_longestWall 22 = .ok (.invokevirtual 434, 3) := by decide +kernel
theorem dX12_longestWall_25 : decode cX12_longestWall 25 = .ok (.invokestatic 464, 3) := by decide +kernel
theorem dX12_longestWall_28 : decode cX12_longestWall 28 = .ok (.istore_n 1, 1) := by decide +kernel
theorem dX12_longestWall_29 : decode cX12_longestWall 29 = .ok (.iinc 3 1, 3) := by decide +kernel
theorem dX12_longestWall_32 : decode cX12_longestWall 32 = .ok (.goto (-23), 3) := by decide +kernel
theorem dX12_longestWall_35 : decode cX12_longestWall 35 = .ok (.iload_n 1, 1) := by decide +kernel
theorem dX12_longestWall_36 : decode cX12_longestWall 36 = .ok (.ireturn, 1) := by decide +kernel
theorem dX12_meets_0 : decode cX12_meets 0 = .ok (.aload_n 0, 1) := by decide +kernel
theorem dX12_meets_1 : decode cX12_meets 1 = .ok (.iconst 0, 1) := by decide +kernel
theorem dX12_meets_2 : decode cX12_meets 2 = .ok (.putfield 86, 3) := by decide +kernel
theorem dX12_meets_5 : decode cX12_meets 5 = .ok (.aload_n 0, 1) := by decide +kernel
theorem dX12_meets_6 : decode cX12_meets 6 = .ok (.invokevirtual 306, 3) := by decide +kernel
theorem dX12_meets_9 : decode cX12_meets 9 = .ok (.ifCond .eq 15, 3) := by decide +kernel
theorem dX12_meets_12 : decode cX12_meets 12 = .ok (.iload_n 1, 1) := by decide +kernel
theorem dX12_meets_13 : decode cX12_meets 13 = .ok (.i2l, 1) := by decide +kernel
theorem dX12_meets_14 : decode cX12_meets 14 = .ok (.lconst 1, 1) := by decide +kernel
theorem dX12_meets_15 : decode cX12_meets 15 = .ok (.ldc2_w 399, 3) := by decide +kernel
theorem dX12_meets_18 : decode cX12_meets 18 = .ok (.invokestatic 97, 3) := by decide +kernel
theorem dX12_meets_21 : decode cX12_meets 21 = .ok (.ifCond .ne 5, 3) := by decide +kernel
theorem dX12_meets_24 : decode cX12_meets 24 = .ok (.iconst (-1), 1) := by decide +kernel
theorem dX12_meets_25 : decode cX12_meets 25 = .ok (.ireturn, 1) := by decide +kernel
theorem dX12_meets_26 : decode cX12_meets 26 = .ok (.aload_n 0, 1) := by decide +kernel
theorem dX12_meets_27 : decode cX12_meets 27 = .ok (.iload_n 1, 1) := by decide +kernel
theorem dX12_meets_28 : decode cX12_meets 28 = .ok (.invokevirtual 452, 3) := by decide +kernel
theorem dX12_meets_31 : decode cX12_meets 31 = .ok (.pop, 1) := by decide +kernel
theorem dX12_meets_32 : decode cX12_meets 32 = .ok (.iload_n 2, 1) := by decide +kernel
theorem dX12_meets_33 : decode cX12_meets 33 = .ok (.i2l, 1) := by decide +kernel
theorem dX12_meets_34 : decode cX12_meets 34 = .ok (.lconst 0, 1) := by decide +kernel
theorem dX12_meets_35 : decode cX12_meets 35 = .ok (.aload_n 0, 1) := by decide +kernel
theorem dX12_meets_36 : decode cX12_meets 36 = .ok (.getfield 241, 3) := by decide +kernel
theorem dX12_meets_39 : decode cX12_meets 39 = .ok (.iconst 1, 1) := by decide +kernel
theorem dX12_meets_40 : decode cX12_meets 40 = .ok (.isub, 1) := by decide +kernel
theorem dX12_meets_41 : decode cX12_meets 41 = .ok (.i2l, 1) := by decide +kernel
theorem dX12_meets_42 : decode cX12_meets 42 = .ok (.invokestatic 97, 3) := by decide +kernel
theorem dX12_meets_45 : decode cX12_meets 45 = .ok (.ifCond .eq 12, 3) := by decide +kernel
theorem dX12_meets_48 : decode cX12_meets 48 = .ok (.aload_n 0, 1) := by decide +kernel
theorem dX12_meets_49 : decode cX12_meets 49 = .ok (.getfield 77, 3) := by decide +kernel
theorem dX12_meets_52 : decode cX12_meets 52 = .ok (.iload_n 2, 1) := by decide +kernel
theorem dX12_meets_53 : decode cX12_meets 53 = .ok (.iaload, 1) := by decide +kernel
theorem dX12_meets_54 : decode cX12_meets 54 = .ok (.goto 4, 3) := by decide +kernel
theorem dX12_meets_57 : decode cX12_meets 57 = .ok (.iconst (-1), 1) := by decide +kernel
theorem dX12_meets_58 : decode cX12_meets 58 = .ok (.ireturn, 1) := by decide +kernel
theorem dX12_mostAlike_0 : decode cX12_mostAlike 0 = .ok (.iconst 0, 1) := by decide +kernel
theorem dX12_mostAlike_1 : decode cX12_mostAlike 1 = .ok (.istore_n 2, 1) := by decide +kernel
theorem dX12_mostAlike_2 : decode cX12_mostAlike 2 = .ok (.iconst (-1), 1) := by decide +kernel
theorem dX12_mostAlike_3 : decode cX12_mostAlike 3 = .ok (.istore_n 3, 1) := by decide +kernel
theorem dX12_mostAlike_4 : decode cX12_mostAlike 4 = .ok (.iconst 0, 1) := by decide +kernel
theorem dX12_mostAlike_5 : decode cX12_mostAlike 5 = .ok (.istore 4, 2) := by decide +kernel
theorem dX12_mostAlike_7 : decode cX12_mostAlike 7 = .ok (.iload 4, 2) := by decide +kernel
theorem dX12_mostAlike_9 : decode cX12_mostAlike 9 = .ok (.aload_n 0, 1) := by decide +kernel
theorem dX12_mostAlike_10 : decode cX12_mostAlike 10 = .ok (.getfield 241, 3) := by decide +kernel
theorem dX12_mostAlike_13 : decode cX12_mostAlike 13 = .ok (.if_icmp .ge 51, 3) := by decide +kernel
theorem dX12_mostAlike_16 : decode cX12_mostAlike 16 = .ok (.aload_n 0, 1) := by decide +kernel
theorem dX12_mostAlike_17 : decode cX12_mostAlike 17 = .ok (.iload 4, 2) := by decide +kernel
theorem dX12_mostAlike_19 : decode cX12_mostAlike 19 = .ok (.invokevirtual 473, 3) := by decide +kernel
theorem dX12_mostAlike_22 : decode cX12_mostAlike 22 = .ok (.istore 5, 2) := by decide +kernel
theorem dX12_mostAlike_24 : decode cX12_mostAlike 24 = .ok (.iload 5, 2) := by decide +kernel
theorem dX12_mostAlike_26 : decode cX12_mostAlike 26 = .ok (.iload_n 2, 1) := by decide +kernel
theorem dX12_mostAlike_27 : decode cX12_mostAlike 27 = .ok (.if_icmp .gt 20, 3) := by decide +kernel
theorem dX12_mostAlike_30 : decode cX12_mostAlike 30 = .ok (.iload 5, 2) := by decide +kernel
theorem dX12_mostAlike_32 : decode cX12_mostAlike 32 = .ok (.iload_n 2, 1) := by decide +kernel
theorem dX12_mostAlike_33 : decode cX12_mostAlike 33 = .ok (.if_icmp .ne 25, 3) := by decide +kernel
theorem dX12_mostAlike_36 : decode cX12_mostAlike 36 = .ok (.aload_n 0, 1) := by decide +kernel
theorem dX12_mostAlike_37 : decode cX12_mostAlike 37 = .ok (.getfield 34, 3) := by decide +kernel
theorem dX12_mostAlike_40 : decode cX12_mostAlike 40 = .ok (.iload 4, 2) := by decide +kernel
theorem dX12_mostAlike_42 : decode cX12_mostAlike 42 = .ok (.iaload, 1) := by decide +kernel
theorem dX12_mostAlike_43 : decode cX12_mostAlike 43 = .ok (.iload_n 3, 1) := by decide +kernel
theorem dX12_mostAlike_44 : decode cX12_mostAlike 44 = .ok (.if_icmp .ge 14, 3) := by decide +kernel
theorem dX12_mostAlike_47 : decode cX12_mostAlike 47 = .ok (.iload 5, 2) := by decide +kernel
theorem dX12_mostAlike_49 : decode cX12_mostAlike 49 = .ok (.istore_n 2, 1) := by decide +kernel
theorem dX12_mostAlike_50 : decode cX12_mostAlike 50 = .ok (.aload_n 0, 1) := by decide +kernel
theorem dX12_mostAlike_51 : decode cX12_mostAlike 51 = .ok (.getfield 34, 3) := by decide +kernel
theorem dX12_mostAlike_54 : decode cX12_mostAlike 54 = .ok (.iload 4, 2) := by decide +kernel
theorem dX12_mostAlike_56 : decode cX12_mostAlike 56 = .ok (.iaload, 1) := by decide +kernel
theorem dX12_mostAlike_57 : decode cX12_mostAlike 57 = .ok (.istore_n 3, 1) := by decide +kernel
theorem dX12_mostAlike_58 : decode cX12_mostAlike 58 = .ok (.iinc 4 1, 3) := by decide +kernel
theorem dX12_mostAlike_61 : decode cX12_mostAlike 61 = .ok (.goto (-54), 3) := by decide +kernel
theorem dX12_mostAlike_64 : decode cX12_mostAlike 64 = .ok (.iload_n 1, 1) := by decide +kernel
theorem dX12_mostAlike_65 : decode cX12_mostAlike 65 = .ok (.ifCond .eq 7, 3) := by decide +kernel
theorem dX12_mostAlike_68 : decode cX12_mostAlike 68 = .ok (.iload_n 3, 1) := by decide +kernel
theorem dX12_mostAlike_69 : decode cX12_mostAlike 69 = .ok (.goto 4, 3) := by decide +kernel
theorem dX12_mostAlike_72 : decode cX12_mostAlike 72 = .ok (.iload_n 2, 1) := by decide +kernel
theorem dX12_mostAlike_73 : decode cX12_mostAlike 73 = .ok (.ireturn, 1) := by decide +kernel
theorem dX12_strongest_0 : decode cX12_strongest 0 = .ok (.iconst (-1), 1) := by decide +kernel
theorem dX12_strongest_1 : decode cX12_strongest 1 = .ok (.istore_n 1, 1) := by decide +kernel
theorem dX12_strongest_2 : decode cX12_strongest 2 = .ok (.iconst 0, 1) := by decide +kernel
theorem dX12_strongest_3 : decode cX12_strongest 3 = .ok (.istore_n 2, 1) := by decide +kernel
theorem dX12_strongest_4 : decode cX12_strongest 4 = .ok (.iload_n 2, 1) := by decide +kernel
theorem dX12_strongest_5 : decode cX12_strongest 5 = .ok (.aload_n 0, 1) := by decide +kernel
theorem dX12_strongest_6 : decode cX12_strongest 6 = .ok (.getfield 241, 3) := by decide +kernel
theorem dX12_strongest_9 : decode cX12_strongest 9 = .ok (.if_icmp .ge 41, 3) := by decide +kernel
theorem dX12_strongest_12 : decode cX12_strongest 12 = .ok (.iload_n 1, 1) := by decide +kernel
theorem dX12_strongest_13 : decode cX12_strongest 13 = .ok (.iconst (-1), 1) := by decide +kernel
theorem dX12_strongest_14 : decode cX12_strongest 14 = .ok (.if_icmp .eq 24, 3) := by decide +kernel
theorem dX12_strongest_17 : decode cX12_strongest 17 = .ok (.aload_n 0, 1) := by decide +kernel
theorem dX12_strongest_18 : decode cX12_strongest 18 = .ok (.getfield 46, 3) := by decide +kernel
theorem dX12_strongest_21 : decode cX12_strongest 21 = .ok (.iload_n 2, 1) := by decide +kernel
theorem dX12_strongest_22 : decode cX12_strongest 22 = .ok (.iaload, 1) := by decide +kernel
theorem dX12_strongest_23 : decode cX12_strongest 23 = .ok (.invokestatic 370, 3) := by decide +kernel
theorem dX12_strongest_26 : decode cX12_strongest 26 = .ok (.aload_n 0, 1) := by decide +kernel
theorem dX12_strongest_27 : decode cX12_strongest 27 = .ok (.getfield 46, 3) := by decide +kernel
theorem dX12_strongest_30 : decode cX12_strongest 30 = .ok (.iload_n 1, 1) := by decide +kernel
theorem dX12_strongest_31 : decode cX12_strongest 31 = .ok (.iaload, 1) := by decide +kernel
theorem dX12_strongest_32 : decode cX12_strongest 32 = .ok (.invokestatic 370, 3) := by decide +kernel
theorem dX12_strongest_35 : decode cX12_strongest 35 = .ok (.if_icmp .le 7, 3) := by decide +kernel
theorem dX12_strongest_38 : decode cX12_strongest 38 = .ok (.iload_n 2, 1) := by decide +kernel
theorem dX12_strongest_39 : decode cX12_strongest 39 = .ok (.goto 4, 3) := by decide +kernel
theorem dX12_strongest_42 : decode cX12_strongest 42 = .ok (.iload_n 1, 1) := by decide +kernel
theorem dX12_strongest_43 : decode cX12_strongest 43 = .ok (.istore_n 1, 1) := by decide +kernel
theorem dX12_strongest_44 : decode cX12_strongest 44 = .ok (.iinc 2 1, 3) := by decide +kernel
theorem dX12_strongest_47 : decode cX12_strongest 47 = .ok (.goto (-43), 3) := by decide +kernel
theorem dX12_strongest_50 : decode cX12_strongest 50 = .ok (.iload_n 1, 1) := by decide +kernel
theorem dX12_strongest_51 : decode cX12_strongest 51 = .ok (.ireturn, 1) := by decide +kernel
theorem dX12_nearest_0 : decode cX12_nearest 0 = .ok (.iconst (-1), 1) := by decide +kernel
theorem dX12_nearest_1 : decode cX12_nearest 1 = .ok (.istore_n 2, 1) := by decide +kernel
theorem dX12_nearest_2 : decode cX12_nearest 2 = .ok (.iconst (-1), 1) := by decide +kernel
theorem dX12_nearest_3 : decode cX12_nearest 3 = .ok (.istore_n 3, 1) := by decide +kernel
theorem dX12_nearest_4 : decode cX12_nearest 4 = .ok (.iconst 0, 1) := by decide +kernel
theorem dX12_nearest_5 : decode cX12_nearest 5 = .ok (.istore 4, 2) := by decide +kernel
theorem dX12_nearest_7 : decode cX12_nearest 7 = .ok (.iload 4, 2) := by decide +kernel
theorem dX12_nearest_9 : decode cX12_nearest 9 = .ok (.aload_n 0, 1) := by decide +kernel
theorem dX12_nearest_10 : decode cX12_nearest 10 = .ok (.getfield 241, 3) := by decide +kernel
theorem dX12_nearest_13 : decode cX12_nearest 13 = .ok (.if_icmp .ge 65, 3) := by decide +kernel
theorem dX12_nearest_16 : decode cX12_nearest 16 = .ok (.iload 4, 2) := by decide +kernel
theorem dX12_nearest_18 : decode cX12_nearest 18 = .ok (.iconst 1, 1) := by decide +kernel
theorem dX12_nearest_19 : decode cX12_nearest 19 = .ok (.iadd, 1) := by decide +kernel
theorem dX12_nearest_20 : decode cX12_nearest 20 = .ok (.istore 5, 2) := by decide +kernel
theorem dX12_nearest_22 : decode cX12_nearest 22 = .ok (.iload 5, 2) := by decide +kernel
theorem dX12_nearest_24 : decode cX12_nearest 24 = .ok (.aload_n 0, 1) := by decide +kernel
theorem dX12_nearest_25 : decode cX12_nearest 25 = .ok (.getfield 241, 3) := by decide +kernel
theorem dX12_nearest_28 : decode cX12_nearest 28 = .ok (.if_icmp .ge 44, 3) := by decide +kernel
theorem dX12_nearest_31 : decode cX12_nearest 31 = .ok (.iload_n 2, 1) := by decide +kernel
theorem dX12_nearest_32 : decode cX12_nearest 32 = .ok (.iconst (-1), 1) := by decide +kernel
theorem dX12_nearest_33 : decode cX12_nearest 33 = .ok (.if_icmp .eq 15, 3) := by decide +kernel
theorem dX12_nearest_36 : decode cX12_nearest 36 = .ok (.aload_n 0, 1) := by decide +kernel
theorem dX12_nearest_37 : decode cX12_nearest 37 = .ok (.iload 4, 2) := by decide +kernel
theorem dX12_nearest_39 : decode cX12_nearest 39 = .ok (.iload 5, 2) := by decide +kernel
theorem dX12_nearest_41 : decode cX12_nearest 41 = .ok (.invokevirtual 303, 3) := by decide +kernel
theorem dX12_nearest_44 : decode cX12_nearest 44 = .ok (.iload_n 3, 1) := by decide +kernel
theorem dX12_nearest_45 : decode cX12_nearest 45 = .ok (.if_icmp .ge 21, 3) := by decide +kernel
theorem dX12_nearest_48 : decode cX12_nearest 48 = .ok (.bipush 16, 2) := by decide +kernel
theorem dX12_nearest_50 : decode cX12_nearest 50 = .ok (.iload 4, 2) := by decide +kernel
theorem dX12_nearest_52 : decode cX12_nearest 52 = .ok (.imul, 1) := by decide +kernel
theorem dX12_nearest_53 : decode cX12_nearest 53 = .ok (.iload 5, 2) := by decide +kernel
theorem dX12_nearest_55 : decode cX12_nearest 55 = .ok (.iadd, 1) := by decide +kernel
theorem dX12_nearest_56 : decode cX12_nearest 56 = .ok (.istore_n 2, 1) := by decide +kernel
theorem dX12_nearest_57 : decode cX12_nearest 57 = .ok (.aload_n 0, 1) := by decide +kernel
theorem dX12_nearest_58 : decode cX12_nearest 58 = .ok (.iload 4, 2) := by decide +kernel
theorem dX12_nearest_60 : decode cX12_nearest 60 = .ok (.iload 5, 2) := by decide +kernel
theorem dX12_nearest_62 : decode cX12_nearest 62 = .ok (.invokevirtual 303, 3) := by decide +kernel
theorem dX12_nearest_65 : decode cX12_nearest 65 = .ok (.istore_n 3, 1) := by decide +kernel
theorem dX12_nearest_66 : decode cX12_nearest 66 = .ok (.iinc 5 1, 3) := by decide +kernel
theorem dX12_nearest_69 : decode cX12_nearest 69 = .ok (.goto (-47), 3) := by decide +kernel
theorem dX12_nearest_72 : decode cX12_nearest 72 = .ok (.iinc 4 1, 3) := by decide +kernel
theorem dX12_nearest_75 : decode cX12_nearest 75 = .ok (.goto (-68), 3) := by decide +kernel
theorem dX12_nearest_78 : decode cX12_nearest 78 = .ok (.iload_n 1, 1) := by decide +kernel
theorem dX12_nearest_79 : decode cX12_nearest 79 = .ok (.ifCond .eq 11, 3) := by decide +kernel
theorem dX12_nearest_82 : decode cX12_nearest 82 = .ok (.iconst 0, 1) := by decide +kernel
theorem dX12_nearest_83 : decode cX12_nearest 83 = .ok (.iload_n 3, 1) := by decide +kernel
theorem dX12_nearest_84 : decode cX12_nearest 84 = .ok (.invokestatic 464, 3) := by decide +kernel
theorem dX12_nearest_87 : decode cX12_nearest 87 = .ok (.goto 4, 3) := by decide +kernel
theorem dX12_nearest_90 : decode cX12_nearest 90 = .ok (.iload_n 2, 1) := by decide +kernel
theorem dX12_nearest_91 : decode cX12_nearest 91 = .ok (.ireturn, 1) := by decide +kernel
theorem dX12_opposed_0 : decode cX12_opposed 0 = .ok (.iconst 0, 1) := by decide +kernel
theorem dX12_opposed_1 : decode cX12_opposed 1 = .ok (.istore_n 1, 1) := by decide +kernel
theorem dX12_opposed_2 : decode cX12_opposed 2 = .ok (.iconst 0, 1) := by decide +kernel
theorem dX12_opposed_3 : decode cX12_opposed 3 = .ok (.istore_n 2, 1) := by decide +kernel
theorem dX12_opposed_4 : decode cX12_opposed 4 = .ok (.iload_n 2, 1) := by decide +kernel
theorem dX12_opposed_5 : decode cX12_opposed 5 = .ok (.aload_n 0, 1) := by decide +kernel
theorem dX12_opposed_6 : decode cX12_opposed 6 = .ok (.getfield 241, 3) := by decide +kernel
theorem dX12_opposed_9 : decode cX12_opposed 9 = .ok (.if_icmp .ge 61, 3) := by decide +kernel
theorem dX12_opposed_12 : decode cX12_opposed 12 = .ok (.iconst 0, 1) := by decide +kernel
theorem dX12_opposed_13 : decode cX12_opposed 13 = .ok (.istore_n 3, 1) := by decide +kernel
theorem dX12_opposed_14 : decode cX12_opposed 14 = .ok (.iconst 0, 1) := by decide +kernel
theorem dX12_opposed_15 : decode cX12_opposed 15 = .ok (.istore 4, 2) := by decide +kernel
theorem dX12_opposed_17 : decode cX12_opposed 17 = .ok (.iload 4, 2) := by decide +kernel
theorem dX12_opposed_19 : decode cX12_opposed 19 = .ok (.aload_n 0, 1) := by decide +kernel
theorem dX12_opposed_20 : decode cX12_opposed 20 = .ok (.getfield 241, 3) := by decide +kernel
theorem dX12_opposed_23 : decode cX12_opposed 23 = .ok (.if_icmp .ge 29, 3) := by decide +kernel
theorem dX12_opposed_26 : decode cX12_opposed 26 = .ok (.iload_n 3, 1) := by decide +kernel
theorem dX12_opposed_27 : decode cX12_opposed 27 = .ok (.ifCond .ne 13, 3) := by decide +kernel
theorem dX12_opposed_30 : decode cX12_opposed 30 = .ok (.aload_n 0, 1) := by decide +kernel
theorem dX12_opposed_31 : decode cX12_opposed 31 = .ok (.iload_n 2, 1) := by decide +kernel
theorem dX12_opposed_32 : decode cX12_opposed 32 = .ok (.iload 4, 2) := by decide +kernel
theorem dX12_opposed_34 : decode cX12_opposed 34 = .ok (.invokevirtual 446, 3) := by decide +kernel
theorem dX12_opposed_37 : decode cX12_opposed 37 = .ok (.ifCond .eq 7, 3) := by decide +kernel
theorem dX12_opposed_40 : decode cX12_opposed 40 = .ok (.iconst 1, 1) := by decide +kernel
theorem dX12_opposed_41 : decode cX12_opposed 41 = .ok (.goto 4, 3) := by decide +kernel
theorem dX12_opposed_44 : decode cX12_opposed 44 = .ok (.iconst 0, 1) := by decide +kernel
theorem dX12_opposed_45 : decode cX12_opposed 45 = .ok (.istore_n 3, 1) := by decide +kernel
theorem dX12_opposed_46 : decode cX12_opposed 46 = .ok (.iinc 4 1, 3) := by decide +kernel
theorem dX12_opposed_49 : decode cX12_opposed 49 = .ok (.goto (-32), 3) := by decide +kernel
theorem dX12_opposed_52 : decode cX12_opposed 52 = .ok (.iload_n 1, 1) := by decide +kernel
theorem dX12_opposed_53 : decode cX12_opposed 53 = .ok (.iload_n 3, 1) := by decide +kernel
theorem dX12_opposed_54 : decode cX12_opposed 54 = .ok (.ifCond .eq 7, 3) := by decide +kernel
theorem dX12_opposed_57 : decode cX12_opposed 57 = .ok (.iconst 1, 1) := by decide +kernel
theorem dX12_opposed_58 : decode cX12_opposed 58 = .ok (.goto 4, 3) := by decide +kernel
theorem dX12_opposed_61 : decode cX12_opposed 61 = .ok (.iconst 0, 1) := by decide +kernel
theorem dX12_opposed_62 : decode cX12_opposed 62 = .ok (.iadd, 1) := by decide +kernel
theorem dX12_opposed_63 : decode cX12_opposed 63 = .ok (.istore_n 1, 1) := by decide +kernel
theorem dX12_opposed_64 : decode cX12_opposed 64 = .ok (.iinc 2 1, 3) := by decide +kernel
theorem dX12_opposed_67 : decode cX12_opposed 67 = .ok (.goto (-63), 3) := by decide +kernel
theorem dX12_opposed_70 : decode cX12_opposed 70 = .ok (.iload_n 1, 1) := by decide +kernel
theorem dX12_opposed_71 : decode cX12_opposed 71 = .ok (.ireturn, 1) := by decide +kernel
theorem dX12_most_0 : decode cX12_most 0 = .ok (.aload_n 0, 1) := by decide +kernel
theorem dX12_most_1 : decode cX12_most 1 = .ok (.iconst 0, 1) := by decide +kernel
theorem dX12_most_2 : decode cX12_most 2 = .ok (.putfield 86, 3) := by decide +kernel
theorem dX12_most_5 : decode cX12_most 5 = .ok (.aload_n 0, 1) := by decide +kernel
theorem dX12_most_6 : decode cX12_most 6 = .ok (.invokevirtual 306, 3) := by decide +kernel
theorem dX12_most_9 : decode cX12_most 9 = .ok (.ifCond .ne 5, 3) := by decide +kernel
theorem dX12_most_12 : decode cX12_most 12 = .ok (.iconst (-1), 1) := by decide +kernel
theorem dX12_most_13 : decode cX12_most 13 = .ok (.ireturn, 1) := by decide +kernel
theorem dX12_most_14 : decode cX12_most 14 = .ok (.aload_n 0, 1) := by decide +kernel
theorem dX12_most_15 : decode cX12_most 15 = .ok (.invokevirtual 238, 3) := by decide +kernel
theorem dX12_most_18 : decode cX12_most 18 = .ok (.pop, 1) := by decide +kernel
theorem dX12_most_19 : decode cX12_most 19 = .ok (.iload_n 1, 1) := by decide +kernel
theorem dX12_most_20 : decode cX12_most 20 = .ok (.tableswitch 92 0 7 #[48, 54, 60, 65, 71, 77, 82, 87], 48) := by decide +kernel
theorem dX12_most_68 : decode cX12_most 68 = .ok (.aload_n 0, 1) := by decide +kernel
theorem dX12_most_69 : decode cX12_most 69 = .ok (.iconst 0, 1) := by decide +kernel
theorem dX12_most_70 : decode cX12_most 70 = .ok (.invokevirtual 476, 3) := by decide +kernel
theorem dX12_most_73 : decode cX12_most 73 = .ok (.ireturn, 1) := by decide +kernel
theorem dX12_most_74 : decode cX12_most 74 = .ok (.aload_n 0, 1) := by decide +kernel
theorem dX12_most_75 : decode cX12_most 75 = .ok (.iconst 1, 1) := by decide +kernel
theorem dX12_most_76 : decode cX12_most 76 = .ok (.invokevirtual 476, 3) := by decide +kernel
theorem dX12_most_79 : decode cX12_most 79 = .ok (.ireturn, 1) := by decide +kernel
theorem dX12_most_80 : decode cX12_most 80 = .ok (.aload_n 0, 1) := by decide +kernel
theorem dX12_most_81 : decode cX12_most 81 = .ok (.invokevirtual 480, 3) := by decide +kernel
theorem dX12_most_84 : decode cX12_most 84 = .ok (.ireturn, 1) := by decide +kernel
theorem dX12_most_85 : decode cX12_most 85 = .ok (.aload_n 0, 1) := by decide +kernel
theorem dX12_most_86 : decode cX12_most 86 = .ok (.iconst 0, 1) := by decide +kernel
theorem dX12_most_87 : decode cX12_most 87 = .ok (.invokevirtual 483, 3) := by decide +kernel
theorem dX12_most_90 : decode cX12_most 90 = .ok (.ireturn, 1) := by decide +kernel
theorem dX12_most_91 : decode cX12_most 91 = .ok (.aload_n 0, 1) := by decide +kernel
theorem dX12_most_92 : decode cX12_most 92 = .ok (.iconst 1, 1) := by decide +kernel
theorem dX12_most_93 : decode cX12_most 93 = .ok (.invokevirtual 483, 3) := by decide +kernel
theorem dX12_most_96 : decode cX12_most 96 = .ok (.ireturn, 1) := by decide +kernel
theorem dX12_most_97 : decode cX12_most 97 = .ok (.aload_n 0, 1) := by decide +kernel
theorem dX12_most_98 : decode cX12_most 98 = .ok (.invokevirtual 486, 3) := by decide +kernel
theorem dX12_most_101 : decode cX12_most 101 = .ok (.ireturn, 1) := by decide +kernel
theorem dX12_most_102 : decode cX12_most 102 = .ok (.aload_n 0, 1) := by decide +kernel
theorem dX12_most_103 : decode cX12_most 103 = .ok (.invokevirtual 489, 3) := by decide +kernel
theorem dX12_most_106 : decode cX12_most 106 = .ok (.ireturn, 1) := by decide +kernel
theorem dX12_most_107 : decode cX12_most 107 = .ok (.aload_n 0, 1) := by decide +kernel
theorem dX12_most_108 : decode cX12_most 108 = .ok (.invokevirtual 492, 3) := by decide +kernel
theorem dX12_most_111 : decode cX12_most 111 = .ok (.ireturn, 1) := by decide +kernel
theorem dX12_most_112 : decode cX12_most 112 = .ok (.iconst (-1), 1) := by decide +kernel
theorem dX12_most_113 : decode cX12_most 113 = .ok (.ireturn, 1) := by decide +kernel
theorem dX12_move_0 : decode cX12_move 0 = .ok (.aload_n 0, 1) := by decide +kernel
theorem dX12_move_1 : decode cX12_move 1 = .ok (.iconst 0, 1) := by decide +kernel
theorem dX12_move_2 : decode cX12_move 2 = .ok (.putfield 86, 3) := by decide +kernel
theorem dX12_move_5 : decode cX12_move 5 = .ok (.aload_n 0, 1) := by decide +kernel
theorem dX12_move_6 : decode cX12_move 6 = .ok (.invokevirtual 306, 3) := by decide +kernel
theorem dX12_move_9 : decode cX12_move 9 = .ok (.ifCond .ne 9, 3) := by decide +kernel
theorem dX12_move_12 : decode cX12_move 12 = .ok (.aload_n 0, 1) := by decide +kernel
theorem dX12_move_13 : decode cX12_move 13 = .ok (.iconst 0, 1) := by decide +kernel
theorem dX12_move_14 : decode cX12_move 14 = .ok (.invokevirtual 354, 3) := by decide +kernel
theorem dX12_move_17 : decode cX12_move 17 = .ok (.ireturn, 1) := by decide +kernel
theorem dX12_move_18 : decode cX12_move 18 = .ok (.aload_n 0, 1) := by decide +kernel
theorem dX12_move_19 : decode cX12_move 19 = .ok (.iload_n 1, 1) := by decide +kernel
theorem dX12_move_20 : decode cX12_move 20 = .ok (.iload_n 2, 1) := by decide +kernel
theorem dX12_move_21 : decode cX12_move 21 = .ok (.invokevirtual 288, 3) := by decide +kernel
theorem dX12_move_24 : decode cX12_move 24 = .ok (.ifCond .eq 12, 3) := by decide +kernel
theorem dX12_move_27 : decode cX12_move 27 = .ok (.aload_n 0, 1) := by decide +kernel
theorem dX12_move_28 : decode cX12_move 28 = .ok (.iload_n 1, 1) := by decide +kernel
theorem dX12_move_29 : decode cX12_move 29 = .ok (.iload_n 2, 1) := by decide +kernel
theorem dX12_move_30 : decode cX12_move 30 = .ok (.invokevirtual 244, 3) := by decide +kernel
theorem dX12_move_33 : decode cX12_move 33 = .ok (.ifCond .ne 9, 3) := by decide +kernel
theorem dX12_move_36 : decode cX12_move 36 = .ok (.aload_n 0, 1) := by decide +kernel
theorem dX12_move_37 : decode cX12_move 37 = .ok (.iconst 1, 1) := by decide +kernel
theorem dX12_move_38 : decode cX12_move 38 = .ok (.invokevirtual 354, 3) := by decide +kernel
theorem dX12_move_41 : decode cX12_move 41 = .ok (.ireturn, 1) := by decide +kernel
theorem dX12_move_42 : decode cX12_move 42 = .ok (.iload_n 3, 1) := by decide +kernel
theorem dX12_move_43 : decode cX12_move 43 = .ok (.i2l, 1) := by decide +kernel
theorem dX12_move_44 : decode cX12_move 44 = .ok (.lconst 0, 1) := by decide +kernel
theorem dX12_move_45 : decode cX12_move 45 = .ok (.ldc2_w 329, 3) := by decide +kernel
theorem dX12_move_48 : decode cX12_move 48 = .ok (.invokestatic 97, 3) := by decide +kernel
theorem dX12_move_51 : decode cX12_move 51 = .ok (.ifCond .eq 26, 3) := by decide +kernel
theorem dX12_move_54 : decode cX12_move 54 = .ok (.iload 4, 2) := by decide +kernel
theorem dX12_move_56 : decode cX12_move 56 = .ok (.i2l, 1) := by decide +kernel
theorem dX12_move_57 : decode cX12_move 57 = .ok (.lconst 0, 1) := by decide +kernel
theorem dX12_move_58 : decode cX12_move 58 = .ok (.ldc2_w 291, 3) := by decide +kernel
theorem dX12_move_61 : decode cX12_move 61 = .ok (.invokestatic 97, 3) := by decide +kernel
theorem dX12_move_64 : decode cX12_move 64 = .ok (.ifCond .eq 13, 3) := by decide +kernel
theorem dX12_move_67 : decode cX12_move 67 = .ok (.aload_n 0, 1) := by decide +kernel
theorem dX12_move_68 : decode cX12_move 68 = .ok (.iload_n 1, 1) := by decide +kernel
theorem dX12_move_69 : decode cX12_move 69 = .ok (.iload_n 2, 1) := by decide +kernel
theorem dX12_move_70 : decode cX12_move 70 = .ok (.iload_n 3, 1) := by decide +kernel
theorem dX12_move_71 : decode cX12_move 71 = .ok (.invokevirtual 357, 3) := by decide +kernel
theorem dX12_move_74 : decode cX12_move 74 = .ok (.ifCond .ne 9, 3) := by decide +kernel
theorem dX12_move_77 : decode cX12_move 77 = .ok (.aload_n 0, 1) := by decide +kernel
theorem dX12_move_78 : decode cX12_move 78 = .ok (.iconst 2, 1) := by decide +kernel
theorem dX12_move_79 : decode cX12_move 79 = .ok (.invokevirtual 354, 3) := by decide +kernel
theorem dX12_move_82 : decode cX12_move 82 = .ok (.ireturn, 1) := by decide +kernel
theorem dX12_move_83 : decode cX12_move 83 = .ok (.aload_n 0, 1) := by decide +kernel
theorem dX12_move_84 : decode cX12_move 84 = .ok (.invokevirtual 238, 3) := by decide +kernel
theorem dX12_move_87 : decode cX12_move 87 = .ok (.pop, 1) := by decide +kernel
theorem dX12_move_88 : decode cX12_move 88 = .ok (.iload_n 3, 1) := by decide +kernel
theorem dX12_move_89 : decode cX12_move 89 = .ok (.iconst 2, 1) := by decide +kernel
theorem dX12_move_90 : decode cX12_move 90 = .ok (.if_icmp .ne 7, 3) := by decide +kernel
theorem dX12_move_93 : decode cX12_move 93 = .ok (.iconst 0, 1) := by decide +kernel
theorem dX12_move_94 : decode cX12_move 94 = .ok (.goto 10, 3) := by decide +kernel
theorem dX12_move_97 : decode cX12_move 97 = .ok (.aload_n 0, 1) := by decide +kernel
theorem dX12_move_98 : decode cX12_move 98 = .ok (.iload_n 1, 1) := by decide +kernel
theorem dX12_move_99 : decode cX12_move 99 = .ok (.iload_n 2, 1) := by decide +kernel
theorem dX12_move_100 : decode cX12_move 100 = .ok (.iconst 0, 1) := by decide +kernel
theorem dX12_move_101 : decode cX12_move 101 = .ok (.invokevirtual 221, 3) := by decide +kernel
theorem dX12_move_104 : decode cX12_move 104 = .ok (.istore 5, 2) := by decide +kernel
theorem dX12_move_106 : decode cX12_move 106 = .ok (.iload_n 3, 1) := by decide +kernel
theorem dX12_move_107 : decode cX12_move 107 = .ok (.iconst 1, 1) := by decide +kernel
theorem dX12_move_108 : decode cX12_move 108 = .ok (.if_icmp .ne 7, 3) := by decide +kernel
theorem dX12_move_111 : decode cX12_move 111 = .ok (.iconst 0, 1) := by decide +kernel
theorem dX12_move_112 : decode cX12_move 112 = .ok (.goto 10, 3) := by decide +kernel
theorem dX12_move_115 : decode cX12_move 115 = .ok (.aload_n 0, 1) := by decide +kernel
theorem dX12_move_116 : decode cX12_move 116 = .ok (.iload_n 1, 1) := by decide +kernel
theorem dX12_move_117 : decode cX12_move 117 = .ok (.iload_n 2, 1) := by decide +kernel
theorem dX12_move_118 : decode cX12_move 118 = .ok (.iconst 1, 1) := by decide +kernel
theorem dX12_move_119 : decode cX12_move 119 = .ok (.invokevirtual 221, 3) := by decide +kernel
theorem dX12_move_122 : decode cX12_move 122 = .ok (.istore 6, 2) := by decide +kernel
theorem dX12_move_124 : decode cX12_move 124 = .ok (.aload_n 0, 1) := by decide +kernel
theorem dX12_move_125 : decode cX12_move 125 = .ok (.iload_n 1, 1) := by decide +kernel
theorem dX12_move_126 : decode cX12_move 126 = .ok (.iload_n 2, 1) := by decide +kernel
theorem dX12_move_127 : decode cX12_move 127 = .ok (.iload 4, 2) := by decide +kernel
theorem dX12_move_129 : decode cX12_move 129 = .ok (.iload 5, 2) := by decide +kernel
theorem dX12_move_131 : decode cX12_move 131 = .ok (.iload 6, 2) := by decide +kernel
theorem dX12_move_133 : decode cX12_move 133 = .ok (.invokevirtual 361, 3) := by decide +kernel
theorem dX12_move_136 : decode cX12_move 136 = .ok (.bipush 12, 2) := by decide +kernel
theorem dX12_move_138 : decode cX12_move 138 = .ok (.if_icmp .le 9, 3) := by decide +kernel
theorem dX12_move_141 : decode cX12_move 141 = .ok (.aload_n 0, 1) := by decide +kernel
theorem dX12_move_142 : decode cX12_move 142 = .ok (.iconst 3, 1) := by decide +kernel
theorem dX12_move_143 : decode cX12_move 143 = .ok (.invokevirtual 354, 3) := by decide +kernel
theorem dX12_move_146 : decode cX12_move 146 = .ok (.ireturn, 1) := by decide +kernel
theorem dX12_move_147 : decode cX12_move 147 = .ok (.aload_n 0, 1) := by decide +kernel
theorem dX12_move_148 : decode cX12_move 148 = .ok (.invokevirtual 364, 3) := by decide +kernel
theorem dX12_move_151 : decode cX12_move 151 = .ok (.iload 5, 2) := by decide +kernel
theorem dX12_move_153 : decode cX12_move 153 = .ok (.iload 6, 2) := by decide +kernel
theorem dX12_move_155 : decode cX12_move 155 = .ok (.invokestatic 250, 3) := by decide +kernel
theorem dX12_move_158 : decode cX12_move 158 = .ok (.istore 7, 2) := by decide +kernel
theorem dX12_move_160 : decode cX12_move 160 = .ok (.aload_n 0, 1) := by decide +kernel
theorem dX12_move_161 : decode cX12_move 161 = .ok (.iload_n 1, 1) := by decide +kernel
theorem dX12_move_162 : decode cX12_move 162 = .ok (.iload_n 2, 1) := by decide +kernel
theorem dX12_move_163 : decode cX12_move 163 = .ok (.iload 4, 2) := by decide +kernel
theorem dX12_move_165 : decode cX12_move 165 = .ok (.iload 5, 2) := by decide +kernel
theorem dX12_move_167 : decode cX12_move 167 = .ok (.iload 6, 2) := by decide +kernel
theorem dX12_move_169 : decode cX12_move 169 = .ok (.invokevirtual 367, 3) := by decide +kernel
theorem dX12_move_172 : decode cX12_move 172 = .ok (.istore 8, 2) := by decide +kernel
theorem dX12_move_174 : decode cX12_move 174 = .ok (.iload 8, 2) := by decide +kernel
theorem dX12_move_176 : decode cX12_move 176 = .ok (.ifCond .eq 8, 3) := by decide +kernel
theorem dX12_move_179 : decode cX12_move 179 = .ok (.iload 8, 2) := by decide +kernel
theorem dX12_move_181 : decode cX12_move 181 = .ok (.goto 17, 3) := by decide +kernel
theorem dX12_move_184 : decode cX12_move 184 = .ok (.iload 7, 2) := by decide +kernel
theorem dX12_move_186 : decode cX12_move 186 = .ok (.iload 4, 2) := by decide +kernel
theorem dX12_move_188 : decode cX12_move 188 = .ok (.iconst 2, 1) := by decide +kernel
theorem dX12_move_189 : decode cX12_move 189 = .ok (.irem, 1) := by decide +kernel
theorem dX12_move_190 : decode cX12_move 190 = .ok (.if_icmp .ne 7, 3) := by decide +kernel
theorem dX12_move_193 : decode cX12_move 193 = .ok (.iconst 0, 1) := by decide +kernel
theorem dX12_move_194 : decode cX12_move 194 = .ok (.goto 4, 3) := by decide +kernel
theorem dX12_move_197 : decode cX12_move 197 = .ok (.iconst 1, 1) := by decide +kernel
theorem dX12_move_198 : decode cX12_move 198 = .ok (.ireturn, 1) := by decide +kernel
theorem dX12_path_0 : decode cX12_path 0 = .ok (.aload_n 0, 1) := by decide +kernel
theorem dX12_path_1 : decode cX12_path 1 = .ok (.iconst 0, 1) := by decide +kernel
theorem dX12_path_2 : decode cX12_path 2 = .ok (.putfield 86, 3) := by decide +kernel
theorem dX12_path_5 : decode cX12_path 5 = .ok (.aload_n 0, 1) := by decide +kernel
theorem dX12_path_6 : decode cX12_path 6 = .ok (.invokevirtual 306, 3) := by decide +kernel
theorem dX12_path_9 : decode cX12_path 9 = .ok (.ifCond .eq 12, 3) := by decide +kernel
theorem dX12_path_12 : decode cX12_path 12 = .ok (.aload_n 0, 1) := by decide +kernel
theorem dX12_path_13 : decode cX12_path 13 = .ok (.iload_n 1, 1) := by decide +kernel
theorem dX12_path_14 : decode cX12_path 14 = .ok (.iload_n 2, 1) := by decide +kernel
theorem dX12_path_15 : decode cX12_path 15 = .ok (.invokevirtual 215, 3) := by decide +kernel
theorem dX12_path_18 : decode cX12_path 18 = .ok (.ifCond .ne 5, 3) := by decide +kernel
theorem dX12_path_21 : decode cX12_path 21 = .ok (.iconst (-1), 1) := by decide +kernel
theorem dX12_path_22 : decode cX12_path 22 = .ok (.ireturn, 1) := by decide +kernel
theorem dX12_path_23 : decode cX12_path 23 = .ok (.iload_n 1, 1) := by decide +kernel
theorem dX12_path_24 : decode cX12_path 24 = .ok (.istore_n 3, 1) := by decide +kernel
theorem dX12_path_25 : decode cX12_path 25 = .ok (.iload_n 2, 1) := by decide +kernel
theorem dX12_path_26 : decode cX12_path 26 = .ok (.istore 4, 2) := by decide +kernel
theorem dX12_path_28 : decode cX12_path 28 = .ok (.iconst 0, 1) := by decide +kernel
theorem dX12_path_29 : decode cX12_path 29 = .ok (.istore 5, 2) := by decide +kernel
theorem dX12_path_31 : decode cX12_path 31 = .ok (.iconst 0, 1) := by decide +kernel
theorem dX12_path_32 : decode cX12_path 32 = .ok (.istore 6, 2) := by decide +kernel
theorem dX12_path_34 : decode cX12_path 34 = .ok (.iconst 0, 1) := by decide +kernel
theorem dX12_path_35 : decode cX12_path 35 = .ok (.istore 7, 2) := by decide +kernel
theorem dX12_path_37 : decode cX12_path 37 = .ok (.iload 7, 2) := by decide +kernel
theorem dX12_path_39 : decode cX12_path 39 = .ok (.aload_n 0, 1) := by decide +kernel
theorem dX12_path_40 : decode cX12_path 40 = .ok (.getfield 94, 3) := by decide +kernel
theorem dX12_path_43 : decode cX12_path 43 = .ok (.if_icmp .ge 223, 3) := by decide +kernel
theorem dX12_path_46 : decode cX12_path 46 = .ok (.aload_n 0, 1) := by decide +kernel
theorem dX12_path_47 : decode cX12_path 47 = .ok (.getfield 9, 3) := by decide +kernel
theorem dX12_path_50 : decode cX12_path 50 = .ok (.iload 7, 2) := by decide +kernel
theorem dX12_path_52 : decode cX12_path 52 = .ok (.iaload, 1) := by decide +kernel
theorem dX12_path_53 : decode cX12_path 53 = .ok (.istore 8, 2) := by decide +kernel
theorem dX12_path_55 : decode cX12_path 55 = .ok (.iload 8, 2) := by decide +kernel
theorem dX12_path_57 : decode cX12_path 57 = .ok (.bipush 114, 2) := by decide +kernel
theorem dX12_path_59 : decode cX12_path 59 = .ok (.if_icmp .ne 7, 3) := by decide +kernel
theorem dX12_path_62 : decode cX12_path 62 = .ok (.iconst 0, 1) := by decide +kernel
theorem dX12_path_63 : decode cX12_path 63 = .ok (.goto 37, 3) := by decide +kernel
theorem dX12_path_66 : decode cX12_path 66 = .ok (.iload 8, 2) := by decide +kernel
theorem dX12_path_68 : decode cX12_path 68 = .ok (.bipush 117, 2) := by decide +kernel
theorem dX12_path_70 : decode cX12_path 70 = .ok (.if_icmp .ne 7, 3) := by decide +kernel
theorem dX12_path_73 : decode cX12_path 73 = .ok (.iconst 1, 1) := by decide +kernel
theorem dX12_path_74 : decode cX12_path 74 = .ok (.goto 26, 3) := by decide +kernel
theorem dX12_path_77 : decode cX12_path 77 = .ok (.iload 8, 2) := by decide +kernel
theorem dX12_path_79 : decode cX12_path 79 = .ok (.bipush 108, 2) := by decide +kernel
theorem dX12_path_81 : decode cX12_path 81 = .ok (.if_icmp .ne 7, 3) := by decide +kernel
theorem dX12_path_84 : decode cX12_path 84 = .ok (.iconst 2, 1) := by decide +kernel
theorem dX12_path_85 : decode cX12_path 85 = .ok (.goto 15, 3) := by decide +kernel
theorem dX12_path_88 : decode cX12_path 88 = .ok (.iload 8, 2) := by decide +kernel
theorem dX12_path_90 : decode cX12_path 90 = .ok (.bipush 100, 2) := by decide +kernel
theorem dX12_path_92 : decode cX12_path 92 = .ok (.if_icmp .ne 7, 3) := by decide +kernel
theorem dX12_path_95 : decode cX12_path 95 = .ok (.iconst 3, 1) := by decide +kernel
theorem dX12_path_96 : decode cX12_path 96 = .ok (.goto 4, 3) := by decide +kernel
theorem dX12_path_99 : decode cX12_path 99 = .ok (.iconst (-1), 1) := by decide +kernel
theorem dX12_path_100 : decode cX12_path 100 = .ok (.istore 9, 2) := by decide +kernel
theorem dX12_path_102 : decode cX12_path 102 = .ok (.iload 9, 2) := by decide +kernel
theorem dX12_path_104 : decode cX12_path 104 = .ok (.iconst (-1), 1) := by decide +kernel
theorem dX12_path_105 : decode cX12_path 105 = .ok (.if_icmp .eq 30, 3) := by decide +kernel
theorem dX12_path_108 : decode cX12_path 108 = .ok (.iload 7, 2) := by decide +kernel
theorem dX12_path_110 : decode cX12_path 110 = .ok (.bipush 120, 2) := by decide +kernel
theorem dX12_path_112 : decode cX12_path 112 = .ok (.if_icmp .eq 23, 3) := by decide +kernel
theorem dX12_path_115 : decode cX12_path 115 = .ok (.aload_n 0, 1) := by decide +kernel
theorem dX12_path_116 : decode cX12_path 116 = .ok (.iload_n 3, 1) := by decide +kernel
theorem dX12_path_117 : decode cX12_path 117 = .ok (.iload 9, 2) := by decide +kernel
theorem dX12_path_119 : decode cX12_path 119 = .ok (.invokestatic 282, 3) := by decide +kernel
theorem dX12_path_122 : decode cX12_path 122 = .ok (.iload 4, 2) := by decide +kernel
theorem dX12_path_124 : decode cX12_path 124 = .ok (.iload 9, 2) := by decide +kernel
theorem dX12_path_126 : decode cX12_path 126 = .ok (.invokestatic 285, 3) := by decide +kernel
theorem dX12_path_129 : decode cX12_path 129 = .ok (.invokevirtual 215, 3) := by decide +kernel
theorem dX12_path_132 : decode cX12_path 132 = .ok (.ifCond .ne 9, 3) := by decide +kernel
theorem dX12_path_135 : decode cX12_path 135 = .ok (.bipush (-2), 2) := by decide +kernel
theorem dX12_path_137 : decode cX12_path 137 = .ok (.iload 7, 2) := by decide +kernel
theorem dX12_path_139 : decode cX12_path 139 = .ok (.isub, 1) := by decide +kernel
theorem dX12_path_140 : decode cX12_path 140 = .ok (.ireturn, 1) := by decide +kernel
theorem dX12_path_141 : decode cX12_path 141 = .ok (.iload_n 3, 1) := by decide +kernel
theorem dX12_path_142 : decode cX12_path 142 = .ok (.iload_n 3, 1) := by decide +kernel
theorem dX12_path_143 : decode cX12_path 143 = .ok (.iload 9, 2) := by decide +kernel
theorem dX12_path_145 : decode cX12_path 145 = .ok (.invokestatic 282, 3) := by decide +kernel
theorem dX12_path_148 : decode cX12_path 148 = .ok (.invokestatic 128, 3) := by decide +kernel
theorem dX12_path_151 : decode cX12_path 151 = .ok (.istore 10, 2) := by decide +kernel
theorem dX12_path_153 : decode cX12_path 153 = .ok (.iload 4, 2) := by decide +kernel
theorem dX12_path_155 : decode cX12_path 155 = .ok (.iload 4, 2) := by decide +kernel
theorem dX12_path_157 : decode cX12_path 157 = .ok (.iload 9, 2) := by decide +kernel
theorem dX12_path_159 : decode cX12_path 159 = .ok (.invokestatic 285, 3) := by decide +kernel
theorem dX12_path_162 : decode cX12_path 162 = .ok (.invokestatic 128, 3) := by decide +kernel
theorem dX12_path_165 : decode cX12_path 165 = .ok (.istore 11, 2) := by decide +kernel
theorem dX12_path_167 : decode cX12_path 167 = .ok (.iload 9, 2) := by decide +kernel
theorem dX12_path_169 : decode cX12_path 169 = .ok (.iconst 2, 1) := by decide +kernel
theorem dX12_path_170 : decode cX12_path 170 = .ok (.if_icmp .ge 7, 3) := by decide +kernel
theorem dX12_path_173 : decode cX12_path 173 = .ok (.iconst 1, 1) := by decide +kernel
theorem dX12_path_174 : decode cX12_path 174 = .ok (.goto 4, 3) := by decide +kernel
theorem dX12_path_177 : decode cX12_path 177 = .ok (.iconst (-1), 1) := by decide +kernel
theorem dX12_path_178 : decode cX12_path 178 = .ok (.istore 12, 2) := by decide +kernel
theorem dX12_path_180 : decode cX12_path 180 = .ok (.iload 5, 2) := by decide +kernel
theorem dX12_path_182 : decode cX12_path 182 = .ok (.iload 12, 2) := by decide +kernel
theorem dX12_path_184 : decode cX12_path 184 = .ok (.aload_n 0, 1) := by decide +kernel
theorem dX12_path_185 : decode cX12_path 185 = .ok (.iload 10, 2) := by decide +kernel
theorem dX12_path_187 : decode cX12_path 187 = .ok (.iload 11, 2) := by decide +kernel
theorem dX12_path_189 : decode cX12_path 189 = .ok (.iload 9, 2) := by decide +kernel
theorem dX12_path_191 : decode cX12_path 191 = .ok (.iconst 2, 1) := by decide +kernel
theorem dX12_path_192 : decode cX12_path 192 = .ok (.irem, 1) := by decide +kernel
theorem dX12_path_193 : decode cX12_path 193 = .ok (.iconst 1, 1) := by decide +kernel
theorem dX12_path_194 : decode cX12_path 194 = .ok (.if_icmp .ne 7, 3) := by decide +kernel
theorem dX12_path_197 : decode cX12_path 197 = .ok (.iconst 1, 1) := by decide +kernel
theorem dX12_path_198 : decode cX12_path 198 = .ok (.goto 4, 3) := by decide +kernel
theorem dX12_path_201 : decode cX12_path 201 = .ok (.iconst 0, 1) := by decide +kernel
theorem dX12_path_202 : decode cX12_path 202 = .ok (.iconst 0, 1) := by decide +kernel
theorem dX12_path_203 : decode cX12_path 203 = .ok (.invokevirtual 218, 3) := by decide +kernel
theorem dX12_path_206 : decode cX12_path 206 = .ok (.imul, 1) := by decide +kernel
theorem dX12_path_207 : decode cX12_path 207 = .ok (.iadd, 1) := by decide +kernel
theorem dX12_path_208 : decode cX12_path 208 = .ok (.istore 5, 2) := by decide +kernel
theorem dX12_path_210 : decode cX12_path 210 = .ok (.iload 6, 2) := by decide +kernel
theorem dX12_path_212 : decode cX12_path 212 = .ok (.iload 12, 2) := by decide +kernel
theorem dX12_path_214 : decode cX12_path 214 = .ok (.aload_n 0, 1) := by decide +kernel
theorem dX12_path_215 : decode cX12_path 215 = .ok (.iload 10, 2) := by decide +kernel
theorem dX12_path_217 : decode cX12_path 217 = .ok (.iload 11, 2) := by decide +kernel
theorem dX12_path_219 : decode cX12_path 219 = .ok (.iload 9, 2) := by decide +kernel
theorem dX12_path_221 : decode cX12_path 221 = .ok (.iconst 2, 1) := by decide +kernel
theorem dX12_path_222 : decode cX12_path 222 = .ok (.irem, 1) := by decide +kernel
theorem dX12_path_223 : decode cX12_path 223 = .ok (.iconst 1, 1) := by decide +kernel
theorem dX12_path_224 : decode cX12_path 224 = .ok (.if_icmp .ne 7, 3) := by decide +kernel
theorem dX12_path_227 : decode cX12_path 227 = .ok (.iconst 1, 1) := by decide +kernel
theorem dX12_path_228 : decode cX12_path 228 = .ok (.goto 4, 3) := by decide +kernel
theorem dX12_path_231 : decode cX12_path 231 = .ok (.iconst 0, 1) := by decide +kernel
theorem dX12_path_232 : decode cX12_path 232 = .ok (.iconst 1, 1) := by decide +kernel
theorem dX12_path_233 : decode cX12_path 233 = .ok (.invokevirtual 218, 3) := by decide +kernel
theorem dX12_path_236 : decode cX12_path 236 = .ok (.imul, 1) := by decide +kernel
theorem dX12_path_237 : decode cX12_path 237 = .ok (.iadd, 1) := by decide +kernel
theorem dX12_path_238 : decode cX12_path 238 = .ok (.istore 6, 2) := by decide +kernel
theorem dX12_path_240 : decode cX12_path 240 = .ok (.iload_n 3, 1) := by decide +kernel
theorem dX12_path_241 : decode cX12_path 241 = .ok (.iload 9, 2) := by decide +kernel
theorem dX12_path_243 : decode cX12_path 243 = .ok (.invokestatic 282, 3) := by decide +kernel
theorem dX12_path_246 : decode cX12_path 246 = .ok (.istore 13, 2) := by decide +kernel
theorem dX12_path_248 : decode cX12_path 248 = .ok (.iload 4, 2) := by decide +kernel
theorem dX12_path_250 : decode cX12_path 250 = .ok (.iload 9, 2) := by decide +kernel
theorem dX12_path_252 : decode cX12_path 252 = .ok (.invokestatic 285, 3) := by decide +kernel
theorem dX12_path_255 : decode cX12_path 255 = .ok (.istore 4, 2) := by decide +kernel
theorem dX12_path_257 : decode cX12_path 257 = .ok (.iload 13, 2) := by decide +kernel
theorem dX12_path_259 : decode cX12_path 259 = .ok (.istore_n 3, 1) := by decide +kernel
theorem dX12_path_260 : decode cX12_path 260 = .ok (.iinc 7 1, 3) := by decide +kernel
theorem dX12_path_263 : decode cX12_path 263 = .ok (.goto (-226), 3) := by decide +kernel
theorem dX12_path_266 : decode cX12_path 266 = .ok (.aload_n 0, 1) := by decide +kernel
theorem dX12_path_267 : decode cX12_path 267 = .ok (.getfield 62, 3) := by decide +kernel
theorem dX12_path_270 : decode cX12_path 270 = .ok (.iconst 0, 1) := by decide +kernel
theorem dX12_path_271 : decode cX12_path 271 = .ok (.iload 5, 2) := by decide +kernel
theorem dX12_path_273 : decode cX12_path 273 = .ok (.iastore, 1) := by decide +kernel
theorem dX12_path_274 : decode cX12_path 274 = .ok (.aload_n 0, 1) := by decide +kernel
theorem dX12_path_275 : decode cX12_path 275 = .ok (.getfield 62, 3) := by decide +kernel
theorem dX12_path_278 : decode cX12_path 278 = .ok (.iconst 1, 1) := by decide +kernel
theorem dX12_path_279 : decode cX12_path 279 = .ok (.iload 6, 2) := by decide +kernel
theorem dX12_path_281 : decode cX12_path 281 = .ok (.iastore, 1) := by decide +kernel
theorem dX12_path_282 : decode cX12_path 282 = .ok (.aload_n 0, 1) := by decide +kernel
theorem dX12_path_283 : decode cX12_path 283 = .ok (.getfield 62, 3) := by decide +kernel
theorem dX12_path_286 : decode cX12_path 286 = .ok (.iconst 2, 1) := by decide +kernel
theorem dX12_path_287 : decode cX12_path 287 = .ok (.aload_n 0, 1) := by decide +kernel
theorem dX12_path_288 : decode cX12_path 288 = .ok (.getfield 94, 3) := by decide +kernel
theorem dX12_path_291 : decode cX12_path 291 = .ok (.iastore, 1) := by decide +kernel
theorem dX12_path_292 : decode cX12_path 292 = .ok (.aload_n 0, 1) := by decide +kernel
theorem dX12_path_293 : decode cX12_path 293 = .ok (.getfield 62, 3) := by decide +kernel
theorem dX12_path_296 : decode cX12_path 296 = .ok (.iconst 3, 1) := by decide +kernel
theorem dX12_path_297 : decode cX12_path 297 = .ok (.iload_n 3, 1) := by decide +kernel
theorem dX12_path_298 : decode cX12_path 298 = .ok (.iastore, 1) := by decide +kernel
theorem dX12_path_299 : decode cX12_path 299 = .ok (.aload_n 0, 1) := by decide +kernel
theorem dX12_path_300 : decode cX12_path 300 = .ok (.getfield 62, 3) := by decide +kernel
theorem dX12_path_303 : decode cX12_path 303 = .ok (.iconst 4, 1) := by decide +kernel
theorem dX12_path_304 : decode cX12_path 304 = .ok (.iload 4, 2) := by decide +kernel
theorem dX12_path_306 : decode cX12_path 306 = .ok (.iastore, 1) := by decide +kernel
theorem dX12_path_307 : decode cX12_path 307 = .ok (.aload_n 0, 1) := by decide +kernel
theorem dX12_path_308 : decode cX12_path 308 = .ok (.iconst 1, 1) := by decide +kernel
theorem dX12_path_309 : decode cX12_path 309 = .ok (.putfield 235, 3) := by decide +kernel
theorem dX12_path_312 : decode cX12_path 312 = .ok (.aload_n 0, 1) := by decide +kernel
theorem dX12_path_313 : decode cX12_path 313 = .ok (.iconst 0, 1) := by decide +kernel
theorem dX12_path_314 : decode cX12_path 314 = .ok (.putfield 94, 3) := by decide +kernel
theorem dX12_path_317 : decode cX12_path 317 = .ok (.iload_n 3, 1) := by decide +kernel
theorem dX12_path_318 : decode cX12_path 318 = .ok (.iload_n 1, 1) := by decide +kernel
theorem dX12_path_319 : decode cX12_path 319 = .ok (.if_icmp .ne 13, 3) := by decide +kernel
theorem dX12_path_322 : decode cX12_path 322 = .ok (.iload 4, 2) := by decide +kernel
theorem dX12_path_324 : decode cX12_path 324 = .ok (.iload_n 2, 1) := by decide +kernel
theorem dX12_path_325 : decode cX12_path 325 = .ok (.if_icmp .ne 7, 3) := by decide +kernel
theorem dX12_path_328 : decode cX12_path 328 = .ok (.iconst 1, 1) := by decide +kernel
theorem dX12_path_329 : decode cX12_path 329 = .ok (.goto 4, 3) := by decide +kernel
theorem dX12_path_332 : decode cX12_path 332 = .ok (.iconst 0, 1) := by decide +kernel
theorem dX12_path_333 : decode cX12_path 333 = .ok (.ireturn, 1) := by decide +kernel
theorem dX12_takesNumber_0 : decode cX12_takesNumber 0 = .ok (.aload_n 0, 1) := by decide +kernel
theorem dX12_takesNumber_1 : decode cX12_takesNumber 1 = .ok (.getfield 134, 3) := by decide +kernel
theorem dX12_takesNumber_4 : decode cX12_takesNumber 4 = .ok (.iconst (-1), 1) := by decide +kernel
theorem dX12_takesNumber_5 : decode cX12_takesNumber 5 = .ok (.if_icmp .ne 26, 3) := by decide +kernel
theorem dX12_takesNumber_8 : decode cX12_takesNumber 8 = .ok (.aload_n 0, 1) := by decide +kernel
theorem dX12_takesNumber_9 : decode cX12_takesNumber 9 = .ok (.getfield 111, 3) := by decide +kernel
theorem dX12_takesNumber_12 : decode cX12_takesNumber 12 = .ok (.iconst 2, 1) := by decide +kernel
theorem dX12_takesNumber_13 : decode cX12_takesNumber 13 = .ok (.if_icmp .ne 18, 3) := by decide +kernel
theorem dX12_takesNumber_16 : decode cX12_takesNumber 16 = .ok (.aload_n 0, 1) := by decide +kernel
theorem dX12_takesNumber_17 : decode cX12_takesNumber 17 = .ok (.getfield 125, 3) := by decide +kernel
theorem dX12_takesNumber_20 : decode cX12_takesNumber 20 = .ok (.i2l, 1) := by decide +kernel
theorem dX12_takesNumber_21 : decode cX12_takesNumber 21 = .ok (.iload_n 1, 1) := by decide +kernel
theorem dX12_takesNumber_22 : decode cX12_takesNumber 22 = .ok (.i2l, 1) := by decide +kernel
theorem dX12_takesNumber_23 : decode cX12_takesNumber 23 = .ok (.iload_n 2, 1) := by decide +kernel
theorem dX12_takesNumber_24 : decode cX12_takesNumber 24 = .ok (.i2l, 1) := by decide +kernel
theorem dX12_takesNumber_25 : decode cX12_takesNumber 25 = .ok (.invokestatic 97, 3) := by decide +kernel
theorem dX12_takesNumber_28 : decode cX12_takesNumber 28 = .ok (.ifCond .ne 9, 3) := by decide +kernel
theorem dX12_takesNumber_31 : decode cX12_takesNumber 31 = .ok (.aload_n 0, 1) := by decide +kernel
theorem dX12_takesNumber_32 : decode cX12_takesNumber 32 = .ok (.invokevirtual 150, 3) := by decide +kernel
theorem dX12_takesNumber_35 : decode cX12_takesNumber 35 = .ok (.iload_n 1, 1) := by decide +kernel
theorem dX12_takesNumber_36 : decode cX12_takesNumber 36 = .ok (.ireturn, 1) := by decide +kernel
theorem dX12_takesNumber_37 : decode cX12_takesNumber 37 = .ok (.aload_n 0, 1) := by decide +kernel
theorem dX12_takesNumber_38 : decode cX12_takesNumber 38 = .ok (.getfield 125, 3) := by decide +kernel
theorem dX12_takesNumber_41 : decode cX12_takesNumber 41 = .ok (.istore_n 3, 1) := by decide +kernel
theorem dX12_takesNumber_42 : decode cX12_takesNumber 42 = .ok (.aload_n 0, 1) := by decide +kernel
theorem dX12_takesNumber_43 : decode cX12_takesNumber 43 = .ok (.invokevirtual 147, 3) := by decide +kernel
theorem dX12_takesNumber_46 : decode cX12_takesNumber 46 = .ok (.iload_n 3, 1) := by decide +kernel
theorem dX12_takesNumber_47 : decode cX12_takesNumber 47 = .ok (.ireturn, 1) := by decide +kernel
theorem dX12_readsCore_0 : decode cX12_readsCore 0 = .ok (.aload_n 0, 1) := by decide +kernel
theorem dX12_readsCore_1 : decode cX12_readsCore 1 = .ok (.invokevirtual 147, 3) := by decide +kernel
theorem dX12_readsCore_4 : decode cX12_readsCore 4 = .ok (.aload_n 0, 1) := by decide +kernel
theorem dX12_readsCore_5 : decode cX12_readsCore 5 = .ok (.iconst 0, 1) := by decide +kernel
theorem dX12_readsCore_6 : decode cX12_readsCore 6 = .ok (.aload_n 0, 1) := by decide +kernel
theorem dX12_readsCore_7 : decode cX12_readsCore 7 = .ok (.getfield 156, 3) := by decide +kernel
theorem dX12_readsCore_10 : decode cX12_readsCore 10 = .ok (.iconst 2, 1) := by decide +kernel
theorem dX12_readsCore_11 : decode cX12_readsCore 11 = .ok (.isub, 1) := by decide +kernel
theorem dX12_readsCore_12 : decode cX12_readsCore 12 = .ok (.invokevirtual 159, 3) := by decide +kernel
theorem dX12_readsCore_15 : decode cX12_readsCore 15 = .ok (.istore_n 1, 1) := by decide +kernel
theorem dX12_readsCore_16 : decode cX12_readsCore 16 = .ok (.aload_n 0, 1) := by decide +kernel
theorem dX12_readsCore_17 : decode cX12_readsCore 17 = .ok (.getfield 134, 3) := by decide +kernel
theorem dX12_readsCore_20 : decode cX12_readsCore 20 = .ok (.iconst (-1), 1) := by decide +kernel
theorem dX12_readsCore_21 : decode cX12_readsCore 21 = .ok (.if_icmp .ne 27, 3) := by decide +kernel
theorem dX12_readsCore_24 : decode cX12_readsCore 24 = .ok (.aload_n 0, 1) := by decide +kernel
theorem dX12_readsCore_25 : decode cX12_readsCore 25 = .ok (.getfield 111, 3) := by decide +kernel
theorem dX12_readsCore_28 : decode cX12_readsCore 28 = .ok (.iconst 2, 1) := by decide +kernel
theorem dX12_readsCore_29 : decode cX12_readsCore 29 = .ok (.if_icmp .ne 19, 3) := by decide +kernel
theorem dX12_readsCore_32 : decode cX12_readsCore 32 = .ok (.aload_n 0, 1) := by decide +kernel
theorem dX12_readsCore_33 : decode cX12_readsCore 33 = .ok (.iload_n 1, 1) := by decide +kernel
theorem dX12_readsCore_34 : decode cX12_readsCore 34 = .ok (.aload_n 0, 1) := by decide +kernel
theorem dX12_readsCore_35 : decode cX12_readsCore 35 = .ok (.getfield 125, 3) := by decide +kernel
theorem dX12_readsCore_38 : decode cX12_readsCore 38 = .ok (.invokevirtual 162, 3) := by decide +kernel
theorem dX12_readsCore_41 : decode cX12_readsCore 41 = .ok (.ifCond .eq 7, 3) := by decide +kernel
theorem dX12_readsCore_44 : decode cX12_readsCore 44 = .ok (.aload_n 0, 1) := by decide +kernel
theorem dX12_readsCore_45 : decode cX12_readsCore 45 = .ok (.invokevirtual 150, 3) := by decide +kernel
theorem dX12_readsCore_48 : decode cX12_readsCore 48 = .ok (.aload_n 0, 1) := by decide +kernel
theorem dX12_readsCore_49 : decode cX12_readsCore 49 = .ok (.iconst 0, 1) := by decide +kernel
theorem dX12_readsCore_50 : decode cX12_readsCore 50 = .ok (.aload_n 0, 1) := by decide +kernel
theorem dX12_readsCore_51 : decode cX12_readsCore 51 = .ok (.getfield 166, 3) := by decide +kernel
theorem dX12_readsCore_54 : decode cX12_readsCore 54 = .ok (.iconst 2, 1) := by decide +kernel
theorem dX12_readsCore_55 : decode cX12_readsCore 55 = .ok (.isub, 1) := by decide +kernel
theorem dX12_readsCore_56 : decode cX12_readsCore 56 = .ok (.invokevirtual 159, 3) := by decide +kernel
theorem dX12_readsCore_59 : decode cX12_readsCore 59 = .ok (.istore_n 2, 1) := by decide +kernel
theorem dX12_readsCore_60 : decode cX12_readsCore 60 = .ok (.aload_n 0, 1) := by decide +kernel
theorem dX12_readsCore_61 : decode cX12_readsCore 61 = .ok (.bipush (-2), 2) := by decide +kernel
theorem dX12_readsCore_63 : decode cX12_readsCore 63 = .ok (.iconst 2, 1) := by decide +kernel
theorem dX12_readsCore_64 : decode cX12_readsCore 64 = .ok (.invokevirtual 159, 3) := by decide +kernel
theorem dX12_readsCore_67 : decode cX12_readsCore 67 = .ok (.istore_n 3, 1) := by decide +kernel
theorem dX12_readsCore_68 : decode cX12_readsCore 68 = .ok (.aload_n 0, 1) := by decide +kernel
theorem dX12_readsCore_69 : decode cX12_readsCore 69 = .ok (.getfield 134, 3) := by decide +kernel
theorem dX12_readsCore_72 : decode cX12_readsCore 72 = .ok (.iconst (-1), 1) := by decide +kernel
theorem dX12_readsCore_73 : decode cX12_readsCore 73 = .ok (.if_icmp .ne 26, 3) := by decide +kernel
theorem dX12_readsCore_76 : decode cX12_readsCore 76 = .ok (.aload_n 0, 1) := by decide +kernel
theorem dX12_readsCore_77 : decode cX12_readsCore 77 = .ok (.getfield 111, 3) := by decide +kernel
theorem dX12_readsCore_80 : decode cX12_readsCore 80 = .ok (.iconst 2, 1) := by decide +kernel
theorem dX12_readsCore_81 : decode cX12_readsCore 81 = .ok (.if_icmp .ne 18, 3) := by decide +kernel
theorem dX12_readsCore_84 : decode cX12_readsCore 84 = .ok (.iload_n 3, 1) := by decide +kernel
theorem dX12_readsCore_85 : decode cX12_readsCore 85 = .ok (.ifCond .ne 14, 3) := by decide +kernel
theorem dX12_readsCore_88 : decode cX12_readsCore 88 = .ok (.aload_n 0, 1) := by decide +kernel
theorem dX12_readsCore_89 : decode cX12_readsCore 89 = .ok (.getfield 125, 3) := by decide +kernel
theorem dX12_readsCore_92 : decode cX12_readsCore 92 = .ok (.ifCond .ne 7, 3) := by decide +kernel
theorem dX12_readsCore_95 : decode cX12_readsCore 95 = .ok (.aload_n 0, 1) := by decide +kernel
theorem dX12_readsCore_96 : decode cX12_readsCore 96 = .ok (.invokevirtual 150, 3) := by decide +kernel
theorem dX12_readsCore_99 : decode cX12_readsCore 99 = .ok (.aload_n 0, 1) := by decide +kernel
theorem dX12_readsCore_100 : decode cX12_readsCore 100 = .ok (.bipush (-2), 2) := by decide +kernel
theorem dX12_readsCore_102 : decode cX12_readsCore 102 = .ok (.iconst 2, 1) := by decide +kernel
theorem dX12_readsCore_103 : decode cX12_readsCore 103 = .ok (.invokevirtual 159, 3) := by decide +kernel
theorem dX12_readsCore_106 : decode cX12_readsCore 106 = .ok (.istore 4, 2) := by decide +kernel
theorem dX12_readsCore_108 : decode cX12_readsCore 108 = .ok (.aload_n 0, 1) := by decide +kernel
theorem dX12_readsCore_109 : decode cX12_readsCore 109 = .ok (.getfield 134, 3) := by decide +kernel
theorem dX12_readsCore_112 : decode cX12_readsCore 112 = .ok (.iconst (-1), 1) := by decide +kernel
theorem dX12_readsCore_113 : decode cX12_readsCore 113 = .ok (.if_icmp .ne 54, 3) := by decide +kernel
theorem dX12_readsCore_116 : decode cX12_readsCore 116 = .ok (.aload_n 0, 1) := by decide +kernel
theorem dX12_readsCore_117 : decode cX12_readsCore 117 = .ok (.getfield 13, 3) := by decide +kernel
theorem dX12_readsCore_120 : decode cX12_readsCore 120 = .ok (.aload_n 0, 1) := by decide +kernel
theorem dX12_readsCore_121 : decode cX12_readsCore 121 = .ok (.getfield 153, 3) := by decide +kernel
theorem dX12_readsCore_124 : decode cX12_readsCore 124 = .ok (.iload_n 1, 1) := by decide +kernel
theorem dX12_readsCore_125 : decode cX12_readsCore 125 = .ok (.iastore, 1) := by decide +kernel
theorem dX12_readsCore_126 : decode cX12_readsCore 126 = .ok (.aload_n 0, 1) := by decide +kernel
theorem dX12_readsCore_127 : decode cX12_readsCore 127 = .ok (.getfield 16, 3) := by decide +kernel
theorem dX12_readsCore_130 : decode cX12_readsCore 130 = .ok (.aload_n 0, 1) := by decide +kernel
theorem dX12_readsCore_131 : decode cX12_readsCore 131 = .ok (.getfield 153, 3) := by decide +kernel
theorem dX12_readsCore_134 : decode cX12_readsCore 134 = .ok (.iload_n 2, 1) := by decide +kernel
theorem dX12_readsCore_135 : decode cX12_readsCore 135 = .ok (.iastore, 1) := by decide +kernel
theorem dX12_readsCore_136 : decode cX12_readsCore 136 = .ok (.aload_n 0, 1) := by decide +kernel
theorem dX12_readsCore_137 : decode cX12_readsCore 137 = .ok (.getfield 19, 3) := by decide +kernel
theorem dX12_readsCore_140 : decode cX12_readsCore 140 = .ok (.aload_n 0, 1) := by decide +kernel
theorem dX12_readsCore_141 : decode cX12_readsCore 141 = .ok (.getfield 153, 3) := by decide +kernel
theorem dX12_readsCore_144 : decode cX12_readsCore 144 = .ok (.iload_n 3, 1) := by decide +kernel
theorem dX12_readsCore_145 : decode cX12_readsCore 145 = .ok (.iastore, 1) := by decide +kernel
theorem dX12_readsCore_146 : decode cX12_readsCore 146 = .ok (.aload_n 0, 1) := by decide +kernel
theorem dX12_readsCore_147 : decode cX12_readsCore 147 = .ok (.getfield 22, 3) := by decide +kernel
theorem dX12_readsCore_150 : decode cX12_readsCore 150 = .ok (.aload_n 0, 1) := by decide +kernel
theorem dX12_readsCore_151 : decode cX12_readsCore 151 = .ok (.getfield 153, 3) := by decide +kernel
theorem dX12_readsCore_154 : decode cX12_readsCore 154 = .ok (.iload 4, 2) := by decide +kernel
theorem dX12_readsCore_156 : decode cX12_readsCore 156 = .ok (.iastore, 1) := by decide +kernel
theorem dX12_readsCore_157 : decode cX12_readsCore 157 = .ok (.aload_n 0, 1) := by decide +kernel
theorem dX12_readsCore_158 : decode cX12_readsCore 158 = .ok (.dup, 1) := by decide +kernel
theorem dX12_readsCore_159 : decode cX12_readsCore 159 = .ok (.getfield 153, 3) := by decide +kernel
theorem dX12_readsCore_162 : decode cX12_readsCore 162 = .ok (.iconst 1, 1) := by decide +kernel
theorem dX12_readsCore_163 : decode cX12_readsCore 163 = .ok (.iadd, 1) := by decide +kernel
theorem dX12_readsCore_164 : decode cX12_readsCore 164 = .ok (.putfield 153, 3) := by decide +kernel
theorem dX12_readsCore_167 : decode cX12_readsCore 167 = .ok (.return_, 1) := by decide +kernel
theorem dX12_rests_0 : decode cX12_rests 0 = .ok (.aload_n 0, 1) := by decide +kernel
theorem dX12_rests_1 : decode cX12_rests 1 = .ok (.iconst 0, 1) := by decide +kernel
theorem dX12_rests_2 : decode cX12_rests 2 = .ok (.putfield 86, 3) := by decide +kernel
theorem dX12_rests_5 : decode cX12_rests 5 = .ok (.aload_n 0, 1) := by decide +kernel
theorem dX12_rests_6 : decode cX12_rests 6 = .ok (.invokevirtual 306, 3) := by decide +kernel
theorem dX12_rests_9 : decode cX12_rests 9 = .ok (.ifCond .ne 5, 3) := by decide +kernel
theorem dX12_rests_12 : decode cX12_rests 12 = .ok (.iconst (-1), 1) := by decide +kernel
theorem dX12_rests_13 : decode cX12_rests 13 = .ok (.ireturn, 1) := by decide +kernel
theorem dX12_rests_14 : decode cX12_rests 14 = .ok (.aload_n 0, 1) := by decide +kernel
theorem dX12_rests_15 : decode cX12_rests 15 = .ok (.invokevirtual 455, 3) := by decide +kernel
theorem dX12_rests_18 : decode cX12_rests 18 = .ok (.iconst 0, 1) := by decide +kernel
theorem dX12_rests_19 : decode cX12_rests 19 = .ok (.istore_n 1, 1) := by decide +kernel
theorem dX12_rests_20 : decode cX12_rests 20 = .ok (.iload_n 1, 1) := by decide +kernel
theorem dX12_rests_21 : decode cX12_rests 21 = .ok (.bipush 40, 2) := by decide +kernel
theorem dX12_rests_23 : decode cX12_rests 23 = .ok (.if_icmp .gt 26, 3) := by decide +kernel
theorem dX12_rests_26 : decode cX12_rests 26 = .ok (.aload_n 0, 1) := by decide +kernel
theorem dX12_rests_27 : decode cX12_rests 27 = .ok (.invokevirtual 467, 3) := by decide +kernel
theorem dX12_rests_30 : decode cX12_rests 30 = .ok (.aload_n 0, 1) := by decide +kernel
theorem dX12_rests_31 : decode cX12_rests 31 = .ok (.getfield 31, 3) := by decide +kernel
theorem dX12_rests_34 : decode cX12_rests 34 = .ok (.iconst 2, 1) := by decide +kernel
theorem dX12_rests_35 : decode cX12_rests 35 = .ok (.iaload, 1) := by decide +kernel
theorem dX12_rests_36 : decode cX12_rests 36 = .ok (.if_icmp .le 13, 3) := by decide +kernel
theorem dX12_rests_39 : decode cX12_rests 39 = .ok (.aload_n 0, 1) := by decide +kernel
theorem dX12_rests_40 : decode cX12_rests 40 = .ok (.invokevirtual 390, 3) := by decide +kernel
theorem dX12_rests_43 : decode cX12_rests 43 = .ok (.iinc 1 1, 3) := by decide +kernel
theorem dX12_rests_46 : decode cX12_rests 46 = .ok (.goto (-26), 3) := by decide +kernel
theorem dX12_rests_49 : decode cX12_rests 49 = .ok (.aload_n 0, 1) := by decide +kernel
theorem dX12_rests_50 : decode cX12_rests 50 = .ok (.invokevirtual 461, 3) := by decide +kernel
theorem dX12_rests_53 : decode cX12_rests 53 = .ok (.iload_n 1, 1) := by decide +kernel
theorem dX12_rests_54 : decode cX12_rests 54 = .ok (.bipush 40, 2) := by decide +kernel
theorem dX12_rests_56 : decode cX12_rests 56 = .ok (.if_icmp .le 7, 3) := by decide +kernel
theorem dX12_rests_59 : decode cX12_rests 59 = .ok (.iconst (-1), 1) := by decide +kernel
theorem dX12_rests_60 : decode cX12_rests 60 = .ok (.goto 4, 3) := by decide +kernel
theorem dX12_rests_63 : decode cX12_rests 63 = .ok (.iload_n 1, 1) := by decide +kernel
theorem dX12_rests_64 : decode cX12_rests 64 = .ok (.ireturn, 1) := by decide +kernel
theorem dX12_rid_0 : decode cX12_rid 0 = .ok (.aload_n 0, 1) := by decide +kernel
theorem dX12_rid_1 : decode cX12_rid 1 = .ok (.iconst 0, 1) := by decide +kernel
theorem dX12_rid_2 : decode cX12_rid 2 = .ok (.putfield 86, 3) := by decide +kernel
theorem dX12_rid_5 : decode cX12_rid 5 = .ok (.aload_n 0, 1) := by decide +kernel
theorem dX12_rid_6 : decode cX12_rid 6 = .ok (.invokevirtual 306, 3) := by decide +kernel
theorem dX12_rid_9 : decode cX12_rid 9 = .ok (.ifCond .eq 23, 3) := by decide +kernel
theorem dX12_rid_12 : decode cX12_rid 12 = .ok (.iload_n 1, 1) := by decide +kernel
theorem dX12_rid_13 : decode cX12_rid 13 = .ok (.i2l, 1) := by decide +kernel
theorem dX12_rid_14 : decode cX12_rid 14 = .ok (.lconst 1, 1) := by decide +kernel
theorem dX12_rid_15 : decode cX12_rid 15 = .ok (.ldc2_w 399, 3) := by decide +kernel
theorem dX12_rid_18 : decode cX12_rid 18 = .ok (.invokestatic 97, 3) := by decide +kernel
theorem dX12_rid_21 : decode cX12_rid 21 = .ok (.ifCond .eq 11, 3) := by decide +kernel
theorem dX12_rid_24 : decode cX12_rid 24 = .ok (.aload_n 0, 1) := by decide +kernel
theorem dX12_rid_25 : decode cX12_rid 25 = .ok (.iload_n 1, 1) := by decide +kernel
theorem dX12_rid_26 : decode cX12_rid 26 = .ok (.invokevirtual 452, 3) := by decide +kernel
theorem dX12_rid_29 : decode cX12_rid 29 = .ok (.goto 4, 3) := by decide +kernel
theorem dX12_rid_32 : decode cX12_rid 32 = .ok (.iconst (-1), 1) := by decide +kernel
theorem dX12_rid_33 : decode cX12_rid 33 = .ok (.ireturn, 1) := by decide +kernel
theorem dX12_wayless_0 : decode cX12_wayless 0 = .ok (.iconst 0, 1) := by decide +kernel
theorem dX12_wayless_1 : decode cX12_wayless 1 = .ok (.istore_n 1, 1) := by decide +kernel
theorem dX12_wayless_2 : decode cX12_wayless 2 = .ok (.iconst 0, 1) := by decide +kernel
theorem dX12_wayless_3 : decode cX12_wayless 3 = .ok (.istore_n 2, 1) := by decide +kernel
theorem dX12_wayless_4 : decode cX12_wayless 4 = .ok (.iload_n 2, 1) := by decide +kernel
theorem dX12_wayless_5 : decode cX12_wayless 5 = .ok (.aload_n 0, 1) := by decide +kernel
theorem dX12_wayless_6 : decode cX12_wayless 6 = .ok (.getfield 241, 3) := by decide +kernel
theorem dX12_wayless_9 : decode cX12_wayless 9 = .ok (.if_icmp .ge 26, 3) := by decide +kernel
theorem dX12_wayless_12 : decode cX12_wayless 12 = .ok (.iload_n 1, 1) := by decide +kernel
theorem dX12_wayless_13 : decode cX12_wayless 13 = .ok (.aload_n 0, 1) := by decide +kernel
theorem dX12_wayless_14 : decode cX12_wayless 14 = .ok (.iload_n 2, 1) := by decide +kernel
theorem dX12_wayless_15 : decode cX12_wayless 15 = .ok (.invokevirtual 269, 3) := by decide +kernel
theorem dX12_wayless_18 : decode cX12_wayless 18 = .ok (.iconst (-1), 1) := by decide +kernel
theorem dX12_wayless_19 : decode cX12_wayless 19 = .ok (.if_icmp .ne 7, 3) := by decide +kernel
theorem dX12_wayless_22 : decode cX12_wayless 22 = .ok (.iconst 1, 1) := by decide +kernel
theorem dX12_wayless_23 : decode cX12_wayless 23 = .ok (.goto 4, 3) := by decide +kernel
theorem dX12_wayless_26 : decode cX12_wayless 26 = .ok (.iconst 0, 1) := by decide +kernel
theorem dX12_wayless_27 : decode cX12_wayless 27 = .ok (.iadd, 1) := by decide +kernel
theorem dX12_wayless_28 : decode cX12_wayless 28 = .ok (.istore_n 1, 1) := by decide +kernel
theorem dX12_wayless_29 : decode cX12_wayless 29 = .ok (.iinc 2 1, 3) := by decide +kernel
theorem dX12_wayless_32 : decode cX12_wayless 32 = .ok (.goto (-28), 3) := by decide +kernel
theorem dX12_wayless_35 : decode cX12_wayless 35 = .ok (.iload_n 1, 1) := by decide +kernel
theorem dX12_wayless_36 : decode cX12_wayless 36 = .ok (.ireturn, 1) := by decide +kernel
theorem dX12_rule_0 : decode cX12_rule 0 = .ok (.aload_n 0, 1) := by decide +kernel
theorem dX12_rule_1 : decode cX12_rule 1 = .ok (.iconst 0, 1) := by decide +kernel
theorem dX12_rule_2 : decode cX12_rule 2 = .ok (.putfield 86, 3) := by decide +kernel
theorem dX12_rule_5 : decode cX12_rule 5 = .ok (.aload_n 0, 1) := by decide +kernel
theorem dX12_rule_6 : decode cX12_rule 6 = .ok (.invokevirtual 306, 3) := by decide +kernel
theorem dX12_rule_9 : decode cX12_rule 9 = .ok (.ifCond .ne 7, 3) := by decide +kernel
theorem dX12_rule_12 : decode cX12_rule 12 = .ok (.ldc_w 310, 3) := by decide +kernel
theorem dX12_rule_15 : decode cX12_rule 15 = .ok (.ireturn, 1) := by decide +kernel
theorem dX12_rule_16 : decode cX12_rule 16 = .ok (.aload_n 0, 1) := by decide +kernel
theorem dX12_rule_17 : decode cX12_rule 17 = .ok (.invokevirtual 238, 3) := by decide +kernel
theorem dX12_rule_20 : decode cX12_rule 20 = .ok (.pop, 1) := by decide +kernel
theorem dX12_rule_21 : decode cX12_rule 21 = .ok (.iload_n 1, 1) := by decide +kernel
theorem dX12_rule_22 : decode cX12_rule 22 = .ok (.tableswitch 182 0 13 #[70, 75, 80, 87, 94, 101, 108, 113, 118, 127, 147, 167, 172, 177], 70) := by decide +kernel
theorem dX12_rule_92 : decode cX12_rule 92 = .ok (.aload_n 0, 1) := by decide +kernel
theorem dX12_rule_93 : decode cX12_rule 93 = .ok (.getfield 205, 3) := by decide +kernel
theorem dX12_rule_96 : decode cX12_rule 96 = .ok (.ireturn, 1) := by decide +kernel
theorem dX12_rule_97 : decode cX12_rule 97 = .ok (.aload_n 0, 1) := by decide +kernel
theorem dX12_rule_98 : decode cX12_rule 98 = .ok (.getfield 208, 3) := by decide +kernel
theorem dX12_rule_101 : decode cX12_rule 101 = .ok (.ireturn, 1) := by decide +kernel
theorem dX12_rule_102 : decode cX12_rule 102 = .ok (.aload_n 0, 1) := by decide +kernel
theorem dX12_rule_103 : decode cX12_rule 103 = .ok (.getfield 31, 3) := by decide +kernel
theorem dX12_rule_106 : decode cX12_rule 106 = .ok (.iconst 0, 1) := by decide +kernel
theorem dX12_rule_107 : decode cX12_rule 107 = .ok (.iaload, 1) := by decide +kernel
theorem dX12_rule_108 : decode cX12_rule 108 = .ok (.ireturn, 1) := by decide +kernel
theorem dX12_rule_109 : decode cX12_rule 109 = .ok (.aload_n 0, 1) := by decide +kernel
theorem dX12_rule_110 : decode cX12_rule 110 = .ok (.getfield 31, 3) := by decide +kernel
theorem dX12_rule_113 : decode cX12_rule 113 = .ok (.iconst 1, 1) := by decide +kernel
theorem dX12_rule_114 : decode cX12_rule 114 = .ok (.iaload, 1) := by decide +kernel
theorem dX12_rule_115 : decode cX12_rule 115 = .ok (.ireturn, 1) := by decide +kernel
theorem dX12_rule_116 : decode cX12_rule 116 = .ok (.aload_n 0, 1) := by decide +kernel
