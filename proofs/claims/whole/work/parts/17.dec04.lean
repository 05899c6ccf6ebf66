theorem dX12_gone_0 : decode cX12_gone 0 = .ok (.aload_n 0, 1) := by decide +kernel
theorem dX12_gone_1 : decode cX12_gone 1 = .ok (.iconst 0, 1) := by decide +kernel
theorem dX12_gone_2 : decode cX12_gone 2 = .ok (.putfield 86, 3) := by decide +kernel
theorem dX12_gone_5 : decode cX12_gone 5 = .ok (.aload_n 0, 1) := by decide +kernel
theorem dX12_gone_6 : decode cX12_gone 6 = .ok (.getfield 235, 3) := by decide +kernel
theorem dX12_gone_9 : decode cX12_gone 9 = .ok (.ifCond .eq 24, 3) := by decide +kernel
theorem dX12_gone_12 : decode cX12_gone 12 = .ok (.iload_n 1, 1) := by decide +kernel
theorem dX12_gone_13 : decode cX12_gone 13 = .ok (.i2l, 1) := by decide +kernel
theorem dX12_gone_14 : decode cX12_gone 14 = .ok (.lconst 0, 1) := by decide +kernel
theorem dX12_gone_15 : decode cX12_gone 15 = .ok (.ldc2_w 352, 3) := by decide +kernel
theorem dX12_gone_18 : decode cX12_gone 18 = .ok (.invokestatic 97, 3) := by decide +kernel
theorem dX12_gone_21 : decode cX12_gone 21 = .ok (.ifCond .eq 12, 3) := by decide +kernel
theorem dX12_gone_24 : decode cX12_gone 24 = .ok (.aload_n 0, 1) := by decide +kernel
theorem dX12_gone_25 : decode cX12_gone 25 = .ok (.getfield 62, 3) := by decide +kernel
theorem dX12_gone_28 : decode cX12_gone 28 = .ok (.iload_n 1, 1) := by decide +kernel
theorem dX12_gone_29 : decode cX12_gone 29 = .ok (.iaload, 1) := by decide +kernel
theorem dX12_gone_30 : decode cX12_gone 30 = .ok (.goto 6, 3) := by decide +kernel
theorem dX12_gone_33 : decode cX12_gone 33 = .ok (.ldc_w 310, 3) := by decide +kernel
theorem dX12_gone_36 : decode cX12_gone 36 = .ok (.ireturn, 1) := by decide +kernel
theorem dX12_greatestForce_0 : decode cX12_greatestForce 0 = .ok (.iconst 0, 1) := by decide +kernel
theorem dX12_greatestForce_1 : decode cX12_greatestForce 1 = .ok (.istore_n 1, 1) := by decide +kernel
theorem dX12_greatestForce_2 : decode cX12_greatestForce 2 = .ok (.aload_n 0, 1) := by decide +kernel
theorem dX12_greatestForce_3 : decode cX12_greatestForce 3 = .ok (.invokevirtual 238, 3) := by decide +kernel
theorem dX12_greatestForce_6 : decode cX12_greatestForce 6 = .ok (.pop, 1) := by decide +kernel
theorem dX12_greatestForce_7 : decode cX12_greatestForce 7 = .ok (.iconst 0, 1) := by decide +kernel
theorem dX12_greatestForce_8 : decode cX12_greatestForce 8 = .ok (.istore_n 2, 1) := by decide +kernel
theorem dX12_greatestForce_9 : decode cX12_greatestForce 9 = .ok (.iload_n 2, 1) := by decide +kernel
theorem dX12_greatestForce_10 : decode cX12_greatestForce 10 = .ok (.aload_n 0, 1) := by decide +kernel
theorem dX12_greatestForce_11 : decode cX12_greatestForce 11 = .ok (.getfield 241, 3) := by decide +kernel
theorem dX12_greatestForce_14 : decode cX12_greatestForce 14 = .ok (.if_icmp .ge 23, 3) := by decide +kernel
theorem dX12_greatestForce_17 : decode cX12_greatestForce 17 = .ok (.iload_n 1, 1) := by decide +kernel
theorem dX12_greatestForce_18 : decode cX12_greatestForce 18 = .ok (.aload_n 0, 1) := by decide +kernel
theorem dX12_greatestForce_19 : decode cX12_greatestForce 19 = .ok (.getfield 46, 3) := by decide +kernel
theorem dX12_greatestForce_22 : decode cX12_greatestForce 22 = .ok (.iload_n 2, 1) := by decide +kernel
theorem dX12_greatestForce_23 : decode cX12_greatestForce 23 = .ok (.iaload, 1) := by decide +kernel
theorem dX12_greatestForce_24 : decode cX12_greatestForce 24 = .ok (.invokestatic 370, 3) := by decide +kernel
theorem dX12_greatestForce_27 : decode cX12_greatestForce 27 = .ok (.invokestatic 464, 3) := by decide +kernel
theorem dX12_greatestForce_30 : decode cX12_greatestForce 30 = .ok (.istore_n 1, 1) := by decide +kernel
theorem dX12_greatestForce_31 : decode cX12_greatestForce 31 = .ok (.iinc 2 1, 3) := by decide +kernel
theorem dX12_greatestForce_34 : decode cX12_greatestForce 34 = .ok (.goto (-25), 3) := by decide +kernel
theorem dX12_greatestForce_37 : decode cX12_greatestForce 37 = .ok (.iload_n 1, 1) := by decide +kernel
theorem dX12_greatestForce_38 : decode cX12_greatestForce 38 = .ok (.ireturn, 1) := by decide +kernel
theorem dX12_greatestNumber_0 : decode cX12_greatestNumber 0 = .ok (.iconst 0, 1) := by decide +kernel
theorem dX12_greatestNumber_1 : decode cX12_greatestNumber 1 = .ok (.istore_n 1, 1) := by decide +kernel
theorem dX12_greatestNumber_2 : decode cX12_greatestNumber 2 = .ok (.iconst 0, 1) := by decide +kernel
theorem dX12_greatestNumber_3 : decode cX12_greatestNumber 3 = .ok (.istore_n 2, 1) := by decide +kernel
theorem dX12_greatestNumber_4 : decode cX12_greatestNumber 4 = .ok (.iload_n 2, 1) := by decide +kernel
theorem dX12_greatestNumber_5 : decode cX12_greatestNumber 5 = .ok (.aload_n 0, 1) := by decide +kernel
theorem dX12_greatestNumber_6 : decode cX12_greatestNumber 6 = .ok (.getfield 241, 3) := by decide +kernel
theorem dX12_greatestNumber_9 : decode cX12_greatestNumber 9 = .ok (.if_icmp .ge 35, 3) := by decide +kernel
theorem dX12_greatestNumber_12 : decode cX12_greatestNumber 12 = .ok (.iload_n 1, 1) := by decide +kernel
theorem dX12_greatestNumber_13 : decode cX12_greatestNumber 13 = .ok (.aload_n 0, 1) := by decide +kernel
theorem dX12_greatestNumber_14 : decode cX12_greatestNumber 14 = .ok (.getfield 40, 3) := by decide +kernel
theorem dX12_greatestNumber_17 : decode cX12_greatestNumber 17 = .ok (.iload_n 2, 1) := by decide +kernel
theorem dX12_greatestNumber_18 : decode cX12_greatestNumber 18 = .ok (.iaload, 1) := by decide +kernel
theorem dX12_greatestNumber_19 : decode cX12_greatestNumber 19 = .ok (.invokestatic 370, 3) := by decide +kernel
theorem dX12_greatestNumber_22 : decode cX12_greatestNumber 22 = .ok (.aload_n 0, 1) := by decide +kernel
theorem dX12_greatestNumber_23 : decode cX12_greatestNumber 23 = .ok (.getfield 43, 3) := by decide +kernel
theorem dX12_greatestNumber_26 : decode cX12_greatestNumber 26 = .ok (.iload_n 2, 1) := by decide +kernel
theorem dX12_greatestNumber_27 : decode cX12_greatestNumber 27 = .ok (.iaload, 1) := by decide +kernel
theorem dX12_greatestNumber_28 : decode cX12_greatestNumber 28 = .ok (.invokestatic 370, 3) := by decide +kernel
theorem dX12_greatestNumber_31 : decode cX12_greatestNumber 31 = .ok (.invokestatic 464, 3) := by decide +kernel
theorem dX12_greatestNumber_34 : decode cX12_greatestNumber 34 = .ok (.invokestatic 464, 3) := by decide +kernel
theorem dX12_greatestNumber_37 : decode cX12_greatestNumber 37 = .ok (.istore_n 1, 1) := by decide +kernel
theorem dX12_greatestNumber_38 : decode cX12_greatestNumber 38 = .ok (.iinc 2 1, 3) := by decide +kernel
theorem dX12_greatestNumber_41 : decode cX12_greatestNumber 41 = .ok (.goto (-37), 3) := by decide +kernel
theorem dX12_greatestNumber_44 : decode cX12_greatestNumber 44 = .ok (.iload_n 1, 1) := by decide +kernel
theorem dX12_greatestNumber_45 : decode cX12_greatestNumber 45 = .ok (.ireturn, 1) := by decide +kernel
theorem dX12_halved_0 : decode cX12_halved 0 = .ok (.aload_n 0, 1) := by decide +kernel
theorem dX12_halved_1 : decode cX12_halved 1 = .ok (.iconst 0, 1) := by decide +kernel
theorem dX12_halved_2 : decode cX12_halved 2 = .ok (.putfield 86, 3) := by decide +kernel
theorem dX12_halved_5 : decode cX12_halved 5 = .ok (.aload_n 0, 1) := by decide +kernel
theorem dX12_halved_6 : decode cX12_halved 6 = .ok (.invokevirtual 306, 3) := by decide +kernel
theorem dX12_halved_9 : decode cX12_halved 9 = .ok (.ifCond .ne 5, 3) := by decide +kernel
theorem dX12_halved_12 : decode cX12_halved 12 = .ok (.iconst (-1), 1) := by decide +kernel
theorem dX12_halved_13 : decode cX12_halved 13 = .ok (.ireturn, 1) := by decide +kernel
theorem dX12_halved_14 : decode cX12_halved 14 = .ok (.aload_n 0, 1) := by decide +kernel
theorem dX12_halved_15 : decode cX12_halved 15 = .ok (.invokevirtual 349, 3) := by decide +kernel
theorem dX12_halved_18 : decode cX12_halved 18 = .ok (.iload_n 1, 1) := by decide +kernel
theorem dX12_halved_19 : decode cX12_halved 19 = .ok (.iconst (-1), 1) := by decide +kernel
theorem dX12_halved_20 : decode cX12_halved 20 = .ok (.if_icmp .ne 10, 3) := by decide +kernel
theorem dX12_halved_23 : decode cX12_halved 23 = .ok (.aload_n 0, 1) := by decide +kernel
theorem dX12_halved_24 : decode cX12_halved 24 = .ok (.getfield 338, 3) := by decide +kernel
theorem dX12_halved_27 : decode cX12_halved 27 = .ok (.goto 45, 3) := by decide +kernel
theorem dX12_halved_30 : decode cX12_halved 30 = .ok (.iload_n 1, 1) := by decide +kernel
theorem dX12_halved_31 : decode cX12_halved 31 = .ok (.i2l, 1) := by decide +kernel
theorem dX12_halved_32 : decode cX12_halved 32 = .ok (.lconst 0, 1) := by decide +kernel
theorem dX12_halved_33 : decode cX12_halved 33 = .ok (.aload_n 0, 1) := by decide +kernel
theorem dX12_halved_34 : decode cX12_halved 34 = .ok (.getfield 338, 3) := by decide +kernel
theorem dX12_halved_37 : decode cX12_halved 37 = .ok (.iconst 1, 1) := by decide +kernel
theorem dX12_halved_38 : decode cX12_halved 38 = .ok (.isub, 1) := by decide +kernel
theorem dX12_halved_39 : decode cX12_halved 39 = .ok (.i2l, 1) := by decide +kernel
theorem dX12_halved_40 : decode cX12_halved 40 = .ok (.invokestatic 97, 3) := by decide +kernel
theorem dX12_halved_43 : decode cX12_halved 43 = .ok (.ifCond .eq 28, 3) := by decide +kernel
theorem dX12_halved_46 : decode cX12_halved 46 = .ok (.iload_n 2, 1) := by decide +kernel
theorem dX12_halved_47 : decode cX12_halved 47 = .ok (.i2l, 1) := by decide +kernel
theorem dX12_halved_48 : decode cX12_halved 48 = .ok (.lconst 0, 1) := by decide +kernel
theorem dX12_halved_49 : decode cX12_halved 49 = .ok (.ldc2_w 291, 3) := by decide +kernel
theorem dX12_halved_52 : decode cX12_halved 52 = .ok (.invokestatic 97, 3) := by decide +kernel
theorem dX12_halved_55 : decode cX12_halved 55 = .ok (.ifCond .eq 16, 3) := by decide +kernel
theorem dX12_halved_58 : decode cX12_halved 58 = .ok (.aload_n 0, 1) := by decide +kernel
theorem dX12_halved_59 : decode cX12_halved 59 = .ok (.getfield 59, 3) := by decide +kernel
theorem dX12_halved_62 : decode cX12_halved 62 = .ok (.iconst 4, 1) := by decide +kernel
theorem dX12_halved_63 : decode cX12_halved 63 = .ok (.iload_n 1, 1) := by decide +kernel
theorem dX12_halved_64 : decode cX12_halved 64 = .ok (.imul, 1) := by decide +kernel
theorem dX12_halved_65 : decode cX12_halved 65 = .ok (.iload_n 2, 1) := by decide +kernel
theorem dX12_halved_66 : decode cX12_halved 66 = .ok (.iadd, 1) := by decide +kernel
theorem dX12_halved_67 : decode cX12_halved 67 = .ok (.iaload, 1) := by decide +kernel
theorem dX12_halved_68 : decode cX12_halved 68 = .ok (.goto 4, 3) := by decide +kernel
theorem dX12_halved_71 : decode cX12_halved 71 = .ok (.iconst (-1), 1) := by decide +kernel
theorem dX12_halved_72 : decode cX12_halved 72 = .ok (.ireturn, 1) := by decide +kernel
theorem dX12_hasSum_0 : decode cX12_hasSum 0 = .ok (.aload_n 0, 1) := by decide +kernel
theorem dX12_hasSum_1 : decode cX12_hasSum 1 = .ok (.iload_n 1, 1) := by decide +kernel
theorem dX12_hasSum_2 : decode cX12_hasSum 2 = .ok (.iload_n 2, 1) := by decide +kernel
theorem dX12_hasSum_3 : decode cX12_hasSum 3 = .ok (.iload_n 3, 1) := by decide +kernel
theorem dX12_hasSum_4 : decode cX12_hasSum 4 = .ok (.iload 4, 2) := by decide +kernel
theorem dX12_hasSum_6 : decode cX12_hasSum 6 = .ok (.iconst 0, 1) := by decide +kernel
theorem dX12_hasSum_7 : decode cX12_hasSum 7 = .ok (.invokevirtual 314, 3) := by decide +kernel
theorem dX12_hasSum_10 : decode cX12_hasSum 10 = .ok (.ifCond .ne 16, 3) := by decide +kernel
theorem dX12_hasSum_13 : decode cX12_hasSum 13 = .ok (.aload_n 0, 1) := by decide +kernel
theorem dX12_hasSum_14 : decode cX12_hasSum 14 = .ok (.iload_n 1, 1) := by decide +kernel
theorem dX12_hasSum_15 : decode cX12_hasSum 15 = .ok (.iload_n 2, 1) := by decide +kernel
theorem dX12_hasSum_16 : decode cX12_hasSum 16 = .ok (.iload_n 3, 1) := by decide +kernel
theorem dX12_hasSum_17 : decode cX12_hasSum 17 = .ok (.iload 4, 2) := by decide +kernel
theorem dX12_hasSum_19 : decode cX12_hasSum 19 = .ok (.iconst 1, 1) := by decide +kernel
theorem dX12_hasSum_20 : decode cX12_hasSum 20 = .ok (.invokevirtual 314, 3) := by decide +kernel
theorem dX12_hasSum_23 : decode cX12_hasSum 23 = .ok (.ifCond .eq 7, 3) := by decide +kernel
theorem dX12_hasSum_26 : decode cX12_hasSum 26 = .ok (.iconst 1, 1) := by decide +kernel
theorem dX12_hasSum_27 : decode cX12_hasSum 27 = .ok (.goto 4, 3) := by decide +kernel
theorem dX12_hasSum_30 : decode cX12_hasSum 30 = .ok (.iconst 0, 1) := by decide +kernel
theorem dX12_hasSum_31 : decode cX12_hasSum 31 = .ok (.ireturn, 1) := by decide +kernel
theorem dX12_image_0 : decode cX12_image 0 = .ok (.aload_n 0, 1) := by decide +kernel
theorem dX12_image_1 : decode cX12_image 1 = .ok (.iconst 0, 1) := by decide +kernel
theorem dX12_image_2 : decode cX12_image 2 = .ok (.putfield 86, 3) := by decide +kernel
theorem dX12_image_5 : decode cX12_image 5 = .ok (.aload_n 0, 1) := by decide +kernel
theorem dX12_image_6 : decode cX12_image 6 = .ok (.invokevirtual 306, 3) := by decide +kernel
theorem dX12_image_9 : decode cX12_image 9 = .ok (.ifCond .ne 5, 3) := by decide +kernel
theorem dX12_image_12 : decode cX12_image 12 = .ok (.iconst (-1), 1) := by decide +kernel
theorem dX12_image_13 : decode cX12_image 13 = .ok (.ireturn, 1) := by decide +kernel
theorem dX12_image_14 : decode cX12_image 14 = .ok (.iconst 0, 1) := by decide +kernel
theorem dX12_image_15 : decode cX12_image 15 = .ok (.istore_n 1, 1) := by decide +kernel
theorem dX12_image_16 : decode cX12_image 16 = .ok (.iload_n 1, 1) := by decide +kernel
theorem dX12_image_17 : decode cX12_image 17 = .ok (.sipush 486, 3) := by decide +kernel
theorem dX12_image_20 : decode cX12_image 20 = .ok (.if_icmp .ge 21, 3) := by decide +kernel
theorem dX12_image_23 : decode cX12_image 23 = .ok (.aload_n 0, 1) := by decide +kernel
theorem dX12_image_24 : decode cX12_image 24 = .ok (.getfield 83, 3) := by decide +kernel
theorem dX12_image_27 : decode cX12_image 27 = .ok (.iload_n 1, 1) := by decide +kernel
theorem dX12_image_28 : decode cX12_image 28 = .ok (.aload_n 0, 1) := by decide +kernel
theorem dX12_image_29 : decode cX12_image 29 = .ok (.getfield 28, 3) := by decide +kernel
theorem dX12_image_32 : decode cX12_image 32 = .ok (.iload_n 1, 1) := by decide +kernel
theorem dX12_image_33 : decode cX12_image 33 = .ok (.iaload, 1) := by decide +kernel
theorem dX12_image_34 : decode cX12_image 34 = .ok (.iastore, 1) := by decide +kernel
theorem dX12_image_35 : decode cX12_image 35 = .ok (.iinc 1 1, 3) := by decide +kernel
theorem dX12_image_38 : decode cX12_image 38 = .ok (.goto (-22), 3) := by decide +kernel
theorem dX12_image_41 : decode cX12_image 41 = .ok (.aload_n 0, 1) := by decide +kernel
theorem dX12_image_42 : decode cX12_image 42 = .ok (.iconst 1, 1) := by decide +kernel
theorem dX12_image_43 : decode cX12_image 43 = .ok (.putfield 232, 3) := by decide +kernel
theorem dX12_image_46 : decode cX12_image 46 = .ok (.aload_n 0, 1) := by decide +kernel
theorem dX12_image_47 : decode cX12_image 47 = .ok (.getfield 28, 3) := by decide +kernel
theorem dX12_image_50 : decode cX12_image 50 = .ok (.sipush 325, 3) := by decide +kernel
theorem dX12_image_53 : decode cX12_image 53 = .ok (.iaload, 1) := by decide +kernel
theorem dX12_image_54 : decode cX12_image 54 = .ok (.ireturn, 1) := by decide +kernel
theorem dX12_in_0 : decode cX12_in 0 = .ok (.lload_n 0, 1) := by decide +kernel
theorem dX12_in_1 : decode cX12_in 1 = .ok (.lload_n 2, 1) := by decide +kernel
theorem dX12_in_2 : decode cX12_in 2 = .ok (.lcmp, 1) := by decide +kernel
theorem dX12_in_3 : decode cX12_in 3 = .ok (.ifCond .lt 14, 3) := by decide +kernel
theorem dX12_in_6 : decode cX12_in 6 = .ok (.lload_n 0, 1) := by decide +kernel
theorem dX12_in_7 : decode cX12_in 7 = .ok (.lload 4, 2) := by decide +kernel
theorem dX12_in_9 : decode cX12_in 9 = .ok (.lcmp, 1) := by decide +kernel
theorem dX12_in_10 : decode cX12_in 10 = .ok (.ifCond .gt 7, 3) := by decide +kernel
theorem dX12_in_13 : decode cX12_in 13 = .ok (.iconst 1, 1) := by decide +kernel
theorem dX12_in_14 : decode cX12_in 14 = .ok (.goto 4, 3) := by decide +kernel
theorem dX12_in_17 : decode cX12_in 17 = .ok (.iconst 0, 1) := by decide +kernel
theorem dX12_in_18 : decode cX12_in 18 = .ok (.ireturn, 1) := by decide +kernel
theorem dX12_init_0 : decode cX12_init 0 = .ok (.aload_n 0, 1) := by decide +kernel
theorem dX12_init_1 : decode cX12_init 1 = .ok (.invokespecial 3, 3) := by decide +kernel
theorem dX12_init_4 : decode cX12_init 4 = .ok (.aload_n 0, 1) := by decide +kernel
theorem dX12_init_5 : decode cX12_init 5 = .ok (.sipush 300, 3) := by decide +kernel
theorem dX12_init_8 : decode cX12_init 8 = .ok (.newarray .int, 2) := by decide +kernel
theorem dX12_init_10 : decode cX12_init 10 = .ok (.putfield 9, 3) := by decide +kernel
theorem dX12_init_13 : decode cX12_init 13 = .ok (.aload_n 0, 1) := by decide +kernel
theorem dX12_init_14 : decode cX12_init 14 = .ok (.bipush 10, 2) := by decide +kernel
theorem dX12_init_16 : decode cX12_init 16 = .ok (.newarray .int, 2) := by decide +kernel
theorem dX12_init_18 : decode cX12_init 18 = .ok (.putfield 13, 3) := by decide +kernel
theorem dX12_init_21 : decode cX12_init 21 = .ok (.aload_n 0, 1) := by decide +kernel
theorem dX12_init_22 : decode cX12_init 22 = .ok (.bipush 10, 2) := by decide +kernel
theorem dX12_init_24 : decode cX12_init 24 = .ok (.newarray .int, 2) := by decide +kernel
theorem dX12_init_26 : decode cX12_init 26 = .ok (.putfield 16, 3) := by decide +kernel
theorem dX12_init_29 : decode cX12_init 29 = .ok (.aload_n 0, 1) := by decide +kernel
theorem dX12_init_30 : decode cX12_init 30 = .ok (.bipush 10, 2) := by decide +kernel
theorem dX12_init_32 : decode cX12_init 32 = .ok (.newarray .int, 2) := by decide +kernel
theorem dX12_init_34 : decode cX12_init 34 = .ok (.putfield 19, 3) := by decide +kernel
theorem dX12_init_37 : decode cX12_init 37 = .ok (.aload_n 0, 1) := by decide +kernel
theorem dX12_init_38 : decode cX12_init 38 = .ok (.bipush 10, 2) := by decide +kernel
theorem dX12_init_40 : decode cX12_init 40 = .ok (.newarray .int, 2) := by decide +kernel
theorem dX12_init_42 : decode cX12_init 42 = .ok (.putfield 22, 3) := by decide +kernel
theorem dX12_init_45 : decode cX12_init 45 = .ok (.aload_n 0, 1) := by decide +kernel
theorem dX12_init_46 : decode cX12_init 46 = .ok (.iconst 4, 1) := by decide +kernel
theorem dX12_init_47 : decode cX12_init 47 = .ok (.newarray .int, 2) := by decide +kernel
theorem dX12_init_49 : decode cX12_init 49 = .ok (.putfield 25, 3) := by decide +kernel
theorem dX12_init_52 : decode cX12_init 52 = .ok (.aload_n 0, 1) := by decide +kernel
theorem dX12_init_53 : decode cX12_init 53 = .ok (.sipush 486, 3) := by decide +kernel
theorem dX12_init_56 : decode cX12_init 56 = .ok (.newarray .int, 2) := by decide +kernel
theorem dX12_init_58 : decode cX12_init 58 = .ok (.putfield 28, 3) := by decide +kernel
theorem dX12_init_61 : decode cX12_init 61 = .ok (.aload_n 0, 1) := by decide +kernel
theorem dX12_init_62 : decode cX12_init 62 = .ok (.iconst 4, 1) := by decide +kernel
theorem dX12_init_63 : decode cX12_init 63 = .ok (.newarray .int, 2) := by decide +kernel
theorem dX12_init_65 : decode cX12_init 65 = .ok (.putfield 31, 3) := by decide +kernel
theorem dX12_init_68 : decode cX12_init 68 = .ok (.aload_n 0, 1) := by decide +kernel
theorem dX12_init_69 : decode cX12_init 69 = .ok (.bipush 64, 2) := by decide +kernel
theorem dX12_init_71 : decode cX12_init 71 = .ok (.newarray .int, 2) := by decide +kernel
theorem dX12_init_73 : decode cX12_init 73 = .ok (.putfield 34, 3) := by decide +kernel
theorem dX12_init_76 : decode cX12_init 76 = .ok (.aload_n 0, 1) := by decide +kernel
theorem dX12_init_77 : decode cX12_init 77 = .ok (.bipush 64, 2) := by decide +kernel
theorem dX12_init_79 : decode cX12_init 79 = .ok (.newarray .int, 2) := by decide +kernel
theorem dX12_init_81 : decode cX12_init 81 = .ok (.putfield 37, 3) := by decide +kernel
theorem dX12_init_84 : decode cX12_init 84 = .ok (.aload_n 0, 1) := by decide +kernel
theorem dX12_init_85 : decode cX12_init 85 = .ok (.bipush 64, 2) := by decide +kernel
theorem dX12_init_87 : decode cX12_init 87 = .ok (.newarray .int, 2) := by decide +kernel
theorem dX12_init_89 : decode cX12_init 89 = .ok (.putfield 40, 3) := by decide +kernel
theorem dX12_init_92 : decode cX12_init 92 = .ok (.aload_n 0, 1) := by decide +kernel
theorem dX12_init_93 : decode cX12_init 93 = .ok (.bipush 64, 2) := by decide +kernel
theorem dX12_init_95 : decode cX12_init 95 = .ok (.newarray .int, 2) := by decide +kernel
theorem dX12_init_97 : decode cX12_init 97 = .ok (.putfield 43, 3) := by decide +kernel
theorem dX12_init_100 : decode cX12_init 100 = .ok (.aload_n 0, 1) := by decide +kernel
theorem dX12_init_101 : decode cX12_init 101 = .ok (.bipush 64, 2) := by decide +kernel
theorem dX12_init_103 : decode cX12_init 103 = .ok (.newarray .int, 2) := by decide +kernel
theorem dX12_init_105 : decode cX12_init 105 = .ok (.putfield 46, 3) := by decide +kernel
theorem dX12_init_108 : decode cX12_init 108 = .ok (.aload_n 0, 1) := by decide +kernel
theorem dX12_init_109 : decode cX12_init 109 = .ok (.sipush 9720, 3) := by decide +kernel
theorem dX12_init_112 : decode cX12_init 112 = .ok (.newarray .int, 2) := by decide +kernel
theorem dX12_init_114 : decode cX12_init 114 = .ok (.putfield 49, 3) := by decide +kernel
theorem dX12_init_117 : decode cX12_init 117 = .ok (.aload_n 0, 1) := by decide +kernel
theorem dX12_init_118 : decode cX12_init 118 = .ok (.iconst 4, 1) := by decide +kernel
theorem dX12_init_119 : decode cX12_init 119 = .ok (.newarray .int, 2) := by decide +kernel
theorem dX12_init_121 : decode cX12_init 121 = .ok (.putfield 52, 3) := by decide +kernel
theorem dX12_init_124 : decode cX12_init 124 = .ok (.aload_n 0, 1) := by decide +kernel
theorem dX12_init_125 : decode cX12_init 125 = .ok (.sipush 162, 3) := by decide +kernel
theorem dX12_init_128 : decode cX12_init 128 = .ok (.newarray .boolean, 2) := by decide +kernel
theorem dX12_init_130 : decode cX12_init 130 = .ok (.putfield 55, 3) := by decide +kernel
theorem dX12_init_133 : decode cX12_init 133 = .ok (.aload_n 0, 1) := by decide +kernel
theorem dX12_init_134 : decode cX12_init 134 = .ok (.bipush 72, 2) := by decide +kernel
theorem dX12_init_136 : decode cX12_init 136 = .ok (.newarray .int, 2) := by decide +kernel
theorem dX12_init_138 : decode cX12_init 138 = .ok (.putfield 59, 3) := by decide +kernel
theorem dX12_init_141 : decode cX12_init 141 = .ok (.aload_n 0, 1) := by decide +kernel
theorem dX12_init_142 : decode cX12_init 142 = .ok (.iconst 5, 1) := by decide +kernel
theorem dX12_init_143 : decode cX12_init 143 = .ok (.newarray .int, 2) := by decide +kernel
theorem dX12_init_145 : decode cX12_init 145 = .ok (.putfield 62, 3) := by decide +kernel
theorem dX12_init_148 : decode cX12_init 148 = .ok (.aload_n 0, 1) := by decide +kernel
theorem dX12_init_149 : decode cX12_init 149 = .ok (.sipush 162, 3) := by decide +kernel
theorem dX12_init_152 : decode cX12_init 152 = .ok (.newarray .int, 2) := by decide +kernel
theorem dX12_init_154 : decode cX12_init 154 = .ok (.putfield 65, 3) := by decide +kernel
theorem dX12_init_157 : decode cX12_init 157 = .ok (.aload_n 0, 1) := by decide +kernel
theorem dX12_init_158 : decode cX12_init 158 = .ok (.sipush 162, 3) := by decide +kernel
theorem dX12_init_161 : decode cX12_init 161 = .ok (.newarray .int, 2) := by decide +kernel
theorem dX12_init_163 : decode cX12_init 163 = .ok (.putfield 68, 3) := by decide +kernel
theorem dX12_init_166 : decode cX12_init 166 = .ok (.aload_n 0, 1) := by decide +kernel
theorem dX12_init_167 : decode cX12_init 167 = .ok (.sipush 4096, 3) := by decide +kernel
theorem dX12_init_170 : decode cX12_init 170 = .ok (.newarray .int, 2) := by decide +kernel
theorem dX12_init_172 : decode cX12_init 172 = .ok (.putfield 71, 3) := by decide +kernel
theorem dX12_init_175 : decode cX12_init 175 = .ok (.aload_n 0, 1) := by decide +kernel
theorem dX12_init_176 : decode cX12_init 176 = .ok (.sipush 4096, 3) := by decide +kernel
theorem dX12_init_179 : decode cX12_init 179 = .ok (.newarray .int, 2) := by decide +kernel
theorem dX12_init_181 : decode cX12_init 181 = .ok (.putfield 74, 3) := by decide +kernel
theorem dX12_init_184 : decode cX12_init 184 = .ok (.aload_n 0, 1) := by decide +kernel
theorem dX12_init_185 : decode cX12_init 185 = .ok (.bipush 12, 2) := by decide +kernel
theorem dX12_init_187 : decode cX12_init 187 = .ok (.newarray .int, 2) := by decide +kernel
theorem dX12_init_189 : decode cX12_init 189 = .ok (.putfield 77, 3) := by decide +kernel
theorem dX12_init_192 : decode cX12_init 192 = .ok (.aload_n 0, 1) := by decide +kernel
theorem dX12_init_193 : decode cX12_init 193 = .ok (.sipush 486, 3) := by decide +kernel
theorem dX12_init_196 : decode cX12_init 196 = .ok (.newarray .int, 2) := by decide +kernel
theorem dX12_init_198 : decode cX12_init 198 = .ok (.putfield 80, 3) := by decide +kernel
theorem dX12_init_201 : decode cX12_init 201 = .ok (.aload_n 0, 1) := by decide +kernel
theorem dX12_init_202 : decode cX12_init 202 = .ok (.sipush 486, 3) := by decide +kernel
theorem dX12_init_205 : decode cX12_init 205 = .ok (.newarray .int, 2) := by decide +kernel
theorem dX12_init_207 : decode cX12_init 207 = .ok (.putfield 83, 3) := by decide +kernel
theorem dX12_init_210 : decode cX12_init 210 = .ok (.return_, 1) := by decide +kernel
theorem dX12_isCore_0 : decode cX12_isCore 0 = .ok (.aload_n 0, 1) := by decide +kernel
theorem dX12_isCore_1 : decode cX12_isCore 1 = .ok (.iload_n 1, 1) := by decide +kernel
theorem dX12_isCore_2 : decode cX12_isCore 2 = .ok (.iload_n 2, 1) := by decide +kernel
theorem dX12_isCore_3 : decode cX12_isCore 3 = .ok (.iconst 0, 1) := by decide +kernel
theorem dX12_isCore_4 : decode cX12_isCore 4 = .ok (.invokevirtual 221, 3) := by decide +kernel
theorem dX12_isCore_7 : decode cX12_isCore 7 = .ok (.ifCond .ne 13, 3) := by decide +kernel
theorem dX12_isCore_10 : decode cX12_isCore 10 = .ok (.aload_n 0, 1) := by decide +kernel
theorem dX12_isCore_11 : decode cX12_isCore 11 = .ok (.iload_n 1, 1) := by decide +kernel
theorem dX12_isCore_12 : decode cX12_isCore 12 = .ok (.iload_n 2, 1) := by decide +kernel
theorem dX12_isCore_13 : decode cX12_isCore 13 = .ok (.iconst 1, 1) := by decide +kernel
theorem dX12_isCore_14 : decode cX12_isCore 14 = .ok (.invokevirtual 221, 3) := by decide +kernel
theorem dX12_isCore_17 : decode cX12_isCore 17 = .ok (.ifCond .eq 7, 3) := by decide +kernel
theorem dX12_isCore_20 : decode cX12_isCore 20 = .ok (.iconst 1, 1) := by decide +kernel
theorem dX12_isCore_21 : decode cX12_isCore 21 = .ok (.goto 4, 3) := by decide +kernel
theorem dX12_isCore_24 : decode cX12_isCore 24 = .ok (.iconst 0, 1) := by decide +kernel
theorem dX12_isCore_25 : decode cX12_isCore 25 = .ok (.ireturn, 1) := by decide +kernel
theorem dX12_isCrystal_0 : decode cX12_isCrystal 0 = .ok (.aload_n 0, 1) := by decide +kernel
theorem dX12_isCrystal_1 : decode cX12_isCrystal 1 = .ok (.getfield 205, 3) := by decide +kernel
theorem dX12_isCrystal_4 : decode cX12_isCrystal 4 = .ok (.ifCond .le 7, 3) := by decide +kernel
theorem dX12_isCrystal_7 : decode cX12_isCrystal 7 = .ok (.iconst 1, 1) := by decide +kernel
theorem dX12_isCrystal_8 : decode cX12_isCrystal 8 = .ok (.goto 4, 3) := by decide +kernel
theorem dX12_isCrystal_11 : decode cX12_isCrystal 11 = .ok (.iconst 0, 1) := by decide +kernel
theorem dX12_isCrystal_12 : decode cX12_isCrystal 12 = .ok (.ireturn, 1) := by decide +kernel
theorem dX12_isDigit_0 : decode cX12_isDigit 0 = .ok (.iload_n 0, 1) := by decide +kernel
theorem dX12_isDigit_1 : decode cX12_isDigit 1 = .ok (.bipush 48, 2) := by decide +kernel
theorem dX12_isDigit_3 : decode cX12_isDigit 3 = .ok (.if_icmp .lt 13, 3) := by decide +kernel
theorem dX12_isDigit_6 : decode cX12_isDigit 6 = .ok (.iload_n 0, 1) := by decide +kernel
theorem dX12_isDigit_7 : decode cX12_isDigit 7 = .ok (.bipush 57, 2) := by decide +kernel
theorem dX12_isDigit_9 : decode cX12_isDigit 9 = .ok (.if_icmp .gt 7, 3) := by decide +kernel
theorem dX12_isDigit_12 : decode cX12_isDigit 12 = .ok (.iconst 1, 1) := by decide +kernel
theorem dX12_isDigit_13 : decode cX12_isDigit 13 = .ok (.goto 4, 3) := by decide +kernel
theorem dX12_isDigit_16 : decode cX12_isDigit 16 = .ok (.iconst 0, 1) := by decide +kernel
theorem dX12_isDigit_17 : decode cX12_isDigit 17 = .ok (.ireturn, 1) := by decide +kernel
theorem dX12_isFace_0 : decode cX12_isFace 0 = .ok (.iload_n 1, 1) := by decide +kernel
theorem dX12_isFace_1 : decode cX12_isFace 1 = .ok (.i2l, 1) := by decide +kernel
theorem dX12_isFace_2 : decode cX12_isFace 2 = .ok (.lconst 0, 1) := by decide +kernel
theorem dX12_isFace_3 : decode cX12_isFace 3 = .ok (.aload_n 0, 1) := by decide +kernel
theorem dX12_isFace_4 : decode cX12_isFace 4 = .ok (.getfield 205, 3) := by decide +kernel
theorem dX12_isFace_7 : decode cX12_isFace 7 = .ok (.iconst 2, 1) := by decide +kernel
theorem dX12_isFace_8 : decode cX12_isFace 8 = .ok (.isub, 1) := by decide +kernel
theorem dX12_isFace_9 : decode cX12_isFace 9 = .ok (.i2l, 1) := by decide +kernel
theorem dX12_isFace_10 : decode cX12_isFace 10 = .ok (.invokestatic 97, 3) := by decide +kernel
theorem dX12_isFace_13 : decode cX12_isFace 13 = .ok (.ifCond .eq 23, 3) := by decide +kernel
theorem dX12_isFace_16 : decode cX12_isFace 16 = .ok (.iload_n 2, 1) := by decide +kernel
theorem dX12_isFace_17 : decode cX12_isFace 17 = .ok (.i2l, 1) := by decide +kernel
theorem dX12_isFace_18 : decode cX12_isFace 18 = .ok (.lconst 0, 1) := by decide +kernel
theorem dX12_isFace_19 : decode cX12_isFace 19 = .ok (.aload_n 0, 1) := by decide +kernel
theorem dX12_isFace_20 : decode cX12_isFace 20 = .ok (.getfield 208, 3) := by decide +kernel
theorem dX12_isFace_23 : decode cX12_isFace 23 = .ok (.iconst 2, 1) := by decide +kernel
theorem dX12_isFace_24 : decode cX12_isFace 24 = .ok (.isub, 1) := by decide +kernel
theorem dX12_isFace_25 : decode cX12_isFace 25 = .ok (.i2l, 1) := by decide +kernel
theorem dX12_isFace_26 : decode cX12_isFace 26 = .ok (.invokestatic 97, 3) := by decide +kernel
theorem dX12_isFace_29 : decode cX12_isFace 29 = .ok (.ifCond .eq 7, 3) := by decide +kernel
theorem dX12_isFace_32 : decode cX12_isFace 32 = .ok (.iconst 1, 1) := by decide +kernel
theorem dX12_isFace_33 : decode cX12_isFace 33 = .ok (.goto 4, 3) := by decide +kernel
theorem dX12_isFace_36 : decode cX12_isFace 36 = .ok (.iconst 0, 1) := by decide +kernel
theorem dX12_isFace_37 : decode cX12_isFace 37 = .ok (.ireturn, 1) := by decide +kernel
theorem dX12_isFaceRead_0 : decode cX12_isFaceRead 0 = .ok (.iconst 0, 1) := by decide +kernel
theorem dX12_isFaceRead_1 : decode cX12_isFaceRead 1 = .ok (.istore_n 3, 1) := by decide +kernel
theorem dX12_isFaceRead_2 : decode cX12_isFaceRead 2 = .ok (.iconst 0, 1) := by decide +kernel
theorem dX12_isFaceRead_3 : decode cX12_isFaceRead 3 = .ok (.istore 4, 2) := by decide +kernel
theorem dX12_isFaceRead_5 : decode cX12_isFaceRead 5 = .ok (.iload 4, 2) := by decide +kernel
theorem dX12_isFaceRead_7 : decode cX12_isFaceRead 7 = .ok (.aload_n 0, 1) := by decide +kernel
theorem dX12_isFaceRead_8 : decode cX12_isFaceRead 8 = .ok (.getfield 153, 3) := by decide +kernel
theorem dX12_isFaceRead_11 : decode cX12_isFaceRead 11 = .ok (.if_icmp .ge 41, 3) := by decide +kernel
theorem dX12_isFaceRead_14 : decode cX12_isFaceRead 14 = .ok (.iload_n 3, 1) := by decide +kernel
theorem dX12_isFaceRead_15 : decode cX12_isFaceRead 15 = .ok (.ifCond .ne 25, 3) := by decide +kernel
theorem dX12_isFaceRead_18 : decode cX12_isFaceRead 18 = .ok (.aload_n 0, 1) := by decide +kernel
theorem dX12_isFaceRead_19 : decode cX12_isFaceRead 19 = .ok (.getfield 13, 3) := by decide +kernel
theorem dX12_isFaceRead_22 : decode cX12_isFaceRead 22 = .ok (.iload 4, 2) := by decide +kernel
theorem dX12_isFaceRead_24 : decode cX12_isFaceRead 24 = .ok (.iaload, 1) := by decide +kernel
theorem dX12_isFaceRead_25 : decode cX12_isFaceRead 25 = .ok (.iload_n 1, 1) := by decide +kernel
theorem dX12_isFaceRead_26 : decode cX12_isFaceRead 26 = .ok (.if_icmp .ne 18, 3) := by decide +kernel
theorem dX12_isFaceRead_29 : decode cX12_isFaceRead 29 = .ok (.aload_n 0, 1) := by decide +kernel
theorem dX12_isFaceRead_30 : decode cX12_isFaceRead 30 = .ok (.getfield 16, 3) := by decide +kernel
theorem dX12_isFaceRead_33 : decode cX12_isFaceRead 33 = .ok (.iload 4, 2) := by decide +kernel
theorem dX12_isFaceRead_35 : decode cX12_isFaceRead 35 = .ok (.iaload, 1) := by decide +kernel
theorem dX12_isFaceRead_36 : decode cX12_isFaceRead 36 = .ok (.iload_n 2, 1) := by decide +kernel
theorem dX12_isFaceRead_37 : decode cX12_isFaceRead 37 = .ok (.if_icmp .ne 7, 3) := by decide +kernel
theorem dX12_isFaceRead_40 : decode cX12_isFaceRead 40 = .ok (.iconst 1, 1) := by decide +kernel
theorem dX12_isFaceRead_41 : decode cX12_isFaceRead 41 = .ok (.goto 4, 3) := by decide +kernel
theorem dX12_isFaceRead_44 : decode cX12_isFaceRead 44 = .ok (.iconst 0, 1) := by decide +kernel
theorem dX12_isFaceRead_45 : decode cX12_isFaceRead 45 = .ok (.istore_n 3, 1) := by decide +kernel
theorem dX12_isFaceRead_46 : decode cX12_isFaceRead 46 = .ok (.iinc 4 1, 3) := by decide +kernel
theorem dX12_isFaceRead_49 : decode cX12_isFaceRead 49 = .ok (.goto (-44), 3) := by decide +kernel
theorem dX12_isFaceRead_52 : decode cX12_isFaceRead 52 = .ok (.iload_n 3, 1) := by decide +kernel
theorem dX12_isFaceRead_53 : decode cX12_isFaceRead 53 = .ok (.ireturn, 1) := by decide +kernel
theorem dX12_isLink_0 : decode cX12_isLink 0 = .ok (.iload_n 3, 1) := by decide +kernel
theorem dX12_isLink_1 : decode cX12_isLink 1 = .ok (.ifCond .eq 30, 3) := by decide +kernel
theorem dX12_isLink_4 : decode cX12_isLink 4 = .ok (.aload_n 0, 1) := by decide +kernel
theorem dX12_isLink_5 : decode cX12_isLink 5 = .ok (.iload_n 1, 1) := by decide +kernel
theorem dX12_isLink_6 : decode cX12_isLink 6 = .ok (.iload_n 2, 1) := by decide +kernel
theorem dX12_isLink_7 : decode cX12_isLink 7 = .ok (.invokevirtual 215, 3) := by decide +kernel
theorem dX12_isLink_10 : decode cX12_isLink 10 = .ok (.ifCond .eq 17, 3) := by decide +kernel
theorem dX12_isLink_13 : decode cX12_isLink 13 = .ok (.iload_n 2, 1) := by decide +kernel
theorem dX12_isLink_14 : decode cX12_isLink 14 = .ok (.aload_n 0, 1) := by decide +kernel
theorem dX12_isLink_15 : decode cX12_isLink 15 = .ok (.getfield 208, 3) := by decide +kernel
theorem dX12_isLink_18 : decode cX12_isLink 18 = .ok (.iconst 1, 1) := by decide +kernel
theorem dX12_isLink_19 : decode cX12_isLink 19 = .ok (.isub, 1) := by decide +kernel
theorem dX12_isLink_20 : decode cX12_isLink 20 = .ok (.if_icmp .ge 7, 3) := by decide +kernel
theorem dX12_isLink_23 : decode cX12_isLink 23 = .ok (.iconst 1, 1) := by decide +kernel
theorem dX12_isLink_24 : decode cX12_isLink 24 = .ok (.goto 31, 3) := by decide +kernel
theorem dX12_isLink_27 : decode cX12_isLink 27 = .ok (.iconst 0, 1) := by decide +kernel
theorem dX12_isLink_28 : decode cX12_isLink 28 = .ok (.goto 27, 3) := by decide +kernel
theorem dX12_isLink_31 : decode cX12_isLink 31 = .ok (.aload_n 0, 1) := by decide +kernel
theorem dX12_isLink_32 : decode cX12_isLink 32 = .ok (.iload_n 1, 1) := by decide +kernel
theorem dX12_isLink_33 : decode cX12_isLink 33 = .ok (.iload_n 2, 1) := by decide +kernel
theorem dX12_isLink_34 : decode cX12_isLink 34 = .ok (.invokevirtual 215, 3) := by decide +kernel
theorem dX12_isLink_37 : decode cX12_isLink 37 = .ok (.ifCond .eq 17, 3) := by decide +kernel
theorem dX12_isLink_40 : decode cX12_isLink 40 = .ok (.iload_n 1, 1) := by decide +kernel
theorem dX12_isLink_41 : decode cX12_isLink 41 = .ok (.aload_n 0, 1) := by decide +kernel
theorem dX12_isLink_42 : decode cX12_isLink 42 = .ok (.getfield 205, 3) := by decide +kernel
theorem dX12_isLink_45 : decode cX12_isLink 45 = .ok (.iconst 1, 1) := by decide +kernel
theorem dX12_isLink_46 : decode cX12_isLink 46 = .ok (.isub, 1) := by decide +kernel
theorem dX12_isLink_47 : decode cX12_isLink 47 = .ok (.if_icmp .ge 7, 3) := by decide +kernel
theorem dX12_isLink_50 : decode cX12_isLink 50 = .ok (.iconst 1, 1) := by decide +kernel
theorem dX12_isLink_51 : decode cX12_isLink 51 = .ok (.goto 4, 3) := by decide +kernel
theorem dX12_isLink_54 : decode cX12_isLink 54 = .ok (.iconst 0, 1) := by decide +kernel
theorem dX12_isLink_55 : decode cX12_isLink 55 = .ok (.ireturn, 1) := by decide +kernel
theorem dX12_isPart_0 : decode cX12_isPart 0 = .ok (.iload_n 3, 1) := by decide +kernel
theorem dX12_isPart_1 : decode cX12_isPart 1 = .ok (.ifCond .eq 33, 3) := by decide +kernel
theorem dX12_isPart_4 : decode cX12_isPart 4 = .ok (.iload_n 3, 1) := by decide +kernel
theorem dX12_isPart_5 : decode cX12_isPart 5 = .ok (.iconst 1, 1) := by decide +kernel
theorem dX12_isPart_6 : decode cX12_isPart 6 = .ok (.if_icmp .ne 13, 3) := by decide +kernel
theorem dX12_isPart_9 : decode cX12_isPart 9 = .ok (.aload_n 0, 1) := by decide +kernel
theorem dX12_isPart_10 : decode cX12_isPart 10 = .ok (.iload_n 1, 1) := by decide +kernel
theorem dX12_isPart_11 : decode cX12_isPart 11 = .ok (.iload_n 2, 1) := by decide +kernel
theorem dX12_isPart_12 : decode cX12_isPart 12 = .ok (.iconst 0, 1) := by decide +kernel
theorem dX12_isPart_13 : decode cX12_isPart 13 = .ok (.invokevirtual 221, 3) := by decide +kernel
theorem dX12_isPart_16 : decode cX12_isPart 16 = .ok (.ifCond .ne 18, 3) := by decide +kernel
theorem dX12_isPart_19 : decode cX12_isPart 19 = .ok (.iload_n 3, 1) := by decide +kernel
theorem dX12_isPart_20 : decode cX12_isPart 20 = .ok (.iconst 2, 1) := by decide +kernel
theorem dX12_isPart_21 : decode cX12_isPart 21 = .ok (.if_icmp .ne 17, 3) := by decide +kernel
theorem dX12_isPart_24 : decode cX12_isPart 24 = .ok (.aload_n 0, 1) := by decide +kernel
theorem dX12_isPart_25 : decode cX12_isPart 25 = .ok (.iload_n 1, 1) := by decide +kernel
theorem dX12_isPart_26 : decode cX12_isPart 26 = .ok (.iload_n 2, 1) := by decide +kernel
theorem dX12_isPart_27 : decode cX12_isPart 27 = .ok (.iconst 1, 1) := by decide +kernel
theorem dX12_isPart_28 : decode cX12_isPart 28 = .ok (.invokevirtual 221, 3) := by decide +kernel
theorem dX12_isPart_31 : decode cX12_isPart 31 = .ok (.ifCond .eq 7, 3) := by decide +kernel
theorem dX12_isPart_34 : decode cX12_isPart 34 = .ok (.iconst 1, 1) := by decide +kernel
theorem dX12_isPart_35 : decode cX12_isPart 35 = .ok (.goto 4, 3) := by decide +kernel
theorem dX12_isPart_38 : decode cX12_isPart 38 = .ok (.iconst 0, 1) := by decide +kernel
theorem dX12_isPart_39 : decode cX12_isPart 39 = .ok (.ireturn, 1) := by decide +kernel
theorem dX12_isSite_0 : decode cX12_isSite 0 = .ok (.iload_n 1, 1) := by decide +kernel
theorem dX12_isSite_1 : decode cX12_isSite 1 = .ok (.i2l, 1) := by decide +kernel
theorem dX12_isSite_2 : decode cX12_isSite 2 = .ok (.lconst 0, 1) := by decide +kernel
theorem dX12_isSite_3 : decode cX12_isSite 3 = .ok (.aload_n 0, 1) := by decide +kernel
theorem dX12_isSite_4 : decode cX12_isSite 4 = .ok (.getfield 205, 3) := by decide +kernel
theorem dX12_isSite_7 : decode cX12_isSite 7 = .ok (.iconst 1, 1) := by decide +kernel
theorem dX12_isSite_8 : decode cX12_isSite 8 = .ok (.isub, 1) := by decide +kernel
theorem dX12_isSite_9 : decode cX12_isSite 9 = .ok (.i2l, 1) := by decide +kernel
theorem dX12_isSite_10 : decode cX12_isSite 10 = .ok (.invokestatic 97, 3) := by decide +kernel
theorem dX12_isSite_13 : decode cX12_isSite 13 = .ok (.ifCond .eq 23, 3) := by decide +kernel
theorem dX12_isSite_16 : decode cX12_isSite 16 = .ok (.iload_n 2, 1) := by decide +kernel
theorem dX12_isSite_17 : decode cX12_isSite 17 = .ok (.i2l, 1) := by decide +kernel
theorem dX12_isSite_18 : decode cX12_isSite 18 = .ok (.lconst 0, 1) := by decide +kernel
theorem dX12_isSite_19 : decode cX12_isSite 19 = .ok (.aload_n 0, 1) := by decide +kernel
theorem dX12_isSite_20 : decode cX12_isSite 20 = .ok (.getfield 208, 3) := by decide +kernel
theorem dX12_isSite_23 : decode cX12_isSite 23 = .ok (.iconst 1, 1) := by decide +kernel
theorem dX12_isSite_24 : decode cX12_isSite 24 = .ok (.isub, 1) := by decide +kernel
theorem dX12_isSite_25 : decode cX12_isSite 25 = .ok (.i2l, 1) := by decide +kernel
theorem dX12_isSite_26 : decode cX12_isSite 26 = .ok (.invokestatic 97, 3) := by decide +kernel
theorem dX12_isSite_29 : decode cX12_isSite 29 = .ok (.ifCond .eq 7, 3) := by decide +kernel
theorem dX12_isSite_32 : decode cX12_isSite 32 = .ok (.iconst 1, 1) := by decide +kernel
theorem dX12_isSite_33 : decode cX12_isSite 33 = .ok (.goto 4, 3) := by decide +kernel
theorem dX12_isSite_36 : decode cX12_isSite 36 = .ok (.iconst 0, 1) := by decide +kernel
theorem dX12_isSite_37 : decode cX12_isSite 37 = .ok (.ireturn, 1) := by decide +kernel
theorem dX12_isSlipped_0 : decode cX12_isSlipped 0 = .ok (.aload_n 0, 1) := by decide +kernel
theorem dX12_isSlipped_1 : decode cX12_isSlipped 1 = .ok (.iload_n 1, 1) := by decide +kernel
theorem dX12_isSlipped_2 : decode cX12_isSlipped 2 = .ok (.iload_n 2, 1) := by decide +kernel
theorem dX12_isSlipped_3 : decode cX12_isSlipped 3 = .ok (.iload_n 3, 1) := by decide +kernel
theorem dX12_isSlipped_4 : decode cX12_isSlipped 4 = .ok (.iconst 0, 1) := by decide +kernel
theorem dX12_isSlipped_5 : decode cX12_isSlipped 5 = .ok (.invokevirtual 218, 3) := by decide +kernel
theorem dX12_isSlipped_8 : decode cX12_isSlipped 8 = .ok (.iload_n 3, 1) := by decide +kernel
theorem dX12_isSlipped_9 : decode cX12_isSlipped 9 = .ok (.ifCond .eq 7, 3) := by decide +kernel
theorem dX12_isSlipped_12 : decode cX12_isSlipped 12 = .ok (.iconst 0, 1) := by decide +kernel
theorem dX12_isSlipped_13 : decode cX12_isSlipped 13 = .ok (.goto 4, 3) := by decide +kernel
theorem dX12_isSlipped_16 : decode cX12_isSlipped 16 = .ok (.iconst 1, 1) := by decide +kernel
theorem dX12_isSlipped_17 : decode cX12_isSlipped 17 = .ok (.if_icmp .ne 23, 3) := by decide +kernel
theorem dX12_isSlipped_20 : decode cX12_isSlipped 20 = .ok (.aload_n 0, 1) := by decide +kernel
theorem dX12_isSlipped_21 : decode cX12_isSlipped 21 = .ok (.iload_n 1, 1) := by decide +kernel
theorem dX12_isSlipped_22 : decode cX12_isSlipped 22 = .ok (.iload_n 2, 1) := by decide +kernel
theorem dX12_isSlipped_23 : decode cX12_isSlipped 23 = .ok (.iload_n 3, 1) := by decide +kernel
theorem dX12_isSlipped_24 : decode cX12_isSlipped 24 = .ok (.iconst 1, 1) := by decide +kernel
theorem dX12_isSlipped_25 : decode cX12_isSlipped 25 = .ok (.invokevirtual 218, 3) := by decide +kernel
theorem dX12_isSlipped_28 : decode cX12_isSlipped 28 = .ok (.iload_n 3, 1) := by decide +kernel
theorem dX12_isSlipped_29 : decode cX12_isSlipped 29 = .ok (.ifCond .eq 7, 3) := by decide +kernel
theorem dX12_isSlipped_32 : decode cX12_isSlipped 32 = .ok (.iconst 1, 1) := by decide +kernel
theorem dX12_isSlipped_33 : decode cX12_isSlipped 33 = .ok (.goto 4, 3) := by decide +kernel
theorem dX12_isSlipped_36 : decode cX12_isSlipped 36 = .ok (.iconst 0, 1) := by decide +kernel
theorem dX12_isSlipped_37 : decode cX12_isSlipped 37 = .ok (.if_icmp .eq 7, 3) := by decide +kernel
theorem dX12_isSlipped_40 : decode cX12_isSlipped 40 = .ok (.iconst 1, 1) := by decide +kernel
theorem dX12_isSlipped_41 : decode cX12_isSlipped 41 = .ok (.goto 4, 3) := by decide +kernel
theorem dX12_isSlipped_44 : decode cX12_isSlipped 44 = .ok (.iconst 0, 1) := by decide +kernel
theorem dX12_isSlipped_45 : decode cX12_isSlipped 45 = .ok (.ireturn, 1) := by decide +kernel
theorem dX12_isSlippedAt_0 : decode cX12_isSlippedAt 0 = .ok (.iload_n 1, 1) := by decide +kernel
theorem dX12_isSlippedAt_1 : decode cX12_isSlippedAt 1 = .ok (.iconst 2, 1) := by decide +kernel
theorem dX12_isSlippedAt_2 : decode cX12_isSlippedAt 2 = .ok (.idiv, 1) := by decide +kernel
theorem dX12_isSlippedAt_3 : decode cX12_isSlippedAt 3 = .ok (.bipush 9, 2) := by decide +kernel
theorem dX12_isSlippedAt_5 : decode cX12_isSlippedAt 5 = .ok (.irem, 1) := by decide +kernel
theorem dX12_isSlippedAt_6 : decode cX12_isSlippedAt 6 = .ok (.istore_n 2, 1) := by decide +kernel
theorem dX12_isSlippedAt_7 : decode cX12_isSlippedAt 7 = .ok (.iload_n 1, 1) := by decide +kernel
theorem dX12_isSlippedAt_8 : decode cX12_isSlippedAt 8 = .ok (.iconst 2, 1) := by decide +kernel
theorem dX12_isSlippedAt_9 : decode cX12_isSlippedAt 9 = .ok (.idiv, 1) := by decide +kernel
theorem dX12_isSlippedAt_10 : decode cX12_isSlippedAt 10 = .ok (.bipush 9, 2) := by decide +kernel
theorem dX12_isSlippedAt_12 : decode cX12_isSlippedAt 12 = .ok (.idiv, 1) := by decide +kernel
theorem dX12_isSlippedAt_13 : decode cX12_isSlippedAt 13 = .ok (.istore_n 3, 1) := by decide +kernel
theorem dX12_isSlippedAt_14 : decode cX12_isSlippedAt 14 = .ok (.iload_n 1, 1) := by decide +kernel
theorem dX12_isSlippedAt_15 : decode cX12_isSlippedAt 15 = .ok (.iconst 2, 1) := by decide +kernel
theorem dX12_isSlippedAt_16 : decode cX12_isSlippedAt 16 = .ok (.irem, 1) := by decide +kernel
theorem dX12_isSlippedAt_17 : decode cX12_isSlippedAt 17 = .ok (.iconst 1, 1) := by decide +kernel
theorem dX12_isSlippedAt_18 : decode cX12_isSlippedAt 18 = .ok (.if_icmp .ne 7, 3) := by decide +kernel
theorem dX12_isSlippedAt_21 : decode cX12_isSlippedAt 21 = .ok (.iconst 1, 1) := by decide +kernel
theorem dX12_isSlippedAt_22 : decode cX12_isSlippedAt 22 = .ok (.goto 4, 3) := by decide +kernel
theorem dX12_isSlippedAt_25 : decode cX12_isSlippedAt 25 = .ok (.iconst 0, 1) := by decide +kernel
theorem dX12_isSlippedAt_26 : decode cX12_isSlippedAt 26 = .ok (.istore 4, 2) := by decide +kernel
theorem dX12_isSlippedAt_28 : decode cX12_isSlippedAt 28 = .ok (.aload_n 0, 1) := by decide +kernel
theorem dX12_isSlippedAt_29 : decode cX12_isSlippedAt 29 = .ok (.iload_n 2, 1) := by decide +kernel
theorem dX12_isSlippedAt_30 : decode cX12_isSlippedAt 30 = .ok (.iload_n 3, 1) := by decide +kernel
theorem dX12_isSlippedAt_31 : decode cX12_isSlippedAt 31 = .ok (.iload 4, 2) := by decide +kernel
theorem dX12_isSlippedAt_33 : decode cX12_isSlippedAt 33 = .ok (.invokevirtual 296, 3) := by decide +kernel
theorem dX12_isSlippedAt_36 : decode cX12_isSlippedAt 36 = .ok (.ifCond .eq 18, 3) := by decide +kernel
theorem dX12_isSlippedAt_39 : decode cX12_isSlippedAt 39 = .ok (.aload_n 0, 1) := by decide +kernel
theorem dX12_isSlippedAt_40 : decode cX12_isSlippedAt 40 = .ok (.iload_n 2, 1) := by decide +kernel
theorem dX12_isSlippedAt_41 : decode cX12_isSlippedAt 41 = .ok (.iload_n 3, 1) := by decide +kernel
theorem dX12_isSlippedAt_42 : decode cX12_isSlippedAt 42 = .ok (.iload 4, 2) := by decide +kernel
theorem dX12_isSlippedAt_44 : decode cX12_isSlippedAt 44 = .ok (.invokevirtual 300, 3) := by decide +kernel
theorem dX12_isSlippedAt_47 : decode cX12_isSlippedAt 47 = .ok (.ifCond .eq 7, 3) := by decide +kernel
theorem dX12_isSlippedAt_50 : decode cX12_isSlippedAt 50 = .ok (.iconst 1, 1) := by decide +kernel
theorem dX12_isSlippedAt_51 : decode cX12_isSlippedAt 51 = .ok (.goto 4, 3) := by decide +kernel
theorem dX12_isSlippedAt_54 : decode cX12_isSlippedAt 54 = .ok (.iconst 0, 1) := by decide +kernel
theorem dX12_isSlippedAt_55 : decode cX12_isSlippedAt 55 = .ok (.ireturn, 1) := by decide +kernel
theorem dX12_isSmall_0 : decode cX12_isSmall 0 = .ok (.iload_n 0, 1) := by decide +kernel
theorem dX12_isSmall_1 : decode cX12_isSmall 1 = .ok (.bipush 97, 2) := by decide +kernel
theorem dX12_isSmall_3 : decode cX12_isSmall 3 = .ok (.if_icmp .lt 13, 3) := by decide +kernel
theorem dX12_isSmall_6 : decode cX12_isSmall 6 = .ok (.iload_n 0, 1) := by decide +kernel
theorem dX12_isSmall_7 : decode cX12_isSmall 7 = .ok (.bipush 122, 2) := by decide +kernel
theorem dX12_isSmall_9 : decode cX12_isSmall 9 = .ok (.if_icmp .gt 7, 3) := by decide +kernel
theorem dX12_isSmall_12 : decode cX12_isSmall 12 = .ok (.iconst 1, 1) := by decide +kernel
theorem dX12_isSmall_13 : decode cX12_isSmall 13 = .ok (.goto 4, 3) := by decide +kernel
theorem dX12_isSmall_16 : decode cX12_isSmall 16 = .ok (.iconst 0, 1) := by decide +kernel
theorem dX12_isSmall_17 : decode cX12_isSmall 17 = .ok (.ireturn, 1) := by decide +kernel
theorem dX12_isWord_0 : decode cX12_isWord 0 = .ok (.aload_n 0, 1) := by decide +kernel
theorem dX12_isWord_1 : decode cX12_isWord 1 = .ok (.getfield 134, 3) := by decide +kernel
theorem dX12_isWord_4 : decode cX12_isWord 4 = .ok (.iconst (-1), 1) := by decide +kernel
theorem dX12_isWord_5 : decode cX12_isWord 5 = .ok (.if_icmp .ne 31, 3) := by decide +kernel
theorem dX12_isWord_8 : decode cX12_isWord 8 = .ok (.aload_n 0, 1) := by decide +kernel
theorem dX12_isWord_9 : decode cX12_isWord 9 = .ok (.getfield 111, 3) := by decide +kernel
theorem dX12_isWord_12 : decode cX12_isWord 12 = .ok (.iconst 1, 1) := by decide +kernel
theorem dX12_isWord_13 : decode cX12_isWord 13 = .ok (.if_icmp .ne 23, 3) := by decide +kernel
theorem dX12_isWord_16 : decode cX12_isWord 16 = .ok (.aload_n 0, 1) := by decide +kernel
theorem dX12_isWord_17 : decode cX12_isWord 17 = .ok (.getfield 101, 3) := by decide +kernel
theorem dX12_isWord_20 : decode cX12_isWord 20 = .ok (.aload_n 0, 1) := by decide +kernel
theorem dX12_isWord_21 : decode cX12_isWord 21 = .ok (.getfield 108, 3) := by decide +kernel
theorem dX12_isWord_24 : decode cX12_isWord 24 = .ok (.isub, 1) := by decide +kernel
theorem dX12_isWord_25 : decode cX12_isWord 25 = .ok (.aload_n 1, 1) := by decide +kernel
theorem dX12_isWord_26 : decode cX12_isWord 26 = .ok (.invokevirtual 137, 3) := by decide +kernel
theorem dX12_isWord_29 : decode cX12_isWord 29 = .ok (.if_icmp .ne 7, 3) := by decide +kernel
theorem dX12_isWord_32 : decode cX12_isWord 32 = .ok (.iconst 1, 1) := by decide +kernel
theorem dX12_isWord_33 : decode cX12_isWord 33 = .ok (.goto 4, 3) := by decide +kernel
theorem dX12_isWord_36 : decode cX12_isWord 36 = .ok (.iconst 0, 1) := by decide +kernel
theorem dX12_isWord_37 : decode cX12_isWord 37 = .ok (.istore_n 2, 1) := by decide +kernel
theorem dX12_isWord_38 : decode cX12_isWord 38 = .ok (.iconst 0, 1) := by decide +kernel
theorem dX12_isWord_39 : decode cX12_isWord 39 = .ok (.istore_n 3, 1) := by decide +kernel
theorem dX12_isWord_40 : decode cX12_isWord 40 = .ok (.iload_n 2, 1) := by decide +kernel
theorem dX12_isWord_41 : decode cX12_isWord 41 = .ok (.ifCond .eq 42, 3) := by decide +kernel
theorem dX12_isWord_44 : decode cX12_isWord 44 = .ok (.iload_n 3, 1) := by decide +kernel
theorem dX12_isWord_45 : decode cX12_isWord 45 = .ok (.aload_n 1, 1) := by decide +kernel
theorem dX12_isWord_46 : decode cX12_isWord 46 = .ok (.invokevirtual 137, 3) := by decide +kernel
theorem dX12_isWord_49 : decode cX12_isWord 49 = .ok (.if_icmp .ge 34, 3) := by decide +kernel
theorem dX12_isWord_52 : decode cX12_isWord 52 = .ok (.aload_n 0, 1) := by decide +kernel
theorem dX12_isWord_53 : decode cX12_isWord 53 = .ok (.getfield 9, 3) := by decide +kernel
theorem dX12_isWord_56 : decode cX12_isWord 56 = .ok (.aload_n 0, 1) := by decide +kernel
theorem dX12_isWord_57 : decode cX12_isWord 57 = .ok (.getfield 108, 3) := by decide +kernel
theorem dX12_isWord_60 : decode cX12_isWord 60 = .ok (.iload_n 3, 1) := by decide +kernel
theorem dX12_isWord_61 : decode cX12_isWord 61 = .ok (.iadd, 1) := by decide +kernel
theorem dX12_isWord_62 : decode cX12_isWord 62 = .ok (.iaload, 1) := by decide +kernel
theorem dX12_isWord_63 : decode cX12_isWord 63 = .ok (.aload_n 1, 1) := by decide +kernel
theorem dX12_isWord_64 : decode cX12_isWord 64 = .ok (.iload_n 3, 1) := by decide +kernel
theorem dX12_isWord_65 : decode cX12_isWord 65 = .ok (.invokevirtual 143, 3) := by decide +kernel
theorem dX12_isWord_68 : decode cX12_isWord 68 = .ok (.if_icmp .ne 7, 3) := by decide +kernel
theorem dX12_isWord_71 : decode cX12_isWord 71 = .ok (.iconst 1, 1) := by decide +kernel
theorem dX12_isWord_72 : decode cX12_isWord 72 = .ok (.goto 4, 3) := by decide +kernel
theorem dX12_isWord_75 : decode cX12_isWord 75 = .ok (.iconst 0, 1) := by decide +kernel
theorem dX12_isWord_76 : decode cX12_isWord 76 = .ok (.istore_n 2, 1) := by decide +kernel
theorem dX12_isWord_77 : decode cX12_isWord 77 = .ok (.iinc 3 1, 3) := by decide +kernel
theorem dX12_isWord_80 : decode cX12_isWord 80 = .ok (.goto (-40), 3) := by decide +kernel
theorem dX12_isWord_83 : decode cX12_isWord 83 = .ok (.iload_n 2, 1) := by decide +kernel
theorem dX12_isWord_84 : decode cX12_isWord 84 = .ok (.ireturn, 1) := by decide +kernel
theorem dX12_joins_0 : decode cX12_joins 0 = .ok (.sipush 162, 3) := by decide +kernel
theorem dX12_joins_3 : decode cX12_joins 3 = .ok (.istore_n 3, 1) := by decide +kernel
theorem dX12_joins_4 : decode cX12_joins 4 = .ok (.iconst 0, 1) := by decide +kernel
theorem dX12_joins_5 : decode cX12_joins 5 = .ok (.istore 4, 2) := by decide +kernel
theorem dX12_joins_7 : decode cX12_joins 7 = .ok (.iload 4, 2) := by decide +kernel
theorem dX12_joins_9 : decode cX12_joins 9 = .ok (.iconst 4, 1) := by decide +kernel
theorem dX12_joins_10 : decode cX12_joins 10 = .ok (.if_icmp .ge 44, 3) := by decide +kernel
theorem dX12_joins_13 : decode cX12_joins 13 = .ok (.aload_n 0, 1) := by decide +kernel
theorem dX12_joins_14 : decode cX12_joins 14 = .ok (.iload_n 1, 1) := by decide +kernel
theorem dX12_joins_15 : decode cX12_joins 15 = .ok (.iload_n 2, 1) := by decide +kernel
theorem dX12_joins_16 : decode cX12_joins 16 = .ok (.iload 4, 2) := by decide +kernel
theorem dX12_joins_18 : decode cX12_joins 18 = .ok (.invokevirtual 425, 3) := by decide +kernel
theorem dX12_joins_21 : decode cX12_joins 21 = .ok (.istore 5, 2) := by decide +kernel
theorem dX12_joins_23 : decode cX12_joins 23 = .ok (.aload_n 0, 1) := by decide +kernel
theorem dX12_joins_24 : decode cX12_joins 24 = .ok (.iload 5, 2) := by decide +kernel
theorem dX12_joins_26 : decode cX12_joins 26 = .ok (.invokevirtual 293, 3) := by decide +kernel
theorem dX12_joins_29 : decode cX12_joins 29 = .ok (.ifCond .eq 17, 3) := by decide +kernel
theorem dX12_joins_32 : decode cX12_joins 32 = .ok (.iload_n 3, 1) := by decide +kernel
theorem dX12_joins_33 : decode cX12_joins 33 = .ok (.aload_n 0, 1) := by decide +kernel
theorem dX12_joins_34 : decode cX12_joins 34 = .ok (.getfield 65, 3) := by decide +kernel
theorem dX12_joins_37 : decode cX12_joins 37 = .ok (.iload 5, 2) := by decide +kernel
theorem dX12_joins_39 : decode cX12_joins 39 = .ok (.iaload, 1) := by decide +kernel
theorem dX12_joins_40 : decode cX12_joins 40 = .ok (.invokestatic 128, 3) := by decide +kernel
theorem dX12_joins_43 : decode cX12_joins 43 = .ok (.goto 4, 3) := by decide +kernel
theorem dX12_joins_46 : decode cX12_joins 46 = .ok (.iload_n 3, 1) := by decide +kernel
theorem dX12_joins_47 : decode cX12_joins 47 = .ok (.istore_n 3, 1) := by decide +kernel
theorem dX12_joins_48 : decode cX12_joins 48 = .ok (.iinc 4 1, 3) := by decide +kernel
theorem dX12_joins_51 : decode cX12_joins 51 = .ok (.goto (-44), 3) := by decide +kernel
theorem dX12_joins_54 : decode cX12_joins 54 = .ok (.iconst 0, 1) := by decide +kernel
theorem dX12_joins_55 : decode cX12_joins 55 = .ok (.istore 4, 2) := by decide +kernel
theorem dX12_joins_57 : decode cX12_joins 57 = .ok (.iconst 0, 1) := by decide +kernel
theorem dX12_joins_58 : decode cX12_joins 58 = .ok (.istore 5, 2) := by decide +kernel
theorem dX12_joins_60 : decode cX12_joins 60 = .ok (.iload 5, 2) := by decide +kernel
theorem dX12_joins_62 : decode cX12_joins 62 = .ok (.iconst 4, 1) := by decide +kernel
theorem dX12_joins_63 : decode cX12_joins 63 = .ok (.if_icmp .ge 50, 3) := by decide +kernel
theorem dX12_joins_66 : decode cX12_joins 66 = .ok (.aload_n 0, 1) := by decide +kernel
theorem dX12_joins_67 : decode cX12_joins 67 = .ok (.iload_n 1, 1) := by decide +kernel
theorem dX12_joins_68 : decode cX12_joins 68 = .ok (.iload_n 2, 1) := by decide +kernel
theorem dX12_joins_69 : decode cX12_joins 69 = .ok (.iload 5, 2) := by decide +kernel
theorem dX12_joins_71 : decode cX12_joins 71 = .ok (.invokevirtual 425, 3) := by decide +kernel
theorem dX12_joins_74 : decode cX12_joins 74 = .ok (.istore 6, 2) := by decide +kernel
theorem dX12_joins_76 : decode cX12_joins 76 = .ok (.aload_n 0, 1) := by decide +kernel
theorem dX12_joins_77 : decode cX12_joins 77 = .ok (.iload 6, 2) := by decide +kernel
theorem dX12_joins_79 : decode cX12_joins 79 = .ok (.invokevirtual 293, 3) := by decide +kernel
theorem dX12_joins_82 : decode cX12_joins 82 = .ok (.ifCond .eq 25, 3) := by decide +kernel
theorem dX12_joins_85 : decode cX12_joins 85 = .ok (.aload_n 0, 1) := by decide +kernel
theorem dX12_joins_86 : decode cX12_joins 86 = .ok (.getfield 65, 3) := by decide +kernel
theorem dX12_joins_89 : decode cX12_joins 89 = .ok (.iload 6, 2) := by decide +kernel
theorem dX12_joins_91 : decode cX12_joins 91 = .ok (.iaload, 1) := by decide +kernel
theorem dX12_joins_92 : decode cX12_joins 92 = .ok (.iload_n 3, 1) := by decide +kernel
theorem dX12_joins_93 : decode cX12_joins 93 = .ok (.if_icmp .eq 14, 3) := by decide +kernel
theorem dX12_joins_96 : decode cX12_joins 96 = .ok (.aload_n 0, 1) := by decide +kernel
theorem dX12_joins_97 : decode cX12_joins 97 = .ok (.getfield 65, 3) := by decide +kernel
theorem dX12_joins_100 : decode cX12_joins 100 = .ok (.iload 6, 2) := by decide +kernel
theorem dX12_joins_102 : decode cX12_joins 102 = .ok (.iload_n 3, 1) := by decide +kernel
theorem dX12_joins_103 : decode cX12_joins 103 = .ok (.iastore, 1) := by decide +kernel
theorem dX12_joins_104 : decode cX12_joins 104 = .ok (.iconst 1, 1) := by decide +kernel
theorem dX12_joins_105 : decode cX12_joins 105 = .ok (.istore 4, 2) := by decide +kernel
theorem dX12_joins_107 : decode cX12_joins 107 = .ok (.iinc 5 1, 3) := by decide +kernel
theorem dX12_joins_110 : decode cX12_joins 110 = .ok (.goto (-50), 3) := by decide +kernel
theorem dX12_joins_113 : decode cX12_joins 113 = .ok (.iload 4, 2) := by decide +kernel
theorem dX12_joins_115 : decode cX12_joins 115 = .ok (.ireturn, 1) := by decide +kernel
theorem dX12_keeps_0 : decode cX12_keeps 0 = .ok (.aload_n 0, 1) := by decide +kernel
theorem dX12_keeps_1 : decode cX12_keeps 1 = .ok (.getfield 229, 3) := by decide +kernel
theorem dX12_keeps_4 : decode cX12_keeps 4 = .ok (.bipush 20, 2) := by decide +kernel
theorem dX12_keeps_6 : decode cX12_keeps 6 = .ok (.if_icmp .ne 46, 3) := by decide +kernel
theorem dX12_keeps_9 : decode cX12_keeps 9 = .ok (.sipush 486, 3) := by decide +kernel
theorem dX12_keeps_12 : decode cX12_keeps 12 = .ok (.istore_n 1, 1) := by decide +kernel
theorem dX12_keeps_13 : decode cX12_keeps 13 = .ok (.iload_n 1, 1) := by decide +kernel
theorem dX12_keeps_14 : decode cX12_keeps 14 = .ok (.sipush 9720, 3) := by decide +kernel
theorem dX12_keeps_17 : decode cX12_keeps 17 = .ok (.if_icmp .ge 25, 3) := by decide +kernel
theorem dX12_keeps_20 : decode cX12_keeps 20 = .ok (.aload_n 0, 1) := by decide +kernel
theorem dX12_keeps_21 : decode cX12_keeps 21 = .ok (.getfield 49, 3) := by decide +kernel
theorem dX12_keeps_24 : decode cX12_keeps 24 = .ok (.iload_n 1, 1) := by decide +kernel
theorem dX12_keeps_25 : decode cX12_keeps 25 = .ok (.sipush 486, 3) := by decide +kernel
theorem dX12_keeps_28 : decode cX12_keeps 28 = .ok (.isub, 1) := by decide +kernel
theorem dX12_keeps_29 : decode cX12_keeps 29 = .ok (.aload_n 0, 1) := by decide +kernel
theorem dX12_keeps_30 : decode cX12_keeps 30 = .ok (.getfield 49, 3) := by decide +kernel
theorem dX12_keeps_33 : decode cX12_keeps 33 = .ok (.iload_n 1, 1) := by decide +kernel
theorem dX12_keeps_34 : decode cX12_keeps 34 = .ok (.iaload, 1) := by decide +kernel
theorem dX12_keeps_35 : decode cX12_keeps 35 = .ok (.iastore, 1) := by decide +kernel
theorem dX12_keeps_36 : decode cX12_keeps 36 = .ok (.iinc 1 1, 3) := by decide +kernel
theorem dX12_keeps_39 : decode cX12_keeps 39 = .ok (.goto (-26), 3) := by decide +kernel
theorem dX12_keeps_42 : decode cX12_keeps 42 = .ok (.aload_n 0, 1) := by decide +kernel
theorem dX12_keeps_43 : decode cX12_keeps 43 = .ok (.dup, 1) := by decide +kernel
theorem dX12_keeps_44 : decode cX12_keeps 44 = .ok (.getfield 229, 3) := by decide +kernel
theorem dX12_keeps_47 : decode cX12_keeps 47 = .ok (.iconst 1, 1) := by decide +kernel
theorem dX12_keeps_48 : decode cX12_keeps 48 = .ok (.isub, 1) := by decide +kernel
theorem dX12_keeps_49 : decode cX12_keeps 49 = .ok (.putfield 229, 3) := by decide +kernel
theorem dX12_keeps_52 : decode cX12_keeps 52 = .ok (.iconst 0, 1) := by decide +kernel
theorem dX12_keeps_53 : decode cX12_keeps 53 = .ok (.istore_n 1, 1) := by decide +kernel
theorem dX12_keeps_54 : decode cX12_keeps 54 = .ok (.iload_n 1, 1) := by decide +kernel
theorem dX12_keeps_55 : decode cX12_keeps 55 = .ok (.sipush 486, 3) := by decide +kernel
theorem dX12_keeps_58 : decode cX12_keeps 58 = .ok (.if_icmp .ge 30, 3) := by decide +kernel
theorem dX12_keeps_61 : decode cX12_keeps 61 = .ok (.aload_n 0, 1) := by decide +kernel
theorem dX12_keeps_62 : decode cX12_keeps 62 = .ok (.getfield 49, 3) := by decide +kernel
theorem dX12_keeps_65 : decode cX12_keeps 65 = .ok (.sipush 486, 3) := by decide +kernel
theorem dX12_keeps_68 : decode cX12_keeps 68 = .ok (.aload_n 0, 1) := by decide +kernel
theorem dX12_keeps_69 : decode cX12_keeps 69 = .ok (.getfield 229, 3) := by decide +kernel
theorem dX12_keeps_72 : decode cX12_keeps 72 = .ok (.imul, 1) := by decide +kernel
theorem dX12_keeps_73 : decode cX12_keeps 73 = .ok (.iload_n 1, 1) := by decide +kernel
theorem dX12_keeps_74 : decode cX12_keeps 74 = .ok (.iadd, 1) := by decide +kernel
theorem dX12_keeps_75 : decode cX12_keeps 75 = .ok (.aload_n 0, 1) := by decide +kernel
theorem dX12_keeps_76 : decode cX12_keeps 76 = .ok (.getfield 28, 3) := by decide +kernel
theorem dX12_keeps_79 : decode cX12_keeps 79 = .ok (.iload_n 1, 1) := by decide +kernel
theorem dX12_keeps_80 : decode cX12_keeps 80 = .ok (.iaload, 1) := by decide +kernel
theorem dX12_keeps_81 : decode cX12_keeps 81 = .ok (.iastore, 1) := by decide +kernel
theorem dX12_keeps_82 : decode cX12_keeps 82 = .ok (.iinc 1 1, 3) := by decide +kernel
theorem dX12_keeps_85 : decode cX12_keeps 85 = .ok (.goto (-31), 3) := by decide +kernel
theorem dX12_keeps_88 : decode cX12_keeps 88 = .ok (.aload_n 0, 1) := by decide +kernel
theorem dX12_keeps_89 : decode cX12_keeps 89 = .ok (.dup, 1) := by decide +kernel
theorem dX12_keeps_90 : decode cX12_keeps 90 = .ok (.getfield 229, 3) := by decide +kernel
theorem dX12_keeps_93 : decode cX12_keeps 93 = .ok (.iconst 1, 1) := by decide +kernel
theorem dX12_keeps_94 : decode cX12_keeps 94 = .ok (.iadd, 1) := by decide +kernel
theorem dX12_keeps_95 : decode cX12_keeps 95 = .ok (.putfield 229, 3) := by decide +kernel
theorem dX12_keeps_98 : decode cX12_keeps 98 = .ok (.return_, 1) := by decide +kernel
theorem dX12_layer_0 : decode cX12_layer 0 = .ok (.aload_n 0, 1) := by decide +kernel
theorem dX12_layer_1 : decode cX12_layer 1 = .ok (.iconst 0, 1) := by decide +kernel
theorem dX12_layer_2 : decode cX12_layer 2 = .ok (.putfield 86, 3) := by decide +kernel
theorem dX12_layer_5 : decode cX12_layer 5 = .ok (.aload_n 0, 1) := by decide +kernel
theorem dX12_layer_6 : decode cX12_layer 6 = .ok (.invokevirtual 306, 3) := by decide +kernel
theorem dX12_layer_9 : decode cX12_layer 9 = .ok (.ifCond .eq 31, 3) := by decide +kernel
theorem dX12_layer_12 : decode cX12_layer 12 = .ok (.iload_n 1, 1) := by decide +kernel
theorem dX12_layer_13 : decode cX12_layer 13 = .ok (.i2l, 1) := by decide +kernel
theorem dX12_layer_14 : decode cX12_layer 14 = .ok (.lconst 0, 1) := by decide +kernel
theorem dX12_layer_15 : decode cX12_layer 15 = .ok (.aload_n 0, 1) := by decide +kernel
theorem dX12_layer_16 : decode cX12_layer 16 = .ok (.getfield 208, 3) := by decide +kernel
theorem dX12_layer_19 : decode cX12_layer 19 = .ok (.iconst 1, 1) := by decide +kernel
theorem dX12_layer_20 : decode cX12_layer 20 = .ok (.isub, 1) := by decide +kernel
theorem dX12_layer_21 : decode cX12_layer 21 = .ok (.i2l, 1) := by decide +kernel
theorem dX12_layer_22 : decode cX12_layer 22 = .ok (.invokestatic 97, 3) := by decide +kernel
theorem dX12_layer_25 : decode cX12_layer 25 = .ok (.ifCond .eq 15, 3) := by decide +kernel
theorem dX12_layer_28 : decode cX12_layer 28 = .ok (.iload_n 2, 1) := by decide +kernel
theorem dX12_layer_29 : decode cX12_layer 29 = .ok (.i2l, 1) := by decide +kernel
theorem dX12_layer_30 : decode cX12_layer 30 = .ok (.lconst 0, 1) := by decide +kernel
theorem dX12_layer_31 : decode cX12_layer 31 = .ok (.ldc2_w 291, 3) := by decide +kernel
theorem dX12_layer_34 : decode cX12_layer 34 = .ok (.invokestatic 97, 3) := by decide +kernel
theorem dX12_layer_37 : decode cX12_layer 37 = .ok (.ifCond .ne 7, 3) := by decide +kernel
theorem dX12_layer_40 : decode cX12_layer 40 = .ok (.ldc_w 310, 3) := by decide +kernel
theorem dX12_layer_43 : decode cX12_layer 43 = .ok (.ireturn, 1) := by decide +kernel
theorem dX12_layer_44 : decode cX12_layer 44 = .ok (.iconst 0, 1) := by decide +kernel
theorem dX12_layer_45 : decode cX12_layer 45 = .ok (.istore_n 3, 1) := by decide +kernel
theorem dX12_layer_46 : decode cX12_layer 46 = .ok (.iconst 0, 1) := by decide +kernel
theorem dX12_layer_47 : decode cX12_layer 47 = .ok (.istore 4, 2) := by decide +kernel
theorem dX12_layer_49 : decode cX12_layer 49 = .ok (.iload 4, 2) := by decide +kernel
theorem dX12_layer_51 : decode cX12_layer 51 = .ok (.aload_n 0, 1) := by decide +kernel
theorem dX12_layer_52 : decode cX12_layer 52 = .ok (.getfield 205, 3) := by decide +kernel
theorem dX12_layer_55 : decode cX12_layer 55 = .ok (.if_icmp .ge 75, 3) := by decide +kernel
theorem dX12_layer_58 : decode cX12_layer 58 = .ok (.iload_n 2, 1) := by decide +kernel
theorem dX12_layer_59 : decode cX12_layer 59 = .ok (.iconst 2, 1) := by decide +kernel
theorem dX12_layer_60 : decode cX12_layer 60 = .ok (.if_icmp .ge 33, 3) := by decide +kernel
theorem dX12_layer_63 : decode cX12_layer 63 = .ok (.iload_n 3, 1) := by decide +kernel
theorem dX12_layer_64 : decode cX12_layer 64 = .ok (.iload 4, 2) := by decide +kernel
theorem dX12_layer_66 : decode cX12_layer 66 = .ok (.aload_n 0, 1) := by decide +kernel
theorem dX12_layer_67 : decode cX12_layer 67 = .ok (.getfield 205, 3) := by decide +kernel
theorem dX12_layer_70 : decode cX12_layer 70 = .ok (.iconst 1, 1) := by decide +kernel
theorem dX12_layer_71 : decode cX12_layer 71 = .ok (.isub, 1) := by decide +kernel
theorem dX12_layer_72 : decode cX12_layer 72 = .ok (.if_icmp .ge 15, 3) := by decide +kernel
theorem dX12_layer_75 : decode cX12_layer 75 = .ok (.aload_n 0, 1) := by decide +kernel
theorem dX12_layer_76 : decode cX12_layer 76 = .ok (.iload 4, 2) := by decide +kernel
theorem dX12_layer_78 : decode cX12_layer 78 = .ok (.iload_n 1, 1) := by decide +kernel
theorem dX12_layer_79 : decode cX12_layer 79 = .ok (.iconst 0, 1) := by decide +kernel
theorem dX12_layer_80 : decode cX12_layer 80 = .ok (.iload_n 2, 1) := by decide +kernel
theorem dX12_layer_81 : decode cX12_layer 81 = .ok (.invokevirtual 218, 3) := by decide +kernel
theorem dX12_layer_84 : decode cX12_layer 84 = .ok (.goto 4, 3) := by decide +kernel
theorem dX12_layer_87 : decode cX12_layer 87 = .ok (.iconst 0, 1) := by decide +kernel
theorem dX12_layer_88 : decode cX12_layer 88 = .ok (.iadd, 1) := by decide +kernel
theorem dX12_layer_89 : decode cX12_layer 89 = .ok (.istore_n 3, 1) := by decide +kernel
theorem dX12_layer_90 : decode cX12_layer 90 = .ok (.goto 34, 3) := by decide +kernel
theorem dX12_layer_93 : decode cX12_layer 93 = .ok (.iload_n 3, 1) := by decide +kernel
theorem dX12_layer_94 : decode cX12_layer 94 = .ok (.aload_n 0, 1) := by decide +kernel
theorem dX12_layer_95 : decode cX12_layer 95 = .ok (.iload 4, 2) := by decide +kernel
theorem dX12_layer_97 : decode cX12_layer 97 = .ok (.iload_n 1, 1) := by decide +kernel
theorem dX12_layer_98 : decode cX12_layer 98 = .ok (.iload_n 2, 1) := by decide +kernel
theorem dX12_layer_99 : decode cX12_layer 99 = .ok (.iconst 3, 1) := by decide +kernel
theorem dX12_layer_100 : decode cX12_layer 100 = .ok (.if_icmp .ne 7, 3) := by decide +kernel
theorem dX12_layer_103 : decode cX12_layer 103 = .ok (.iconst 1, 1) := by decide +kernel
theorem dX12_layer_104 : decode cX12_layer 104 = .ok (.goto 4, 3) := by decide +kernel
theorem dX12_layer_107 : decode cX12_layer 107 = .ok (.iconst 0, 1) := by decide +kernel
theorem dX12_layer_108 : decode cX12_layer 108 = .ok (.invokestatic 421, 3) := by decide +kernel
theorem dX12_layer_111 : decode cX12_layer 111 = .ok (.invokevirtual 293, 3) := by decide +kernel
theorem dX12_layer_114 : decode cX12_layer 114 = .ok (.ifCond .eq 7, 3) := by decide +kernel
theorem dX12_layer_117 : decode cX12_layer 117 = .ok (.iconst 1, 1) := by decide +kernel
theorem dX12_layer_118 : decode cX12_layer 118 = .ok (.goto 4, 3) := by decide +kernel
theorem dX12_layer_121 : decode cX12_layer 121 = .ok (.iconst 0, 1) := by decide +kernel
theorem dX12_layer_122 : decode cX12_layer 122 = .ok (.iadd, 1) := by decide +kernel
theorem dX12_layer_123 : decode cX12_layer 123 = .ok (.istore_n 3, 1) := by decide +kernel
theorem dX12_layer_124 : decode cX12_layer 124 = .ok (.iinc 4 1, 3) := by decide +kernel
theorem dX12_layer_127 : decode cX12_layer 127 = .ok (.goto (-78), 3) := by decide +kernel
theorem dX12_layer_130 : decode cX12_layer 130 = .ok (.iload_n 3, 1) := by decide +kernel
theorem dX12_layer_131 : decode cX12_layer 131 = .ok (.ireturn, 1) := by decide +kernel
theorem dX12_laysBoxes_0 : decode cX12_laysBoxes 0 = .ok (.aload_n 0, 1) := by decide +kernel
theorem dX12_laysBoxes_1 : decode cX12_laysBoxes 1 = .ok (.iconst 0, 1) := by decide +kernel
theorem dX12_laysBoxes_2 : decode cX12_laysBoxes 2 = .ok (.putfield 338, 3) := by decide +kernel
theorem dX12_laysBoxes_5 : decode cX12_laysBoxes 5 = .ok (.iconst 0, 1) := by decide +kernel
theorem dX12_laysBoxes_6 : decode cX12_laysBoxes 6 = .ok (.istore_n 1, 1) := by decide +kernel
theorem dX12_laysBoxes_7 : decode cX12_laysBoxes 7 = .ok (.iconst 0, 1) := by decide +kernel
theorem dX12_laysBoxes_8 : decode cX12_laysBoxes 8 = .ok (.istore_n 2, 1) := by decide +kernel
theorem dX12_laysBoxes_9 : decode cX12_laysBoxes 9 = .ok (.aload_n 0, 1) := by decide +kernel
theorem dX12_laysBoxes_10 : decode cX12_laysBoxes 10 = .ok (.getfield 205, 3) := by decide +kernel
theorem dX12_laysBoxes_13 : decode cX12_laysBoxes 13 = .ok (.iconst 1, 1) := by decide +kernel
theorem dX12_laysBoxes_14 : decode cX12_laysBoxes 14 = .ok (.isub, 1) := by decide +kernel
theorem dX12_laysBoxes_15 : decode cX12_laysBoxes 15 = .ok (.istore_n 3, 1) := by decide +kernel
theorem dX12_laysBoxes_16 : decode cX12_laysBoxes 16 = .ok (.aload_n 0, 1) := by decide +kernel
theorem dX12_laysBoxes_17 : decode cX12_laysBoxes 17 = .ok (.getfield 208, 3) := by decide +kernel
theorem dX12_laysBoxes_20 : decode cX12_laysBoxes 20 = .ok (.iconst 1, 1) := by decide +kernel
theorem dX12_laysBoxes_21 : decode cX12_laysBoxes 21 = .ok (.isub, 1) := by decide +kernel
theorem dX12_laysBoxes_22 : decode cX12_laysBoxes 22 = .ok (.istore 4, 2) := by decide +kernel
theorem dX12_laysBoxes_24 : decode cX12_laysBoxes 24 = .ok (.aload_n 0, 1) := by decide +kernel
theorem dX12_laysBoxes_25 : decode cX12_laysBoxes 25 = .ok (.iload_n 1, 1) := by decide +kernel
theorem dX12_laysBoxes_26 : decode cX12_laysBoxes 26 = .ok (.iload_n 2, 1) := by decide +kernel
theorem dX12_laysBoxes_27 : decode cX12_laysBoxes 27 = .ok (.iload_n 3, 1) := by decide +kernel
theorem dX12_laysBoxes_28 : decode cX12_laysBoxes 28 = .ok (.iload 4, 2) := by decide +kernel
theorem dX12_laysBoxes_30 : decode cX12_laysBoxes 30 = .ok (.invokevirtual 341, 3) := by decide +kernel
theorem dX12_laysBoxes_33 : decode cX12_laysBoxes 33 = .ok (.ifCond .ne 4, 3) := by decide +kernel
theorem dX12_laysBoxes_36 : decode cX12_laysBoxes 36 = .ok (.return_, 1) := by decide +kernel
theorem dX12_laysBoxes_37 : decode cX12_laysBoxes 37 = .ok (.aload_n 0, 1) := by decide +kernel
theorem dX12_laysBoxes_38 : decode cX12_laysBoxes 38 = .ok (.iload_n 1, 1) := by decide +kernel
theorem dX12_laysBoxes_39 : decode cX12_laysBoxes 39 = .ok (.iload_n 2, 1) := by decide +kernel
theorem dX12_laysBoxes_40 : decode cX12_laysBoxes 40 = .ok (.iload_n 3, 1) := by decide +kernel
theorem dX12_laysBoxes_41 : decode cX12_laysBoxes 41 = .ok (.iload 4, 2) := by decide +kernel
theorem dX12_laysBoxes_43 : decode cX12_laysBoxes 43 = .ok (.invokevirtual 345, 3) := by decide +kernel
theorem dX12_laysBoxes_46 : decode cX12_laysBoxes 46 = .ok (.iload_n 3, 1) := by decide +kernel
theorem dX12_laysBoxes_47 : decode cX12_laysBoxes 47 = .ok (.iload_n 1, 1) := by decide +kernel
theorem dX12_laysBoxes_48 : decode cX12_laysBoxes 48 = .ok (.isub, 1) := by decide +kernel
theorem dX12_laysBoxes_49 : decode cX12_laysBoxes 49 = .ok (.iconst 1, 1) := by decide +kernel
theorem dX12_laysBoxes_50 : decode cX12_laysBoxes 50 = .ok (.if_icmp .gt 11, 3) := by decide +kernel
theorem dX12_laysBoxes_53 : decode cX12_laysBoxes 53 = .ok (.iload 4, 2) := by decide +kernel
theorem dX12_laysBoxes_55 : decode cX12_laysBoxes 55 = .ok (.iload_n 2, 1) := by decide +kernel
theorem dX12_laysBoxes_56 : decode cX12_laysBoxes 56 = .ok (.isub, 1) := by decide +kernel
theorem dX12_laysBoxes_57 : decode cX12_laysBoxes 57 = .ok (.iconst 1, 1) := by decide +kernel
theorem dX12_laysBoxes_58 : decode cX12_laysBoxes 58 = .ok (.if_icmp .le 120, 3) := by decide +kernel
theorem dX12_laysBoxes_61 : decode cX12_laysBoxes 61 = .ok (.iload_n 3, 1) := by decide +kernel
theorem dX12_laysBoxes_62 : decode cX12_laysBoxes 62 = .ok (.iload_n 1, 1) := by decide +kernel
theorem dX12_laysBoxes_63 : decode cX12_laysBoxes 63 = .ok (.isub, 1) := by decide +kernel
theorem dX12_laysBoxes_64 : decode cX12_laysBoxes 64 = .ok (.iload 4, 2) := by decide +kernel
theorem dX12_laysBoxes_66 : decode cX12_laysBoxes 66 = .ok (.iload_n 2, 1) := by decide +kernel
theorem dX12_laysBoxes_67 : decode cX12_laysBoxes 67 = .ok (.isub, 1) := by decide +kernel
theorem dX12_laysBoxes_68 : decode cX12_laysBoxes 68 = .ok (.if_icmp .lt 51, 3) := by decide +kernel
theorem dX12_laysBoxes_71 : decode cX12_laysBoxes 71 = .ok (.iload_n 1, 1) := by decide +kernel
theorem dX12_laysBoxes_72 : decode cX12_laysBoxes 72 = .ok (.iload_n 3, 1) := by decide +kernel
theorem dX12_laysBoxes_73 : decode cX12_laysBoxes 73 = .ok (.iload_n 1, 1) := by decide +kernel
theorem dX12_laysBoxes_74 : decode cX12_laysBoxes 74 = .ok (.isub, 1) := by decide +kernel
theorem dX12_laysBoxes_75 : decode cX12_laysBoxes 75 = .ok (.iconst 2, 1) := by decide +kernel
theorem dX12_laysBoxes_76 : decode cX12_laysBoxes 76 = .ok (.idiv, 1) := by decide +kernel
theorem dX12_laysBoxes_77 : decode cX12_laysBoxes 77 = .ok (.iadd, 1) := by decide +kernel
theorem dX12_laysBoxes_78 : decode cX12_laysBoxes 78 = .ok (.istore 5, 2) := by decide +kernel
theorem dX12_laysBoxes_80 : decode cX12_laysBoxes 80 = .ok (.aload_n 0, 1) := by decide +kernel
theorem dX12_laysBoxes_81 : decode cX12_laysBoxes 81 = .ok (.iload_n 1, 1) := by decide +kernel
theorem dX12_laysBoxes_82 : decode cX12_laysBoxes 82 = .ok (.iload_n 2, 1) := by decide +kernel
theorem dX12_laysBoxes_83 : decode cX12_laysBoxes 83 = .ok (.iload 5, 2) := by decide +kernel
theorem dX12_laysBoxes_85 : decode cX12_laysBoxes 85 = .ok (.iload 4, 2) := by decide +kernel
theorem dX12_laysBoxes_87 : decode cX12_laysBoxes 87 = .ok (.invokevirtual 341, 3) := by decide +kernel
theorem dX12_laysBoxes_90 : decode cX12_laysBoxes 90 = .ok (.istore 6, 2) := by decide +kernel
theorem dX12_laysBoxes_92 : decode cX12_laysBoxes 92 = .ok (.iload 6, 2) := by decide +kernel
theorem dX12_laysBoxes_94 : decode cX12_laysBoxes 94 = .ok (.ifCond .eq 8, 3) := by decide +kernel
theorem dX12_laysBoxes_97 : decode cX12_laysBoxes 97 = .ok (.iload 5, 2) := by decide +kernel
theorem dX12_laysBoxes_99 : decode cX12_laysBoxes 99 = .ok (.goto 4, 3) := by decide +kernel
theorem dX12_laysBoxes_102 : decode cX12_laysBoxes 102 = .ok (.iload_n 3, 1) := by decide +kernel
theorem dX12_laysBoxes_103 : decode cX12_laysBoxes 103 = .ok (.istore_n 3, 1) := by decide +kernel
theorem dX12_laysBoxes_104 : decode cX12_laysBoxes 104 = .ok (.iload 6, 2) := by decide +kernel
theorem dX12_laysBoxes_106 : decode cX12_laysBoxes 106 = .ok (.ifCond .eq 7, 3) := by decide +kernel
theorem dX12_laysBoxes_109 : decode cX12_laysBoxes 109 = .ok (.iload_n 1, 1) := by decide +kernel
theorem dX12_laysBoxes_110 : decode cX12_laysBoxes 110 = .ok (.goto 5, 3) := by decide +kernel
theorem dX12_laysBoxes_113 : decode cX12_laysBoxes 113 = .ok (.iload 5, 2) := by decide +kernel
theorem dX12_laysBoxes_115 : decode cX12_laysBoxes 115 = .ok (.istore_n 1, 1) := by decide +kernel
theorem dX12_laysBoxes_116 : decode cX12_laysBoxes 116 = .ok (.goto 50, 3) := by decide +kernel
theorem dX12_laysBoxes_119 : decode cX12_laysBoxes 119 = .ok (.iload_n 2, 1) := by decide +kernel
theorem dX12_laysBoxes_120 : decode cX12_laysBoxes 120 = .ok (.iload 4, 2) := by decide +kernel
theorem dX12_laysBoxes_122 : decode cX12_laysBoxes 122 = .ok (.iload_n 2, 1) := by decide +kernel
theorem dX12_laysBoxes_123 : decode cX12_laysBoxes 123 = .ok (.isub, 1) := by decide +kernel
theorem dX12_laysBoxes_124 : decode cX12_laysBoxes 124 = .ok (.iconst 2, 1) := by decide +kernel
theorem dX12_laysBoxes_125 : decode cX12_laysBoxes 125 = .ok (.idiv, 1) := by decide +kernel
theorem dX12_laysBoxes_126 : decode cX12_laysBoxes 126 = .ok (.iadd, 1) := by decide +kernel
theorem dX12_laysBoxes_127 : decode cX12_laysBoxes 127 = .ok (.istore 5, 2) := by decide +kernel
theorem dX12_laysBoxes_129 : decode cX12_laysBoxes 129 = .ok (.aload_n 0, 1) := by decide +kernel
theorem dX12_laysBoxes_130 : decode cX12_laysBoxes 130 = .ok (.iload_n 1, 1) := by decide +kernel
theorem dX12_laysBoxes_131 : decode cX12_laysBoxes 131 = .ok (.iload_n 2, 1) := by decide +kernel
theorem dX12_laysBoxes_132 : decode cX12_laysBoxes 132 = .ok (.iload_n 3, 1) := by decide +kernel
theorem dX12_laysBoxes_133 : decode cX12_laysBoxes 133 = .ok (.iload 5, 2) := by decide +kernel
theorem dX12_laysBoxes_135 : decode cX12_laysBoxes 135 = .ok (.invokevirtual 341, 3) := by decide +kernel
theorem dX12_laysBoxes_138 : decode cX12_laysBoxes 138 = .ok (.istore 6, 2) := by decide +kernel
theorem dX12_laysBoxes_140 : decode cX12_laysBoxes 140 = .ok (.iload 6, 2) := by decide +kernel
theorem dX12_laysBoxes_142 : decode cX12_laysBoxes 142 = .ok (.ifCond .eq 8, 3) := by decide +kernel
theorem dX12_laysBoxes_145 : decode cX12_laysBoxes 145 = .ok (.iload 5, 2) := by decide +kernel
theorem dX12_laysBoxes_147 : decode cX12_laysBoxes 147 = .ok (.goto 5, 3) := by decide +kernel
theorem dX12_laysBoxes_150 : decode cX12_laysBoxes 150 = .ok (.iload 4, 2) := by decide +kernel
theorem dX12_laysBoxes_152 : decode cX12_laysBoxes 152 = .ok (.istore 4, 2) := by decide +kernel
theorem dX12_laysBoxes_154 : decode cX12_laysBoxes 154 = .ok (.iload 6, 2) := by decide +kernel
theorem dX12_laysBoxes_156 : decode cX12_laysBoxes 156 = .ok (.ifCond .eq 7, 3) := by decide +kernel
theorem dX12_laysBoxes_159 : decode cX12_laysBoxes 159 = .ok (.iload_n 2, 1) := by decide +kernel
theorem dX12_laysBoxes_160 : decode cX12_laysBoxes 160 = .ok (.goto 5, 3) := by decide +kernel
theorem dX12_laysBoxes_163 : decode cX12_laysBoxes 163 = .ok (.iload 5, 2) := by decide +kernel
theorem dX12_laysBoxes_165 : decode cX12_laysBoxes 165 = .ok (.istore_n 2, 1) := by decide +kernel
theorem dX12_laysBoxes_166 : decode cX12_laysBoxes 166 = .ok (.aload_n 0, 1) := by decide +kernel
theorem dX12_laysBoxes_167 : decode cX12_laysBoxes 167 = .ok (.iload_n 1, 1) := by decide +kernel
theorem dX12_laysBoxes_168 : decode cX12_laysBoxes 168 = .ok (.iload_n 2, 1) := by decide +kernel
theorem dX12_laysBoxes_169 : decode cX12_laysBoxes 169 = .ok (.iload_n 3, 1) := by decide +kernel
theorem dX12_laysBoxes_170 : decode cX12_laysBoxes 170 = .ok (.iload 4, 2) := by decide +kernel
theorem dX12_laysBoxes_172 : decode cX12_laysBoxes 172 = .ok (.invokevirtual 345, 3) := by decide +kernel
theorem dX12_laysBoxes_175 : decode cX12_laysBoxes 175 = .ok (.goto (-129), 3) := by decide +kernel
theorem dX12_laysBoxes_178 : decode cX12_laysBoxes 178 = .ok (.return_, 1) := by decide +kernel
theorem dX12_laysCores_0 : decode cX12_laysCores 0 = .ok (.aload_n 0, 1) := by decide +kernel
theorem dX12_laysCores_1 : decode cX12_laysCores 1 = .ok (.iconst 0, 1) := by decide +kernel
theorem dX12_laysCores_2 : decode cX12_laysCores 2 = .ok (.putfield 241, 3) := by decide +kernel
theorem dX12_laysCores_5 : decode cX12_laysCores 5 = .ok (.iconst 0, 1) := by decide +kernel
theorem dX12_laysCores_6 : decode cX12_laysCores 6 = .ok (.istore_n 1, 1) := by decide +kernel
theorem dX12_laysCores_7 : decode cX12_laysCores 7 = .ok (.iload_n 1, 1) := by decide +kernel
theorem dX12_laysCores_8 : decode cX12_laysCores 8 = .ok (.aload_n 0, 1) := by decide +kernel
theorem dX12_laysCores_9 : decode cX12_laysCores 9 = .ok (.getfield 208, 3) := by decide +kernel
theorem dX12_laysCores_12 : decode cX12_laysCores 12 = .ok (.iconst 1, 1) := by decide +kernel
theorem dX12_laysCores_13 : decode cX12_laysCores 13 = .ok (.isub, 1) := by decide +kernel
theorem dX12_laysCores_14 : decode cX12_laysCores 14 = .ok (.if_icmp .ge 98, 3) := by decide +kernel
theorem dX12_laysCores_17 : decode cX12_laysCores 17 = .ok (.iconst 0, 1) := by decide +kernel
theorem dX12_laysCores_18 : decode cX12_laysCores 18 = .ok (.istore_n 2, 1) := by decide +kernel
theorem dX12_laysCores_19 : decode cX12_laysCores 19 = .ok (.iload_n 2, 1) := by decide +kernel
theorem dX12_laysCores_20 : decode cX12_laysCores 20 = .ok (.aload_n 0, 1) := by decide +kernel
theorem dX12_laysCores_21 : decode cX12_laysCores 21 = .ok (.getfield 205, 3) := by decide +kernel
theorem dX12_laysCores_24 : decode cX12_laysCores 24 = .ok (.iconst 1, 1) := by decide +kernel
theorem dX12_laysCores_25 : decode cX12_laysCores 25 = .ok (.isub, 1) := by decide +kernel
theorem dX12_laysCores_26 : decode cX12_laysCores 26 = .ok (.if_icmp .ge 80, 3) := by decide +kernel
theorem dX12_laysCores_29 : decode cX12_laysCores 29 = .ok (.aload_n 0, 1) := by decide +kernel
theorem dX12_laysCores_30 : decode cX12_laysCores 30 = .ok (.iload_n 2, 1) := by decide +kernel
theorem dX12_laysCores_31 : decode cX12_laysCores 31 = .ok (.iload_n 1, 1) := by decide +kernel
theorem dX12_laysCores_32 : decode cX12_laysCores 32 = .ok (.invokevirtual 244, 3) := by decide +kernel
theorem dX12_laysCores_35 : decode cX12_laysCores 35 = .ok (.ifCond .eq 65, 3) := by decide +kernel
theorem dX12_laysCores_38 : decode cX12_laysCores 38 = .ok (.aload_n 0, 1) := by decide +kernel
theorem dX12_laysCores_39 : decode cX12_laysCores 39 = .ok (.getfield 34, 3) := by decide +kernel
theorem dX12_laysCores_42 : decode cX12_laysCores 42 = .ok (.aload_n 0, 1) := by decide +kernel
theorem dX12_laysCores_43 : decode cX12_laysCores 43 = .ok (.getfield 241, 3) := by decide +kernel
theorem dX12_laysCores_46 : decode cX12_laysCores 46 = .ok (.iload_n 2, 1) := by decide +kernel
theorem dX12_laysCores_47 : decode cX12_laysCores 47 = .ok (.iastore, 1) := by decide +kernel
theorem dX12_laysCores_48 : decode cX12_laysCores 48 = .ok (.aload_n 0, 1) := by decide +kernel
theorem dX12_laysCores_49 : decode cX12_laysCores 49 = .ok (.getfield 37, 3) := by decide +kernel
theorem dX12_laysCores_52 : decode cX12_laysCores 52 = .ok (.aload_n 0, 1) := by decide +kernel
theorem dX12_laysCores_53 : decode cX12_laysCores 53 = .ok (.getfield 241, 3) := by decide +kernel
theorem dX12_laysCores_56 : decode cX12_laysCores 56 = .ok (.iload_n 1, 1) := by decide +kernel
theorem dX12_laysCores_57 : decode cX12_laysCores 57 = .ok (.iastore, 1) := by decide +kernel
theorem dX12_laysCores_58 : decode cX12_laysCores 58 = .ok (.aload_n 0, 1) := by decide +kernel
theorem dX12_laysCores_59 : decode cX12_laysCores 59 = .ok (.getfield 40, 3) := by decide +kernel
theorem dX12_laysCores_62 : decode cX12_laysCores 62 = .ok (.aload_n 0, 1) := by decide +kernel
theorem dX12_laysCores_63 : decode cX12_laysCores 63 = .ok (.getfield 241, 3) := by decide +kernel
theorem dX12_laysCores_66 : decode cX12_laysCores 66 = .ok (.aload_n 0, 1) := by decide +kernel
theorem dX12_laysCores_67 : decode cX12_laysCores 67 = .ok (.iload_n 2, 1) := by decide +kernel
theorem dX12_laysCores_68 : decode cX12_laysCores 68 = .ok (.iload_n 1, 1) := by decide +kernel
theorem dX12_laysCores_69 : decode cX12_laysCores 69 = .ok (.iconst 0, 1) := by decide +kernel
theorem dX12_laysCores_70 : decode cX12_laysCores 70 = .ok (.invokevirtual 221, 3) := by decide +kernel
theorem dX12_laysCores_73 : decode cX12_laysCores 73 = .ok (.iastore, 1) := by decide +kernel
theorem dX12_laysCores_74 : decode cX12_laysCores 74 = .ok (.aload_n 0, 1) := by decide +kernel
theorem dX12_laysCores_75 : decode cX12_laysCores 75 = .ok (.getfield 43, 3) := by decide +kernel
theorem dX12_laysCores_78 : decode cX12_laysCores 78 = .ok (.aload_n 0, 1) := by decide +kernel
theorem dX12_laysCores_79 : decode cX12_laysCores 79 = .ok (.getfield 241, 3) := by decide +kernel
theorem dX12_laysCores_82 : decode cX12_laysCores 82 = .ok (.aload_n 0, 1) := by decide +kernel
theorem dX12_laysCores_83 : decode cX12_laysCores 83 = .ok (.iload_n 2, 1) := by decide +kernel
theorem dX12_laysCores_84 : decode cX12_laysCores 84 = .ok (.iload_n 1, 1) := by decide +kernel
theorem dX12_laysCores_85 : decode cX12_laysCores 85 = .ok (.iconst 1, 1) := by decide +kernel
theorem dX12_laysCores_86 : decode cX12_laysCores 86 = .ok (.invokevirtual 221, 3) := by decide +kernel
theorem dX12_laysCores_89 : decode cX12_laysCores 89 = .ok (.iastore, 1) := by decide +kernel
theorem dX12_laysCores_90 : decode cX12_laysCores 90 = .ok (.aload_n 0, 1) := by decide +kernel
theorem dX12_laysCores_91 : decode cX12_laysCores 91 = .ok (.dup, 1) := by decide +kernel
theorem dX12_laysCores_92 : decode cX12_laysCores 92 = .ok (.getfield 241, 3) := by decide +kernel
theorem dX12_laysCores_95 : decode cX12_laysCores 95 = .ok (.iconst 1, 1) := by decide +kernel
theorem dX12_laysCores_96 : decode cX12_laysCores 96 = .ok (.iadd, 1) := by decide +kernel
theorem dX12_laysCores_97 : decode cX12_laysCores 97 = .ok (.putfield 241, 3) := by decide +kernel
theorem dX12_laysCores_100 : decode cX12_laysCores 100 = .ok (.iinc 2 1, 3) := by decide +kernel
theorem dX12_laysCores_103 : decode cX12_laysCores 103 = .ok (.goto (-84), 3) := by decide +kernel
theorem dX12_laysCores_106 : decode cX12_laysCores 106 = .ok (.iinc 1 1, 3) := by decide +kernel
theorem dX12_laysCores_109 : decode cX12_laysCores 109 = .ok (.goto (-102), 3) := by decide +kernel
theorem dX12_laysCores_112 : decode cX12_laysCores 112 = .ok (.iconst 0, 1) := by decide +kernel
theorem dX12_laysCores_113 : decode cX12_laysCores 113 = .ok (.istore_n 1, 1) := by decide +kernel
theorem dX12_laysCores_114 : decode cX12_laysCores 114 = .ok (.iload_n 1, 1) := by decide +kernel
theorem dX12_laysCores_115 : decode cX12_laysCores 115 = .ok (.aload_n 0, 1) := by decide +kernel
theorem dX12_laysCores_116 : decode cX12_laysCores 116 = .ok (.getfield 241, 3) := by decide +kernel
theorem dX12_laysCores_119 : decode cX12_laysCores 119 = .ok (.if_icmp .ge 20, 3) := by decide +kernel
theorem dX12_laysCores_122 : decode cX12_laysCores 122 = .ok (.aload_n 0, 1) := by decide +kernel
theorem dX12_laysCores_123 : decode cX12_laysCores 123 = .ok (.getfield 46, 3) := by decide +kernel
theorem dX12_laysCores_126 : decode cX12_laysCores 126 = .ok (.iload_n 1, 1) := by decide +kernel
theorem dX12_laysCores_127 : decode cX12_laysCores 127 = .ok (.aload_n 0, 1) := by decide +kernel
theorem dX12_laysCores_128 : decode cX12_laysCores 128 = .ok (.iload_n 1, 1) := by decide +kernel
theorem dX12_laysCores_129 : decode cX12_laysCores 129 = .ok (.invokevirtual 247, 3) := by decide +kernel
theorem dX12_laysCores_132 : decode cX12_laysCores 132 = .ok (.iastore, 1) := by decide +kernel
theorem dX12_laysCores_133 : decode cX12_laysCores 133 = .ok (.iinc 1 1, 3) := by decide +kernel
theorem dX12_laysCores_136 : decode cX12_laysCores 136 = .ok (.goto (-22), 3) := by decide +kernel
theorem dX12_laysCores_139 : decode cX12_laysCores 139 = .ok (.aload_n 0, 1) := by decide +kernel
theorem dX12_laysCores_140 : decode cX12_laysCores 140 = .ok (.getfield 241, 3) := by decide +kernel
theorem dX12_laysCores_143 : decode cX12_laysCores 143 = .ok (.ireturn, 1) := by decide +kernel
theorem dX12_laysRid_0 : decode cX12_laysRid 0 = .ok (.aload_n 0, 1) := by decide +kernel
theorem dX12_laysRid_1 : decode cX12_laysRid 1 = .ok (.invokevirtual 238, 3) := by decide +kernel
theorem dX12_laysRid_4 : decode cX12_laysRid 4 = .ok (.pop, 1) := by decide +kernel
theorem dX12_laysRid_5 : decode cX12_laysRid 5 = .ok (.aload_n 0, 1) := by decide +kernel
theorem dX12_laysRid_6 : decode cX12_laysRid 6 = .ok (.getfield 71, 3) := by decide +kernel
theorem dX12_laysRid_9 : decode cX12_laysRid 9 = .ok (.iconst 0, 1) := by decide +kernel
theorem dX12_laysRid_10 : decode cX12_laysRid 10 = .ok (.iconst 0, 1) := by decide +kernel
theorem dX12_laysRid_11 : decode cX12_laysRid 11 = .ok (.iastore, 1) := by decide +kernel
theorem dX12_laysRid_12 : decode cX12_laysRid 12 = .ok (.iconst 1, 1) := by decide +kernel
theorem dX12_laysRid_13 : decode cX12_laysRid 13 = .ok (.istore_n 2, 1) := by decide +kernel
theorem dX12_laysRid_14 : decode cX12_laysRid 14 = .ok (.iload_n 2, 1) := by decide +kernel
theorem dX12_laysRid_15 : decode cX12_laysRid 15 = .ok (.iconst 1, 1) := by decide +kernel
theorem dX12_laysRid_16 : decode cX12_laysRid 16 = .ok (.aload_n 0, 1) := by decide +kernel
theorem dX12_laysRid_17 : decode cX12_laysRid 17 = .ok (.getfield 241, 3) := by decide +kernel
theorem dX12_laysRid_20 : decode cX12_laysRid 20 = .ok (.ishl, 1) := by decide +kernel
theorem dX12_laysRid_21 : decode cX12_laysRid 21 = .ok (.if_icmp .ge 160, 3) := by decide +kernel
theorem dX12_laysRid_24 : decode cX12_laysRid 24 = .ok (.iconst 0, 1) := by decide +kernel
theorem dX12_laysRid_25 : decode cX12_laysRid 25 = .ok (.istore_n 3, 1) := by decide +kernel
theorem dX12_laysRid_26 : decode cX12_laysRid 26 = .ok (.iload_n 2, 1) := by decide +kernel
theorem dX12_laysRid_27 : decode cX12_laysRid 27 = .ok (.iload_n 3, 1) := by decide +kernel
theorem dX12_laysRid_28 : decode cX12_laysRid 28 = .ok (.ishr, 1) := by decide +kernel
theorem dX12_laysRid_29 : decode cX12_laysRid 29 = .ok (.iconst 1, 1) := by decide +kernel
theorem dX12_laysRid_30 : decode cX12_laysRid 30 = .ok (.iand, 1) := by decide +kernel
theorem dX12_laysRid_31 : decode cX12_laysRid 31 = .ok (.ifCond .ne 9, 3) := by decide +kernel
theorem dX12_laysRid_34 : decode cX12_laysRid 34 = .ok (.iinc 3 1, 3) := by decide +kernel
theorem dX12_laysRid_37 : decode cX12_laysRid 37 = .ok (.goto (-11), 3) := by decide +kernel
theorem dX12_laysRid_40 : decode cX12_laysRid 40 = .ok (.iload_n 2, 1) := by decide +kernel
theorem dX12_laysRid_41 : decode cX12_laysRid 41 = .ok (.iconst 1, 1) := by decide +kernel
theorem dX12_laysRid_42 : decode cX12_laysRid 42 = .ok (.iload_n 3, 1) := by decide +kernel
theorem dX12_laysRid_43 : decode cX12_laysRid 43 = .ok (.ishl, 1) := by decide +kernel
theorem dX12_laysRid_44 : decode cX12_laysRid 44 = .ok (.iconst (-1), 1) := by decide +kernel
theorem dX12_laysRid_45 : decode cX12_laysRid 45 = .ok (.ixor, 1) := by decide +kernel
theorem dX12_laysRid_46 : decode cX12_laysRid 46 = .ok (.iand, 1) := by decide +kernel
theorem dX12_laysRid_47 : decode cX12_laysRid 47 = .ok (.istore 4, 2) := by decide +kernel
theorem dX12_laysRid_49 : decode cX12_laysRid 49 = .ok (.aload_n 0, 1) := by decide +kernel
theorem dX12_laysRid_50 : decode cX12_laysRid 50 = .ok (.getfield 71, 3) := by decide +kernel
theorem dX12_laysRid_53 : decode cX12_laysRid 53 = .ok (.iload 4, 2) := by decide +kernel
theorem dX12_laysRid_55 : decode cX12_laysRid 55 = .ok (.iaload, 1) := by decide +kernel
theorem dX12_laysRid_56 : decode cX12_laysRid 56 = .ok (.aload_n 0, 1) := by decide +kernel
theorem dX12_laysRid_57 : decode cX12_laysRid 57 = .ok (.iload_n 3, 1) := by decide +kernel
theorem dX12_laysRid_58 : decode cX12_laysRid 58 = .ok (.iload_n 1, 1) := by decide +kernel
theorem dX12_laysRid_59 : decode cX12_laysRid 59 = .ok (.invokevirtual 443, 3) := by decide +kernel
theorem dX12_laysRid_62 : decode cX12_laysRid 62 = .ok (.iadd, 1) := by decide +kernel
theorem dX12_laysRid_63 : decode cX12_laysRid 63 = .ok (.istore 5, 2) := by decide +kernel
theorem dX12_laysRid_65 : decode cX12_laysRid 65 = .ok (.iload_n 3, 1) := by decide +kernel
theorem dX12_laysRid_66 : decode cX12_laysRid 66 = .ok (.istore 6, 2) := by decide +kernel
theorem dX12_laysRid_68 : decode cX12_laysRid 68 = .ok (.iload_n 3, 1) := by decide +kernel
theorem dX12_laysRid_69 : decode cX12_laysRid 69 = .ok (.iconst 1, 1) := by decide +kernel
theorem dX12_laysRid_70 : decode cX12_laysRid 70 = .ok (.iadd, 1) := by decide +kernel
theorem dX12_laysRid_71 : decode cX12_laysRid 71 = .ok (.istore 7, 2) := by decide +kernel
theorem dX12_laysRid_73 : decode cX12_laysRid 73 = .ok (.iload 7, 2) := by decide +kernel
theorem dX12_laysRid_75 : decode cX12_laysRid 75 = .ok (.aload_n 0, 1) := by decide +kernel
theorem dX12_laysRid_76 : decode cX12_laysRid 76 = .ok (.getfield 241, 3) := by decide +kernel
theorem dX12_laysRid_79 : decode cX12_laysRid 79 = .ok (.if_icmp .ge 80, 3) := by decide +kernel
theorem dX12_laysRid_82 : decode cX12_laysRid 82 = .ok (.iload 4, 2) := by decide +kernel
theorem dX12_laysRid_84 : decode cX12_laysRid 84 = .ok (.iload 7, 2) := by decide +kernel
theorem dX12_laysRid_86 : decode cX12_laysRid 86 = .ok (.ishr, 1) := by decide +kernel
theorem dX12_laysRid_87 : decode cX12_laysRid 87 = .ok (.iconst 1, 1) := by decide +kernel
theorem dX12_laysRid_88 : decode cX12_laysRid 88 = .ok (.iand, 1) := by decide +kernel
theorem dX12_laysRid_89 : decode cX12_laysRid 89 = .ok (.iconst 1, 1) := by decide +kernel
theorem dX12_laysRid_90 : decode cX12_laysRid 90 = .ok (.if_icmp .ne 63, 3) := by decide +kernel
theorem dX12_laysRid_93 : decode cX12_laysRid 93 = .ok (.aload_n 0, 1) := by decide +kernel
theorem dX12_laysRid_94 : decode cX12_laysRid 94 = .ok (.iload_n 3, 1) := by decide +kernel
theorem dX12_laysRid_95 : decode cX12_laysRid 95 = .ok (.iload 7, 2) := by decide +kernel
theorem dX12_laysRid_97 : decode cX12_laysRid 97 = .ok (.invokevirtual 446, 3) := by decide +kernel
theorem dX12_laysRid_100 : decode cX12_laysRid 100 = .ok (.ifCond .eq 53, 3) := by decide +kernel
theorem dX12_laysRid_103 : decode cX12_laysRid 103 = .ok (.aload_n 0, 1) := by decide +kernel
theorem dX12_laysRid_104 : decode cX12_laysRid 104 = .ok (.getfield 71, 3) := by decide +kernel
theorem dX12_laysRid_107 : decode cX12_laysRid 107 = .ok (.iload 4, 2) := by decide +kernel
theorem dX12_laysRid_109 : decode cX12_laysRid 109 = .ok (.iconst 1, 1) := by decide +kernel
theorem dX12_laysRid_110 : decode cX12_laysRid 110 = .ok (.iload 7, 2) := by decide +kernel
theorem dX12_laysRid_112 : decode cX12_laysRid 112 = .ok (.ishl, 1) := by decide +kernel
theorem dX12_laysRid_113 : decode cX12_laysRid 113 = .ok (.iconst (-1), 1) := by decide +kernel
theorem dX12_laysRid_114 : decode cX12_laysRid 114 = .ok (.ixor, 1) := by decide +kernel
theorem dX12_laysRid_115 : decode cX12_laysRid 115 = .ok (.iand, 1) := by decide +kernel
theorem dX12_laysRid_116 : decode cX12_laysRid 116 = .ok (.iaload, 1) := by decide +kernel
theorem dX12_laysRid_117 : decode cX12_laysRid 117 = .ok (.aload_n 0, 1) := by decide +kernel
theorem dX12_laysRid_118 : decode cX12_laysRid 118 = .ok (.iload_n 3, 1) := by decide +kernel
theorem dX12_laysRid_119 : decode cX12_laysRid 119 = .ok (.iload 7, 2) := by decide +kernel
theorem dX12_laysRid_121 : decode cX12_laysRid 121 = .ok (.iload_n 1, 1) := by decide +kernel
theorem dX12_laysRid_122 : decode cX12_laysRid 122 = .ok (.invokevirtual 449, 3) := by decide +kernel
theorem dX12_laysRid_125 : decode cX12_laysRid 125 = .ok (.iadd, 1) := by decide +kernel
theorem dX12_laysRid_126 : decode cX12_laysRid 126 = .ok (.istore 8, 2) := by decide +kernel
theorem dX12_laysRid_128 : decode cX12_laysRid 128 = .ok (.iload 8, 2) := by decide +kernel
theorem dX12_laysRid_130 : decode cX12_laysRid 130 = .ok (.iload 5, 2) := by decide +kernel
theorem dX12_laysRid_132 : decode cX12_laysRid 132 = .ok (.if_icmp .ge 8, 3) := by decide +kernel
theorem dX12_laysRid_135 : decode cX12_laysRid 135 = .ok (.iload 7, 2) := by decide +kernel
theorem dX12_laysRid_137 : decode cX12_laysRid 137 = .ok (.goto 5, 3) := by decide +kernel
theorem dX12_laysRid_140 : decode cX12_laysRid 140 = .ok (.iload 6, 2) := by decide +kernel
theorem dX12_laysRid_142 : decode cX12_laysRid 142 = .ok (.istore 6, 2) := by decide +kernel
theorem dX12_laysRid_144 : decode cX12_laysRid 144 = .ok (.iload 5, 2) := by decide +kernel
theorem dX12_laysRid_146 : decode cX12_laysRid 146 = .ok (.iload 8, 2) := by decide +kernel
theorem dX12_laysRid_148 : decode cX12_laysRid 148 = .ok (.invokestatic 128, 3) := by decide +kernel
theorem dX12_laysRid_151 : decode cX12_laysRid 151 = .ok (.istore 5, 2) := by decide +kernel
theorem dX12_laysRid_153 : decode cX12_laysRid 153 = .ok (.iinc 7 1, 3) := by decide +kernel
theorem dX12_laysRid_156 : decode cX12_laysRid 156 = .ok (.goto (-83), 3) := by decide +kernel
theorem dX12_laysRid_159 : decode cX12_laysRid 159 = .ok (.aload_n 0, 1) := by decide +kernel
theorem dX12_laysRid_160 : decode cX12_laysRid 160 = .ok (.getfield 71, 3) := by decide +kernel
theorem dX12_laysRid_163 : decode cX12_laysRid 163 = .ok (.iload_n 2, 1) := by decide +kernel
theorem dX12_laysRid_164 : decode cX12_laysRid 164 = .ok (.iload 5, 2) := by decide +kernel
theorem dX12_laysRid_166 : decode cX12_laysRid 166 = .ok (.iastore, 1) := by decide +kernel
theorem dX12_laysRid_167 : decode cX12_laysRid 167 = .ok (.aload_n 0, 1) := by decide +kernel
theorem dX12_laysRid_168 : decode cX12_laysRid 168 = .ok (.getfield 74, 3) := by decide +kernel
theorem dX12_laysRid_171 : decode cX12_laysRid 171 = .ok (.iload_n 2, 1) := by decide +kernel
theorem dX12_laysRid_172 : decode cX12_laysRid 172 = .ok (.iload 6, 2) := by decide +kernel
theorem dX12_laysRid_174 : decode cX12_laysRid 174 = .ok (.iastore, 1) := by decide +kernel
theorem dX12_laysRid_175 : decode cX12_laysRid 175 = .ok (.iinc 2 1, 3) := by decide +kernel
theorem dX12_laysRid_178 : decode cX12_laysRid 178 = .ok (.goto (-164), 3) := by decide +kernel
theorem dX12_laysRid_181 : decode cX12_laysRid 181 = .ok (.iconst 1, 1) := by decide +kernel
theorem dX12_laysRid_182 : decode cX12_laysRid 182 = .ok (.aload_n 0, 1) := by decide +kernel
theorem dX12_laysRid_183 : decode cX12_laysRid 183 = .ok (.getfield 241, 3) := by decide +kernel
theorem dX12_laysRid_186 : decode cX12_laysRid 186 = .ok (.ishl, 1) := by decide +kernel
theorem dX12_laysRid_187 : decode cX12_laysRid 187 = .ok (.iconst 1, 1) := by decide +kernel
theorem dX12_laysRid_188 : decode cX12_laysRid 188 = .ok (.isub, 1) := by decide +kernel
theorem dX12_laysRid_189 : decode cX12_laysRid 189 = .ok (.istore_n 2, 1) := by decide +kernel
theorem dX12_laysRid_190 : decode cX12_laysRid 190 = .ok (.iconst 0, 1) := by decide +kernel
theorem dX12_laysRid_191 : decode cX12_laysRid 191 = .ok (.istore_n 3, 1) := by decide +kernel
theorem dX12_laysRid_192 : decode cX12_laysRid 192 = .ok (.iload_n 3, 1) := by decide +kernel
theorem dX12_laysRid_193 : decode cX12_laysRid 193 = .ok (.aload_n 0, 1) := by decide +kernel
theorem dX12_laysRid_194 : decode cX12_laysRid 194 = .ok (.getfield 241, 3) := by decide +kernel
theorem dX12_laysRid_197 : decode cX12_laysRid 197 = .ok (.if_icmp .ge 57, 3) := by decide +kernel
theorem dX12_laysRid_200 : decode cX12_laysRid 200 = .ok (.iload_n 2, 1) := by decide +kernel
theorem dX12_laysRid_201 : decode cX12_laysRid 201 = .ok (.iload_n 3, 1) := by decide +kernel
theorem dX12_laysRid_202 : decode cX12_laysRid 202 = .ok (.ishr, 1) := by decide +kernel
theorem dX12_laysRid_203 : decode cX12_laysRid 203 = .ok (.iconst 1, 1) := by decide +kernel
theorem dX12_laysRid_204 : decode cX12_laysRid 204 = .ok (.iand, 1) := by decide +kernel
theorem dX12_laysRid_205 : decode cX12_laysRid 205 = .ok (.iconst 1, 1) := by decide +kernel
theorem dX12_laysRid_206 : decode cX12_laysRid 206 = .ok (.if_icmp .ne 42, 3) := by decide +kernel
theorem dX12_laysRid_209 : decode cX12_laysRid 209 = .ok (.aload_n 0, 1) := by decide +kernel
theorem dX12_laysRid_210 : decode cX12_laysRid 210 = .ok (.getfield 74, 3) := by decide +kernel
theorem dX12_laysRid_213 : decode cX12_laysRid 213 = .ok (.iload_n 2, 1) := by decide +kernel
theorem dX12_laysRid_214 : decode cX12_laysRid 214 = .ok (.iaload, 1) := by decide +kernel
theorem dX12_laysRid_215 : decode cX12_laysRid 215 = .ok (.istore 4, 2) := by decide +kernel
theorem dX12_laysRid_217 : decode cX12_laysRid 217 = .ok (.aload_n 0, 1) := by decide +kernel
theorem dX12_laysRid_218 : decode cX12_laysRid 218 = .ok (.getfield 77, 3) := by decide +kernel
theorem dX12_laysRid_221 : decode cX12_laysRid 221 = .ok (.iload_n 3, 1) := by decide +kernel
theorem dX12_laysRid_222 : decode cX12_laysRid 222 = .ok (.iload 4, 2) := by decide +kernel
theorem dX12_laysRid_224 : decode cX12_laysRid 224 = .ok (.iastore, 1) := by decide +kernel
theorem dX12_laysRid_225 : decode cX12_laysRid 225 = .ok (.aload_n 0, 1) := by decide +kernel
theorem dX12_laysRid_226 : decode cX12_laysRid 226 = .ok (.getfield 77, 3) := by decide +kernel
theorem dX12_laysRid_229 : decode cX12_laysRid 229 = .ok (.iload 4, 2) := by decide +kernel
theorem dX12_laysRid_231 : decode cX12_laysRid 231 = .ok (.iload_n 3, 1) := by decide +kernel
theorem dX12_laysRid_232 : decode cX12_laysRid 232 = .ok (.iastore, 1) := by decide +kernel
theorem dX12_laysRid_233 : decode cX12_laysRid 233 = .ok (.iload_n 2, 1) := by decide +kernel
theorem dX12_laysRid_234 : decode cX12_laysRid 234 = .ok (.iconst 1, 1) := by decide +kernel
theorem dX12_laysRid_235 : decode cX12_laysRid 235 = .ok (.iload_n 3, 1) := by decide +kernel
theorem dX12_laysRid_236 : decode cX12_laysRid 236 = .ok (.ishl, 1) := by decide +kernel
theorem dX12_laysRid_237 : decode cX12_laysRid 237 = .ok (.iconst (-1), 1) := by decide +kernel
theorem dX12_laysRid_238 : decode cX12_laysRid 238 = .ok (.ixor, 1) := by decide +kernel
theorem dX12_laysRid_239 : decode cX12_laysRid 239 = .ok (.iconst 1, 1) := by decide +kernel
theorem dX12_laysRid_240 : decode cX12_laysRid 240 = .ok (.iload 4, 2) := by decide +kernel
theorem dX12_laysRid_242 : decode cX12_laysRid 242 = .ok (.ishl, 1) := by decide +kernel
theorem dX12_laysRid_243 : decode cX12_laysRid 243 = .ok (.iconst (-1), 1) := by decide +kernel
theorem dX12_laysRid_244 : decode cX12_laysRid 244 = .ok (.ixor, 1) := by decide +kernel
theorem dX12_laysRid_245 : decode cX12_laysRid 245 = .ok (.iand, 1) := by decide +kernel
theorem dX12_laysRid_246 : decode cX12_laysRid 246 = .ok (.iand, 1) := by decide +kernel
theorem dX12_laysRid_247 : decode cX12_laysRid 247 = .ok (.istore_n 2, 1) := by decide +kernel
theorem dX12_laysRid_248 : decode cX12_laysRid 248 = .ok (.iinc 3 1, 3) := by decide +kernel
theorem dX12_laysRid_251 : decode cX12_laysRid 251 = .ok (.goto (-59), 3) := by decide +kernel
theorem dX12_laysRid_254 : decode cX12_laysRid 254 = .ok (.aload_n 0, 1) := by decide +kernel
theorem dX12_laysRid_255 : decode cX12_laysRid 255 = .ok (.getfield 71, 3) := by decide +kernel
theorem dX12_laysRid_258 : decode cX12_laysRid 258 = .ok (.iconst 1, 1) := by decide +kernel
theorem dX12_laysRid_259 : decode cX12_laysRid 259 = .ok (.aload_n 0, 1) := by decide +kernel
theorem dX12_laysRid_260 : decode cX12_laysRid 260 = .ok (.getfield 241, 3) := by decide +kernel
theorem dX12_laysRid_263 : decode cX12_laysRid 263 = .ok (.ishl, 1) := by decide +kernel
theorem dX12_laysRid_264 : decode cX12_laysRid 264 = .ok (.iconst 1, 1) := by decide +kernel
theorem dX12_laysRid_265 : decode cX12_laysRid 265 = .ok (.isub, 1) := by decide +kernel
theorem dX12_laysRid_266 : decode cX12_laysRid 266 = .ok (.iaload, 1) := by decide +kernel
theorem dX12_laysRid_267 : decode cX12_laysRid 267 = .ok (.ireturn, 1) := by decide +kernel
theorem dX12_laysWalls_0 : decode cX12_laysWalls 0 = .ok (.iconst 0, 1) := by decide +kernel
theorem dX12_laysWalls_1 : decode cX12_laysWalls 1 = .ok (.istore_n 1, 1) := by decide +kernel
theorem dX12_laysWalls_2 : decode cX12_laysWalls 2 = .ok (.iload_n 1, 1) := by decide +kernel
theorem dX12_laysWalls_3 : decode cX12_laysWalls 3 = .ok (.sipush 162, 3) := by decide +kernel
theorem dX12_laysWalls_6 : decode cX12_laysWalls 6 = .ok (.if_icmp .ge 16, 3) := by decide +kernel
theorem dX12_laysWalls_9 : decode cX12_laysWalls 9 = .ok (.aload_n 0, 1) := by decide +kernel
theorem dX12_laysWalls_10 : decode cX12_laysWalls 10 = .ok (.getfield 65, 3) := by decide +kernel
theorem dX12_laysWalls_13 : decode cX12_laysWalls 13 = .ok (.iload_n 1, 1) := by decide +kernel
theorem dX12_laysWalls_14 : decode cX12_laysWalls 14 = .ok (.iload_n 1, 1) := by decide +kernel
theorem dX12_laysWalls_15 : decode cX12_laysWalls 15 = .ok (.iastore, 1) := by decide +kernel
theorem dX12_laysWalls_16 : decode cX12_laysWalls 16 = .ok (.iinc 1 1, 3) := by decide +kernel
theorem dX12_laysWalls_19 : decode cX12_laysWalls 19 = .ok (.goto (-17), 3) := by decide +kernel
theorem dX12_laysWalls_22 : decode cX12_laysWalls 22 = .ok (.iconst 1, 1) := by decide +kernel
theorem dX12_laysWalls_23 : decode cX12_laysWalls 23 = .ok (.istore_n 1, 1) := by decide +kernel
theorem dX12_laysWalls_24 : decode cX12_laysWalls 24 = .ok (.iload_n 1, 1) := by decide +kernel
theorem dX12_laysWalls_25 : decode cX12_laysWalls 25 = .ok (.ifCond .eq 63, 3) := by decide +kernel
theorem dX12_laysWalls_28 : decode cX12_laysWalls 28 = .ok (.iconst 0, 1) := by decide +kernel
theorem dX12_laysWalls_29 : decode cX12_laysWalls 29 = .ok (.istore_n 1, 1) := by decide +kernel
theorem dX12_laysWalls_30 : decode cX12_laysWalls 30 = .ok (.iconst 0, 1) := by decide +kernel
theorem dX12_laysWalls_31 : decode cX12_laysWalls 31 = .ok (.istore_n 2, 1) := by decide +kernel
theorem dX12_laysWalls_32 : decode cX12_laysWalls 32 = .ok (.iload_n 2, 1) := by decide +kernel
theorem dX12_laysWalls_33 : decode cX12_laysWalls 33 = .ok (.aload_n 0, 1) := by decide +kernel
theorem dX12_laysWalls_34 : decode cX12_laysWalls 34 = .ok (.getfield 208, 3) := by decide +kernel
theorem dX12_laysWalls_37 : decode cX12_laysWalls 37 = .ok (.iconst 1, 1) := by decide +kernel
theorem dX12_laysWalls_38 : decode cX12_laysWalls 38 = .ok (.isub, 1) := by decide +kernel
theorem dX12_laysWalls_39 : decode cX12_laysWalls 39 = .ok (.if_icmp .ge 46, 3) := by decide +kernel
theorem dX12_laysWalls_42 : decode cX12_laysWalls 42 = .ok (.iconst 0, 1) := by decide +kernel
theorem dX12_laysWalls_43 : decode cX12_laysWalls 43 = .ok (.istore_n 3, 1) := by decide +kernel
theorem dX12_laysWalls_44 : decode cX12_laysWalls 44 = .ok (.iload_n 3, 1) := by decide +kernel
theorem dX12_laysWalls_45 : decode cX12_laysWalls 45 = .ok (.aload_n 0, 1) := by decide +kernel
theorem dX12_laysWalls_46 : decode cX12_laysWalls 46 = .ok (.getfield 205, 3) := by decide +kernel
theorem dX12_laysWalls_49 : decode cX12_laysWalls 49 = .ok (.iconst 1, 1) := by decide +kernel
theorem dX12_laysWalls_50 : decode cX12_laysWalls 50 = .ok (.isub, 1) := by decide +kernel
theorem dX12_laysWalls_51 : decode cX12_laysWalls 51 = .ok (.if_icmp .ge 28, 3) := by decide +kernel
theorem dX12_laysWalls_54 : decode cX12_laysWalls 54 = .ok (.aload_n 0, 1) := by decide +kernel
theorem dX12_laysWalls_55 : decode cX12_laysWalls 55 = .ok (.iload_n 3, 1) := by decide +kernel
theorem dX12_laysWalls_56 : decode cX12_laysWalls 56 = .ok (.iload_n 2, 1) := by decide +kernel
theorem dX12_laysWalls_57 : decode cX12_laysWalls 57 = .ok (.invokevirtual 428, 3) := by decide +kernel
theorem dX12_laysWalls_60 : decode cX12_laysWalls 60 = .ok (.ifCond .ne 7, 3) := by decide +kernel
theorem dX12_laysWalls_63 : decode cX12_laysWalls 63 = .ok (.iload_n 1, 1) := by decide +kernel
theorem dX12_laysWalls_64 : decode cX12_laysWalls 64 = .ok (.ifCond .eq 7, 3) := by decide +kernel
theorem dX12_laysWalls_67 : decode cX12_laysWalls 67 = .ok (.iconst 1, 1) := by decide +kernel
theorem dX12_laysWalls_68 : decode cX12_laysWalls 68 = .ok (.goto 4, 3) := by decide +kernel
theorem dX12_laysWalls_71 : decode cX12_laysWalls 71 = .ok (.iconst 0, 1) := by decide +kernel
theorem dX12_laysWalls_72 : decode cX12_laysWalls 72 = .ok (.istore_n 1, 1) := by decide +kernel
theorem dX12_laysWalls_73 : decode cX12_laysWalls 73 = .ok (.iinc 3 1, 3) := by decide +kernel
theorem dX12_laysWalls_76 : decode cX12_laysWalls 76 = .ok (.goto (-32), 3) := by decide +kernel
theorem dX12_laysWalls_79 : decode cX12_laysWalls 79 = .ok (.iinc 2 1, 3) := by decide +kernel
theorem dX12_laysWalls_82 : decode cX12_laysWalls 82 = .ok (.goto (-50), 3) := by decide +kernel
theorem dX12_laysWalls_85 : decode cX12_laysWalls 85 = .ok (.goto (-61), 3) := by decide +kernel
theorem dX12_laysWalls_88 : decode cX12_laysWalls 88 = .ok (.aload_n 0, 1) := by decide +kernel
theorem dX12_laysWalls_89 : decode cX12_laysWalls 89 = .ok (.iconst 0, 1) := by decide +kernel
theorem dX12_laysWalls_90 : decode cX12_laysWalls 90 = .ok (.putfield 431, 3) := by decide +kernel
theorem dX12_laysWalls_93 : decode cX12_laysWalls 93 = .ok (.iconst 0, 1) := by decide +kernel
theorem dX12_laysWalls_94 : decode cX12_laysWalls 94 = .ok (.istore_n 2, 1) := by decide +kernel
theorem dX12_laysWalls_95 : decode cX12_laysWalls 95 = .ok (.iload_n 2, 1) := by decide +kernel
theorem dX12_laysWalls_96 : decode cX12_laysWalls 96 = .ok (.sipush 162, 3) := by decide +kernel
theorem dX12_laysWalls_99 : decode cX12_laysWalls 99 = .ok (.if_icmp .ge 47, 3) := by decide +kernel
theorem dX12_laysWalls_102 : decode cX12_laysWalls 102 = .ok (.aload_n 0, 1) := by decide +kernel
theorem dX12_laysWalls_103 : decode cX12_laysWalls 103 = .ok (.iload_n 2, 1) := by decide +kernel
theorem dX12_laysWalls_104 : decode cX12_laysWalls 104 = .ok (.invokevirtual 293, 3) := by decide +kernel
theorem dX12_laysWalls_107 : decode cX12_laysWalls 107 = .ok (.ifCond .eq 33, 3) := by decide +kernel
theorem dX12_laysWalls_110 : decode cX12_laysWalls 110 = .ok (.aload_n 0, 1) := by decide +kernel
theorem dX12_laysWalls_111 : decode cX12_laysWalls 111 = .ok (.getfield 65, 3) := by decide +kernel
theorem dX12_laysWalls_114 : decode cX12_laysWalls 114 = .ok (.iload_n 2, 1) := by decide +kernel
theorem dX12_laysWalls_115 : decode cX12_laysWalls 115 = .ok (.iaload, 1) := by decide +kernel
theorem dX12_laysWalls_116 : decode cX12_laysWalls 116 = .ok (.iload_n 2, 1) := by decide +kernel
theorem dX12_laysWalls_117 : decode cX12_laysWalls 117 = .ok (.if_icmp .ne 23, 3) := by decide +kernel
theorem dX12_laysWalls_120 : decode cX12_laysWalls 120 = .ok (.aload_n 0, 1) := by decide +kernel
theorem dX12_laysWalls_121 : decode cX12_laysWalls 121 = .ok (.getfield 68, 3) := by decide +kernel
theorem dX12_laysWalls_124 : decode cX12_laysWalls 124 = .ok (.aload_n 0, 1) := by decide +kernel
theorem dX12_laysWalls_125 : decode cX12_laysWalls 125 = .ok (.getfield 431, 3) := by decide +kernel
theorem dX12_laysWalls_128 : decode cX12_laysWalls 128 = .ok (.iload_n 2, 1) := by decide +kernel
theorem dX12_laysWalls_129 : decode cX12_laysWalls 129 = .ok (.iastore, 1) := by decide +kernel
theorem dX12_laysWalls_130 : decode cX12_laysWalls 130 = .ok (.aload_n 0, 1) := by decide +kernel
theorem dX12_laysWalls_131 : decode cX12_laysWalls 131 = .ok (.dup, 1) := by decide +kernel
theorem dX12_laysWalls_132 : decode cX12_laysWalls 132 = .ok (.getfield 431, 3) := by decide +kernel
theorem dX12_laysWalls_135 : decode cX12_laysWalls 135 = .ok (.iconst 1, 1) := by decide +kernel
theorem dX12_laysWalls_136 : decode cX12_laysWalls 136 = .ok (.iadd, 1) := by decide +kernel
theorem dX12_laysWalls_137 : decode cX12_laysWalls 137 = .ok (.putfield 431, 3) := by decide +kernel
theorem dX12_laysWalls_140 : decode cX12_laysWalls 140 = .ok (.iinc 2 1, 3) := by decide +kernel
theorem dX12_laysWalls_143 : decode cX12_laysWalls 143 = .ok (.goto (-48), 3) := by decide +kernel
theorem dX12_laysWalls_146 : decode cX12_laysWalls 146 = .ok (.aload_n 0, 1) := by decide +kernel
theorem dX12_laysWalls_147 : decode cX12_laysWalls 147 = .ok (.getfield 431, 3) := by decide +kernel
theorem dX12_laysWalls_150 : decode cX12_laysWalls 150 = .ok (.ireturn, 1) := by decide +kernel
