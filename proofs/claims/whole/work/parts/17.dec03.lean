theorem dX12_laysCores_13 : decode cX12_laysCores 13 = .ok (.isub, 1) := by decide +kernel
theorem dX12_laysCores_14 : decode cX12_laysCores 14 = .ok (.if_icmp .ge 98, 3) := by decide +kernel
theorem dX12_laysCores_17 : decode cX12_laysCores 17 = .ok (.iconst 0, 1) := by decide +kernel
theorem dX12_laysCores_18 : decode cX12_laysCores 18 = .ok (.istore_n 2, 1) := by decide +kernel
theorem dX12_laysCores_19 : decode cX12_laysCores 19 = .ok (.iload_n 2, 1) := by decide +kernel
theorem dX12_laysCores_20 : decode cX12_laysCores 20 = .ok (.aload_n 0, 1) := by decide +kernel
theorem dX12_laysCores_21 : decode cX12_laysCores 21 = .ok (.getfield 205, 3) := by decide +kernel
theorem dX12_laysCores_24 : decode cX12_laysCores 24 = .ok (.iconst 1, 1) := by decide +kernel
theorem dX12_laysCores_25 : decode cX12_laysCores 25 = .ok (.isub, 1) := by decide +kernel
theorem dX12_laysCores_26 : decode cX12_laysCores 26 = .ok (.if_icmp .ge 80, 3) := by decide +kernel
theorem dX12_laysCores_29 : decode cX12_laysCores 29 = .ok (.aload_n 0, 1) := by decide +kernel
theorem dX12_laysCores_30 : decode cX12_laysCores 30 = .ok (.iload_n 2, 1) := by decide +kernel
theorem dX12_laysCores_31 : decode cX12_laysCores 31 = .ok (.iload_n 1, 1) := by decide +kernel
theorem dX12_laysCores_32 : decode cX12_laysCores 32 = .ok (.invokevirtual 244, 3) := by decide +kernel
theorem dX12_laysCores_35 : decode cX12_laysCores 35 = .ok (.ifCond .eq 65, 3) := by decide +kernel
theorem dX12_laysCores_38 : decode cX12_laysCores 38 = .ok (.aload_n 0, 1) := by decide +kernel
theorem dX12_laysCores_39 : decode cX12_laysCores 39 = .ok (.getfield 34, 3) := by decide +kernel
theorem dX12_laysCores_42 : decode cX12_laysCores 42 = .ok (.aload_n 0, 1) := by decide +kernel
theorem dX12_laysCores_43 : decode cX12_laysCores 43 = .ok (.getfield 241, 3) := by decide +kernel
theorem dX12_laysCores_46 : decode cX12_laysCores 46 = .ok (.iload_n 2, 1) := by decide +kernel
theorem dX12_laysCores_47 : decode cX12_laysCores 47 = .ok (.iastore, 1) := by decide +kernel
theorem dX12_laysCores_48 : decode cX12_laysCores 48 = .ok (.aload_n 0, 1) := by decide +kernel
theorem dX12_laysCores_49 : decode cX12_laysCores 49 = .ok (.getfield 37, 3) := by decide +kernel
theorem dX12_laysCores_52 : decode cX12_laysCores 52 = .ok (.aload_n 0, 1) := by decide +kernel
theorem dX12_laysCores_53 : decode cX12_laysCores 53 = .ok (.getfield 241, 3) := by decide +kernel
theorem dX12_laysCores_56 : decode cX12_laysCores 56 = .ok (.iload_n 1, 1) := by decide +kernel
theorem dX12_laysCores_57 : decode cX12_laysCores 57 = .ok (.iastore, 1) := by decide +kernel
theorem dX12_laysCores_58 : decode cX12_laysCores 58 = .ok (.aload_n 0, 1) := by decide +kernel
theorem dX12_laysCores_59 : decode cX12_laysCores 59 = .ok (.getfield 40, 3) := by decide +kernel
theorem dX12_laysCores_62 : decode cX12_laysCores 62 = .ok (.aload_n 0, 1) := by decide +kernel
theorem dX12_laysCores_63 : decode cX12_laysCores 63 = .ok (.getfield 241, 3) := by decide +kernel
theorem dX12_laysCores_66 : decode cX12_laysCores 66 = .ok (.aload_n 0, 1) := by decide +kernel
theorem dX12_laysCores_67 : decode cX12_laysCores 67 = .ok (.iload_n 2, 1) := by decide +kernel
theorem dX12_laysCores_68 : decode cX12_laysCores 68 = .ok (.iload_n 1, 1) := by decide +kernel
theorem dX12_laysCores_69 : decode cX12_laysCores 69 = .ok (.iconst 0, 1) := by decide +kernel
theorem dX12_laysCores_70 : decode cX12_laysCores 70 = .ok (.invokevirtual 221, 3) := by decide +kernel
theorem dX12_laysCores_73 : decode cX12_laysCores 73 = .ok (.iastore, 1) := by decide +kernel
theorem dX12_laysCores_74 : decode cX12_laysCores 74 = .ok (.aload_n 0, 1) := by decide +kernel
theorem dX12_laysCores_75 : decode cX12_laysCores 75 = .ok (.getfield 43, 3) := by decide +kernel
theorem dX12_laysCores_78 : decode cX12_laysCores 78 = .ok (.aload_n 0, 1) := by decide +kernel
theorem dX12_laysCores_79 : decode cX12_laysCores 79 = .ok (.getfield 241, 3) := by decide +kernel
theorem dX12_laysCores_82 : decode cX12_laysCores 82 = .ok (.aload_n 0, 1) := by decide +kernel
theorem dX12_laysCores_83 : decode cX12_laysCores 83 = .ok (.iload_n 2, 1) := by decide +kernel
theorem dX12_laysCores_84 : decode cX12_laysCores 84 = .ok (.iload_n 1, 1) := by decide +kernel
theorem dX12_laysCores_85 : decode cX12_laysCores 85 = .ok (.iconst 1, 1) := by decide +kernel
theorem dX12_laysCores_86 : decode cX12_laysCores 86 = .ok (.invokevirtual 221, 3) := by decide +kernel
theorem dX12_laysCores_89 : decode cX12_laysCores 89 = .ok (.iastore, 1) := by decide +kernel
theorem dX12_laysCores_90 : decode cX12_laysCores 90 = .ok (.aload_n 0, 1) := by decide +kernel
theorem dX12_laysCores_91 : decode cX12_laysCores 91 = .ok (.dup, 1) := by decide +kernel
theorem dX12_laysCores_92 : decode cX12_laysCores 92 = .ok (.getfield 241, 3) := by decide +kernel
theorem dX12_laysCores_95 : decode cX12_laysCores 95 = .ok (.iconst 1, 1) := by decide +kernel
theorem dX12_laysCores_96 : decode cX12_laysCores 96 = .ok (.iadd, 1) := by decide +kernel
theorem dX12_laysCores_97 : decode cX12_laysCores 97 = .ok (.putfield 241, 3) := by decide +kernel
theorem dX12_laysCores_100 : decode cX12_laysCores 100 = .ok (.iinc 2 1, 3) := by decide +kernel
theorem dX12_laysCores_103 : decode cX12_laysCores 103 = .ok (.goto (-84), 3) := by decide +kernel
theorem dX12_laysCores_106 : decode cX12_laysCores 106 = .ok (.iinc 1 1, 3) := by decide +kernel
theorem dX12_laysCores_109 : decode cX12_laysCores 109 = .ok (.goto (-102), 3) := by decide +kernel
theorem dX12_laysCores_112 : decode cX12_laysCores 112 = .ok (.iconst 0, 1) := by decide +kernel
theorem dX12_laysCores_113 : decode cX12_laysCores 113 = .ok (.istore_n 1, 1) := by decide +kernel
theorem dX12_laysCores_114 : decode cX12_laysCores 114 = .ok (.iload_n 1, 1) := by decide +kernel
theorem dX12_laysCores_115 : decode cX12_laysCores 115 = .ok (.aload_n 0, 1) := by decide +kernel
theorem dX12_laysCores_116 : decode cX12_laysCores 116 = .ok (.getfield 241, 3) := by decide +kernel
theorem dX12_laysCores_119 : decode cX12_laysCores 119 = .ok (.if_icmp .ge 20, 3) := by decide +kernel
theorem dX12_laysCores_122 : decode cX12_laysCores 122 = .ok (.aload_n 0, 1) := by decide +kernel
theorem dX12_laysCores_123 : decode cX12_laysCores 123 = .ok (.getfield 46, 3) := by decide +kernel
theorem dX12_laysCores_126 : decode cX12_laysCores 126 = .ok (.iload_n 1, 1) := by decide +kernel
theorem dX12_laysCores_127 : decode cX12_laysCores 127 = .ok (.aload_n 0, 1) := by decide +kernel
theorem dX12_laysCores_128 : decode cX12_laysCores 128 = .ok (.iload_n 1, 1) := by decide +kernel
theorem dX12_laysCores_129 : decode cX12_laysCores 129 = .ok (.invokevirtual 247, 3) := by decide +kernel
theorem dX12_laysCores_132 : decode cX12_laysCores 132 = .ok (.iastore, 1) := by decide +kernel
theorem dX12_laysCores_133 : decode cX12_laysCores 133 = .ok (.iinc 1 1, 3) := by decide +kernel
theorem dX12_laysCores_136 : decode cX12_laysCores 136 = .ok (.goto (-22), 3) := by decide +kernel
theorem dX12_laysCores_139 : decode cX12_laysCores 139 = .ok (.aload_n 0, 1) := by decide +kernel
theorem dX12_laysCores_140 : decode cX12_laysCores 140 = .ok (.getfield 241, 3) := by decide +kernel
theorem dX12_laysCores_143 : decode cX12_laysCores 143 = .ok (.ireturn, 1) := by decide +kernel
theorem dX12_directionOf_0 : decode cX12_directionOf 0 = .ok (.iload_n 0, 1) := by decide +kernel
theorem dX12_directionOf_1 : decode cX12_directionOf 1 = .ok (.ifCond .ne 15, 3) := by decide +kernel
theorem dX12_directionOf_4 : decode cX12_directionOf 4 = .ok (.iload_n 1, 1) := by decide +kernel
theorem dX12_directionOf_5 : decode cX12_directionOf 5 = .ok (.ifCond .eq 7, 3) := by decide +kernel
theorem dX12_directionOf_8 : decode cX12_directionOf 8 = .ok (.iconst 0, 1) := by decide +kernel
theorem dX12_directionOf_9 : decode cX12_directionOf 9 = .ok (.goto 16, 3) := by decide +kernel
theorem dX12_directionOf_12 : decode cX12_directionOf 12 = .ok (.iconst 2, 1) := by decide +kernel
theorem dX12_directionOf_13 : decode cX12_directionOf 13 = .ok (.goto 12, 3) := by decide +kernel
theorem dX12_directionOf_16 : decode cX12_directionOf 16 = .ok (.iload_n 1, 1) := by decide +kernel
theorem dX12_directionOf_17 : decode cX12_directionOf 17 = .ok (.ifCond .eq 7, 3) := by decide +kernel
theorem dX12_directionOf_20 : decode cX12_directionOf 20 = .ok (.iconst 1, 1) := by decide +kernel
theorem dX12_directionOf_21 : decode cX12_directionOf 21 = .ok (.goto 4, 3) := by decide +kernel
theorem dX12_directionOf_24 : decode cX12_directionOf 24 = .ok (.iconst 3, 1) := by decide +kernel
theorem dX12_directionOf_25 : decode cX12_directionOf 25 = .ok (.ireturn, 1) := by decide +kernel
theorem dX12_changes_0 : decode cX12_changes 0 = .ok (.aload_n 0, 1) := by decide +kernel
theorem dX12_changes_1 : decode cX12_changes 1 = .ok (.getfield 28, 3) := by decide +kernel
theorem dX12_changes_4 : decode cX12_changes 4 = .ok (.iload_n 1, 1) := by decide +kernel
theorem dX12_changes_5 : decode cX12_changes 5 = .ok (.iload_n 2, 1) := by decide +kernel
theorem dX12_changes_6 : decode cX12_changes 6 = .ok (.iload_n 3, 1) := by decide +kernel
theorem dX12_changes_7 : decode cX12_changes 7 = .ok (.iconst 0, 1) := by decide +kernel
theorem dX12_changes_8 : decode cX12_changes 8 = .ok (.invokestatic 211, 3) := by decide +kernel
theorem dX12_changes_11 : decode cX12_changes 11 = .ok (.dup2, 1) := by decide +kernel
theorem dX12_changes_12 : decode cX12_changes 12 = .ok (.iaload, 1) := by decide +kernel
theorem dX12_changes_13 : decode cX12_changes 13 = .ok (.iload 4, 2) := by decide +kernel
theorem dX12_changes_15 : decode cX12_changes 15 = .ok (.iadd, 1) := by decide +kernel
theorem dX12_changes_16 : decode cX12_changes 16 = .ok (.iastore, 1) := by decide +kernel
theorem dX12_changes_17 : decode cX12_changes 17 = .ok (.aload_n 0, 1) := by decide +kernel
theorem dX12_changes_18 : decode cX12_changes 18 = .ok (.getfield 28, 3) := by decide +kernel
theorem dX12_changes_21 : decode cX12_changes 21 = .ok (.iload_n 1, 1) := by decide +kernel
theorem dX12_changes_22 : decode cX12_changes 22 = .ok (.iload_n 2, 1) := by decide +kernel
theorem dX12_changes_23 : decode cX12_changes 23 = .ok (.iload_n 3, 1) := by decide +kernel
theorem dX12_changes_24 : decode cX12_changes 24 = .ok (.iconst 1, 1) := by decide +kernel
theorem dX12_changes_25 : decode cX12_changes 25 = .ok (.invokestatic 211, 3) := by decide +kernel
theorem dX12_changes_28 : decode cX12_changes 28 = .ok (.dup2, 1) := by decide +kernel
theorem dX12_changes_29 : decode cX12_changes 29 = .ok (.iaload, 1) := by decide +kernel
theorem dX12_changes_30 : decode cX12_changes 30 = .ok (.iload 5, 2) := by decide +kernel
theorem dX12_changes_32 : decode cX12_changes 32 = .ok (.iadd, 1) := by decide +kernel
theorem dX12_changes_33 : decode cX12_changes 33 = .ok (.iastore, 1) := by decide +kernel
theorem dX12_changes_34 : decode cX12_changes 34 = .ok (.return_, 1) := by decide +kernel
theorem dX12_toX_0 : decode cX12_toX 0 = .ok (.iload_n 1, 1) := by decide +kernel
theorem dX12_toX_1 : decode cX12_toX 1 = .ok (.ifCond .ne 9, 3) := by decide +kernel
theorem dX12_toX_4 : decode cX12_toX 4 = .ok (.iload_n 0, 1) := by decide +kernel
theorem dX12_toX_5 : decode cX12_toX 5 = .ok (.iconst 1, 1) := by decide +kernel
theorem dX12_toX_6 : decode cX12_toX 6 = .ok (.iadd, 1) := by decide +kernel
theorem dX12_toX_7 : decode cX12_toX 7 = .ok (.goto 15, 3) := by decide +kernel
theorem dX12_toX_10 : decode cX12_toX 10 = .ok (.iload_n 1, 1) := by decide +kernel
theorem dX12_toX_11 : decode cX12_toX 11 = .ok (.iconst 2, 1) := by decide +kernel
theorem dX12_toX_12 : decode cX12_toX 12 = .ok (.if_icmp .ne 9, 3) := by decide +kernel
theorem dX12_toX_15 : decode cX12_toX 15 = .ok (.iload_n 0, 1) := by decide +kernel
theorem dX12_toX_16 : decode cX12_toX 16 = .ok (.iconst 1, 1) := by decide +kernel
theorem dX12_toX_17 : decode cX12_toX 17 = .ok (.isub, 1) := by decide +kernel
theorem dX12_toX_18 : decode cX12_toX 18 = .ok (.goto 4, 3) := by decide +kernel
theorem dX12_toX_21 : decode cX12_toX 21 = .ok (.iload_n 0, 1) := by decide +kernel
theorem dX12_toX_22 : decode cX12_toX 22 = .ok (.ireturn, 1) := by decide +kernel
theorem dX12_toY_0 : decode cX12_toY 0 = .ok (.iload_n 1, 1) := by decide +kernel
theorem dX12_toY_1 : decode cX12_toY 1 = .ok (.iconst 1, 1) := by decide +kernel
theorem dX12_toY_2 : decode cX12_toY 2 = .ok (.if_icmp .ne 9, 3) := by decide +kernel
theorem dX12_toY_5 : decode cX12_toY 5 = .ok (.iload_n 0, 1) := by decide +kernel
theorem dX12_toY_6 : decode cX12_toY 6 = .ok (.iconst 1, 1) := by decide +kernel
theorem dX12_toY_7 : decode cX12_toY 7 = .ok (.iadd, 1) := by decide +kernel
theorem dX12_toY_8 : decode cX12_toY 8 = .ok (.goto 15, 3) := by decide +kernel
theorem dX12_toY_11 : decode cX12_toY 11 = .ok (.iload_n 1, 1) := by decide +kernel
theorem dX12_toY_12 : decode cX12_toY 12 = .ok (.iconst 3, 1) := by decide +kernel
theorem dX12_toY_13 : decode cX12_toY 13 = .ok (.if_icmp .ne 9, 3) := by decide +kernel
theorem dX12_toY_16 : decode cX12_toY 16 = .ok (.iload_n 0, 1) := by decide +kernel
theorem dX12_toY_17 : decode cX12_toY 17 = .ok (.iconst 1, 1) := by decide +kernel
theorem dX12_toY_18 : decode cX12_toY 18 = .ok (.isub, 1) := by decide +kernel
theorem dX12_toY_19 : decode cX12_toY 19 = .ok (.goto 4, 3) := by decide +kernel
theorem dX12_toY_22 : decode cX12_toY 22 = .ok (.iload_n 0, 1) := by decide +kernel
theorem dX12_toY_23 : decode cX12_toY 23 = .ok (.ireturn, 1) := by decide +kernel
theorem dX12_isFace_0 : decode cX12_isFace 0 = .ok (.iload_n 1, 1) := by decide +kernel
theorem dX12_isFace_1 : decode cX12_isFace 1 = .ok (.i2l, 1) := by decide +kernel
theorem dX12_isFace_2 : decode cX12_isFace 2 = .ok (.lconst 0, 1) := by decide +kernel
theorem dX12_isFace_3 : decode cX12_isFace 3 = .ok (.aload_n 0, 1) := by decide +kernel
theorem dX12_isFace_4 : decode cX12_isFace 4 = .ok (.getfield 205, 3) := by decide +kernel
theorem dX12_isFace_7 : decode cX12_isFace 7 = .ok (.iconst 2, 1) := by decide +kernel
theorem dX12_isFace_8 : decode cX12_isFace 8 = .ok (.isub, 1) := by decide +kernel
theorem dX12_isFace_9 : decode cX12_isFace 9 = .ok (.i2l, 1) := by decide +kernel
theorem dX12_isFace_10 : decode cX12_isFace 10 = .ok (.invokestatic 97, 3) := by decide +kernel
theorem dX12_isFace_13 : decode cX12_isFace 13 = .ok (.ifCond .eq 23, 3) := by decide +kernel
theorem dX12_isFace_16 : decode cX12_isFace 16 = .ok (.iload_n 2, 1) := by decide +kernel
theorem dX12_isFace_17 : decode cX12_isFace 17 = .ok (.i2l, 1) := by decide +kernel
theorem dX12_isFace_18 : decode cX12_isFace 18 = .ok (.lconst 0, 1) := by decide +kernel
theorem dX12_isFace_19 : decode cX12_isFace 19 = .ok (.aload_n 0, 1) := by decide +kernel
theorem dX12_isFace_20 : decode cX12_isFace 20 = .ok (.getfield 208, 3) := by decide +kernel
theorem dX12_isFace_23 : decode cX12_isFace 23 = .ok (.iconst 2, 1) := by decide +kernel
theorem dX12_isFace_24 : decode cX12_isFace 24 = .ok (.isub, 1) := by decide +kernel
theorem dX12_isFace_25 : decode cX12_isFace 25 = .ok (.i2l, 1) := by decide +kernel
theorem dX12_isFace_26 : decode cX12_isFace 26 = .ok (.invokestatic 97, 3) := by decide +kernel
theorem dX12_isFace_29 : decode cX12_isFace 29 = .ok (.ifCond .eq 7, 3) := by decide +kernel
theorem dX12_isFace_32 : decode cX12_isFace 32 = .ok (.iconst 1, 1) := by decide +kernel
theorem dX12_isFace_33 : decode cX12_isFace 33 = .ok (.goto 4, 3) := by decide +kernel
theorem dX12_isFace_36 : decode cX12_isFace 36 = .ok (.iconst 0, 1) := by decide +kernel
theorem dX12_isFace_37 : decode cX12_isFace 37 = .ok (.ireturn, 1) := by decide +kernel
theorem dX12_moves_0 : decode cX12_moves 0 = .ok (.iload_n 3, 1) := by decide +kernel
theorem dX12_moves_1 : decode cX12_moves 1 = .ok (.tableswitch 75 0 2 #[27, 45, 61], 27) := by decide +kernel
theorem dX12_moves_28 : decode cX12_moves 28 = .ok (.aload_n 0, 1) := by decide +kernel
theorem dX12_moves_29 : decode cX12_moves 29 = .ok (.iload_n 1, 1) := by decide +kernel
theorem dX12_moves_30 : decode cX12_moves 30 = .ok (.iconst 1, 1) := by decide +kernel
theorem dX12_moves_31 : decode cX12_moves 31 = .ok (.iadd, 1) := by decide +kernel
theorem dX12_moves_32 : decode cX12_moves 32 = .ok (.iload_n 2, 1) := by decide +kernel
theorem dX12_moves_33 : decode cX12_moves 33 = .ok (.iconst 1, 1) := by decide +kernel
theorem dX12_moves_34 : decode cX12_moves 34 = .ok (.iload 4, 2) := by decide +kernel
theorem dX12_moves_36 : decode cX12_moves 36 = .ok (.ineg, 1) := by decide +kernel
theorem dX12_moves_37 : decode cX12_moves 37 = .ok (.iload 5, 2) := by decide +kernel
theorem dX12_moves_39 : decode cX12_moves 39 = .ok (.ineg, 1) := by decide +kernel
theorem dX12_moves_40 : decode cX12_moves 40 = .ok (.invokevirtual 225, 3) := by decide +kernel
theorem dX12_moves_43 : decode cX12_moves 43 = .ok (.goto 46, 3) := by decide +kernel
theorem dX12_moves_46 : decode cX12_moves 46 = .ok (.aload_n 0, 1) := by decide +kernel
theorem dX12_moves_47 : decode cX12_moves 47 = .ok (.iload_n 1, 1) := by decide +kernel
theorem dX12_moves_48 : decode cX12_moves 48 = .ok (.iload_n 2, 1) := by decide +kernel
theorem dX12_moves_49 : decode cX12_moves 49 = .ok (.iconst 1, 1) := by decide +kernel
theorem dX12_moves_50 : decode cX12_moves 50 = .ok (.iadd, 1) := by decide +kernel
theorem dX12_moves_51 : decode cX12_moves 51 = .ok (.iconst 0, 1) := by decide +kernel
theorem dX12_moves_52 : decode cX12_moves 52 = .ok (.iload 4, 2) := by decide +kernel
theorem dX12_moves_54 : decode cX12_moves 54 = .ok (.iload 5, 2) := by decide +kernel
theorem dX12_moves_56 : decode cX12_moves 56 = .ok (.invokevirtual 225, 3) := by decide +kernel
theorem dX12_moves_59 : decode cX12_moves 59 = .ok (.goto 30, 3) := by decide +kernel
theorem dX12_moves_62 : decode cX12_moves 62 = .ok (.aload_n 0, 1) := by decide +kernel
theorem dX12_moves_63 : decode cX12_moves 63 = .ok (.iload_n 1, 1) := by decide +kernel
theorem dX12_moves_64 : decode cX12_moves 64 = .ok (.iload_n 2, 1) := by decide +kernel
theorem dX12_moves_65 : decode cX12_moves 65 = .ok (.iconst 1, 1) := by decide +kernel
theorem dX12_moves_66 : decode cX12_moves 66 = .ok (.iload 4, 2) := by decide +kernel
theorem dX12_moves_68 : decode cX12_moves 68 = .ok (.iload 5, 2) := by decide +kernel
theorem dX12_moves_70 : decode cX12_moves 70 = .ok (.invokevirtual 225, 3) := by decide +kernel
theorem dX12_moves_73 : decode cX12_moves 73 = .ok (.goto 16, 3) := by decide +kernel
theorem dX12_moves_76 : decode cX12_moves 76 = .ok (.aload_n 0, 1) := by decide +kernel
theorem dX12_moves_77 : decode cX12_moves 77 = .ok (.iload_n 1, 1) := by decide +kernel
theorem dX12_moves_78 : decode cX12_moves 78 = .ok (.iload_n 2, 1) := by decide +kernel
theorem dX12_moves_79 : decode cX12_moves 79 = .ok (.iconst 0, 1) := by decide +kernel
theorem dX12_moves_80 : decode cX12_moves 80 = .ok (.iload 4, 2) := by decide +kernel
theorem dX12_moves_82 : decode cX12_moves 82 = .ok (.ineg, 1) := by decide +kernel
theorem dX12_moves_83 : decode cX12_moves 83 = .ok (.iload 5, 2) := by decide +kernel
theorem dX12_moves_85 : decode cX12_moves 85 = .ok (.ineg, 1) := by decide +kernel
theorem dX12_moves_86 : decode cX12_moves 86 = .ok (.invokevirtual 225, 3) := by decide +kernel
theorem dX12_moves_89 : decode cX12_moves 89 = .ok (.iload_n 1, 1) := by decide +kernel
theorem dX12_moves_90 : decode cX12_moves 90 = .ok (.iload_n 3, 1) := by decide +kernel
theorem dX12_moves_91 : decode cX12_moves 91 = .ok (.invokestatic 282, 3) := by decide +kernel
theorem dX12_moves_94 : decode cX12_moves 94 = .ok (.istore 6, 2) := by decide +kernel
theorem dX12_moves_96 : decode cX12_moves 96 = .ok (.iload_n 2, 1) := by decide +kernel
theorem dX12_moves_97 : decode cX12_moves 97 = .ok (.iload_n 3, 1) := by decide +kernel
theorem dX12_moves_98 : decode cX12_moves 98 = .ok (.invokestatic 285, 3) := by decide +kernel
theorem dX12_moves_101 : decode cX12_moves 101 = .ok (.istore 7, 2) := by decide +kernel
theorem dX12_moves_103 : decode cX12_moves 103 = .ok (.aload_n 0, 1) := by decide +kernel
theorem dX12_moves_104 : decode cX12_moves 104 = .ok (.iload 6, 2) := by decide +kernel
theorem dX12_moves_106 : decode cX12_moves 106 = .ok (.iload 7, 2) := by decide +kernel
theorem dX12_moves_108 : decode cX12_moves 108 = .ok (.invokevirtual 288, 3) := by decide +kernel
theorem dX12_moves_111 : decode cX12_moves 111 = .ok (.ifCond .ne 7, 3) := by decide +kernel
theorem dX12_moves_114 : decode cX12_moves 114 = .ok (.iconst 3, 1) := by decide +kernel
theorem dX12_moves_115 : decode cX12_moves 115 = .ok (.goto 19, 3) := by decide +kernel
theorem dX12_moves_118 : decode cX12_moves 118 = .ok (.aload_n 0, 1) := by decide +kernel
theorem dX12_moves_119 : decode cX12_moves 119 = .ok (.iload 6, 2) := by decide +kernel
theorem dX12_moves_121 : decode cX12_moves 121 = .ok (.iload 7, 2) := by decide +kernel
theorem dX12_moves_123 : decode cX12_moves 123 = .ok (.invokevirtual 244, 3) := by decide +kernel
theorem dX12_moves_126 : decode cX12_moves 126 = .ok (.ifCond .eq 7, 3) := by decide +kernel
theorem dX12_moves_129 : decode cX12_moves 129 = .ok (.iconst 0, 1) := by decide +kernel
theorem dX12_moves_130 : decode cX12_moves 130 = .ok (.goto 4, 3) := by decide +kernel
theorem dX12_moves_133 : decode cX12_moves 133 = .ok (.iconst 2, 1) := by decide +kernel
theorem dX12_moves_134 : decode cX12_moves 134 = .ok (.ireturn, 1) := by decide +kernel
theorem dX12_round_0 : decode cX12_round 0 = .ok (.aload_n 0, 1) := by decide +kernel
theorem dX12_round_1 : decode cX12_round 1 = .ok (.invokevirtual 238, 3) := by decide +kernel
theorem dX12_round_4 : decode cX12_round 4 = .ok (.pop, 1) := by decide +kernel
theorem dX12_round_5 : decode cX12_round 5 = .ok (.aload_n 0, 1) := by decide +kernel
theorem dX12_round_6 : decode cX12_round 6 = .ok (.getfield 241, 3) := by decide +kernel
theorem dX12_round_9 : decode cX12_round 9 = .ok (.istore_n 1, 1) := by decide +kernel
theorem dX12_round_10 : decode cX12_round 10 = .ok (.iconst 0, 1) := by decide +kernel
theorem dX12_round_11 : decode cX12_round 11 = .ok (.istore_n 2, 1) := by decide +kernel
theorem dX12_round_12 : decode cX12_round 12 = .ok (.iload_n 2, 1) := by decide +kernel
theorem dX12_round_13 : decode cX12_round 13 = .ok (.iload_n 1, 1) := by decide +kernel
theorem dX12_round_14 : decode cX12_round 14 = .ok (.if_icmp .ge 181, 3) := by decide +kernel
theorem dX12_round_17 : decode cX12_round 17 = .ok (.aload_n 0, 1) := by decide +kernel
theorem dX12_round_18 : decode cX12_round 18 = .ok (.getfield 34, 3) := by decide +kernel
theorem dX12_round_21 : decode cX12_round 21 = .ok (.iload_n 2, 1) := by decide +kernel
theorem dX12_round_22 : decode cX12_round 22 = .ok (.iaload, 1) := by decide +kernel
theorem dX12_round_23 : decode cX12_round 23 = .ok (.istore_n 3, 1) := by decide +kernel
theorem dX12_round_24 : decode cX12_round 24 = .ok (.aload_n 0, 1) := by decide +kernel
theorem dX12_round_25 : decode cX12_round 25 = .ok (.getfield 37, 3) := by decide +kernel
theorem dX12_round_28 : decode cX12_round 28 = .ok (.iload_n 2, 1) := by decide +kernel
theorem dX12_round_29 : decode cX12_round 29 = .ok (.iaload, 1) := by decide +kernel
theorem dX12_round_30 : decode cX12_round 30 = .ok (.istore 4, 2) := by decide +kernel
theorem dX12_round_32 : decode cX12_round 32 = .ok (.aload_n 0, 1) := by decide +kernel
theorem dX12_round_33 : decode cX12_round 33 = .ok (.getfield 46, 3) := by decide +kernel
theorem dX12_round_36 : decode cX12_round 36 = .ok (.iload_n 2, 1) := by decide +kernel
theorem dX12_round_37 : decode cX12_round 37 = .ok (.iaload, 1) := by decide +kernel
theorem dX12_round_38 : decode cX12_round 38 = .ok (.invokestatic 370, 3) := by decide +kernel
theorem dX12_round_41 : decode cX12_round 41 = .ok (.aload_n 0, 1) := by decide +kernel
theorem dX12_round_42 : decode cX12_round 42 = .ok (.getfield 31, 3) := by decide +kernel
theorem dX12_round_45 : decode cX12_round 45 = .ok (.iconst 2, 1) := by decide +kernel
theorem dX12_round_46 : decode cX12_round 46 = .ok (.iaload, 1) := by decide +kernel
theorem dX12_round_47 : decode cX12_round 47 = .ok (.if_icmp .le 41, 3) := by decide +kernel
theorem dX12_round_50 : decode cX12_round 50 = .ok (.aload_n 0, 1) := by decide +kernel
theorem dX12_round_51 : decode cX12_round 51 = .ok (.iload_n 3, 1) := by decide +kernel
theorem dX12_round_52 : decode cX12_round 52 = .ok (.iload 4, 2) := by decide +kernel
theorem dX12_round_54 : decode cX12_round 54 = .ok (.iconst 0, 1) := by decide +kernel
theorem dX12_round_55 : decode cX12_round 55 = .ok (.invokevirtual 221, 3) := by decide +kernel
theorem dX12_round_58 : decode cX12_round 58 = .ok (.aload_n 0, 1) := by decide +kernel
theorem dX12_round_59 : decode cX12_round 59 = .ok (.getfield 40, 3) := by decide +kernel
theorem dX12_round_62 : decode cX12_round 62 = .ok (.iload_n 2, 1) := by decide +kernel
theorem dX12_round_63 : decode cX12_round 63 = .ok (.iaload, 1) := by decide +kernel
theorem dX12_round_64 : decode cX12_round 64 = .ok (.if_icmp .ne 24, 3) := by decide +kernel
theorem dX12_round_67 : decode cX12_round 67 = .ok (.aload_n 0, 1) := by decide +kernel
theorem dX12_round_68 : decode cX12_round 68 = .ok (.iload_n 3, 1) := by decide +kernel
theorem dX12_round_69 : decode cX12_round 69 = .ok (.iload 4, 2) := by decide +kernel
theorem dX12_round_71 : decode cX12_round 71 = .ok (.iconst 1, 1) := by decide +kernel
theorem dX12_round_72 : decode cX12_round 72 = .ok (.invokevirtual 221, 3) := by decide +kernel
theorem dX12_round_75 : decode cX12_round 75 = .ok (.aload_n 0, 1) := by decide +kernel
theorem dX12_round_76 : decode cX12_round 76 = .ok (.getfield 43, 3) := by decide +kernel
theorem dX12_round_79 : decode cX12_round 79 = .ok (.iload_n 2, 1) := by decide +kernel
theorem dX12_round_80 : decode cX12_round 80 = .ok (.iaload, 1) := by decide +kernel
theorem dX12_round_81 : decode cX12_round 81 = .ok (.if_icmp .ne 7, 3) := by decide +kernel
theorem dX12_round_84 : decode cX12_round 84 = .ok (.iconst 1, 1) := by decide +kernel
theorem dX12_round_85 : decode cX12_round 85 = .ok (.goto 4, 3) := by decide +kernel
theorem dX12_round_88 : decode cX12_round 88 = .ok (.iconst 0, 1) := by decide +kernel
theorem dX12_round_89 : decode cX12_round 89 = .ok (.istore 5, 2) := by decide +kernel
theorem dX12_round_91 : decode cX12_round 91 = .ok (.iload 5, 2) := by decide +kernel
theorem dX12_round_93 : decode cX12_round 93 = .ok (.ifCond .eq 96, 3) := by decide +kernel
theorem dX12_round_96 : decode cX12_round 96 = .ok (.aload_n 0, 1) := by decide +kernel
theorem dX12_round_97 : decode cX12_round 97 = .ok (.iload_n 3, 1) := by decide +kernel
theorem dX12_round_98 : decode cX12_round 98 = .ok (.iload 4, 2) := by decide +kernel
theorem dX12_round_100 : decode cX12_round 100 = .ok (.aload_n 0, 1) := by decide +kernel
theorem dX12_round_101 : decode cX12_round 101 = .ok (.iload_n 2, 1) := by decide +kernel
theorem dX12_round_102 : decode cX12_round 102 = .ok (.invokevirtual 269, 3) := by decide +kernel
theorem dX12_round_105 : decode cX12_round 105 = .ok (.aload_n 0, 1) := by decide +kernel
theorem dX12_round_106 : decode cX12_round 106 = .ok (.getfield 46, 3) := by decide +kernel
theorem dX12_round_109 : decode cX12_round 109 = .ok (.iload_n 2, 1) := by decide +kernel
theorem dX12_round_110 : decode cX12_round 110 = .ok (.iaload, 1) := by decide +kernel
theorem dX12_round_111 : decode cX12_round 111 = .ok (.ifCond .le 7, 3) := by decide +kernel
theorem dX12_round_114 : decode cX12_round 114 = .ok (.iconst 1, 1) := by decide +kernel
theorem dX12_round_115 : decode cX12_round 115 = .ok (.goto 4, 3) := by decide +kernel
theorem dX12_round_118 : decode cX12_round 118 = .ok (.iconst 0, 1) := by decide +kernel
theorem dX12_round_119 : decode cX12_round 119 = .ok (.invokestatic 372, 3) := by decide +kernel
theorem dX12_round_122 : decode cX12_round 122 = .ok (.aload_n 0, 1) := by decide +kernel
theorem dX12_round_123 : decode cX12_round 123 = .ok (.getfield 40, 3) := by decide +kernel
theorem dX12_round_126 : decode cX12_round 126 = .ok (.iload_n 2, 1) := by decide +kernel
theorem dX12_round_127 : decode cX12_round 127 = .ok (.iaload, 1) := by decide +kernel
theorem dX12_round_128 : decode cX12_round 128 = .ok (.aload_n 0, 1) := by decide +kernel
theorem dX12_round_129 : decode cX12_round 129 = .ok (.getfield 43, 3) := by decide +kernel
theorem dX12_round_132 : decode cX12_round 132 = .ok (.iload_n 2, 1) := by decide +kernel
theorem dX12_round_133 : decode cX12_round 133 = .ok (.iaload, 1) := by decide +kernel
theorem dX12_round_134 : decode cX12_round 134 = .ok (.invokevirtual 367, 3) := by decide +kernel
theorem dX12_round_137 : decode cX12_round 137 = .ok (.istore 6, 2) := by decide +kernel
theorem dX12_round_139 : decode cX12_round 139 = .ok (.aload_n 0, 1) := by decide +kernel
theorem dX12_round_140 : decode cX12_round 140 = .ok (.dup, 1) := by decide +kernel
theorem dX12_round_141 : decode cX12_round 141 = .ok (.getfield 376, 3) := by decide +kernel
theorem dX12_round_144 : decode cX12_round 144 = .ok (.iconst 1, 1) := by decide +kernel
theorem dX12_round_145 : decode cX12_round 145 = .ok (.iadd, 1) := by decide +kernel
theorem dX12_round_146 : decode cX12_round 146 = .ok (.putfield 376, 3) := by decide +kernel
theorem dX12_round_149 : decode cX12_round 149 = .ok (.aload_n 0, 1) := by decide +kernel
theorem dX12_round_150 : decode cX12_round 150 = .ok (.dup, 1) := by decide +kernel
theorem dX12_round_151 : decode cX12_round 151 = .ok (.getfield 379, 3) := by decide +kernel
theorem dX12_round_154 : decode cX12_round 154 = .ok (.iload 6, 2) := by decide +kernel
theorem dX12_round_156 : decode cX12_round 156 = .ok (.iconst 2, 1) := by decide +kernel
theorem dX12_round_157 : decode cX12_round 157 = .ok (.if_icmp .ne 7, 3) := by decide +kernel
theorem dX12_round_160 : decode cX12_round 160 = .ok (.iconst 1, 1) := by decide +kernel
theorem dX12_round_161 : decode cX12_round 161 = .ok (.goto 4, 3) := by decide +kernel
theorem dX12_round_164 : decode cX12_round 164 = .ok (.iconst 0, 1) := by decide +kernel
theorem dX12_round_165 : decode cX12_round 165 = .ok (.iadd, 1) := by decide +kernel
theorem dX12_round_166 : decode cX12_round 166 = .ok (.putfield 379, 3) := by decide +kernel
theorem dX12_round_169 : decode cX12_round 169 = .ok (.aload_n 0, 1) := by decide +kernel
theorem dX12_round_170 : decode cX12_round 170 = .ok (.dup, 1) := by decide +kernel
theorem dX12_round_171 : decode cX12_round 171 = .ok (.getfield 382, 3) := by decide +kernel
theorem dX12_round_174 : decode cX12_round 174 = .ok (.iload 6, 2) := by decide +kernel
theorem dX12_round_176 : decode cX12_round 176 = .ok (.iconst 3, 1) := by decide +kernel
theorem dX12_round_177 : decode cX12_round 177 = .ok (.if_icmp .ne 7, 3) := by decide +kernel
theorem dX12_round_180 : decode cX12_round 180 = .ok (.iconst 1, 1) := by decide +kernel
theorem dX12_round_181 : decode cX12_round 181 = .ok (.goto 4, 3) := by decide +kernel
theorem dX12_round_184 : decode cX12_round 184 = .ok (.iconst 0, 1) := by decide +kernel
theorem dX12_round_185 : decode cX12_round 185 = .ok (.iadd, 1) := by decide +kernel
theorem dX12_round_186 : decode cX12_round 186 = .ok (.putfield 382, 3) := by decide +kernel
theorem dX12_round_189 : decode cX12_round 189 = .ok (.iinc 2 1, 3) := by decide +kernel
theorem dX12_round_192 : decode cX12_round 192 = .ok (.goto (-180), 3) := by decide +kernel
theorem dX12_round_195 : decode cX12_round 195 = .ok (.aload_n 0, 1) := by decide +kernel
theorem dX12_round_196 : decode cX12_round 196 = .ok (.getfield 28, 3) := by decide +kernel
theorem dX12_round_199 : decode cX12_round 199 = .ok (.sipush 325, 3) := by decide +kernel
theorem dX12_round_202 : decode cX12_round 202 = .ok (.dup2, 1) := by decide +kernel
theorem dX12_round_203 : decode cX12_round 203 = .ok (.iaload, 1) := by decide +kernel
theorem dX12_round_204 : decode cX12_round 204 = .ok (.iconst 1, 1) := by decide +kernel
theorem dX12_round_205 : decode cX12_round 205 = .ok (.iadd, 1) := by decide +kernel
theorem dX12_round_206 : decode cX12_round 206 = .ok (.iastore, 1) := by decide +kernel
theorem dX12_round_207 : decode cX12_round 207 = .ok (.return_, 1) := by decide +kernel
theorem dX12_squareApart_0 : decode cX12_squareApart 0 = .ok (.aload_n 0, 1) := by decide +kernel
theorem dX12_squareApart_1 : decode cX12_squareApart 1 = .ok (.getfield 34, 3) := by decide +kernel
theorem dX12_squareApart_4 : decode cX12_squareApart 4 = .ok (.iload_n 1, 1) := by decide +kernel
theorem dX12_squareApart_5 : decode cX12_squareApart 5 = .ok (.iaload, 1) := by decide +kernel
theorem dX12_squareApart_6 : decode cX12_squareApart 6 = .ok (.aload_n 0, 1) := by decide +kernel
theorem dX12_squareApart_7 : decode cX12_squareApart 7 = .ok (.getfield 34, 3) := by decide +kernel
theorem dX12_squareApart_10 : decode cX12_squareApart 10 = .ok (.iload_n 2, 1) := by decide +kernel
theorem dX12_squareApart_11 : decode cX12_squareApart 11 = .ok (.iaload, 1) := by decide +kernel
theorem dX12_squareApart_12 : decode cX12_squareApart 12 = .ok (.isub, 1) := by decide +kernel
theorem dX12_squareApart_13 : decode cX12_squareApart 13 = .ok (.istore_n 3, 1) := by decide +kernel
theorem dX12_squareApart_14 : decode cX12_squareApart 14 = .ok (.aload_n 0, 1) := by decide +kernel
theorem dX12_squareApart_15 : decode cX12_squareApart 15 = .ok (.getfield 37, 3) := by decide +kernel
theorem dX12_squareApart_18 : decode cX12_squareApart 18 = .ok (.iload_n 1, 1) := by decide +kernel
theorem dX12_squareApart_19 : decode cX12_squareApart 19 = .ok (.iaload, 1) := by decide +kernel
theorem dX12_squareApart_20 : decode cX12_squareApart 20 = .ok (.aload_n 0, 1) := by decide +kernel
theorem dX12_squareApart_21 : decode cX12_squareApart 21 = .ok (.getfield 37, 3) := by decide +kernel
theorem dX12_squareApart_24 : decode cX12_squareApart 24 = .ok (.iload_n 2, 1) := by decide +kernel
theorem dX12_squareApart_25 : decode cX12_squareApart 25 = .ok (.iaload, 1) := by decide +kernel
theorem dX12_squareApart_26 : decode cX12_squareApart 26 = .ok (.isub, 1) := by decide +kernel
theorem dX12_squareApart_27 : decode cX12_squareApart 27 = .ok (.istore 4, 2) := by decide +kernel
theorem dX12_squareApart_29 : decode cX12_squareApart 29 = .ok (.iload_n 3, 1) := by decide +kernel
theorem dX12_squareApart_30 : decode cX12_squareApart 30 = .ok (.iload_n 3, 1) := by decide +kernel
theorem dX12_squareApart_31 : decode cX12_squareApart 31 = .ok (.imul, 1) := by decide +kernel
theorem dX12_squareApart_32 : decode cX12_squareApart 32 = .ok (.iload 4, 2) := by decide +kernel
theorem dX12_squareApart_34 : decode cX12_squareApart 34 = .ok (.iload 4, 2) := by decide +kernel
theorem dX12_squareApart_36 : decode cX12_squareApart 36 = .ok (.imul, 1) := by decide +kernel
theorem dX12_squareApart_37 : decode cX12_squareApart 37 = .ok (.iadd, 1) := by decide +kernel
theorem dX12_squareApart_38 : decode cX12_squareApart 38 = .ok (.ireturn, 1) := by decide +kernel
theorem dX12_energy_0 : decode cX12_energy 0 = .ok (.iconst 0, 1) := by decide +kernel
theorem dX12_energy_1 : decode cX12_energy 1 = .ok (.istore_n 1, 1) := by decide +kernel
theorem dX12_energy_2 : decode cX12_energy 2 = .ok (.iconst 0, 1) := by decide +kernel
theorem dX12_energy_3 : decode cX12_energy 3 = .ok (.istore_n 2, 1) := by decide +kernel
theorem dX12_energy_4 : decode cX12_energy 4 = .ok (.iload_n 2, 1) := by decide +kernel
theorem dX12_energy_5 : decode cX12_energy 5 = .ok (.aload_n 0, 1) := by decide +kernel
theorem dX12_energy_6 : decode cX12_energy 6 = .ok (.getfield 241, 3) := by decide +kernel
theorem dX12_energy_9 : decode cX12_energy 9 = .ok (.if_icmp .ge 100, 3) := by decide +kernel
theorem dX12_energy_12 : decode cX12_energy 12 = .ok (.iload_n 1, 1) := by decide +kernel
theorem dX12_energy_13 : decode cX12_energy 13 = .ok (.bipush 50, 2) := by decide +kernel
theorem dX12_energy_15 : decode cX12_energy 15 = .ok (.aload_n 0, 1) := by decide +kernel
theorem dX12_energy_16 : decode cX12_energy 16 = .ok (.getfield 40, 3) := by decide +kernel
theorem dX12_energy_19 : decode cX12_energy 19 = .ok (.iload_n 2, 1) := by decide +kernel
theorem dX12_energy_20 : decode cX12_energy 20 = .ok (.iaload, 1) := by decide +kernel
theorem dX12_energy_21 : decode cX12_energy 21 = .ok (.aload_n 0, 1) := by decide +kernel
theorem dX12_energy_22 : decode cX12_energy 22 = .ok (.getfield 40, 3) := by decide +kernel
theorem dX12_energy_25 : decode cX12_energy 25 = .ok (.iload_n 2, 1) := by decide +kernel
theorem dX12_energy_26 : decode cX12_energy 26 = .ok (.iaload, 1) := by decide +kernel
theorem dX12_energy_27 : decode cX12_energy 27 = .ok (.imul, 1) := by decide +kernel
theorem dX12_energy_28 : decode cX12_energy 28 = .ok (.aload_n 0, 1) := by decide +kernel
theorem dX12_energy_29 : decode cX12_energy 29 = .ok (.getfield 43, 3) := by decide +kernel
theorem dX12_energy_32 : decode cX12_energy 32 = .ok (.iload_n 2, 1) := by decide +kernel
theorem dX12_energy_33 : decode cX12_energy 33 = .ok (.iaload, 1) := by decide +kernel
theorem dX12_energy_34 : decode cX12_energy 34 = .ok (.aload_n 0, 1) := by decide +kernel
theorem dX12_energy_35 : decode cX12_energy 35 = .ok (.getfield 43, 3) := by decide +kernel
theorem dX12_energy_38 : decode cX12_energy 38 = .ok (.iload_n 2, 1) := by decide +kernel
theorem dX12_energy_39 : decode cX12_energy 39 = .ok (.iaload, 1) := by decide +kernel
theorem dX12_energy_40 : decode cX12_energy 40 = .ok (.imul, 1) := by decide +kernel
theorem dX12_energy_41 : decode cX12_energy 41 = .ok (.iadd, 1) := by decide +kernel
theorem dX12_energy_42 : decode cX12_energy 42 = .ok (.imul, 1) := by decide +kernel
theorem dX12_energy_43 : decode cX12_energy 43 = .ok (.iadd, 1) := by decide +kernel
theorem dX12_energy_44 : decode cX12_energy 44 = .ok (.istore_n 1, 1) := by decide +kernel
theorem dX12_energy_45 : decode cX12_energy 45 = .ok (.iload_n 2, 1) := by decide +kernel
theorem dX12_energy_46 : decode cX12_energy 46 = .ok (.iconst 1, 1) := by decide +kernel
theorem dX12_energy_47 : decode cX12_energy 47 = .ok (.iadd, 1) := by decide +kernel
theorem dX12_energy_48 : decode cX12_energy 48 = .ok (.istore_n 3, 1) := by decide +kernel
theorem dX12_energy_49 : decode cX12_energy 49 = .ok (.iload_n 3, 1) := by decide +kernel
theorem dX12_energy_50 : decode cX12_energy 50 = .ok (.aload_n 0, 1) := by decide +kernel
theorem dX12_energy_51 : decode cX12_energy 51 = .ok (.getfield 241, 3) := by decide +kernel
theorem dX12_energy_54 : decode cX12_energy 54 = .ok (.if_icmp .ge 49, 3) := by decide +kernel
theorem dX12_energy_57 : decode cX12_energy 57 = .ok (.iload_n 1, 1) := by decide +kernel
theorem dX12_energy_58 : decode cX12_energy 58 = .ok (.bipush 100, 2) := by decide +kernel
theorem dX12_energy_60 : decode cX12_energy 60 = .ok (.aload_n 0, 1) := by decide +kernel
theorem dX12_energy_61 : decode cX12_energy 61 = .ok (.getfield 40, 3) := by decide +kernel
theorem dX12_energy_64 : decode cX12_energy 64 = .ok (.iload_n 2, 1) := by decide +kernel
theorem dX12_energy_65 : decode cX12_energy 65 = .ok (.iaload, 1) := by decide +kernel
theorem dX12_energy_66 : decode cX12_energy 66 = .ok (.aload_n 0, 1) := by decide +kernel
theorem dX12_energy_67 : decode cX12_energy 67 = .ok (.getfield 40, 3) := by decide +kernel
theorem dX12_energy_70 : decode cX12_energy 70 = .ok (.iload_n 3, 1) := by decide +kernel
theorem dX12_energy_71 : decode cX12_energy 71 = .ok (.iaload, 1) := by decide +kernel
theorem dX12_energy_72 : decode cX12_energy 72 = .ok (.imul, 1) := by decide +kernel
theorem dX12_energy_73 : decode cX12_energy 73 = .ok (.aload_n 0, 1) := by decide +kernel
theorem dX12_energy_74 : decode cX12_energy 74 = .ok (.getfield 43, 3) := by decide +kernel
theorem dX12_energy_77 : decode cX12_energy 77 = .ok (.iload_n 2, 1) := by decide +kernel
theorem dX12_energy_78 : decode cX12_energy 78 = .ok (.iaload, 1) := by decide +kernel
theorem dX12_energy_79 : decode cX12_energy 79 = .ok (.aload_n 0, 1) := by decide +kernel
theorem dX12_energy_80 : decode cX12_energy 80 = .ok (.getfield 43, 3) := by decide +kernel
theorem dX12_energy_83 : decode cX12_energy 83 = .ok (.iload_n 3, 1) := by decide +kernel
theorem dX12_energy_84 : decode cX12_energy 84 = .ok (.iaload, 1) := by decide +kernel
theorem dX12_energy_85 : decode cX12_energy 85 = .ok (.imul, 1) := by decide +kernel
theorem dX12_energy_86 : decode cX12_energy 86 = .ok (.iadd, 1) := by decide +kernel
theorem dX12_energy_87 : decode cX12_energy 87 = .ok (.imul, 1) := by decide +kernel
theorem dX12_energy_88 : decode cX12_energy 88 = .ok (.aload_n 0, 1) := by decide +kernel
theorem dX12_energy_89 : decode cX12_energy 89 = .ok (.iload_n 2, 1) := by decide +kernel
theorem dX12_energy_90 : decode cX12_energy 90 = .ok (.iload_n 3, 1) := by decide +kernel
theorem dX12_energy_91 : decode cX12_energy 91 = .ok (.invokevirtual 303, 3) := by decide +kernel
theorem dX12_energy_94 : decode cX12_energy 94 = .ok (.idiv, 1) := by decide +kernel
theorem dX12_energy_95 : decode cX12_energy 95 = .ok (.iadd, 1) := by decide +kernel
theorem dX12_energy_96 : decode cX12_energy 96 = .ok (.istore_n 1, 1) := by decide +kernel
theorem dX12_energy_97 : decode cX12_energy 97 = .ok (.iinc 3 1, 3) := by decide +kernel
theorem dX12_energy_100 : decode cX12_energy 100 = .ok (.goto (-51), 3) := by decide +kernel
theorem dX12_energy_103 : decode cX12_energy 103 = .ok (.iinc 2 1, 3) := by decide +kernel
theorem dX12_energy_106 : decode cX12_energy 106 = .ok (.goto (-102), 3) := by decide +kernel
theorem dX12_energy_109 : decode cX12_energy 109 = .ok (.iload_n 1, 1) := by decide +kernel
theorem dX12_energy_110 : decode cX12_energy 110 = .ok (.ireturn, 1) := by decide +kernel
theorem dX12_isSite_0 : decode cX12_isSite 0 = .ok (.iload_n 1, 1) := by decide +kernel
theorem dX12_isSite_1 : decode cX12_isSite 1 = .ok (.i2l, 1) := by decide +kernel
theorem dX12_isSite_2 : decode cX12_isSite 2 = .ok (.lconst 0, 1) := by decide +kernel
theorem dX12_isSite_3 : decode cX12_isSite 3 = .ok (.aload_n 0, 1) := by decide +kernel
theorem dX12_isSite_4 : decode cX12_isSite 4 = .ok (.getfield 205, 3) := by decide +kernel
theorem dX12_isSite_7 : decode cX12_isSite 7 = .ok (.iconst 1, 1) := by decide +kernel
theorem dX12_isSite_8 : decode cX12_isSite 8 = .ok (.isub, 1) := by decide +kernel
theorem dX12_isSite_9 : decode cX12_isSite 9 = .ok (.i2l, 1) := by decide +kernel
theorem dX12_isSite_10 : decode cX12_isSite 10 = .ok (.invokestatic 97, 3) := by decide +kernel
theorem dX12_isSite_13 : decode cX12_isSite 13 = .ok (.ifCond .eq 23, 3) := by decide +kernel
theorem dX12_isSite_16 : decode cX12_isSite 16 = .ok (.iload_n 2, 1) := by decide +kernel
theorem dX12_isSite_17 : decode cX12_isSite 17 = .ok (.i2l, 1) := by decide +kernel
theorem dX12_isSite_18 : decode cX12_isSite 18 = .ok (.lconst 0, 1) := by decide +kernel
theorem dX12_isSite_19 : decode cX12_isSite 19 = .ok (.aload_n 0, 1) := by decide +kernel
theorem dX12_isSite_20 : decode cX12_isSite 20 = .ok (.getfield 208, 3) := by decide +kernel
theorem dX12_isSite_23 : decode cX12_isSite 23 = .ok (.iconst 1, 1) := by decide +kernel
theorem dX12_isSite_24 : decode cX12_isSite 24 = .ok (.isub, 1) := by decide +kernel
theorem dX12_isSite_25 : decode cX12_isSite 25 = .ok (.i2l, 1) := by decide +kernel
theorem dX12_isSite_26 : decode cX12_isSite 26 = .ok (.invokestatic 97, 3) := by decide +kernel
theorem dX12_isSite_29 : decode cX12_isSite 29 = .ok (.ifCond .eq 7, 3) := by decide +kernel
theorem dX12_isSite_32 : decode cX12_isSite 32 = .ok (.iconst 1, 1) := by decide +kernel
theorem dX12_isSite_33 : decode cX12_isSite 33 = .ok (.goto 4, 3) := by decide +kernel
theorem dX12_isSite_36 : decode cX12_isSite 36 = .ok (.iconst 0, 1) := by decide +kernel
theorem dX12_isSite_37 : decode cX12_isSite 37 = .ok (.ireturn, 1) := by decide +kernel
theorem dX12_isLink_0 : decode cX12_isLink 0 = .ok (.iload_n 3, 1) := by decide +kernel
theorem dX12_isLink_1 : decode cX12_isLink 1 = .ok (.ifCond .eq 30, 3) := by decide +kernel
theorem dX12_isLink_4 : decode cX12_isLink 4 = .ok (.aload_n 0, 1) := by decide +kernel
theorem dX12_isLink_5 : decode cX12_isLink 5 = .ok (.iload_n 1, 1) := by decide +kernel
theorem dX12_isLink_6 : decode cX12_isLink 6 = .ok (.iload_n 2, 1) := by decide +kernel
theorem dX12_isLink_7 : decode cX12_isLink 7 = .ok (.invokevirtual 215, 3) := by decide +kernel
theorem dX12_isLink_10 : decode cX12_isLink 10 = .ok (.ifCond .eq 17, 3) := by decide +kernel
theorem dX12_isLink_13 : decode cX12_isLink 13 = .ok (.iload_n 2, 1) := by decide +kernel
theorem dX12_isLink_14 : decode cX12_isLink 14 = .ok (.aload_n 0, 1) := by decide +kernel
theorem dX12_isLink_15 : decode cX12_isLink 15 = .ok (.getfield 208, 3) := by decide +kernel
theorem dX12_isLink_18 : decode cX12_isLink 18 = .ok (.iconst 1, 1) := by decide +kernel
theorem dX12_isLink_19 : decode cX12_isLink 19 = .ok (.isub, 1) := by decide +kernel
theorem dX12_isLink_20 : decode cX12_isLink 20 = .ok (.if_icmp .ge 7, 3) := by decide +kernel
theorem dX12_isLink_23 : decode cX12_isLink 23 = .ok (.iconst 1, 1) := by decide +kernel
theorem dX12_isLink_24 : decode cX12_isLink 24 = .ok (.goto 31, 3) := by decide +kernel
theorem dX12_isLink_27 : decode cX12_isLink 27 = .ok (.iconst 0, 1) := by decide +kernel
theorem dX12_isLink_28 : decode cX12_isLink 28 = .ok (.goto 27, 3) := by decide +kernel
theorem dX12_isLink_31 : decode cX12_isLink 31 = .ok (.aload_n 0, 1) := by decide +kernel
theorem dX12_isLink_32 : decode cX12_isLink 32 = .ok (.iload_n 1, 1) := by decide +kernel
theorem dX12_isLink_33 : decode cX12_isLink 33 = .ok (.iload_n 2, 1) := by decide +kernel
theorem dX12_isLink_34 : decode cX12_isLink 34 = .ok (.invokevirtual 215, 3) := by decide +kernel
theorem dX12_isLink_37 : decode cX12_isLink 37 = .ok (.ifCond .eq 17, 3) := by decide +kernel
theorem dX12_isLink_40 : decode cX12_isLink 40 = .ok (.iload_n 1, 1) := by decide +kernel
theorem dX12_isLink_41 : decode cX12_isLink 41 = .ok (.aload_n 0, 1) := by decide +kernel
theorem dX12_isLink_42 : decode cX12_isLink 42 = .ok (.getfield 205, 3) := by decide +kernel
theorem dX12_isLink_45 : decode cX12_isLink 45 = .ok (.iconst 1, 1) := by decide +kernel
theorem dX12_isLink_46 : decode cX12_isLink 46 = .ok (.isub, 1) := by decide +kernel
theorem dX12_isLink_47 : decode cX12_isLink 47 = .ok (.if_icmp .ge 7, 3) := by decide +kernel
theorem dX12_isLink_50 : decode cX12_isLink 50 = .ok (.iconst 1, 1) := by decide +kernel
theorem dX12_isLink_51 : decode cX12_isLink 51 = .ok (.goto 4, 3) := by decide +kernel
theorem dX12_isLink_54 : decode cX12_isLink 54 = .ok (.iconst 0, 1) := by decide +kernel
theorem dX12_isLink_55 : decode cX12_isLink 55 = .ok (.ireturn, 1) := by decide +kernel
theorem dX12_isSlipped_0 : decode cX12_isSlipped 0 = .ok (.aload_n 0, 1) := by decide +kernel
theorem dX12_isSlipped_1 : decode cX12_isSlipped 1 = .ok (.iload_n 1, 1) := by decide +kernel
theorem dX12_isSlipped_2 : decode cX12_isSlipped 2 = .ok (.iload_n 2, 1) := by decide +kernel
theorem dX12_isSlipped_3 : decode cX12_isSlipped 3 = .ok (.iload_n 3, 1) := by decide +kernel
theorem dX12_isSlipped_4 : decode cX12_isSlipped 4 = .ok (.iconst 0, 1) := by decide +kernel
theorem dX12_isSlipped_5 : decode cX12_isSlipped 5 = .ok (.invokevirtual 218, 3) := by decide +kernel
theorem dX12_isSlipped_8 : decode cX12_isSlipped 8 = .ok (.iload_n 3, 1) := by decide +kernel
theorem dX12_isSlipped_9 : decode cX12_isSlipped 9 = .ok (.ifCond .eq 7, 3) := by decide +kernel
theorem dX12_isSlipped_12 : decode cX12_isSlipped 12 = .ok (.iconst 0, 1) := by decide +kernel
theorem dX12_isSlipped_13 : decode cX12_isSlipped 13 = .ok (.goto 4, 3) := by decide +kernel
theorem dX12_isSlipped_16 : decode cX12_isSlipped 16 = .ok (.iconst 1, 1) := by decide +kernel
theorem dX12_isSlipped_17 : decode cX12_isSlipped 17 = .ok (.if_icmp .ne 23, 3) := by decide +kernel
theorem dX12_isSlipped_20 : decode cX12_isSlipped 20 = .ok (.aload_n 0, 1) := by decide +kernel
theorem dX12_isSlipped_21 : decode cX12_isSlipped 21 = .ok (.iload_n 1, 1) := by decide +kernel
theorem dX12_isSlipped_22 : decode cX12_isSlipped 22 = .ok (.iload_n 2, 1) := by decide +kernel
theorem dX12_isSlipped_23 : decode cX12_isSlipped 23 = .ok (.iload_n 3, 1) := by decide +kernel
theorem dX12_isSlipped_24 : decode cX12_isSlipped 24 = .ok (.iconst 1, 1) := by decide +kernel
theorem dX12_isSlipped_25 : decode cX12_isSlipped 25 = .ok (.invokevirtual 218, 3) := by decide +kernel
theorem dX12_isSlipped_28 : decode cX12_isSlipped 28 = .ok (.iload_n 3, 1) := by decide +kernel
theorem dX12_isSlipped_29 : decode cX12_isSlipped 29 = .ok (.ifCond .eq 7, 3) := by decide +kernel
theorem dX12_isSlipped_32 : decode cX12_isSlipped 32 = .ok (.iconst 1, 1) := by decide +kernel
theorem dX12_isSlipped_33 : decode cX12_isSlipped 33 = .ok (.goto 4, 3) := by decide +kernel
theorem dX12_isSlipped_36 : decode cX12_isSlipped 36 = .ok (.iconst 0, 1) := by decide +kernel
theorem dX12_isSlipped_37 : decode cX12_isSlipped 37 = .ok (.if_icmp .eq 7, 3) := by decide +kernel
theorem dX12_isSlipped_40 : decode cX12_isSlipped 40 = .ok (.iconst 1, 1) := by decide +kernel
theorem dX12_isSlipped_41 : decode cX12_isSlipped 41 = .ok (.goto 4, 3) := by decide +kernel
theorem dX12_isSlipped_44 : decode cX12_isSlipped 44 = .ok (.iconst 0, 1) := by decide +kernel
theorem dX12_isSlipped_45 : decode cX12_isSlipped 45 = .ok (.ireturn, 1) := by decide +kernel
theorem dX12_isSlippedAt_0 : decode cX12_isSlippedAt 0 = .ok (.iload_n 1, 1) := by decide +kernel
theorem dX12_isSlippedAt_1 : decode cX12_isSlippedAt 1 = .ok (.iconst 2, 1) := by decide +kernel
theorem dX12_isSlippedAt_2 : decode cX12_isSlippedAt 2 = .ok (.idiv, 1) := by decide +kernel
theorem dX12_isSlippedAt_3 : decode cX12_isSlippedAt 3 = .ok (.bipush 9, 2) := by decide +kernel
theorem dX12_isSlippedAt_5 : decode cX12_isSlippedAt 5 = .ok (.irem, 1) := by decide +kernel
theorem dX12_isSlippedAt_6 : decode cX12_isSlippedAt 6 = .ok (.istore_n 2, 1) := by decide +kernel
theorem dX12_isSlippedAt_7 : decode cX12_isSlippedAt 7 = .ok (.iload_n 1, 1) := by decide +kernel
theorem dX12_isSlippedAt_8 : decode cX12_isSlippedAt 8 = .ok (.iconst 2, 1) := by decide +kernel
theorem dX12_isSlippedAt_9 : decode cX12_isSlippedAt 9 = .ok (.idiv, 1) := by decide +kernel
theorem dX12_isSlippedAt_10 : decode cX12_isSlippedAt 10 = .ok (.bipush 9, 2) := by decide +kernel
theorem dX12_isSlippedAt_12 : decode cX12_isSlippedAt 12 = .ok (.idiv, 1) := by decide +kernel
theorem dX12_isSlippedAt_13 : decode cX12_isSlippedAt 13 = .ok (.istore_n 3, 1) := by decide +kernel
theorem dX12_isSlippedAt_14 : decode cX12_isSlippedAt 14 = .ok (.iload_n 1, 1) := by decide +kernel
theorem dX12_isSlippedAt_15 : decode cX12_isSlippedAt 15 = .ok (.iconst 2, 1) := by decide +kernel
theorem dX12_isSlippedAt_16 : decode cX12_isSlippedAt 16 = .ok (.irem, 1) := by decide +kernel
theorem dX12_isSlippedAt_17 : decode cX12_isSlippedAt 17 = .ok (.iconst 1, 1) := by decide +kernel
theorem dX12_isSlippedAt_18 : decode cX12_isSlippedAt 18 = .ok (.if_icmp .ne 7, 3) := by decide +kernel
theorem dX12_isSlippedAt_21 : decode cX12_isSlippedAt 21 = .ok (.iconst 1, 1) := by decide +kernel
theorem dX12_isSlippedAt_22 : decode cX12_isSlippedAt 22 = .ok (.goto 4, 3) := by decide +kernel
theorem dX12_isSlippedAt_25 : decode cX12_isSlippedAt 25 = .ok (.iconst 0, 1) := by decide +kernel
theorem dX12_isSlippedAt_26 : decode cX12_isSlippedAt 26 = .ok (.istore 4, 2) := by decide +kernel
theorem dX12_isSlippedAt_28 : decode cX12_isSlippedAt 28 = .ok (.aload_n 0, 1) := by decide +kernel
theorem dX12_isSlippedAt_29 : decode cX12_isSlippedAt 29 = .ok (.iload_n 2, 1) := by decide +kernel
theorem dX12_isSlippedAt_30 : decode cX12_isSlippedAt 30 = .ok (.iload_n 3, 1) := by decide +kernel
theorem dX12_isSlippedAt_31 : decode cX12_isSlippedAt 31 = .ok (.iload 4, 2) := by decide +kernel
theorem dX12_isSlippedAt_33 : decode cX12_isSlippedAt 33 = .ok (.invokevirtual 296, 3) := by decide +kernel
theorem dX12_isSlippedAt_36 : decode cX12_isSlippedAt 36 = .ok (.ifCond .eq 18, 3) := by decide +kernel
theorem dX12_isSlippedAt_39 : decode cX12_isSlippedAt 39 = .ok (.aload_n 0, 1) := by decide +kernel
theorem dX12_isSlippedAt_40 : decode cX12_isSlippedAt 40 = .ok (.iload_n 2, 1) := by decide +kernel
theorem dX12_isSlippedAt_41 : decode cX12_isSlippedAt 41 = .ok (.iload_n 3, 1) := by decide +kernel
theorem dX12_isSlippedAt_42 : decode cX12_isSlippedAt 42 = .ok (.iload 4, 2) := by decide +kernel
theorem dX12_isSlippedAt_44 : decode cX12_isSlippedAt 44 = .ok (.invokevirtual 300, 3) := by decide +kernel
theorem dX12_isSlippedAt_47 : decode cX12_isSlippedAt 47 = .ok (.ifCond .eq 7, 3) := by decide +kernel
theorem dX12_isSlippedAt_50 : decode cX12_isSlippedAt 50 = .ok (.iconst 1, 1) := by decide +kernel
theorem dX12_isSlippedAt_51 : decode cX12_isSlippedAt 51 = .ok (.goto 4, 3) := by decide +kernel
theorem dX12_isSlippedAt_54 : decode cX12_isSlippedAt 54 = .ok (.iconst 0, 1) := by decide +kernel
theorem dX12_isSlippedAt_55 : decode cX12_isSlippedAt 55 = .ok (.ireturn, 1) := by decide +kernel
theorem dX12_slipped_0 : decode cX12_slipped 0 = .ok (.iconst 0, 1) := by decide +kernel
theorem dX12_slipped_1 : decode cX12_slipped 1 = .ok (.istore_n 1, 1) := by decide +kernel
theorem dX12_slipped_2 : decode cX12_slipped 2 = .ok (.iconst 0, 1) := by decide +kernel
theorem dX12_slipped_3 : decode cX12_slipped 3 = .ok (.istore_n 2, 1) := by decide +kernel
theorem dX12_slipped_4 : decode cX12_slipped 4 = .ok (.iload_n 2, 1) := by decide +kernel
theorem dX12_slipped_5 : decode cX12_slipped 5 = .ok (.sipush 162, 3) := by decide +kernel
theorem dX12_slipped_8 : decode cX12_slipped 8 = .ok (.if_icmp .ge 25, 3) := by decide +kernel
theorem dX12_slipped_11 : decode cX12_slipped 11 = .ok (.iload_n 1, 1) := by decide +kernel
theorem dX12_slipped_12 : decode cX12_slipped 12 = .ok (.aload_n 0, 1) := by decide +kernel
theorem dX12_slipped_13 : decode cX12_slipped 13 = .ok (.iload_n 2, 1) := by decide +kernel
theorem dX12_slipped_14 : decode cX12_slipped 14 = .ok (.invokevirtual 293, 3) := by decide +kernel
theorem dX12_slipped_17 : decode cX12_slipped 17 = .ok (.ifCond .eq 7, 3) := by decide +kernel
theorem dX12_slipped_20 : decode cX12_slipped 20 = .ok (.iconst 1, 1) := by decide +kernel
theorem dX12_slipped_21 : decode cX12_slipped 21 = .ok (.goto 4, 3) := by decide +kernel
theorem dX12_slipped_24 : decode cX12_slipped 24 = .ok (.iconst 0, 1) := by decide +kernel
theorem dX12_slipped_25 : decode cX12_slipped 25 = .ok (.iadd, 1) := by decide +kernel
theorem dX12_slipped_26 : decode cX12_slipped 26 = .ok (.istore_n 1, 1) := by decide +kernel
theorem dX12_slipped_27 : decode cX12_slipped 27 = .ok (.iinc 2 1, 3) := by decide +kernel
theorem dX12_slipped_30 : decode cX12_slipped 30 = .ok (.goto (-26), 3) := by decide +kernel
theorem dX12_slipped_33 : decode cX12_slipped 33 = .ok (.iload_n 1, 1) := by decide +kernel
theorem dX12_slipped_34 : decode cX12_slipped 34 = .ok (.ireturn, 1) := by decide +kernel
theorem dX12_aheadBy_0 : decode cX12_aheadBy 0 = .ok (.aload_n 0, 1) := by decide +kernel
theorem dX12_aheadBy_1 : decode cX12_aheadBy 1 = .ok (.invokevirtual 238, 3) := by decide +kernel
theorem dX12_aheadBy_4 : decode cX12_aheadBy 4 = .ok (.pop, 1) := by decide +kernel
theorem dX12_aheadBy_5 : decode cX12_aheadBy 5 = .ok (.iload_n 1, 1) := by decide +kernel
theorem dX12_aheadBy_6 : decode cX12_aheadBy 6 = .ok (.tableswitch 59 0 4 #[34, 39, 44, 49, 54], 34) := by decide +kernel
theorem dX12_aheadBy_40 : decode cX12_aheadBy 40 = .ok (.aload_n 0, 1) := by decide +kernel
theorem dX12_aheadBy_41 : decode cX12_aheadBy 41 = .ok (.getfield 241, 3) := by decide +kernel
theorem dX12_aheadBy_44 : decode cX12_aheadBy 44 = .ok (.ireturn, 1) := by decide +kernel
theorem dX12_aheadBy_45 : decode cX12_aheadBy 45 = .ok (.aload_n 0, 1) := by decide +kernel
theorem dX12_aheadBy_46 : decode cX12_aheadBy 46 = .ok (.getfield 376, 3) := by decide +kernel
theorem dX12_aheadBy_49 : decode cX12_aheadBy 49 = .ok (.ireturn, 1) := by decide +kernel
theorem dX12_aheadBy_50 : decode cX12_aheadBy 50 = .ok (.aload_n 0, 1) := by decide +kernel
theorem dX12_aheadBy_51 : decode cX12_aheadBy 51 = .ok (.getfield 379, 3) := by decide +kernel
theorem dX12_aheadBy_54 : decode cX12_aheadBy 54 = .ok (.ireturn, 1) := by decide +kernel
theorem dX12_aheadBy_55 : decode cX12_aheadBy 55 = .ok (.aload_n 0, 1) := by decide +kernel
theorem dX12_aheadBy_56 : decode cX12_aheadBy 56 = .ok (.getfield 382, 3) := by decide +kernel
theorem dX12_aheadBy_59 : decode cX12_aheadBy 59 = .ok (.ireturn, 1) := by decide +kernel
theorem dX12_aheadBy_60 : decode cX12_aheadBy 60 = .ok (.aload_n 0, 1) := by decide +kernel
theorem dX12_aheadBy_61 : decode cX12_aheadBy 61 = .ok (.invokevirtual 318, 3) := by decide +kernel
theorem dX12_aheadBy_64 : decode cX12_aheadBy 64 = .ok (.ireturn, 1) := by decide +kernel
theorem dX12_aheadBy_65 : decode cX12_aheadBy 65 = .ok (.aload_n 0, 1) := by decide +kernel
theorem dX12_aheadBy_66 : decode cX12_aheadBy 66 = .ok (.invokevirtual 311, 3) := by decide +kernel
theorem dX12_aheadBy_69 : decode cX12_aheadBy 69 = .ok (.ireturn, 1) := by decide +kernel
theorem dX12_takeBack_0 : decode cX12_takeBack 0 = .ok (.iconst 0, 1) := by decide +kernel
theorem dX12_takeBack_1 : decode cX12_takeBack 1 = .ok (.istore_n 1, 1) := by decide +kernel
theorem dX12_takeBack_2 : decode cX12_takeBack 2 = .ok (.iload_n 1, 1) := by decide +kernel
theorem dX12_takeBack_3 : decode cX12_takeBack 3 = .ok (.sipush 486, 3) := by decide +kernel
theorem dX12_takeBack_6 : decode cX12_takeBack 6 = .ok (.if_icmp .ge 21, 3) := by decide +kernel
theorem dX12_takeBack_9 : decode cX12_takeBack 9 = .ok (.aload_n 0, 1) := by decide +kernel
theorem dX12_takeBack_10 : decode cX12_takeBack 10 = .ok (.getfield 28, 3) := by decide +kernel
theorem dX12_takeBack_13 : decode cX12_takeBack 13 = .ok (.iload_n 1, 1) := by decide +kernel
theorem dX12_takeBack_14 : decode cX12_takeBack 14 = .ok (.aload_n 0, 1) := by decide +kernel
theorem dX12_takeBack_15 : decode cX12_takeBack 15 = .ok (.getfield 80, 3) := by decide +kernel
theorem dX12_takeBack_18 : decode cX12_takeBack 18 = .ok (.iload_n 1, 1) := by decide +kernel
theorem dX12_takeBack_19 : decode cX12_takeBack 19 = .ok (.iaload, 1) := by decide +kernel
theorem dX12_takeBack_20 : decode cX12_takeBack 20 = .ok (.iastore, 1) := by decide +kernel
theorem dX12_takeBack_21 : decode cX12_takeBack 21 = .ok (.iinc 1 1, 3) := by decide +kernel
theorem dX12_takeBack_24 : decode cX12_takeBack 24 = .ok (.goto (-22), 3) := by decide +kernel
theorem dX12_takeBack_27 : decode cX12_takeBack 27 = .ok (.return_, 1) := by decide +kernel
theorem dX12_ahead_0 : decode cX12_ahead 0 = .ok (.aload_n 0, 1) := by decide +kernel
theorem dX12_ahead_1 : decode cX12_ahead 1 = .ok (.iconst 0, 1) := by decide +kernel
theorem dX12_ahead_2 : decode cX12_ahead 2 = .ok (.putfield 86, 3) := by decide +kernel
theorem dX12_ahead_5 : decode cX12_ahead 5 = .ok (.aload_n 0, 1) := by decide +kernel
theorem dX12_ahead_6 : decode cX12_ahead 6 = .ok (.invokevirtual 306, 3) := by decide +kernel
theorem dX12_ahead_9 : decode cX12_ahead 9 = .ok (.ifCond .eq 27, 3) := by decide +kernel
theorem dX12_ahead_12 : decode cX12_ahead 12 = .ok (.iload_n 1, 1) := by decide +kernel
theorem dX12_ahead_13 : decode cX12_ahead 13 = .ok (.i2l, 1) := by decide +kernel
theorem dX12_ahead_14 : decode cX12_ahead 14 = .ok (.lconst 0, 1) := by decide +kernel
theorem dX12_ahead_15 : decode cX12_ahead 15 = .ok (.ldc2_w 385, 3) := by decide +kernel
theorem dX12_ahead_18 : decode cX12_ahead 18 = .ok (.invokestatic 97, 3) := by decide +kernel
theorem dX12_ahead_21 : decode cX12_ahead 21 = .ok (.ifCond .eq 15, 3) := by decide +kernel
theorem dX12_ahead_24 : decode cX12_ahead 24 = .ok (.iload_n 2, 1) := by decide +kernel
theorem dX12_ahead_25 : decode cX12_ahead 25 = .ok (.i2l, 1) := by decide +kernel
theorem dX12_ahead_26 : decode cX12_ahead 26 = .ok (.lconst 0, 1) := by decide +kernel
theorem dX12_ahead_27 : decode cX12_ahead 27 = .ok (.ldc2_w 327, 3) := by decide +kernel
theorem dX12_ahead_30 : decode cX12_ahead 30 = .ok (.invokestatic 97, 3) := by decide +kernel
theorem dX12_ahead_33 : decode cX12_ahead 33 = .ok (.ifCond .ne 7, 3) := by decide +kernel
theorem dX12_ahead_36 : decode cX12_ahead 36 = .ok (.ldc_w 310, 3) := by decide +kernel
theorem dX12_ahead_39 : decode cX12_ahead 39 = .ok (.ireturn, 1) := by decide +kernel
theorem dX12_ahead_40 : decode cX12_ahead 40 = .ok (.aload_n 0, 1) := by decide +kernel
theorem dX12_ahead_41 : decode cX12_ahead 41 = .ok (.invokevirtual 455, 3) := by decide +kernel
theorem dX12_ahead_44 : decode cX12_ahead 44 = .ok (.aload_n 0, 1) := by decide +kernel
theorem dX12_ahead_45 : decode cX12_ahead 45 = .ok (.invokevirtual 387, 3) := by decide +kernel
theorem dX12_ahead_48 : decode cX12_ahead 48 = .ok (.iconst 0, 1) := by decide +kernel
theorem dX12_ahead_49 : decode cX12_ahead 49 = .ok (.istore_n 3, 1) := by decide +kernel
theorem dX12_ahead_50 : decode cX12_ahead 50 = .ok (.iload_n 3, 1) := by decide +kernel
theorem dX12_ahead_51 : decode cX12_ahead 51 = .ok (.iload_n 1, 1) := by decide +kernel
theorem dX12_ahead_52 : decode cX12_ahead 52 = .ok (.if_icmp .ge 13, 3) := by decide +kernel
theorem dX12_ahead_55 : decode cX12_ahead 55 = .ok (.aload_n 0, 1) := by decide +kernel
theorem dX12_ahead_56 : decode cX12_ahead 56 = .ok (.invokevirtual 390, 3) := by decide +kernel
theorem dX12_ahead_59 : decode cX12_ahead 59 = .ok (.iinc 3 1, 3) := by decide +kernel
theorem dX12_ahead_62 : decode cX12_ahead 62 = .ok (.goto (-12), 3) := by decide +kernel
theorem dX12_ahead_65 : decode cX12_ahead 65 = .ok (.aload_n 0, 1) := by decide +kernel
theorem dX12_ahead_66 : decode cX12_ahead 66 = .ok (.iload_n 2, 1) := by decide +kernel
theorem dX12_ahead_67 : decode cX12_ahead 67 = .ok (.invokevirtual 458, 3) := by decide +kernel
theorem dX12_ahead_70 : decode cX12_ahead 70 = .ok (.istore_n 3, 1) := by decide +kernel
theorem dX12_ahead_71 : decode cX12_ahead 71 = .ok (.aload_n 0, 1) := by decide +kernel
theorem dX12_ahead_72 : decode cX12_ahead 72 = .ok (.invokevirtual 461, 3) := by decide +kernel
theorem dX12_ahead_75 : decode cX12_ahead 75 = .ok (.iload_n 3, 1) := by decide +kernel
theorem dX12_ahead_76 : decode cX12_ahead 76 = .ok (.ireturn, 1) := by decide +kernel
theorem dX12_alikeWith_0 : decode cX12_alikeWith 0 = .ok (.iconst 0, 1) := by decide +kernel
theorem dX12_alikeWith_1 : decode cX12_alikeWith 1 = .ok (.istore_n 2, 1) := by decide +kernel
theorem dX12_alikeWith_2 : decode cX12_alikeWith 2 = .ok (.iconst 0, 1) := by decide +kernel
theorem dX12_alikeWith_3 : decode cX12_alikeWith 3 = .ok (.istore_n 3, 1) := by decide +kernel
theorem dX12_alikeWith_4 : decode cX12_alikeWith 4 = .ok (.iload_n 3, 1) := by decide +kernel
theorem dX12_alikeWith_5 : decode cX12_alikeWith 5 = .ok (.aload_n 0, 1) := by decide +kernel
theorem dX12_alikeWith_6 : decode cX12_alikeWith 6 = .ok (.getfield 241, 3) := by decide +kernel
theorem dX12_alikeWith_9 : decode cX12_alikeWith 9 = .ok (.if_icmp .ge 62, 3) := by decide +kernel
theorem dX12_alikeWith_12 : decode cX12_alikeWith 12 = .ok (.iload_n 2, 1) := by decide +kernel
theorem dX12_alikeWith_13 : decode cX12_alikeWith 13 = .ok (.aload_n 0, 1) := by decide +kernel
theorem dX12_alikeWith_14 : decode cX12_alikeWith 14 = .ok (.getfield 34, 3) := by decide +kernel
theorem dX12_alikeWith_17 : decode cX12_alikeWith 17 = .ok (.iload_n 3, 1) := by decide +kernel
theorem dX12_alikeWith_18 : decode cX12_alikeWith 18 = .ok (.iaload, 1) := by decide +kernel
theorem dX12_alikeWith_19 : decode cX12_alikeWith 19 = .ok (.aload_n 0, 1) := by decide +kernel
theorem dX12_alikeWith_20 : decode cX12_alikeWith 20 = .ok (.getfield 34, 3) := by decide +kernel
theorem dX12_alikeWith_23 : decode cX12_alikeWith 23 = .ok (.iload_n 1, 1) := by decide +kernel
theorem dX12_alikeWith_24 : decode cX12_alikeWith 24 = .ok (.iaload, 1) := by decide +kernel
theorem dX12_alikeWith_25 : decode cX12_alikeWith 25 = .ok (.if_icmp .ne 37, 3) := by decide +kernel
theorem dX12_alikeWith_28 : decode cX12_alikeWith 28 = .ok (.aload_n 0, 1) := by decide +kernel
theorem dX12_alikeWith_29 : decode cX12_alikeWith 29 = .ok (.getfield 40, 3) := by decide +kernel
theorem dX12_alikeWith_32 : decode cX12_alikeWith 32 = .ok (.iload_n 3, 1) := by decide +kernel
theorem dX12_alikeWith_33 : decode cX12_alikeWith 33 = .ok (.iaload, 1) := by decide +kernel
theorem dX12_alikeWith_34 : decode cX12_alikeWith 34 = .ok (.aload_n 0, 1) := by decide +kernel
theorem dX12_alikeWith_35 : decode cX12_alikeWith 35 = .ok (.getfield 40, 3) := by decide +kernel
theorem dX12_alikeWith_38 : decode cX12_alikeWith 38 = .ok (.iload_n 1, 1) := by decide +kernel
theorem dX12_alikeWith_39 : decode cX12_alikeWith 39 = .ok (.iaload, 1) := by decide +kernel
theorem dX12_alikeWith_40 : decode cX12_alikeWith 40 = .ok (.if_icmp .ne 22, 3) := by decide +kernel
theorem dX12_alikeWith_43 : decode cX12_alikeWith 43 = .ok (.aload_n 0, 1) := by decide +kernel
theorem dX12_alikeWith_44 : decode cX12_alikeWith 44 = .ok (.getfield 43, 3) := by decide +kernel
theorem dX12_alikeWith_47 : decode cX12_alikeWith 47 = .ok (.iload_n 3, 1) := by decide +kernel
theorem dX12_alikeWith_48 : decode cX12_alikeWith 48 = .ok (.iaload, 1) := by decide +kernel
theorem dX12_alikeWith_49 : decode cX12_alikeWith 49 = .ok (.aload_n 0, 1) := by decide +kernel
theorem dX12_alikeWith_50 : decode cX12_alikeWith 50 = .ok (.getfield 43, 3) := by decide +kernel
theorem dX12_alikeWith_53 : decode cX12_alikeWith 53 = .ok (.iload_n 1, 1) := by decide +kernel
theorem dX12_alikeWith_54 : decode cX12_alikeWith 54 = .ok (.iaload, 1) := by decide +kernel
theorem dX12_alikeWith_55 : decode cX12_alikeWith 55 = .ok (.if_icmp .ne 7, 3) := by decide +kernel
theorem dX12_alikeWith_58 : decode cX12_alikeWith 58 = .ok (.iconst 1, 1) := by decide +kernel
theorem dX12_alikeWith_59 : decode cX12_alikeWith 59 = .ok (.goto 4, 3) := by decide +kernel
theorem dX12_alikeWith_62 : decode cX12_alikeWith 62 = .ok (.iconst 0, 1) := by decide +kernel
theorem dX12_alikeWith_63 : decode cX12_alikeWith 63 = .ok (.iadd, 1) := by decide +kernel
theorem dX12_alikeWith_64 : decode cX12_alikeWith 64 = .ok (.istore_n 2, 1) := by decide +kernel
theorem dX12_alikeWith_65 : decode cX12_alikeWith 65 = .ok (.iinc 3 1, 3) := by decide +kernel
theorem dX12_alikeWith_68 : decode cX12_alikeWith 68 = .ok (.goto (-64), 3) := by decide +kernel
theorem dX12_alikeWith_71 : decode cX12_alikeWith 71 = .ok (.iload_n 2, 1) := by decide +kernel
theorem dX12_alikeWith_72 : decode cX12_alikeWith 72 = .ok (.ireturn, 1) := by decide +kernel
theorem dX12_areOpposite_0 : decode cX12_areOpposite 0 = .ok (.aload_n 0, 1) := by decide +kernel
theorem dX12_areOpposite_1 : decode cX12_areOpposite 1 = .ok (.getfield 40, 3) := by decide +kernel
theorem dX12_areOpposite_4 : decode cX12_areOpposite 4 = .ok (.iload_n 1, 1) := by decide +kernel
theorem dX12_areOpposite_5 : decode cX12_areOpposite 5 = .ok (.iaload, 1) := by decide +kernel
theorem dX12_areOpposite_6 : decode cX12_areOpposite 6 = .ok (.aload_n 0, 1) := by decide +kernel
theorem dX12_areOpposite_7 : decode cX12_areOpposite 7 = .ok (.getfield 40, 3) := by decide +kernel
theorem dX12_areOpposite_10 : decode cX12_areOpposite 10 = .ok (.iload_n 2, 1) := by decide +kernel
theorem dX12_areOpposite_11 : decode cX12_areOpposite 11 = .ok (.iaload, 1) := by decide +kernel
theorem dX12_areOpposite_12 : decode cX12_areOpposite 12 = .ok (.iadd, 1) := by decide +kernel
theorem dX12_areOpposite_13 : decode cX12_areOpposite 13 = .ok (.ifCond .ne 23, 3) := by decide +kernel
theorem dX12_areOpposite_16 : decode cX12_areOpposite 16 = .ok (.aload_n 0, 1) := by decide +kernel
theorem dX12_areOpposite_17 : decode cX12_areOpposite 17 = .ok (.getfield 43, 3) := by decide +kernel
theorem dX12_areOpposite_20 : decode cX12_areOpposite 20 = .ok (.iload_n 1, 1) := by decide +kernel
theorem dX12_areOpposite_21 : decode cX12_areOpposite 21 = .ok (.iaload, 1) := by decide +kernel
theorem dX12_areOpposite_22 : decode cX12_areOpposite 22 = .ok (.aload_n 0, 1) := by decide +kernel
theorem dX12_areOpposite_23 : decode cX12_areOpposite 23 = .ok (.getfield 43, 3) := by decide +kernel
theorem dX12_areOpposite_26 : decode cX12_areOpposite 26 = .ok (.iload_n 2, 1) := by decide +kernel
theorem dX12_areOpposite_27 : decode cX12_areOpposite 27 = .ok (.iaload, 1) := by decide +kernel
theorem dX12_areOpposite_28 : decode cX12_areOpposite 28 = .ok (.iadd, 1) := by decide +kernel
theorem dX12_areOpposite_29 : decode cX12_areOpposite 29 = .ok (.ifCond .ne 7, 3) := by decide +kernel
theorem dX12_areOpposite_32 : decode cX12_areOpposite 32 = .ok (.iconst 1, 1) := by decide +kernel
theorem dX12_areOpposite_33 : decode cX12_areOpposite 33 = .ok (.goto 4, 3) := by decide +kernel
theorem dX12_areOpposite_36 : decode cX12_areOpposite 36 = .ok (.iconst 0, 1) := by decide +kernel
theorem dX12_areOpposite_37 : decode cX12_areOpposite 37 = .ok (.ireturn, 1) := by decide +kernel
theorem dX12_back_0 : decode cX12_back 0 = .ok (.aload_n 0, 1) := by decide +kernel
theorem dX12_back_1 : decode cX12_back 1 = .ok (.iconst 0, 1) := by decide +kernel
theorem dX12_back_2 : decode cX12_back 2 = .ok (.putfield 86, 3) := by decide +kernel
theorem dX12_back_5 : decode cX12_back 5 = .ok (.aload_n 0, 1) := by decide +kernel
theorem dX12_back_6 : decode cX12_back 6 = .ok (.getfield 232, 3) := by decide +kernel
theorem dX12_back_9 : decode cX12_back 9 = .ok (.ifCond .ne 5, 3) := by decide +kernel
theorem dX12_back_12 : decode cX12_back 12 = .ok (.iconst (-1), 1) := by decide +kernel
theorem dX12_back_13 : decode cX12_back 13 = .ok (.ireturn, 1) := by decide +kernel
theorem dX12_back_14 : decode cX12_back 14 = .ok (.iconst 0, 1) := by decide +kernel
theorem dX12_back_15 : decode cX12_back 15 = .ok (.istore_n 1, 1) := by decide +kernel
theorem dX12_back_16 : decode cX12_back 16 = .ok (.iload_n 1, 1) := by decide +kernel
theorem dX12_back_17 : decode cX12_back 17 = .ok (.sipush 486, 3) := by decide +kernel
theorem dX12_back_20 : decode cX12_back 20 = .ok (.if_icmp .ge 21, 3) := by decide +kernel
theorem dX12_back_23 : decode cX12_back 23 = .ok (.aload_n 0, 1) := by decide +kernel
theorem dX12_back_24 : decode cX12_back 24 = .ok (.getfield 28, 3) := by decide +kernel
theorem dX12_back_27 : decode cX12_back 27 = .ok (.iload_n 1, 1) := by decide +kernel
theorem dX12_back_28 : decode cX12_back 28 = .ok (.aload_n 0, 1) := by decide +kernel
theorem dX12_back_29 : decode cX12_back 29 = .ok (.getfield 83, 3) := by decide +kernel
theorem dX12_back_32 : decode cX12_back 32 = .ok (.iload_n 1, 1) := by decide +kernel
theorem dX12_back_33 : decode cX12_back 33 = .ok (.iaload, 1) := by decide +kernel
theorem dX12_back_34 : decode cX12_back 34 = .ok (.iastore, 1) := by decide +kernel
theorem dX12_back_35 : decode cX12_back 35 = .ok (.iinc 1 1, 3) := by decide +kernel
theorem dX12_back_38 : decode cX12_back 38 = .ok (.goto (-22), 3) := by decide +kernel
theorem dX12_back_41 : decode cX12_back 41 = .ok (.aload_n 0, 1) := by decide +kernel
theorem dX12_back_42 : decode cX12_back 42 = .ok (.iconst 0, 1) := by decide +kernel
theorem dX12_back_43 : decode cX12_back 43 = .ok (.putfield 229, 3) := by decide +kernel
theorem dX12_back_46 : decode cX12_back 46 = .ok (.aload_n 0, 1) := by decide +kernel
theorem dX12_back_47 : decode cX12_back 47 = .ok (.getfield 28, 3) := by decide +kernel
theorem dX12_back_50 : decode cX12_back 50 = .ok (.sipush 325, 3) := by decide +kernel
theorem dX12_back_53 : decode cX12_back 53 = .ok (.iaload, 1) := by decide +kernel
theorem dX12_back_54 : decode cX12_back 54 = .ok (.ireturn, 1) := by decide +kernel
theorem dX12_bad_0 : decode cX12_bad 0 = .ok (.aload_n 0, 1) := by decide +kernel
theorem dX12_bad_1 : decode cX12_bad 1 = .ok (.aload_n 0, 1) := by decide +kernel
theorem dX12_bad_2 : decode cX12_bad 2 = .ok (.getfield 134, 3) := by decide +kernel
theorem dX12_bad_5 : decode cX12_bad 5 = .ok (.iconst (-1), 1) := by decide +kernel
theorem dX12_bad_6 : decode cX12_bad 6 = .ok (.if_icmp .ne 10, 3) := by decide +kernel
theorem dX12_bad_9 : decode cX12_bad 9 = .ok (.aload_n 0, 1) := by decide +kernel
theorem dX12_bad_10 : decode cX12_bad 10 = .ok (.getfield 108, 3) := by decide +kernel
theorem dX12_bad_13 : decode cX12_bad 13 = .ok (.goto 7, 3) := by decide +kernel
theorem dX12_bad_16 : decode cX12_bad 16 = .ok (.aload_n 0, 1) := by decide +kernel
theorem dX12_bad_17 : decode cX12_bad 17 = .ok (.getfield 134, 3) := by decide +kernel
theorem dX12_bad_20 : decode cX12_bad 20 = .ok (.putfield 134, 3) := by decide +kernel
theorem dX12_bad_23 : decode cX12_bad 23 = .ok (.return_, 1) := by decide +kernel
theorem dX12_coresIn_0 : decode cX12_coresIn 0 = .ok (.iconst 0, 1) := by decide +kernel
theorem dX12_coresIn_1 : decode cX12_coresIn 1 = .ok (.istore 5, 2) := by decide +kernel
theorem dX12_coresIn_3 : decode cX12_coresIn 3 = .ok (.iload_n 2, 1) := by decide +kernel
theorem dX12_coresIn_4 : decode cX12_coresIn 4 = .ok (.istore 6, 2) := by decide +kernel
theorem dX12_coresIn_6 : decode cX12_coresIn 6 = .ok (.iload 6, 2) := by decide +kernel
theorem dX12_coresIn_8 : decode cX12_coresIn 8 = .ok (.iload 4, 2) := by decide +kernel
theorem dX12_coresIn_10 : decode cX12_coresIn 10 = .ok (.if_icmp .ge 45, 3) := by decide +kernel
theorem dX12_coresIn_13 : decode cX12_coresIn 13 = .ok (.iload_n 1, 1) := by decide +kernel
theorem dX12_coresIn_14 : decode cX12_coresIn 14 = .ok (.istore 7, 2) := by decide +kernel
theorem dX12_coresIn_16 : decode cX12_coresIn 16 = .ok (.iload 7, 2) := by decide +kernel
theorem dX12_coresIn_18 : decode cX12_coresIn 18 = .ok (.iload_n 3, 1) := by decide +kernel
theorem dX12_coresIn_19 : decode cX12_coresIn 19 = .ok (.if_icmp .ge 30, 3) := by decide +kernel
theorem dX12_coresIn_22 : decode cX12_coresIn 22 = .ok (.iload 5, 2) := by decide +kernel
theorem dX12_coresIn_24 : decode cX12_coresIn 24 = .ok (.aload_n 0, 1) := by decide +kernel
theorem dX12_coresIn_25 : decode cX12_coresIn 25 = .ok (.iload 7, 2) := by decide +kernel
theorem dX12_coresIn_27 : decode cX12_coresIn 27 = .ok (.iload 6, 2) := by decide +kernel
theorem dX12_coresIn_29 : decode cX12_coresIn 29 = .ok (.invokevirtual 244, 3) := by decide +kernel
theorem dX12_coresIn_32 : decode cX12_coresIn 32 = .ok (.ifCond .eq 7, 3) := by decide +kernel
theorem dX12_coresIn_35 : decode cX12_coresIn 35 = .ok (.iconst 1, 1) := by decide +kernel
theorem dX12_coresIn_36 : decode cX12_coresIn 36 = .ok (.goto 4, 3) := by decide +kernel
theorem dX12_coresIn_39 : decode cX12_coresIn 39 = .ok (.iconst 0, 1) := by decide +kernel
theorem dX12_coresIn_40 : decode cX12_coresIn 40 = .ok (.iadd, 1) := by decide +kernel
theorem dX12_coresIn_41 : decode cX12_coresIn 41 = .ok (.istore 5, 2) := by decide +kernel
theorem dX12_coresIn_43 : decode cX12_coresIn 43 = .ok (.iinc 7 1, 3) := by decide +kernel
theorem dX12_coresIn_46 : decode cX12_coresIn 46 = .ok (.goto (-30), 3) := by decide +kernel
theorem dX12_coresIn_49 : decode cX12_coresIn 49 = .ok (.iinc 6 1, 3) := by decide +kernel
theorem dX12_coresIn_52 : decode cX12_coresIn 52 = .ok (.goto (-46), 3) := by decide +kernel
theorem dX12_coresIn_55 : decode cX12_coresIn 55 = .ok (.iload 5, 2) := by decide +kernel
theorem dX12_coresIn_57 : decode cX12_coresIn 57 = .ok (.ireturn, 1) := by decide +kernel
theorem dX12_sumRound_0 : decode cX12_sumRound 0 = .ok (.iconst 0, 1) := by decide +kernel
theorem dX12_sumRound_1 : decode cX12_sumRound 1 = .ok (.istore 6, 2) := by decide +kernel
theorem dX12_sumRound_3 : decode cX12_sumRound 3 = .ok (.iload_n 1, 1) := by decide +kernel
theorem dX12_sumRound_4 : decode cX12_sumRound 4 = .ok (.istore 7, 2) := by decide +kernel
theorem dX12_sumRound_6 : decode cX12_sumRound 6 = .ok (.iload 7, 2) := by decide +kernel
theorem dX12_sumRound_8 : decode cX12_sumRound 8 = .ok (.iload_n 3, 1) := by decide +kernel
theorem dX12_sumRound_9 : decode cX12_sumRound 9 = .ok (.if_icmp .ge 36, 3) := by decide +kernel
theorem dX12_sumRound_12 : decode cX12_sumRound 12 = .ok (.iload 6, 2) := by decide +kernel
theorem dX12_sumRound_14 : decode cX12_sumRound 14 = .ok (.aload_n 0, 1) := by decide +kernel
theorem dX12_sumRound_15 : decode cX12_sumRound 15 = .ok (.iload 7, 2) := by decide +kernel
theorem dX12_sumRound_17 : decode cX12_sumRound 17 = .ok (.iload_n 2, 1) := by decide +kernel
theorem dX12_sumRound_18 : decode cX12_sumRound 18 = .ok (.iconst 0, 1) := by decide +kernel
theorem dX12_sumRound_19 : decode cX12_sumRound 19 = .ok (.iload 5, 2) := by decide +kernel
theorem dX12_sumRound_21 : decode cX12_sumRound 21 = .ok (.invokevirtual 218, 3) := by decide +kernel
theorem dX12_sumRound_24 : decode cX12_sumRound 24 = .ok (.aload_n 0, 1) := by decide +kernel
theorem dX12_sumRound_25 : decode cX12_sumRound 25 = .ok (.iload 7, 2) := by decide +kernel
theorem dX12_sumRound_27 : decode cX12_sumRound 27 = .ok (.iload 4, 2) := by decide +kernel
theorem dX12_sumRound_29 : decode cX12_sumRound 29 = .ok (.iconst 0, 1) := by decide +kernel
theorem dX12_sumRound_30 : decode cX12_sumRound 30 = .ok (.iload 5, 2) := by decide +kernel
theorem dX12_sumRound_32 : decode cX12_sumRound 32 = .ok (.invokevirtual 218, 3) := by decide +kernel
theorem dX12_sumRound_35 : decode cX12_sumRound 35 = .ok (.isub, 1) := by decide +kernel
theorem dX12_sumRound_36 : decode cX12_sumRound 36 = .ok (.iadd, 1) := by decide +kernel
theorem dX12_sumRound_37 : decode cX12_sumRound 37 = .ok (.istore 6, 2) := by decide +kernel
theorem dX12_sumRound_39 : decode cX12_sumRound 39 = .ok (.iinc 7 1, 3) := by decide +kernel
theorem dX12_sumRound_42 : decode cX12_sumRound 42 = .ok (.goto (-36), 3) := by decide +kernel
theorem dX12_sumRound_45 : decode cX12_sumRound 45 = .ok (.iload_n 2, 1) := by decide +kernel
theorem dX12_sumRound_46 : decode cX12_sumRound 46 = .ok (.istore 7, 2) := by decide +kernel
theorem dX12_sumRound_48 : decode cX12_sumRound 48 = .ok (.iload 7, 2) := by decide +kernel
theorem dX12_sumRound_50 : decode cX12_sumRound 50 = .ok (.iload 4, 2) := by decide +kernel
theorem dX12_sumRound_52 : decode cX12_sumRound 52 = .ok (.if_icmp .ge 35, 3) := by decide +kernel
theorem dX12_sumRound_55 : decode cX12_sumRound 55 = .ok (.iload 6, 2) := by decide +kernel
theorem dX12_sumRound_57 : decode cX12_sumRound 57 = .ok (.aload_n 0, 1) := by decide +kernel
theorem dX12_sumRound_58 : decode cX12_sumRound 58 = .ok (.iload_n 3, 1) := by decide +kernel
theorem dX12_sumRound_59 : decode cX12_sumRound 59 = .ok (.iload 7, 2) := by decide +kernel
theorem dX12_sumRound_61 : decode cX12_sumRound 61 = .ok (.iconst 1, 1) := by decide +kernel
theorem dX12_sumRound_62 : decode cX12_sumRound 62 = .ok (.iload 5, 2) := by decide +kernel
theorem dX12_sumRound_64 : decode cX12_sumRound 64 = .ok (.invokevirtual 218, 3) := by decide +kernel
theorem dX12_sumRound_67 : decode cX12_sumRound 67 = .ok (.aload_n 0, 1) := by decide +kernel
theorem dX12_sumRound_68 : decode cX12_sumRound 68 = .ok (.iload_n 1, 1) := by decide +kernel
theorem dX12_sumRound_69 : decode cX12_sumRound 69 = .ok (.iload 7, 2) := by decide +kernel
theorem dX12_sumRound_71 : decode cX12_sumRound 71 = .ok (.iconst 1, 1) := by decide +kernel
theorem dX12_sumRound_72 : decode cX12_sumRound 72 = .ok (.iload 5, 2) := by decide +kernel
theorem dX12_sumRound_74 : decode cX12_sumRound 74 = .ok (.invokevirtual 218, 3) := by decide +kernel
theorem dX12_sumRound_77 : decode cX12_sumRound 77 = .ok (.isub, 1) := by decide +kernel
theorem dX12_sumRound_78 : decode cX12_sumRound 78 = .ok (.iadd, 1) := by decide +kernel
theorem dX12_sumRound_79 : decode cX12_sumRound 79 = .ok (.istore 6, 2) := by decide +kernel
theorem dX12_sumRound_81 : decode cX12_sumRound 81 = .ok (.iinc 7 1, 3) := by decide +kernel
theorem dX12_sumRound_84 : decode cX12_sumRound 84 = .ok (.goto (-36), 3) := by decide +kernel
theorem dX12_sumRound_87 : decode cX12_sumRound 87 = .ok (.iload 6, 2) := by decide +kernel
theorem dX12_sumRound_89 : decode cX12_sumRound 89 = .ok (.ireturn, 1) := by decide +kernel
theorem dX12_box_0 : decode cX12_box 0 = .ok (.aload_n 0, 1) := by decide +kernel
theorem dX12_box_1 : decode cX12_box 1 = .ok (.iconst 0, 1) := by decide +kernel
theorem dX12_box_2 : decode cX12_box 2 = .ok (.putfield 86, 3) := by decide +kernel
theorem dX12_box_5 : decode cX12_box 5 = .ok (.aload_n 0, 1) := by decide +kernel
theorem dX12_box_6 : decode cX12_box 6 = .ok (.invokevirtual 306, 3) := by decide +kernel
theorem dX12_box_9 : decode cX12_box 9 = .ok (.ifCond .eq 46, 3) := by decide +kernel
theorem dX12_box_12 : decode cX12_box 12 = .ok (.aload_n 0, 1) := by decide +kernel
theorem dX12_box_13 : decode cX12_box 13 = .ok (.iload_n 1, 1) := by decide +kernel
theorem dX12_box_14 : decode cX12_box 14 = .ok (.iload_n 2, 1) := by decide +kernel
theorem dX12_box_15 : decode cX12_box 15 = .ok (.invokevirtual 215, 3) := by decide +kernel
theorem dX12_box_18 : decode cX12_box 18 = .ok (.ifCond .eq 37, 3) := by decide +kernel
theorem dX12_box_21 : decode cX12_box 21 = .ok (.aload_n 0, 1) := by decide +kernel
theorem dX12_box_22 : decode cX12_box 22 = .ok (.iload_n 3, 1) := by decide +kernel
theorem dX12_box_23 : decode cX12_box 23 = .ok (.iload 4, 2) := by decide +kernel
theorem dX12_box_25 : decode cX12_box 25 = .ok (.invokevirtual 215, 3) := by decide +kernel
theorem dX12_box_28 : decode cX12_box 28 = .ok (.ifCond .eq 27, 3) := by decide +kernel
theorem dX12_box_31 : decode cX12_box 31 = .ok (.iload_n 1, 1) := by decide +kernel
theorem dX12_box_32 : decode cX12_box 32 = .ok (.iload_n 3, 1) := by decide +kernel
theorem dX12_box_33 : decode cX12_box 33 = .ok (.if_icmp .ge 22, 3) := by decide +kernel
theorem dX12_box_36 : decode cX12_box 36 = .ok (.iload_n 2, 1) := by decide +kernel
theorem dX12_box_37 : decode cX12_box 37 = .ok (.iload 4, 2) := by decide +kernel
theorem dX12_box_39 : decode cX12_box 39 = .ok (.if_icmp .ge 16, 3) := by decide +kernel
theorem dX12_box_42 : decode cX12_box 42 = .ok (.iload 5, 2) := by decide +kernel
theorem dX12_box_44 : decode cX12_box 44 = .ok (.i2l, 1) := by decide +kernel
theorem dX12_box_45 : decode cX12_box 45 = .ok (.lconst 0, 1) := by decide +kernel
theorem dX12_box_46 : decode cX12_box 46 = .ok (.ldc2_w 291, 3) := by decide +kernel
theorem dX12_box_49 : decode cX12_box 49 = .ok (.invokestatic 97, 3) := by decide +kernel
theorem dX12_box_52 : decode cX12_box 52 = .ok (.ifCond .ne 7, 3) := by decide +kernel
theorem dX12_box_55 : decode cX12_box 55 = .ok (.ldc_w 310, 3) := by decide +kernel
theorem dX12_box_58 : decode cX12_box 58 = .ok (.ireturn, 1) := by decide +kernel
theorem dX12_box_59 : decode cX12_box 59 = .ok (.iload 5, 2) := by decide +kernel
theorem dX12_box_61 : decode cX12_box 61 = .ok (.iconst 2, 1) := by decide +kernel
theorem dX12_box_62 : decode cX12_box 62 = .ok (.if_icmp .ge 17, 3) := by decide +kernel
theorem dX12_box_65 : decode cX12_box 65 = .ok (.aload_n 0, 1) := by decide +kernel
theorem dX12_box_66 : decode cX12_box 66 = .ok (.iload_n 1, 1) := by decide +kernel
theorem dX12_box_67 : decode cX12_box 67 = .ok (.iload_n 2, 1) := by decide +kernel
theorem dX12_box_68 : decode cX12_box 68 = .ok (.iload_n 3, 1) := by decide +kernel
theorem dX12_box_69 : decode cX12_box 69 = .ok (.iload 4, 2) := by decide +kernel
theorem dX12_box_71 : decode cX12_box 71 = .ok (.iload 5, 2) := by decide +kernel
theorem dX12_box_73 : decode cX12_box 73 = .ok (.invokevirtual 314, 3) := by decide +kernel
theorem dX12_box_76 : decode cX12_box 76 = .ok (.goto 31, 3) := by decide +kernel
theorem dX12_box_79 : decode cX12_box 79 = .ok (.iload 5, 2) := by decide +kernel
theorem dX12_box_81 : decode cX12_box 81 = .ok (.iconst 2, 1) := by decide +kernel
theorem dX12_box_82 : decode cX12_box 82 = .ok (.if_icmp .ne 15, 3) := by decide +kernel
theorem dX12_box_85 : decode cX12_box 85 = .ok (.aload_n 0, 1) := by decide +kernel
theorem dX12_box_86 : decode cX12_box 86 = .ok (.iload_n 1, 1) := by decide +kernel
theorem dX12_box_87 : decode cX12_box 87 = .ok (.iload_n 2, 1) := by decide +kernel
theorem dX12_box_88 : decode cX12_box 88 = .ok (.iload_n 3, 1) := by decide +kernel
theorem dX12_box_89 : decode cX12_box 89 = .ok (.iload 4, 2) := by decide +kernel
theorem dX12_box_91 : decode cX12_box 91 = .ok (.invokevirtual 334, 3) := by decide +kernel
theorem dX12_box_94 : decode cX12_box 94 = .ok (.goto 13, 3) := by decide +kernel
theorem dX12_box_97 : decode cX12_box 97 = .ok (.iconst 2, 1) := by decide +kernel
theorem dX12_box_98 : decode cX12_box 98 = .ok (.iload_n 3, 1) := by decide +kernel
theorem dX12_box_99 : decode cX12_box 99 = .ok (.iload_n 1, 1) := by decide +kernel
theorem dX12_box_100 : decode cX12_box 100 = .ok (.isub, 1) := by decide +kernel
theorem dX12_box_101 : decode cX12_box 101 = .ok (.iload 4, 2) := by decide +kernel
theorem dX12_box_103 : decode cX12_box 103 = .ok (.iadd, 1) := by decide +kernel
theorem dX12_box_104 : decode cX12_box 104 = .ok (.iload_n 2, 1) := by decide +kernel
theorem dX12_box_105 : decode cX12_box 105 = .ok (.isub, 1) := by decide +kernel
theorem dX12_box_106 : decode cX12_box 106 = .ok (.imul, 1) := by decide +kernel
theorem dX12_box_107 : decode cX12_box 107 = .ok (.ireturn, 1) := by decide +kernel
theorem dX12_boxed_0 : decode cX12_boxed 0 = .ok (.aload_n 0, 1) := by decide +kernel
theorem dX12_boxed_1 : decode cX12_boxed 1 = .ok (.getfield 59, 3) := by decide +kernel
theorem dX12_boxed_4 : decode cX12_boxed 4 = .ok (.iconst 4, 1) := by decide +kernel
theorem dX12_boxed_5 : decode cX12_boxed 5 = .ok (.aload_n 0, 1) := by decide +kernel
theorem dX12_boxed_6 : decode cX12_boxed 6 = .ok (.getfield 338, 3) := by decide +kernel
theorem dX12_boxed_9 : decode cX12_boxed 9 = .ok (.imul, 1) := by decide +kernel
theorem dX12_boxed_10 : decode cX12_boxed 10 = .ok (.iload_n 1, 1) := by decide +kernel
theorem dX12_boxed_11 : decode cX12_boxed 11 = .ok (.iastore, 1) := by decide +kernel
theorem dX12_boxed_12 : decode cX12_boxed 12 = .ok (.aload_n 0, 1) := by decide +kernel
theorem dX12_boxed_13 : decode cX12_boxed 13 = .ok (.getfield 59, 3) := by decide +kernel
theorem dX12_boxed_16 : decode cX12_boxed 16 = .ok (.iconst 4, 1) := by decide +kernel
theorem dX12_boxed_17 : decode cX12_boxed 17 = .ok (.aload_n 0, 1) := by decide +kernel
theorem dX12_boxed_18 : decode cX12_boxed 18 = .ok (.getfield 338, 3) := by decide +kernel
theorem dX12_boxed_21 : decode cX12_boxed 21 = .ok (.imul, 1) := by decide +kernel
theorem dX12_boxed_22 : decode cX12_boxed 22 = .ok (.iconst 1, 1) := by decide +kernel
theorem dX12_boxed_23 : decode cX12_boxed 23 = .ok (.iadd, 1) := by decide +kernel
theorem dX12_boxed_24 : decode cX12_boxed 24 = .ok (.iload_n 2, 1) := by decide +kernel
theorem dX12_boxed_25 : decode cX12_boxed 25 = .ok (.iastore, 1) := by decide +kernel
theorem dX12_boxed_26 : decode cX12_boxed 26 = .ok (.aload_n 0, 1) := by decide +kernel
theorem dX12_boxed_27 : decode cX12_boxed 27 = .ok (.getfield 59, 3) := by decide +kernel
theorem dX12_boxed_30 : decode cX12_boxed 30 = .ok (.iconst 4, 1) := by decide +kernel
theorem dX12_boxed_31 : decode cX12_boxed 31 = .ok (.aload_n 0, 1) := by decide +kernel
theorem dX12_boxed_32 : decode cX12_boxed 32 = .ok (.getfield 338, 3) := by decide +kernel
theorem dX12_boxed_35 : decode cX12_boxed 35 = .ok (.imul, 1) := by decide +kernel
theorem dX12_boxed_36 : decode cX12_boxed 36 = .ok (.iconst 2, 1) := by decide +kernel
theorem dX12_boxed_37 : decode cX12_boxed 37 = .ok (.iadd, 1) := by decide +kernel
theorem dX12_boxed_38 : decode cX12_boxed 38 = .ok (.iload_n 3, 1) := by decide +kernel
theorem dX12_boxed_39 : decode cX12_boxed 39 = .ok (.iastore, 1) := by decide +kernel
theorem dX12_boxed_40 : decode cX12_boxed 40 = .ok (.aload_n 0, 1) := by decide +kernel
theorem dX12_boxed_41 : decode cX12_boxed 41 = .ok (.getfield 59, 3) := by decide +kernel
theorem dX12_boxed_44 : decode cX12_boxed 44 = .ok (.iconst 4, 1) := by decide +kernel
theorem dX12_boxed_45 : decode cX12_boxed 45 = .ok (.aload_n 0, 1) := by decide +kernel
theorem dX12_boxed_46 : decode cX12_boxed 46 = .ok (.getfield 338, 3) := by decide +kernel
theorem dX12_boxed_49 : decode cX12_boxed 49 = .ok (.imul, 1) := by decide +kernel
theorem dX12_boxed_50 : decode cX12_boxed 50 = .ok (.iconst 3, 1) := by decide +kernel
theorem dX12_boxed_51 : decode cX12_boxed 51 = .ok (.iadd, 1) := by decide +kernel
theorem dX12_boxed_52 : decode cX12_boxed 52 = .ok (.iload 4, 2) := by decide +kernel
theorem dX12_boxed_54 : decode cX12_boxed 54 = .ok (.iastore, 1) := by decide +kernel
theorem dX12_boxed_55 : decode cX12_boxed 55 = .ok (.aload_n 0, 1) := by decide +kernel
theorem dX12_boxed_56 : decode cX12_boxed 56 = .ok (.dup, 1) := by decide +kernel
theorem dX12_boxed_57 : decode cX12_boxed 57 = .ok (.getfield 338, 3) := by decide +kernel
theorem dX12_boxed_60 : decode cX12_boxed 60 = .ok (.iconst 1, 1) := by decide +kernel
theorem dX12_boxed_61 : decode cX12_boxed 61 = .ok (.iadd, 1) := by decide +kernel
theorem dX12_boxed_62 : decode cX12_boxed 62 = .ok (.putfield 338, 3) := by decide +kernel
theorem dX12_boxed_65 : decode cX12_boxed 65 = .ok (.return_, 1) := by decide +kernel
theorem dX12_byteOf_0 : decode cX12_byteOf 0 = .ok (.iload 5, 2) := by decide +kernel
theorem dX12_byteOf_2 : decode cX12_byteOf 2 = .ok (.iconst 4, 1) := by decide +kernel
theorem dX12_byteOf_3 : decode cX12_byteOf 3 = .ok (.if_icmp .ge 7, 3) := by decide +kernel
theorem dX12_byteOf_6 : decode cX12_byteOf 6 = .ok (.iload_n 0, 1) := by decide +kernel
theorem dX12_byteOf_7 : decode cX12_byteOf 7 = .ok (.goto 38, 3) := by decide +kernel
theorem dX12_byteOf_10 : decode cX12_byteOf 10 = .ok (.iload 5, 2) := by decide +kernel
theorem dX12_byteOf_12 : decode cX12_byteOf 12 = .ok (.bipush 8, 2) := by decide +kernel
theorem dX12_byteOf_14 : decode cX12_byteOf 14 = .ok (.if_icmp .ge 7, 3) := by decide +kernel
theorem dX12_byteOf_17 : decode cX12_byteOf 17 = .ok (.iload_n 1, 1) := by decide +kernel
theorem dX12_byteOf_18 : decode cX12_byteOf 18 = .ok (.goto 27, 3) := by decide +kernel
theorem dX12_byteOf_21 : decode cX12_byteOf 21 = .ok (.iload 5, 2) := by decide +kernel
theorem dX12_byteOf_23 : decode cX12_byteOf 23 = .ok (.bipush 12, 2) := by decide +kernel
theorem dX12_byteOf_25 : decode cX12_byteOf 25 = .ok (.if_icmp .ge 7, 3) := by decide +kernel
theorem dX12_byteOf_28 : decode cX12_byteOf 28 = .ok (.iload_n 2, 1) := by decide +kernel
theorem dX12_byteOf_29 : decode cX12_byteOf 29 = .ok (.goto 16, 3) := by decide +kernel
theorem dX12_byteOf_32 : decode cX12_byteOf 32 = .ok (.iload 5, 2) := by decide +kernel
theorem dX12_byteOf_34 : decode cX12_byteOf 34 = .ok (.bipush 16, 2) := by decide +kernel
theorem dX12_byteOf_36 : decode cX12_byteOf 36 = .ok (.if_icmp .ge 7, 3) := by decide +kernel
theorem dX12_byteOf_39 : decode cX12_byteOf 39 = .ok (.iload_n 3, 1) := by decide +kernel
theorem dX12_byteOf_40 : decode cX12_byteOf 40 = .ok (.goto 5, 3) := by decide +kernel
theorem dX12_byteOf_43 : decode cX12_byteOf 43 = .ok (.iload 4, 2) := by decide +kernel
theorem dX12_byteOf_45 : decode cX12_byteOf 45 = .ok (.istore 6, 2) := by decide +kernel
theorem dX12_byteOf_47 : decode cX12_byteOf 47 = .ok (.iload 6, 2) := by decide +kernel
theorem dX12_byteOf_49 : decode cX12_byteOf 49 = .ok (.bipush 24, 2) := by decide +kernel
theorem dX12_byteOf_51 : decode cX12_byteOf 51 = .ok (.bipush 8, 2) := by decide +kernel
theorem dX12_byteOf_53 : decode cX12_byteOf 53 = .ok (.iload 5, 2) := by decide +kernel
theorem dX12_byteOf_55 : decode cX12_byteOf 55 = .ok (.iconst 4, 1) := by decide +kernel
theorem dX12_byteOf_56 : decode cX12_byteOf 56 = .ok (.irem, 1) := by decide +kernel
theorem dX12_byteOf_57 : decode cX12_byteOf 57 = .ok (.imul, 1) := by decide +kernel
theorem dX12_byteOf_58 : decode cX12_byteOf 58 = .ok (.isub, 1) := by decide +kernel
theorem dX12_byteOf_59 : decode cX12_byteOf 59 = .ok (.ishr, 1) := by decide +kernel
theorem dX12_byteOf_60 : decode cX12_byteOf 60 = .ok (.sipush 255, 3) := by decide +kernel
theorem dX12_byteOf_63 : decode cX12_byteOf 63 = .ok (.iand, 1) := by decide +kernel
theorem dX12_byteOf_64 : decode cX12_byteOf 64 = .ok (.ireturn, 1) := by decide +kernel
theorem dX12_canBe_0 : decode cX12_canBe 0 = .ok (.iload_n 0, 1) := by decide +kernel
theorem dX12_canBe_1 : decode cX12_canBe 1 = .ok (.iconst 2, 1) := by decide +kernel
theorem dX12_canBe_2 : decode cX12_canBe 2 = .ok (.if_icmp .ne 15, 3) := by decide +kernel
theorem dX12_canBe_5 : decode cX12_canBe 5 = .ok (.iload_n 1, 1) := by decide +kernel
theorem dX12_canBe_6 : decode cX12_canBe 6 = .ok (.i2l, 1) := by decide +kernel
theorem dX12_canBe_7 : decode cX12_canBe 7 = .ok (.lconst 0, 1) := by decide +kernel
theorem dX12_canBe_8 : decode cX12_canBe 8 = .ok (.ldc2_w 412, 3) := by decide +kernel
theorem dX12_canBe_11 : decode cX12_canBe 11 = .ok (.invokestatic 97, 3) := by decide +kernel
theorem dX12_canBe_14 : decode cX12_canBe 14 = .ok (.goto 31, 3) := by decide +kernel
theorem dX12_canBe_17 : decode cX12_canBe 17 = .ok (.iload_n 0, 1) := by decide +kernel
theorem dX12_canBe_18 : decode cX12_canBe 18 = .ok (.iconst 3, 1) := by decide +kernel
theorem dX12_canBe_19 : decode cX12_canBe 19 = .ok (.if_icmp .ne 15, 3) := by decide +kernel
theorem dX12_canBe_22 : decode cX12_canBe 22 = .ok (.iload_n 1, 1) := by decide +kernel
theorem dX12_canBe_23 : decode cX12_canBe 23 = .ok (.i2l, 1) := by decide +kernel
theorem dX12_canBe_24 : decode cX12_canBe 24 = .ok (.lconst 0, 1) := by decide +kernel
theorem dX12_canBe_25 : decode cX12_canBe 25 = .ok (.ldc2_w 329, 3) := by decide +kernel
theorem dX12_canBe_28 : decode cX12_canBe 28 = .ok (.invokestatic 97, 3) := by decide +kernel
theorem dX12_canBe_31 : decode cX12_canBe 31 = .ok (.goto 14, 3) := by decide +kernel
theorem dX12_canBe_34 : decode cX12_canBe 34 = .ok (.iload_n 1, 1) := by decide +kernel
theorem dX12_canBe_35 : decode cX12_canBe 35 = .ok (.i2l, 1) := by decide +kernel
theorem dX12_canBe_36 : decode cX12_canBe 36 = .ok (.ldc2_w 414, 3) := by decide +kernel
theorem dX12_canBe_39 : decode cX12_canBe 39 = .ok (.ldc2_w 416, 3) := by decide +kernel
theorem dX12_canBe_42 : decode cX12_canBe 42 = .ok (.invokestatic 97, 3) := by decide +kernel
theorem dX12_canBe_45 : decode cX12_canBe 45 = .ok (.ireturn, 1) := by decide +kernel
theorem dX12_core_0 : decode cX12_core 0 = .ok (.aload_n 0, 1) := by decide +kernel
theorem dX12_core_1 : decode cX12_core 1 = .ok (.invokevirtual 238, 3) := by decide +kernel
theorem dX12_core_4 : decode cX12_core 4 = .ok (.pop, 1) := by decide +kernel
theorem dX12_core_5 : decode cX12_core 5 = .ok (.aload_n 0, 1) := by decide +kernel
theorem dX12_core_6 : decode cX12_core 6 = .ok (.aload_n 0, 1) := by decide +kernel
theorem dX12_core_7 : decode cX12_core 7 = .ok (.invokevirtual 306, 3) := by decide +kernel
theorem dX12_core_10 : decode cX12_core 10 = .ok (.ifCond .eq 35, 3) := by decide +kernel
theorem dX12_core_13 : decode cX12_core 13 = .ok (.iload_n 1, 1) := by decide +kernel
theorem dX12_core_14 : decode cX12_core 14 = .ok (.i2l, 1) := by decide +kernel
theorem dX12_core_15 : decode cX12_core 15 = .ok (.lconst 0, 1) := by decide +kernel
theorem dX12_core_16 : decode cX12_core 16 = .ok (.aload_n 0, 1) := by decide +kernel
theorem dX12_core_17 : decode cX12_core 17 = .ok (.getfield 241, 3) := by decide +kernel
theorem dX12_core_20 : decode cX12_core 20 = .ok (.iconst 1, 1) := by decide +kernel
theorem dX12_core_21 : decode cX12_core 21 = .ok (.isub, 1) := by decide +kernel
theorem dX12_core_22 : decode cX12_core 22 = .ok (.i2l, 1) := by decide +kernel
theorem dX12_core_23 : decode cX12_core 23 = .ok (.invokestatic 97, 3) := by decide +kernel
theorem dX12_core_26 : decode cX12_core 26 = .ok (.ifCond .eq 19, 3) := by decide +kernel
theorem dX12_core_29 : decode cX12_core 29 = .ok (.iload_n 2, 1) := by decide +kernel
theorem dX12_core_30 : decode cX12_core 30 = .ok (.i2l, 1) := by decide +kernel
theorem dX12_core_31 : decode cX12_core 31 = .ok (.lconst 0, 1) := by decide +kernel
theorem dX12_core_32 : decode cX12_core 32 = .ok (.ldc2_w 327, 3) := by decide +kernel
theorem dX12_core_35 : decode cX12_core 35 = .ok (.invokestatic 97, 3) := by decide +kernel
theorem dX12_core_38 : decode cX12_core 38 = .ok (.ifCond .eq 7, 3) := by decide +kernel
theorem dX12_core_41 : decode cX12_core 41 = .ok (.iconst 0, 1) := by decide +kernel
theorem dX12_core_42 : decode cX12_core 42 = .ok (.goto 4, 3) := by decide +kernel
theorem dX12_core_45 : decode cX12_core 45 = .ok (.iconst 1, 1) := by decide +kernel
theorem dX12_core_46 : decode cX12_core 46 = .ok (.putfield 86, 3) := by decide +kernel
theorem dX12_core_49 : decode cX12_core 49 = .ok (.aload_n 0, 1) := by decide +kernel
theorem dX12_core_50 : decode cX12_core 50 = .ok (.getfield 86, 3) := by decide +kernel
theorem dX12_core_53 : decode cX12_core 53 = .ok (.iconst 1, 1) := by decide +kernel
theorem dX12_core_54 : decode cX12_core 54 = .ok (.if_icmp .ne 5, 3) := by decide +kernel
theorem dX12_core_57 : decode cX12_core 57 = .ok (.iconst 0, 1) := by decide +kernel
theorem dX12_core_58 : decode cX12_core 58 = .ok (.ireturn, 1) := by decide +kernel
theorem dX12_core_59 : decode cX12_core 59 = .ok (.iload_n 2, 1) := by decide +kernel
theorem dX12_core_60 : decode cX12_core 60 = .ok (.tableswitch 70 0 4 #[36, 43, 50, 57, 64], 36) := by decide +kernel
theorem dX12_core_96 : decode cX12_core 96 = .ok (.aload_n 0, 1) := by decide +kernel
theorem dX12_core_97 : decode cX12_core 97 = .ok (.getfield 34, 3) := by decide +kernel
theorem dX12_core_100 : decode cX12_core 100 = .ok (.iload_n 1, 1) := by decide +kernel
theorem dX12_core_101 : decode cX12_core 101 = .ok (.iaload, 1) := by decide +kernel
theorem dX12_core_102 : decode cX12_core 102 = .ok (.ireturn, 1) := by decide +kernel
theorem dX12_core_103 : decode cX12_core 103 = .ok (.aload_n 0, 1) := by decide +kernel
theorem dX12_core_104 : decode cX12_core 104 = .ok (.getfield 37, 3) := by decide +kernel
theorem dX12_core_107 : decode cX12_core 107 = .ok (.iload_n 1, 1) := by decide +kernel
theorem dX12_core_108 : decode cX12_core 108 = .ok (.iaload, 1) := by decide +kernel
theorem dX12_core_109 : decode cX12_core 109 = .ok (.ireturn, 1) := by decide +kernel
theorem dX12_core_110 : decode cX12_core 110 = .ok (.aload_n 0, 1) := by decide +kernel
theorem dX12_core_111 : decode cX12_core 111 = .ok (.getfield 40, 3) := by decide +kernel
theorem dX12_core_114 : decode cX12_core 114 = .ok (.iload_n 1, 1) := by decide +kernel
theorem dX12_core_115 : decode cX12_core 115 = .ok (.iaload, 1) := by decide +kernel
theorem dX12_core_116 : decode cX12_core 116 = .ok (.ireturn, 1) := by decide +kernel
theorem dX12_core_117 : decode cX12_core 117 = .ok (.aload_n 0, 1) := by decide +kernel
theorem dX12_core_118 : decode cX12_core 118 = .ok (.getfield 43, 3) := by decide +kernel
theorem dX12_core_121 : decode cX12_core 121 = .ok (.iload_n 1, 1) := by decide +kernel
theorem dX12_core_122 : decode cX12_core 122 = .ok (.iaload, 1) := by decide +kernel
theorem dX12_core_123 : decode cX12_core 123 = .ok (.ireturn, 1) := by decide +kernel
theorem dX12_core_124 : decode cX12_core 124 = .ok (.aload_n 0, 1) := by decide +kernel
theorem dX12_core_125 : decode cX12_core 125 = .ok (.iload_n 1, 1) := by decide +kernel
theorem dX12_core_126 : decode cX12_core 126 = .ok (.invokevirtual 269, 3) := by decide +kernel
theorem dX12_core_129 : decode cX12_core 129 = .ok (.ireturn, 1) := by decide +kernel
theorem dX12_core_130 : decode cX12_core 130 = .ok (.aload_n 0, 1) := by decide +kernel
theorem dX12_core_131 : decode cX12_core 131 = .ok (.getfield 46, 3) := by decide +kernel
theorem dX12_core_134 : decode cX12_core 134 = .ok (.iload_n 1, 1) := by decide +kernel
theorem dX12_core_135 : decode cX12_core 135 = .ok (.iaload, 1) := by decide +kernel
theorem dX12_core_136 : decode cX12_core 136 = .ok (.ireturn, 1) := by decide +kernel
theorem dX12_coreOf_0 : decode cX12_coreOf 0 = .ok (.iconst 0, 1) := by decide +kernel
theorem dX12_coreOf_1 : decode cX12_coreOf 1 = .ok (.istore_n 3, 1) := by decide +kernel
theorem dX12_coreOf_2 : decode cX12_coreOf 2 = .ok (.iload_n 3, 1) := by decide +kernel
theorem dX12_coreOf_3 : decode cX12_coreOf 3 = .ok (.aload_n 0, 1) := by decide +kernel
theorem dX12_coreOf_4 : decode cX12_coreOf 4 = .ok (.getfield 241, 3) := by decide +kernel
theorem dX12_coreOf_7 : decode cX12_coreOf 7 = .ok (.if_icmp .ge 31, 3) := by decide +kernel
theorem dX12_coreOf_10 : decode cX12_coreOf 10 = .ok (.aload_n 0, 1) := by decide +kernel
theorem dX12_coreOf_11 : decode cX12_coreOf 11 = .ok (.getfield 34, 3) := by decide +kernel
theorem dX12_coreOf_14 : decode cX12_coreOf 14 = .ok (.iload_n 3, 1) := by decide +kernel
theorem dX12_coreOf_15 : decode cX12_coreOf 15 = .ok (.iaload, 1) := by decide +kernel
theorem dX12_coreOf_16 : decode cX12_coreOf 16 = .ok (.iload_n 1, 1) := by decide +kernel
theorem dX12_coreOf_17 : decode cX12_coreOf 17 = .ok (.if_icmp .ne 15, 3) := by decide +kernel
theorem dX12_coreOf_20 : decode cX12_coreOf 20 = .ok (.aload_n 0, 1) := by decide +kernel
theorem dX12_coreOf_21 : decode cX12_coreOf 21 = .ok (.getfield 37, 3) := by decide +kernel
theorem dX12_coreOf_24 : decode cX12_coreOf 24 = .ok (.iload_n 3, 1) := by decide +kernel
theorem dX12_coreOf_25 : decode cX12_coreOf 25 = .ok (.iaload, 1) := by decide +kernel
theorem dX12_coreOf_26 : decode cX12_coreOf 26 = .ok (.iload_n 2, 1) := by decide +kernel
theorem dX12_coreOf_27 : decode cX12_coreOf 27 = .ok (.if_icmp .ne 5, 3) := by decide +kernel
theorem dX12_coreOf_30 : decode cX12_coreOf 30 = .ok (.iload_n 3, 1) := by decide +kernel
theorem dX12_coreOf_31 : decode cX12_coreOf 31 = .ok (.ireturn, 1) := by decide +kernel
theorem dX12_coreOf_32 : decode cX12_coreOf 32 = .ok (.iinc 3 1, 3) := by decide +kernel
theorem dX12_coreOf_35 : decode cX12_coreOf 35 = .ok (.goto (-33), 3) := by decide +kernel
theorem dX12_coreOf_38 : decode cX12_coreOf 38 = .ok (.iconst (-1), 1) := by decide +kernel
theorem dX12_coreOf_39 : decode cX12_coreOf 39 = .ok (.ireturn, 1) := by decide +kernel
theorem dX12_coresBehind_0 : decode cX12_coresBehind 0 = .ok (.iload_n 1, 1) := by decide +kernel
theorem dX12_coresBehind_1 : decode cX12_coresBehind 1 = .ok (.iload_n 3, 1) := by decide +kernel
theorem dX12_coresBehind_2 : decode cX12_coresBehind 2 = .ok (.invokestatic 282, 3) := by decide +kernel
theorem dX12_coresBehind_5 : decode cX12_coresBehind 5 = .ok (.istore 6, 2) := by decide +kernel
theorem dX12_coresBehind_7 : decode cX12_coresBehind 7 = .ok (.iload_n 2, 1) := by decide +kernel
theorem dX12_coresBehind_8 : decode cX12_coresBehind 8 = .ok (.iload_n 3, 1) := by decide +kernel
theorem dX12_coresBehind_9 : decode cX12_coresBehind 9 = .ok (.invokestatic 285, 3) := by decide +kernel
theorem dX12_coresBehind_12 : decode cX12_coresBehind 12 = .ok (.istore 7, 2) := by decide +kernel
theorem dX12_coresBehind_14 : decode cX12_coresBehind 14 = .ok (.aload_n 0, 1) := by decide +kernel
theorem dX12_coresBehind_15 : decode cX12_coresBehind 15 = .ok (.getfield 241, 3) := by decide +kernel
theorem dX12_coresBehind_18 : decode cX12_coresBehind 18 = .ok (.istore 8, 2) := by decide +kernel
theorem dX12_coresBehind_20 : decode cX12_coresBehind 20 = .ok (.iload 8, 2) := by decide +kernel
theorem dX12_coresBehind_22 : decode cX12_coresBehind 22 = .ok (.aload_n 0, 1) := by decide +kernel
theorem dX12_coresBehind_23 : decode cX12_coresBehind 23 = .ok (.iload_n 1, 1) := by decide +kernel
theorem dX12_coresBehind_24 : decode cX12_coresBehind 24 = .ok (.iload_n 2, 1) := by decide +kernel
theorem dX12_coresBehind_25 : decode cX12_coresBehind 25 = .ok (.iconst 0, 1) := by decide +kernel
theorem dX12_coresBehind_26 : decode cX12_coresBehind 26 = .ok (.invokevirtual 221, 3) := by decide +kernel
theorem dX12_coresBehind_29 : decode cX12_coresBehind 29 = .ok (.iload 4, 2) := by decide +kernel
theorem dX12_coresBehind_31 : decode cX12_coresBehind 31 = .ok (.if_icmp .ne 19, 3) := by decide +kernel
theorem dX12_coresBehind_34 : decode cX12_coresBehind 34 = .ok (.aload_n 0, 1) := by decide +kernel
theorem dX12_coresBehind_35 : decode cX12_coresBehind 35 = .ok (.iload_n 1, 1) := by decide +kernel
theorem dX12_coresBehind_36 : decode cX12_coresBehind 36 = .ok (.iload_n 2, 1) := by decide +kernel
theorem dX12_coresBehind_37 : decode cX12_coresBehind 37 = .ok (.iconst 1, 1) := by decide +kernel
theorem dX12_coresBehind_38 : decode cX12_coresBehind 38 = .ok (.invokevirtual 221, 3) := by decide +kernel
theorem dX12_coresBehind_41 : decode cX12_coresBehind 41 = .ok (.iload 5, 2) := by decide +kernel
theorem dX12_coresBehind_43 : decode cX12_coresBehind 43 = .ok (.if_icmp .ne 7, 3) := by decide +kernel
theorem dX12_coresBehind_46 : decode cX12_coresBehind 46 = .ok (.iconst 1, 1) := by decide +kernel
theorem dX12_coresBehind_47 : decode cX12_coresBehind 47 = .ok (.goto 4, 3) := by decide +kernel
theorem dX12_coresBehind_50 : decode cX12_coresBehind 50 = .ok (.iconst 0, 1) := by decide +kernel
theorem dX12_coresBehind_51 : decode cX12_coresBehind 51 = .ok (.isub, 1) := by decide +kernel
theorem dX12_coresBehind_52 : decode cX12_coresBehind 52 = .ok (.istore 8, 2) := by decide +kernel
theorem dX12_coresBehind_54 : decode cX12_coresBehind 54 = .ok (.aload_n 0, 1) := by decide +kernel
theorem dX12_coresBehind_55 : decode cX12_coresBehind 55 = .ok (.iload 6, 2) := by decide +kernel
theorem dX12_coresBehind_57 : decode cX12_coresBehind 57 = .ok (.iload 7, 2) := by decide +kernel
theorem dX12_coresBehind_59 : decode cX12_coresBehind 59 = .ok (.invokevirtual 288, 3) := by decide +kernel
theorem dX12_coresBehind_62 : decode cX12_coresBehind 62 = .ok (.ifCond .eq 84, 3) := by decide +kernel
theorem dX12_coresBehind_65 : decode cX12_coresBehind 65 = .ok (.aload_n 0, 1) := by decide +kernel
theorem dX12_coresBehind_66 : decode cX12_coresBehind 66 = .ok (.iload 6, 2) := by decide +kernel
theorem dX12_coresBehind_68 : decode cX12_coresBehind 68 = .ok (.iload 7, 2) := by decide +kernel
theorem dX12_coresBehind_70 : decode cX12_coresBehind 70 = .ok (.invokevirtual 244, 3) := by decide +kernel
theorem dX12_coresBehind_73 : decode cX12_coresBehind 73 = .ok (.istore 9, 2) := by decide +kernel
theorem dX12_coresBehind_75 : decode cX12_coresBehind 75 = .ok (.aload_n 0, 1) := by decide +kernel
theorem dX12_coresBehind_76 : decode cX12_coresBehind 76 = .ok (.iload 6, 2) := by decide +kernel
theorem dX12_coresBehind_78 : decode cX12_coresBehind 78 = .ok (.iload 7, 2) := by decide +kernel
theorem dX12_coresBehind_80 : decode cX12_coresBehind 80 = .ok (.iconst 0, 1) := by decide +kernel
theorem dX12_coresBehind_81 : decode cX12_coresBehind 81 = .ok (.invokevirtual 221, 3) := by decide +kernel
theorem dX12_coresBehind_84 : decode cX12_coresBehind 84 = .ok (.iload 4, 2) := by decide +kernel
theorem dX12_coresBehind_86 : decode cX12_coresBehind 86 = .ok (.iadd, 1) := by decide +kernel
theorem dX12_coresBehind_87 : decode cX12_coresBehind 87 = .ok (.ifCond .ne 18, 3) := by decide +kernel
theorem dX12_coresBehind_90 : decode cX12_coresBehind 90 = .ok (.aload_n 0, 1) := by decide +kernel
theorem dX12_coresBehind_91 : decode cX12_coresBehind 91 = .ok (.iload 6, 2) := by decide +kernel
theorem dX12_coresBehind_93 : decode cX12_coresBehind 93 = .ok (.iload 7, 2) := by decide +kernel
theorem dX12_coresBehind_95 : decode cX12_coresBehind 95 = .ok (.iconst 1, 1) := by decide +kernel
theorem dX12_coresBehind_96 : decode cX12_coresBehind 96 = .ok (.invokevirtual 221, 3) := by decide +kernel
theorem dX12_coresBehind_99 : decode cX12_coresBehind 99 = .ok (.iload 5, 2) := by decide +kernel
theorem dX12_coresBehind_101 : decode cX12_coresBehind 101 = .ok (.iadd, 1) := by decide +kernel
theorem dX12_coresBehind_102 : decode cX12_coresBehind 102 = .ok (.ifCond .eq 7, 3) := by decide +kernel
theorem dX12_coresBehind_105 : decode cX12_coresBehind 105 = .ok (.iconst 1, 1) := by decide +kernel
theorem dX12_coresBehind_106 : decode cX12_coresBehind 106 = .ok (.goto 4, 3) := by decide +kernel
theorem dX12_coresBehind_109 : decode cX12_coresBehind 109 = .ok (.iconst 0, 1) := by decide +kernel
theorem dX12_coresBehind_110 : decode cX12_coresBehind 110 = .ok (.istore 10, 2) := by decide +kernel
theorem dX12_coresBehind_112 : decode cX12_coresBehind 112 = .ok (.iload 8, 2) := by decide +kernel
theorem dX12_coresBehind_114 : decode cX12_coresBehind 114 = .ok (.iload 10, 2) := by decide +kernel
theorem dX12_coresBehind_116 : decode cX12_coresBehind 116 = .ok (.ifCond .eq 12, 3) := by decide +kernel
theorem dX12_coresBehind_119 : decode cX12_coresBehind 119 = .ok (.iload 9, 2) := by decide +kernel
theorem dX12_coresBehind_121 : decode cX12_coresBehind 121 = .ok (.ifCond .ne 7, 3) := by decide +kernel
theorem dX12_coresBehind_124 : decode cX12_coresBehind 124 = .ok (.iconst 1, 1) := by decide +kernel
theorem dX12_coresBehind_125 : decode cX12_coresBehind 125 = .ok (.goto 18, 3) := by decide +kernel
theorem dX12_coresBehind_128 : decode cX12_coresBehind 128 = .ok (.iload 10, 2) := by decide +kernel
theorem dX12_coresBehind_130 : decode cX12_coresBehind 130 = .ok (.ifCond .ne 12, 3) := by decide +kernel
theorem dX12_coresBehind_133 : decode cX12_coresBehind 133 = .ok (.iload 9, 2) := by decide +kernel
theorem dX12_coresBehind_135 : decode cX12_coresBehind 135 = .ok (.ifCond .eq 7, 3) := by decide +kernel
theorem dX12_coresBehind_138 : decode cX12_coresBehind 138 = .ok (.iconst (-1), 1) := by decide +kernel
theorem dX12_coresBehind_139 : decode cX12_coresBehind 139 = .ok (.goto 4, 3) := by decide +kernel
theorem dX12_coresBehind_142 : decode cX12_coresBehind 142 = .ok (.iconst 0, 1) := by decide +kernel
theorem dX12_coresBehind_143 : decode cX12_coresBehind 143 = .ok (.iadd, 1) := by decide +kernel
theorem dX12_coresBehind_144 : decode cX12_coresBehind 144 = .ok (.istore 8, 2) := by decide +kernel
theorem dX12_coresBehind_146 : decode cX12_coresBehind 146 = .ok (.iload 8, 2) := by decide +kernel
theorem dX12_coresBehind_148 : decode cX12_coresBehind 148 = .ok (.ireturn, 1) := by decide +kernel
theorem dX12_linkOf_0 : decode cX12_linkOf 0 = .ok (.iconst 2, 1) := by decide +kernel
theorem dX12_linkOf_1 : decode cX12_linkOf 1 = .ok (.bipush 9, 2) := by decide +kernel
theorem dX12_linkOf_3 : decode cX12_linkOf 3 = .ok (.iload_n 1, 1) := by decide +kernel
theorem dX12_linkOf_4 : decode cX12_linkOf 4 = .ok (.imul, 1) := by decide +kernel
theorem dX12_linkOf_5 : decode cX12_linkOf 5 = .ok (.iload_n 0, 1) := by decide +kernel
theorem dX12_linkOf_6 : decode cX12_linkOf 6 = .ok (.iadd, 1) := by decide +kernel
theorem dX12_linkOf_7 : decode cX12_linkOf 7 = .ok (.imul, 1) := by decide +kernel
theorem dX12_linkOf_8 : decode cX12_linkOf 8 = .ok (.iload_n 2, 1) := by decide +kernel
theorem dX12_linkOf_9 : decode cX12_linkOf 9 = .ok (.ifCond .eq 7, 3) := by decide +kernel
theorem dX12_linkOf_12 : decode cX12_linkOf 12 = .ok (.iconst 1, 1) := by decide +kernel
theorem dX12_linkOf_13 : decode cX12_linkOf 13 = .ok (.goto 4, 3) := by decide +kernel
theorem dX12_linkOf_16 : decode cX12_linkOf 16 = .ok (.iconst 0, 1) := by decide +kernel
theorem dX12_linkOf_17 : decode cX12_linkOf 17 = .ok (.iadd, 1) := by decide +kernel
theorem dX12_linkOf_18 : decode cX12_linkOf 18 = .ok (.ireturn, 1) := by decide +kernel
theorem dX12_ofFace_0 : decode cX12_ofFace 0 = .ok (.iload_n 3, 1) := by decide +kernel
theorem dX12_ofFace_1 : decode cX12_ofFace 1 = .ok (.ifCond .ne 12, 3) := by decide +kernel
theorem dX12_ofFace_4 : decode cX12_ofFace 4 = .ok (.iload_n 1, 1) := by decide +kernel
theorem dX12_ofFace_5 : decode cX12_ofFace 5 = .ok (.iload_n 2, 1) := by decide +kernel
theorem dX12_ofFace_6 : decode cX12_ofFace 6 = .ok (.iconst 0, 1) := by decide +kernel
theorem dX12_ofFace_7 : decode cX12_ofFace 7 = .ok (.invokestatic 421, 3) := by decide +kernel
theorem dX12_ofFace_10 : decode cX12_ofFace 10 = .ok (.goto 41, 3) := by decide +kernel
theorem dX12_ofFace_13 : decode cX12_ofFace 13 = .ok (.iload_n 3, 1) := by decide +kernel
theorem dX12_ofFace_14 : decode cX12_ofFace 14 = .ok (.iconst 1, 1) := by decide +kernel
theorem dX12_ofFace_15 : decode cX12_ofFace 15 = .ok (.if_icmp .ne 12, 3) := by decide +kernel
theorem dX12_ofFace_18 : decode cX12_ofFace 18 = .ok (.iload_n 1, 1) := by decide +kernel
theorem dX12_ofFace_19 : decode cX12_ofFace 19 = .ok (.iload_n 2, 1) := by decide +kernel
theorem dX12_ofFace_20 : decode cX12_ofFace 20 = .ok (.iconst 1, 1) := by decide +kernel
theorem dX12_ofFace_21 : decode cX12_ofFace 21 = .ok (.invokestatic 421, 3) := by decide +kernel
theorem dX12_ofFace_24 : decode cX12_ofFace 24 = .ok (.goto 27, 3) := by decide +kernel
theorem dX12_ofFace_27 : decode cX12_ofFace 27 = .ok (.iload_n 3, 1) := by decide +kernel
theorem dX12_ofFace_28 : decode cX12_ofFace 28 = .ok (.iconst 2, 1) := by decide +kernel
theorem dX12_ofFace_29 : decode cX12_ofFace 29 = .ok (.if_icmp .ne 14, 3) := by decide +kernel
theorem dX12_ofFace_32 : decode cX12_ofFace 32 = .ok (.iload_n 1, 1) := by decide +kernel
theorem dX12_ofFace_33 : decode cX12_ofFace 33 = .ok (.iconst 1, 1) := by decide +kernel
theorem dX12_ofFace_34 : decode cX12_ofFace 34 = .ok (.iadd, 1) := by decide +kernel
theorem dX12_ofFace_35 : decode cX12_ofFace 35 = .ok (.iload_n 2, 1) := by decide +kernel
theorem dX12_ofFace_36 : decode cX12_ofFace 36 = .ok (.iconst 1, 1) := by decide +kernel
theorem dX12_ofFace_37 : decode cX12_ofFace 37 = .ok (.invokestatic 421, 3) := by decide +kernel
theorem dX12_ofFace_40 : decode cX12_ofFace 40 = .ok (.goto 11, 3) := by decide +kernel
theorem dX12_ofFace_43 : decode cX12_ofFace 43 = .ok (.iload_n 1, 1) := by decide +kernel
theorem dX12_ofFace_44 : decode cX12_ofFace 44 = .ok (.iload_n 2, 1) := by decide +kernel
theorem dX12_ofFace_45 : decode cX12_ofFace 45 = .ok (.iconst 1, 1) := by decide +kernel
theorem dX12_ofFace_46 : decode cX12_ofFace 46 = .ok (.iadd, 1) := by decide +kernel
theorem dX12_ofFace_47 : decode cX12_ofFace 47 = .ok (.iconst 0, 1) := by decide +kernel
theorem dX12_ofFace_48 : decode cX12_ofFace 48 = .ok (.invokestatic 421, 3) := by decide +kernel
theorem dX12_ofFace_51 : decode cX12_ofFace 51 = .ok (.ireturn, 1) := by decide +kernel
theorem dX12_coresBeside_0 : decode cX12_coresBeside 0 = .ok (.iconst 0, 1) := by decide +kernel
theorem dX12_coresBeside_1 : decode cX12_coresBeside 1 = .ok (.istore_n 2, 1) := by decide +kernel
theorem dX12_coresBeside_2 : decode cX12_coresBeside 2 = .ok (.iconst 0, 1) := by decide +kernel
theorem dX12_coresBeside_3 : decode cX12_coresBeside 3 = .ok (.istore_n 3, 1) := by decide +kernel
theorem dX12_coresBeside_4 : decode cX12_coresBeside 4 = .ok (.iload_n 3, 1) := by decide +kernel
theorem dX12_coresBeside_5 : decode cX12_coresBeside 5 = .ok (.aload_n 0, 1) := by decide +kernel
theorem dX12_coresBeside_6 : decode cX12_coresBeside 6 = .ok (.getfield 208, 3) := by decide +kernel
theorem dX12_coresBeside_9 : decode cX12_coresBeside 9 = .ok (.iconst 1, 1) := by decide +kernel
theorem dX12_coresBeside_10 : decode cX12_coresBeside 10 = .ok (.isub, 1) := by decide +kernel
theorem dX12_coresBeside_11 : decode cX12_coresBeside 11 = .ok (.if_icmp .ge 113, 3) := by decide +kernel
theorem dX12_coresBeside_14 : decode cX12_coresBeside 14 = .ok (.iconst 0, 1) := by decide +kernel
theorem dX12_coresBeside_15 : decode cX12_coresBeside 15 = .ok (.istore 4, 2) := by decide +kernel
theorem dX12_coresBeside_17 : decode cX12_coresBeside 17 = .ok (.iload 4, 2) := by decide +kernel
theorem dX12_coresBeside_19 : decode cX12_coresBeside 19 = .ok (.aload_n 0, 1) := by decide +kernel
theorem dX12_coresBeside_20 : decode cX12_coresBeside 20 = .ok (.getfield 205, 3) := by decide +kernel
theorem dX12_coresBeside_23 : decode cX12_coresBeside 23 = .ok (.iconst 1, 1) := by decide +kernel
theorem dX12_coresBeside_24 : decode cX12_coresBeside 24 = .ok (.isub, 1) := by decide +kernel
theorem dX12_coresBeside_25 : decode cX12_coresBeside 25 = .ok (.if_icmp .ge 93, 3) := by decide +kernel
theorem dX12_coresBeside_28 : decode cX12_coresBeside 28 = .ok (.iconst 0, 1) := by decide +kernel
theorem dX12_coresBeside_29 : decode cX12_coresBeside 29 = .ok (.istore 5, 2) := by decide +kernel
theorem dX12_coresBeside_31 : decode cX12_coresBeside 31 = .ok (.iconst 0, 1) := by decide +kernel
theorem dX12_coresBeside_32 : decode cX12_coresBeside 32 = .ok (.istore 6, 2) := by decide +kernel
theorem dX12_coresBeside_34 : decode cX12_coresBeside 34 = .ok (.iload 6, 2) := by decide +kernel
theorem dX12_coresBeside_36 : decode cX12_coresBeside 36 = .ok (.iconst 4, 1) := by decide +kernel
theorem dX12_coresBeside_37 : decode cX12_coresBeside 37 = .ok (.if_icmp .ge 52, 3) := by decide +kernel
theorem dX12_coresBeside_40 : decode cX12_coresBeside 40 = .ok (.aload_n 0, 1) := by decide +kernel
theorem dX12_coresBeside_41 : decode cX12_coresBeside 41 = .ok (.iload 4, 2) := by decide +kernel
theorem dX12_coresBeside_43 : decode cX12_coresBeside 43 = .ok (.iload_n 3, 1) := by decide +kernel
theorem dX12_coresBeside_44 : decode cX12_coresBeside 44 = .ok (.iload 6, 2) := by decide +kernel
theorem dX12_coresBeside_46 : decode cX12_coresBeside 46 = .ok (.invokevirtual 425, 3) := by decide +kernel
theorem dX12_coresBeside_49 : decode cX12_coresBeside 49 = .ok (.istore 7, 2) := by decide +kernel
theorem dX12_coresBeside_51 : decode cX12_coresBeside 51 = .ok (.iload 5, 2) := by decide +kernel
theorem dX12_coresBeside_53 : decode cX12_coresBeside 53 = .ok (.ifCond .ne 23, 3) := by decide +kernel
theorem dX12_coresBeside_56 : decode cX12_coresBeside 56 = .ok (.aload_n 0, 1) := by decide +kernel
theorem dX12_coresBeside_57 : decode cX12_coresBeside 57 = .ok (.iload 7, 2) := by decide +kernel
theorem dX12_coresBeside_59 : decode cX12_coresBeside 59 = .ok (.invokevirtual 293, 3) := by decide +kernel
theorem dX12_coresBeside_62 : decode cX12_coresBeside 62 = .ok (.ifCond .eq 18, 3) := by decide +kernel
theorem dX12_coresBeside_65 : decode cX12_coresBeside 65 = .ok (.aload_n 0, 1) := by decide +kernel
theorem dX12_coresBeside_66 : decode cX12_coresBeside 66 = .ok (.getfield 65, 3) := by decide +kernel
theorem dX12_coresBeside_69 : decode cX12_coresBeside 69 = .ok (.iload 7, 2) := by decide +kernel
theorem dX12_coresBeside_71 : decode cX12_coresBeside 71 = .ok (.iaload, 1) := by decide +kernel
theorem dX12_coresBeside_72 : decode cX12_coresBeside 72 = .ok (.iload_n 1, 1) := by decide +kernel
theorem dX12_coresBeside_73 : decode cX12_coresBeside 73 = .ok (.if_icmp .ne 7, 3) := by decide +kernel
theorem dX12_coresBeside_76 : decode cX12_coresBeside 76 = .ok (.iconst 1, 1) := by decide +kernel
theorem dX12_coresBeside_77 : decode cX12_coresBeside 77 = .ok (.goto 4, 3) := by decide +kernel
theorem dX12_coresBeside_80 : decode cX12_coresBeside 80 = .ok (.iconst 0, 1) := by decide +kernel
theorem dX12_coresBeside_81 : decode cX12_coresBeside 81 = .ok (.istore 5, 2) := by decide +kernel
theorem dX12_coresBeside_83 : decode cX12_coresBeside 83 = .ok (.iinc 6 1, 3) := by decide +kernel
theorem dX12_coresBeside_86 : decode cX12_coresBeside 86 = .ok (.goto (-52), 3) := by decide +kernel
theorem dX12_coresBeside_89 : decode cX12_coresBeside 89 = .ok (.iload_n 2, 1) := by decide +kernel
theorem dX12_coresBeside_90 : decode cX12_coresBeside 90 = .ok (.iload 5, 2) := by decide +kernel
theorem dX12_coresBeside_92 : decode cX12_coresBeside 92 = .ok (.ifCond .eq 17, 3) := by decide +kernel
theorem dX12_coresBeside_95 : decode cX12_coresBeside 95 = .ok (.aload_n 0, 1) := by decide +kernel
theorem dX12_coresBeside_96 : decode cX12_coresBeside 96 = .ok (.iload 4, 2) := by decide +kernel
theorem dX12_coresBeside_98 : decode cX12_coresBeside 98 = .ok (.iload_n 3, 1) := by decide +kernel
theorem dX12_coresBeside_99 : decode cX12_coresBeside 99 = .ok (.invokevirtual 244, 3) := by decide +kernel
theorem dX12_coresBeside_102 : decode cX12_coresBeside 102 = .ok (.ifCond .eq 7, 3) := by decide +kernel
theorem dX12_coresBeside_105 : decode cX12_coresBeside 105 = .ok (.iconst 1, 1) := by decide +kernel
theorem dX12_coresBeside_106 : decode cX12_coresBeside 106 = .ok (.goto 4, 3) := by decide +kernel
theorem dX12_coresBeside_109 : decode cX12_coresBeside 109 = .ok (.iconst 0, 1) := by decide +kernel
theorem dX12_coresBeside_110 : decode cX12_coresBeside 110 = .ok (.iadd, 1) := by decide +kernel
theorem dX12_coresBeside_111 : decode cX12_coresBeside 111 = .ok (.istore_n 2, 1) := by decide +kernel
theorem dX12_coresBeside_112 : decode cX12_coresBeside 112 = .ok (.iinc 4 1, 3) := by decide +kernel
theorem dX12_coresBeside_115 : decode cX12_coresBeside 115 = .ok (.goto (-98), 3) := by decide +kernel
theorem dX12_coresBeside_118 : decode cX12_coresBeside 118 = .ok (.iinc 3 1, 3) := by decide +kernel
theorem dX12_coresBeside_121 : decode cX12_coresBeside 121 = .ok (.goto (-117), 3) := by decide +kernel
theorem dX12_coresBeside_124 : decode cX12_coresBeside 124 = .ok (.iload_n 2, 1) := by decide +kernel
theorem dX12_coresBeside_125 : decode cX12_coresBeside 125 = .ok (.ireturn, 1) := by decide +kernel
theorem dX12_costAlong_0 : decode cX12_costAlong 0 = .ok (.aload_n 0, 1) := by decide +kernel
theorem dX12_costAlong_1 : decode cX12_costAlong 1 = .ok (.iload_n 1, 1) := by decide +kernel
theorem dX12_costAlong_2 : decode cX12_costAlong 2 = .ok (.invokevirtual 269, 3) := by decide +kernel
theorem dX12_costAlong_5 : decode cX12_costAlong 5 = .ok (.iload_n 2, 1) := by decide +kernel
theorem dX12_costAlong_6 : decode cX12_costAlong 6 = .ok (.if_icmp .ne 7, 3) := by decide +kernel
theorem dX12_costAlong_9 : decode cX12_costAlong 9 = .ok (.iconst 1, 1) := by decide +kernel
theorem dX12_costAlong_10 : decode cX12_costAlong 10 = .ok (.goto 4, 3) := by decide +kernel
theorem dX12_costAlong_13 : decode cX12_costAlong 13 = .ok (.iload_n 3, 1) := by decide +kernel
theorem dX12_costAlong_14 : decode cX12_costAlong 14 = .ok (.ireturn, 1) := by decide +kernel
theorem dX12_costMeeting_0 : decode cX12_costMeeting 0 = .ok (.aload_n 0, 1) := by decide +kernel
theorem dX12_costMeeting_1 : decode cX12_costMeeting 1 = .ok (.getfield 34, 3) := by decide +kernel
theorem dX12_costMeeting_4 : decode cX12_costMeeting 4 = .ok (.iload_n 1, 1) := by decide +kernel
theorem dX12_costMeeting_5 : decode cX12_costMeeting 5 = .ok (.iaload, 1) := by decide +kernel
theorem dX12_costMeeting_6 : decode cX12_costMeeting 6 = .ok (.aload_n 0, 1) := by decide +kernel
theorem dX12_costMeeting_7 : decode cX12_costMeeting 7 = .ok (.getfield 34, 3) := by decide +kernel
theorem dX12_costMeeting_10 : decode cX12_costMeeting 10 = .ok (.iload_n 2, 1) := by decide +kernel
theorem dX12_costMeeting_11 : decode cX12_costMeeting 11 = .ok (.iaload, 1) := by decide +kernel
theorem dX12_costMeeting_12 : decode cX12_costMeeting 12 = .ok (.isub, 1) := by decide +kernel
theorem dX12_costMeeting_13 : decode cX12_costMeeting 13 = .ok (.invokestatic 370, 3) := by decide +kernel
theorem dX12_costMeeting_16 : decode cX12_costMeeting 16 = .ok (.aload_n 0, 1) := by decide +kernel
theorem dX12_costMeeting_17 : decode cX12_costMeeting 17 = .ok (.iload_n 1, 1) := by decide +kernel
theorem dX12_costMeeting_18 : decode cX12_costMeeting 18 = .ok (.iconst 0, 1) := by decide +kernel
theorem dX12_costMeeting_19 : decode cX12_costMeeting 19 = .ok (.iload_n 3, 1) := by decide +kernel
theorem dX12_costMeeting_20 : decode cX12_costMeeting 20 = .ok (.invokevirtual 440, 3) := by decide +kernel
theorem dX12_costMeeting_23 : decode cX12_costMeeting 23 = .ok (.imul, 1) := by decide +kernel
theorem dX12_costMeeting_24 : decode cX12_costMeeting 24 = .ok (.aload_n 0, 1) := by decide +kernel
theorem dX12_costMeeting_25 : decode cX12_costMeeting 25 = .ok (.getfield 37, 3) := by decide +kernel
theorem dX12_costMeeting_28 : decode cX12_costMeeting 28 = .ok (.iload_n 1, 1) := by decide +kernel
theorem dX12_costMeeting_29 : decode cX12_costMeeting 29 = .ok (.iaload, 1) := by decide +kernel
theorem dX12_costMeeting_30 : decode cX12_costMeeting 30 = .ok (.aload_n 0, 1) := by decide +kernel
theorem dX12_costMeeting_31 : decode cX12_costMeeting 31 = .ok (.getfield 37, 3) := by decide +kernel
theorem dX12_costMeeting_34 : decode cX12_costMeeting 34 = .ok (.iload_n 2, 1) := by decide +kernel
theorem dX12_costMeeting_35 : decode cX12_costMeeting 35 = .ok (.iaload, 1) := by decide +kernel
theorem dX12_costMeeting_36 : decode cX12_costMeeting 36 = .ok (.isub, 1) := by decide +kernel
theorem dX12_costMeeting_37 : decode cX12_costMeeting 37 = .ok (.invokestatic 370, 3) := by decide +kernel
theorem dX12_costMeeting_40 : decode cX12_costMeeting 40 = .ok (.aload_n 0, 1) := by decide +kernel
theorem dX12_costMeeting_41 : decode cX12_costMeeting 41 = .ok (.iload_n 1, 1) := by decide +kernel
theorem dX12_costMeeting_42 : decode cX12_costMeeting 42 = .ok (.iconst 1, 1) := by decide +kernel
theorem dX12_costMeeting_43 : decode cX12_costMeeting 43 = .ok (.iload_n 3, 1) := by decide +kernel
theorem dX12_costMeeting_44 : decode cX12_costMeeting 44 = .ok (.invokevirtual 440, 3) := by decide +kernel
theorem dX12_costMeeting_47 : decode cX12_costMeeting 47 = .ok (.imul, 1) := by decide +kernel
theorem dX12_costMeeting_48 : decode cX12_costMeeting 48 = .ok (.iadd, 1) := by decide +kernel
theorem dX12_costMeeting_49 : decode cX12_costMeeting 49 = .ok (.ireturn, 1) := by decide +kernel
theorem dX12_costOut_0 : decode cX12_costOut 0 = .ok (.aload_n 0, 1) := by decide +kernel
theorem dX12_costOut_1 : decode cX12_costOut 1 = .ok (.getfield 34, 3) := by decide +kernel
theorem dX12_costOut_4 : decode cX12_costOut 4 = .ok (.iload_n 1, 1) := by decide +kernel
theorem dX12_costOut_5 : decode cX12_costOut 5 = .ok (.iaload, 1) := by decide +kernel
theorem dX12_costOut_6 : decode cX12_costOut 6 = .ok (.iconst 1, 1) := by decide +kernel
theorem dX12_costOut_7 : decode cX12_costOut 7 = .ok (.iadd, 1) := by decide +kernel
theorem dX12_costOut_8 : decode cX12_costOut 8 = .ok (.aload_n 0, 1) := by decide +kernel
theorem dX12_costOut_9 : decode cX12_costOut 9 = .ok (.getfield 205, 3) := by decide +kernel
theorem dX12_costOut_12 : decode cX12_costOut 12 = .ok (.iconst 1, 1) := by decide +kernel
theorem dX12_costOut_13 : decode cX12_costOut 13 = .ok (.isub, 1) := by decide +kernel
theorem dX12_costOut_14 : decode cX12_costOut 14 = .ok (.aload_n 0, 1) := by decide +kernel
theorem dX12_costOut_15 : decode cX12_costOut 15 = .ok (.getfield 34, 3) := by decide +kernel
theorem dX12_costOut_18 : decode cX12_costOut 18 = .ok (.iload_n 1, 1) := by decide +kernel
theorem dX12_costOut_19 : decode cX12_costOut 19 = .ok (.iaload, 1) := by decide +kernel
theorem dX12_costOut_20 : decode cX12_costOut 20 = .ok (.isub, 1) := by decide +kernel
theorem dX12_costOut_21 : decode cX12_costOut 21 = .ok (.invokestatic 128, 3) := by decide +kernel
theorem dX12_costOut_24 : decode cX12_costOut 24 = .ok (.aload_n 0, 1) := by decide +kernel
theorem dX12_costOut_25 : decode cX12_costOut 25 = .ok (.iload_n 1, 1) := by decide +kernel
theorem dX12_costOut_26 : decode cX12_costOut 26 = .ok (.iconst 0, 1) := by decide +kernel
theorem dX12_costOut_27 : decode cX12_costOut 27 = .ok (.iload_n 2, 1) := by decide +kernel
theorem dX12_costOut_28 : decode cX12_costOut 28 = .ok (.invokevirtual 440, 3) := by decide +kernel
theorem dX12_costOut_31 : decode cX12_costOut 31 = .ok (.imul, 1) := by decide +kernel
theorem dX12_costOut_32 : decode cX12_costOut 32 = .ok (.istore_n 3, 1) := by decide +kernel
theorem dX12_costOut_33 : decode cX12_costOut 33 = .ok (.aload_n 0, 1) := by decide +kernel
theorem dX12_costOut_34 : decode cX12_costOut 34 = .ok (.getfield 37, 3) := by decide +kernel
theorem dX12_costOut_37 : decode cX12_costOut 37 = .ok (.iload_n 1, 1) := by decide +kernel
theorem dX12_costOut_38 : decode cX12_costOut 38 = .ok (.iaload, 1) := by decide +kernel
theorem dX12_costOut_39 : decode cX12_costOut 39 = .ok (.iconst 1, 1) := by decide +kernel
theorem dX12_costOut_40 : decode cX12_costOut 40 = .ok (.iadd, 1) := by decide +kernel
theorem dX12_costOut_41 : decode cX12_costOut 41 = .ok (.aload_n 0, 1) := by decide +kernel
theorem dX12_costOut_42 : decode cX12_costOut 42 = .ok (.getfield 208, 3) := by decide +kernel
theorem dX12_costOut_45 : decode cX12_costOut 45 = .ok (.iconst 1, 1) := by decide +kernel
theorem dX12_costOut_46 : decode cX12_costOut 46 = .ok (.isub, 1) := by decide +kernel
theorem dX12_costOut_47 : decode cX12_costOut 47 = .ok (.aload_n 0, 1) := by decide +kernel
theorem dX12_costOut_48 : decode cX12_costOut 48 = .ok (.getfield 37, 3) := by decide +kernel
theorem dX12_costOut_51 : decode cX12_costOut 51 = .ok (.iload_n 1, 1) := by decide +kernel
theorem dX12_costOut_52 : decode cX12_costOut 52 = .ok (.iaload, 1) := by decide +kernel
theorem dX12_costOut_53 : decode cX12_costOut 53 = .ok (.isub, 1) := by decide +kernel
theorem dX12_costOut_54 : decode cX12_costOut 54 = .ok (.invokestatic 128, 3) := by decide +kernel
theorem dX12_costOut_57 : decode cX12_costOut 57 = .ok (.aload_n 0, 1) := by decide +kernel
theorem dX12_costOut_58 : decode cX12_costOut 58 = .ok (.iload_n 1, 1) := by decide +kernel
theorem dX12_costOut_59 : decode cX12_costOut 59 = .ok (.iconst 1, 1) := by decide +kernel
theorem dX12_costOut_60 : decode cX12_costOut 60 = .ok (.iload_n 2, 1) := by decide +kernel
theorem dX12_costOut_61 : decode cX12_costOut 61 = .ok (.invokevirtual 440, 3) := by decide +kernel
theorem dX12_costOut_64 : decode cX12_costOut 64 = .ok (.imul, 1) := by decide +kernel
theorem dX12_costOut_65 : decode cX12_costOut 65 = .ok (.istore 4, 2) := by decide +kernel
theorem dX12_costOut_67 : decode cX12_costOut 67 = .ok (.iload_n 3, 1) := by decide +kernel
theorem dX12_costOut_68 : decode cX12_costOut 68 = .ok (.iload 4, 2) := by decide +kernel
theorem dX12_costOut_70 : decode cX12_costOut 70 = .ok (.invokestatic 128, 3) := by decide +kernel
theorem dX12_costOut_73 : decode cX12_costOut 73 = .ok (.ireturn, 1) := by decide +kernel
theorem dX12_count_0 : decode cX12_count 0 = .ok (.aload_n 0, 1) := by decide +kernel
theorem dX12_count_1 : decode cX12_count 1 = .ok (.iconst 0, 1) := by decide +kernel
theorem dX12_count_2 : decode cX12_count 2 = .ok (.putfield 86, 3) := by decide +kernel
theorem dX12_count_5 : decode cX12_count 5 = .ok (.iload_n 1, 1) := by decide +kernel
theorem dX12_count_6 : decode cX12_count 6 = .ok (.ifCond .ne 10, 3) := by decide +kernel
theorem dX12_count_9 : decode cX12_count 9 = .ok (.aload_n 0, 1) := by decide +kernel
theorem dX12_count_10 : decode cX12_count 10 = .ok (.getfield 94, 3) := by decide +kernel
theorem dX12_count_13 : decode cX12_count 13 = .ok (.goto 32, 3) := by decide +kernel
theorem dX12_count_16 : decode cX12_count 16 = .ok (.iload_n 1, 1) := by decide +kernel
theorem dX12_count_17 : decode cX12_count 17 = .ok (.iconst 1, 1) := by decide +kernel
theorem dX12_count_18 : decode cX12_count 18 = .ok (.if_icmp .ne 10, 3) := by decide +kernel
theorem dX12_count_21 : decode cX12_count 21 = .ok (.aload_n 0, 1) := by decide +kernel
theorem dX12_count_22 : decode cX12_count 22 = .ok (.getfield 229, 3) := by decide +kernel
theorem dX12_count_25 : decode cX12_count 25 = .ok (.goto 20, 3) := by decide +kernel
theorem dX12_count_28 : decode cX12_count 28 = .ok (.iload_n 1, 1) := by decide +kernel
theorem dX12_count_29 : decode cX12_count 29 = .ok (.iconst 2, 1) := by decide +kernel
theorem dX12_count_30 : decode cX12_count 30 = .ok (.if_icmp .ne 14, 3) := by decide +kernel
theorem dX12_count_33 : decode cX12_count 33 = .ok (.aload_n 0, 1) := by decide +kernel
theorem dX12_count_34 : decode cX12_count 34 = .ok (.getfield 28, 3) := by decide +kernel
theorem dX12_count_37 : decode cX12_count 37 = .ok (.sipush 324, 3) := by decide +kernel
theorem dX12_count_40 : decode cX12_count 40 = .ok (.iaload, 1) := by decide +kernel
theorem dX12_count_41 : decode cX12_count 41 = .ok (.goto 4, 3) := by decide +kernel
theorem dX12_count_44 : decode cX12_count 44 = .ok (.iconst (-1), 1) := by decide +kernel
theorem dX12_count_45 : decode cX12_count 45 = .ok (.ireturn, 1) := by decide +kernel
theorem dX12_draw_0 : decode cX12_draw 0 = .ok (.aload_n 0, 1) := by decide +kernel
theorem dX12_draw_1 : decode cX12_draw 1 = .ok (.aload_n 0, 1) := by decide +kernel
theorem dX12_draw_2 : decode cX12_draw 2 = .ok (.getfield 401, 3) := by decide +kernel
theorem dX12_draw_5 : decode cX12_draw 5 = .ok (.ldc2_w 405, 3) := by decide +kernel
theorem dX12_draw_8 : decode cX12_draw 8 = .ok (.lmul, 1) := by decide +kernel
theorem dX12_draw_9 : decode cX12_draw 9 = .ok (.ldc2_w 407, 3) := by decide +kernel
theorem dX12_draw_12 : decode cX12_draw 12 = .ok (.ladd, 1) := by decide +kernel
theorem dX12_draw_13 : decode cX12_draw 13 = .ok (.putfield 401, 3) := by decide +kernel
theorem dX12_draw_16 : decode cX12_draw 16 = .ok (.aload_n 0, 1) := by decide +kernel
theorem dX12_draw_17 : decode cX12_draw 17 = .ok (.getfield 401, 3) := by decide +kernel
theorem dX12_draw_20 : decode cX12_draw 20 = .ok (.bipush 33, 2) := by decide +kernel
theorem dX12_draw_22 : decode cX12_draw 22 = .ok (.lushr, 1) := by decide +kernel
theorem dX12_draw_23 : decode cX12_draw 23 = .ok (.iload_n 1, 1) := by decide +kernel
theorem dX12_draw_24 : decode cX12_draw 24 = .ok (.i2l, 1) := by decide +kernel
theorem dX12_draw_25 : decode cX12_draw 25 = .ok (.lrem, 1) := by decide +kernel
theorem dX12_draw_26 : decode cX12_draw 26 = .ok (.l2i, 1) := by decide +kernel
theorem dX12_draw_27 : decode cX12_draw 27 = .ok (.ireturn, 1) := by decide +kernel
theorem dX12_end_0 : decode cX12_end 0 = .ok (.aload_n 0, 1) := by decide +kernel
theorem dX12_end_1 : decode cX12_end 1 = .ok (.iconst 0, 1) := by decide +kernel
theorem dX12_end_2 : decode cX12_end 2 = .ok (.putfield 86, 3) := by decide +kernel
theorem dX12_end_5 : decode cX12_end 5 = .ok (.iload_n 1, 1) := by decide +kernel
theorem dX12_end_6 : decode cX12_end 6 = .ok (.i2l, 1) := by decide +kernel
theorem dX12_end_7 : decode cX12_end 7 = .ok (.lconst 0, 1) := by decide +kernel
theorem dX12_end_8 : decode cX12_end 8 = .ok (.aload_n 0, 1) := by decide +kernel
theorem dX12_end_9 : decode cX12_end 9 = .ok (.getfield 94, 3) := by decide +kernel
theorem dX12_end_12 : decode cX12_end 12 = .ok (.i2l, 1) := by decide +kernel
theorem dX12_end_13 : decode cX12_end 13 = .ok (.invokestatic 97, 3) := by decide +kernel
theorem dX12_end_16 : decode cX12_end 16 = .ok (.ifCond .ne 5, 3) := by decide +kernel
theorem dX12_end_19 : decode cX12_end 19 = .ok (.iconst 0, 1) := by decide +kernel
theorem dX12_end_20 : decode cX12_end 20 = .ok (.ireturn, 1) := by decide +kernel
theorem dX12_end_21 : decode cX12_end 21 = .ok (.aload_n 0, 1) := by decide +kernel
theorem dX12_end_22 : decode cX12_end 22 = .ok (.iload_n 1, 1) := by decide +kernel
theorem dX12_end_23 : decode cX12_end 23 = .ok (.putfield 94, 3) := by decide +kernel
theorem dX12_end_26 : decode cX12_end 26 = .ok (.iconst 1, 1) := by decide +kernel
theorem dX12_end_27 : decode cX12_end 27 = .ok (.ireturn, 1) := by decide +kernel
theorem dX12_face_0 : decode cX12_face 0 = .ok (.aload_n 0, 1) := by decide +kernel
theorem dX12_face_1 : decode cX12_face 1 = .ok (.iconst 0, 1) := by decide +kernel
theorem dX12_face_2 : decode cX12_face 2 = .ok (.putfield 86, 3) := by decide +kernel
theorem dX12_face_5 : decode cX12_face 5 = .ok (.aload_n 0, 1) := by decide +kernel
theorem dX12_face_6 : decode cX12_face 6 = .ok (.invokevirtual 306, 3) := by decide +kernel
theorem dX12_face_9 : decode cX12_face 9 = .ok (.ifCond .eq 24, 3) := by decide +kernel
theorem dX12_face_12 : decode cX12_face 12 = .ok (.aload_n 0, 1) := by decide +kernel
theorem dX12_face_13 : decode cX12_face 13 = .ok (.iload_n 1, 1) := by decide +kernel
theorem dX12_face_14 : decode cX12_face 14 = .ok (.iload_n 2, 1) := by decide +kernel
theorem dX12_face_15 : decode cX12_face 15 = .ok (.invokevirtual 288, 3) := by decide +kernel
theorem dX12_face_18 : decode cX12_face 18 = .ok (.ifCond .eq 15, 3) := by decide +kernel
theorem dX12_face_21 : decode cX12_face 21 = .ok (.iload_n 3, 1) := by decide +kernel
theorem dX12_face_22 : decode cX12_face 22 = .ok (.i2l, 1) := by decide +kernel
theorem dX12_face_23 : decode cX12_face 23 = .ok (.lconst 0, 1) := by decide +kernel
theorem dX12_face_24 : decode cX12_face 24 = .ok (.ldc2_w 329, 3) := by decide +kernel
theorem dX12_face_27 : decode cX12_face 27 = .ok (.invokestatic 97, 3) := by decide +kernel
theorem dX12_face_30 : decode cX12_face 30 = .ok (.ifCond .ne 7, 3) := by decide +kernel
theorem dX12_face_33 : decode cX12_face 33 = .ok (.ldc_w 310, 3) := by decide +kernel
theorem dX12_face_36 : decode cX12_face 36 = .ok (.ireturn, 1) := by decide +kernel
theorem dX12_face_37 : decode cX12_face 37 = .ok (.aload_n 0, 1) := by decide +kernel
theorem dX12_face_38 : decode cX12_face 38 = .ok (.invokevirtual 238, 3) := by decide +kernel
theorem dX12_face_41 : decode cX12_face 41 = .ok (.pop, 1) := by decide +kernel
theorem dX12_face_42 : decode cX12_face 42 = .ok (.iload_n 3, 1) := by decide +kernel
theorem dX12_face_43 : decode cX12_face 43 = .ok (.iconst 2, 1) := by decide +kernel
theorem dX12_face_44 : decode cX12_face 44 = .ok (.if_icmp .ne 12, 3) := by decide +kernel
theorem dX12_face_47 : decode cX12_face 47 = .ok (.aload_n 0, 1) := by decide +kernel
theorem dX12_face_48 : decode cX12_face 48 = .ok (.iload_n 1, 1) := by decide +kernel
theorem dX12_face_49 : decode cX12_face 49 = .ok (.iload_n 2, 1) := by decide +kernel
theorem dX12_face_50 : decode cX12_face 50 = .ok (.invokevirtual 331, 3) := by decide +kernel
theorem dX12_face_53 : decode cX12_face 53 = .ok (.goto 10, 3) := by decide +kernel
theorem dX12_face_56 : decode cX12_face 56 = .ok (.aload_n 0, 1) := by decide +kernel
theorem dX12_face_57 : decode cX12_face 57 = .ok (.iload_n 1, 1) := by decide +kernel
