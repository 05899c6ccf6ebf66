theorem dX6_costAlone_0 : decode cX6_costAlone 0 = .ok (.aload_n 0, 1) := by decide +kernel
theorem dX6_costAlone_1 : decode cX6_costAlone 1 = .ok (.getfield 15, 3) := by decide +kernel
theorem dX6_costAlone_4 : decode cX6_costAlone 4 = .ok (.aload_n 0, 1) := by decide +kernel
theorem dX6_costAlone_5 : decode cX6_costAlone 5 = .ok (.getfield 18, 3) := by decide +kernel
theorem dX6_costAlone_8 : decode cX6_costAlone 8 = .ok (.iload_n 2, 1) := by decide +kernel
theorem dX6_costAlone_9 : decode cX6_costAlone 9 = .ok (.iaload, 1) := by decide +kernel
theorem dX6_costAlone_10 : decode cX6_costAlone 10 = .ok (.iaload, 1) := by decide +kernel
theorem dX6_costAlone_11 : decode cX6_costAlone 11 = .ok (.aload_n 0, 1) := by decide +kernel
theorem dX6_costAlone_12 : decode cX6_costAlone 12 = .ok (.iload_n 1, 1) := by decide +kernel
theorem dX6_costAlone_13 : decode cX6_costAlone 13 = .ok (.iconst 1, 1) := by decide +kernel
theorem dX6_costAlone_14 : decode cX6_costAlone 14 = .ok (.iload_n 2, 1) := by decide +kernel
theorem dX6_costAlone_15 : decode cX6_costAlone 15 = .ok (.ishl, 1) := by decide +kernel
theorem dX6_costAlone_16 : decode cX6_costAlone 16 = .ok (.iconst (-1), 1) := by decide +kernel
theorem dX6_costAlone_17 : decode cX6_costAlone 17 = .ok (.ixor, 1) := by decide +kernel
theorem dX6_costAlone_18 : decode cX6_costAlone 18 = .ok (.iand, 1) := by decide +kernel
theorem dX6_costAlone_19 : decode cX6_costAlone 19 = .ok (.invokevirtual 41, 3) := by decide +kernel
theorem dX6_costAlone_22 : decode cX6_costAlone 22 = .ok (.iadd, 1) := by decide +kernel
theorem dX6_costAlone_23 : decode cX6_costAlone 23 = .ok (.ireturn, 1) := by decide +kernel
theorem dX6_costOfMove_0 : decode cX6_costOfMove 0 = .ok (.iload_n 0, 1) := by decide +kernel
theorem dX6_costOfMove_1 : decode cX6_costOfMove 1 = .ok (.iload_n 1, 1) := by decide +kernel
theorem dX6_costOfMove_2 : decode cX6_costOfMove 2 = .ok (.if_icmp .ne 7, 3) := by decide +kernel
theorem dX6_costOfMove_5 : decode cX6_costOfMove 5 = .ok (.iconst 1, 1) := by decide +kernel
theorem dX6_costOfMove_6 : decode cX6_costOfMove 6 = .ok (.goto 4, 3) := by decide +kernel
theorem dX6_costOfMove_9 : decode cX6_costOfMove 9 = .ok (.iload_n 2, 1) := by decide +kernel
theorem dX6_costOfMove_10 : decode cX6_costOfMove 10 = .ok (.ireturn, 1) := by decide +kernel
theorem dX6_costToLeave_0 : decode cX6_costToLeave 0 = .ok (.aload_n 0, 1) := by decide +kernel
theorem dX6_costToLeave_1 : decode cX6_costToLeave 1 = .ok (.getfield 49, 3) := by decide +kernel
theorem dX6_costToLeave_4 : decode cX6_costToLeave 4 = .ok (.iload_n 1, 1) := by decide +kernel
theorem dX6_costToLeave_5 : decode cX6_costToLeave 5 = .ok (.invokevirtual 72, 3) := by decide +kernel
theorem dX6_costToLeave_8 : decode cX6_costToLeave 8 = .ok (.istore_n 3, 1) := by decide +kernel
theorem dX6_costToLeave_9 : decode cX6_costToLeave 9 = .ok (.aload_n 0, 1) := by decide +kernel
theorem dX6_costToLeave_10 : decode cX6_costToLeave 10 = .ok (.getfield 49, 3) := by decide +kernel
theorem dX6_costToLeave_13 : decode cX6_costToLeave 13 = .ok (.iload_n 1, 1) := by decide +kernel
theorem dX6_costToLeave_14 : decode cX6_costToLeave 14 = .ok (.iconst 0, 1) := by decide +kernel
theorem dX6_costToLeave_15 : decode cX6_costToLeave 15 = .ok (.invokevirtual 75, 3) := by decide +kernel
theorem dX6_costToLeave_18 : decode cX6_costToLeave 18 = .ok (.istore 4, 2) := by decide +kernel
theorem dX6_costToLeave_20 : decode cX6_costToLeave 20 = .ok (.aload_n 0, 1) := by decide +kernel
theorem dX6_costToLeave_21 : decode cX6_costToLeave 21 = .ok (.getfield 49, 3) := by decide +kernel
theorem dX6_costToLeave_24 : decode cX6_costToLeave 24 = .ok (.iload_n 1, 1) := by decide +kernel
theorem dX6_costToLeave_25 : decode cX6_costToLeave 25 = .ok (.iconst 1, 1) := by decide +kernel
theorem dX6_costToLeave_26 : decode cX6_costToLeave 26 = .ok (.invokevirtual 75, 3) := by decide +kernel
theorem dX6_costToLeave_29 : decode cX6_costToLeave 29 = .ok (.istore 5, 2) := by decide +kernel
theorem dX6_costToLeave_31 : decode cX6_costToLeave 31 = .ok (.iload 4, 2) := by decide +kernel
theorem dX6_costToLeave_33 : decode cX6_costToLeave 33 = .ok (.iconst 1, 1) := by decide +kernel
theorem dX6_costToLeave_34 : decode cX6_costToLeave 34 = .ok (.iadd, 1) := by decide +kernel
theorem dX6_costToLeave_35 : decode cX6_costToLeave 35 = .ok (.aload_n 0, 1) := by decide +kernel
theorem dX6_costToLeave_36 : decode cX6_costToLeave 36 = .ok (.getfield 79, 3) := by decide +kernel
theorem dX6_costToLeave_39 : decode cX6_costToLeave 39 = .ok (.getfield 83, 3) := by decide +kernel
theorem dX6_costToLeave_42 : decode cX6_costToLeave 42 = .ok (.iconst 1, 1) := by decide +kernel
theorem dX6_costToLeave_43 : decode cX6_costToLeave 43 = .ok (.isub, 1) := by decide +kernel
theorem dX6_costToLeave_44 : decode cX6_costToLeave 44 = .ok (.iload 4, 2) := by decide +kernel
theorem dX6_costToLeave_46 : decode cX6_costToLeave 46 = .ok (.isub, 1) := by decide +kernel
theorem dX6_costToLeave_47 : decode cX6_costToLeave 47 = .ok (.invokestatic 88, 3) := by decide +kernel
theorem dX6_costToLeave_50 : decode cX6_costToLeave 50 = .ok (.istore 6, 2) := by decide +kernel
theorem dX6_costToLeave_52 : decode cX6_costToLeave 52 = .ok (.iload 5, 2) := by decide +kernel
theorem dX6_costToLeave_54 : decode cX6_costToLeave 54 = .ok (.iconst 1, 1) := by decide +kernel
theorem dX6_costToLeave_55 : decode cX6_costToLeave 55 = .ok (.iadd, 1) := by decide +kernel
theorem dX6_costToLeave_56 : decode cX6_costToLeave 56 = .ok (.aload_n 0, 1) := by decide +kernel
theorem dX6_costToLeave_57 : decode cX6_costToLeave 57 = .ok (.getfield 79, 3) := by decide +kernel
theorem dX6_costToLeave_60 : decode cX6_costToLeave 60 = .ok (.getfield 93, 3) := by decide +kernel
theorem dX6_costToLeave_63 : decode cX6_costToLeave 63 = .ok (.iconst 1, 1) := by decide +kernel
theorem dX6_costToLeave_64 : decode cX6_costToLeave 64 = .ok (.isub, 1) := by decide +kernel
theorem dX6_costToLeave_65 : decode cX6_costToLeave 65 = .ok (.iload 5, 2) := by decide +kernel
theorem dX6_costToLeave_67 : decode cX6_costToLeave 67 = .ok (.isub, 1) := by decide +kernel
theorem dX6_costToLeave_68 : decode cX6_costToLeave 68 = .ok (.invokestatic 88, 3) := by decide +kernel
theorem dX6_costToLeave_71 : decode cX6_costToLeave 71 = .ok (.istore 7, 2) := by decide +kernel
theorem dX6_costToLeave_73 : decode cX6_costToLeave 73 = .ok (.iload 6, 2) := by decide +kernel
theorem dX6_costToLeave_75 : decode cX6_costToLeave 75 = .ok (.iload_n 3, 1) := by decide +kernel
theorem dX6_costToLeave_76 : decode cX6_costToLeave 76 = .ok (.iconst 0, 1) := by decide +kernel
theorem dX6_costToLeave_77 : decode cX6_costToLeave 77 = .ok (.iload_n 2, 1) := by decide +kernel
theorem dX6_costToLeave_78 : decode cX6_costToLeave 78 = .ok (.invokestatic 96, 3) := by decide +kernel
theorem dX6_costToLeave_81 : decode cX6_costToLeave 81 = .ok (.imul, 1) := by decide +kernel
theorem dX6_costToLeave_82 : decode cX6_costToLeave 82 = .ok (.iload 7, 2) := by decide +kernel
theorem dX6_costToLeave_84 : decode cX6_costToLeave 84 = .ok (.iload_n 3, 1) := by decide +kernel
theorem dX6_costToLeave_85 : decode cX6_costToLeave 85 = .ok (.iconst 1, 1) := by decide +kernel
theorem dX6_costToLeave_86 : decode cX6_costToLeave 86 = .ok (.iload_n 2, 1) := by decide +kernel
theorem dX6_costToLeave_87 : decode cX6_costToLeave 87 = .ok (.invokestatic 96, 3) := by decide +kernel
theorem dX6_costToLeave_90 : decode cX6_costToLeave 90 = .ok (.imul, 1) := by decide +kernel
theorem dX6_costToLeave_91 : decode cX6_costToLeave 91 = .ok (.invokestatic 88, 3) := by decide +kernel
theorem dX6_costToLeave_94 : decode cX6_costToLeave 94 = .ok (.ireturn, 1) := by decide +kernel
theorem dX6_costToMeet_0 : decode cX6_costToMeet 0 = .ok (.aload_n 0, 1) := by decide +kernel
theorem dX6_costToMeet_1 : decode cX6_costToMeet 1 = .ok (.iload_n 1, 1) := by decide +kernel
theorem dX6_costToMeet_2 : decode cX6_costToMeet 2 = .ok (.iload_n 2, 1) := by decide +kernel
theorem dX6_costToMeet_3 : decode cX6_costToMeet 3 = .ok (.invokevirtual 100, 3) := by decide +kernel
theorem dX6_costToMeet_6 : decode cX6_costToMeet 6 = .ok (.ifCond .ne 5, 3) := by decide +kernel
theorem dX6_costToMeet_9 : decode cX6_costToMeet 9 = .ok (.iconst (-1), 1) := by decide +kernel
theorem dX6_costToMeet_10 : decode cX6_costToMeet 10 = .ok (.ireturn, 1) := by decide +kernel
theorem dX6_costToMeet_11 : decode cX6_costToMeet 11 = .ok (.aload_n 0, 1) := by decide +kernel
theorem dX6_costToMeet_12 : decode cX6_costToMeet 12 = .ok (.iload_n 1, 1) := by decide +kernel
theorem dX6_costToMeet_13 : decode cX6_costToMeet 13 = .ok (.invokevirtual 72, 3) := by decide +kernel
theorem dX6_costToMeet_16 : decode cX6_costToMeet 16 = .ok (.istore 4, 2) := by decide +kernel
theorem dX6_costToMeet_18 : decode cX6_costToMeet 18 = .ok (.aload_n 0, 1) := by decide +kernel
theorem dX6_costToMeet_19 : decode cX6_costToMeet 19 = .ok (.iload_n 1, 1) := by decide +kernel
theorem dX6_costToMeet_20 : decode cX6_costToMeet 20 = .ok (.iconst 0, 1) := by decide +kernel
theorem dX6_costToMeet_21 : decode cX6_costToMeet 21 = .ok (.invokevirtual 75, 3) := by decide +kernel
theorem dX6_costToMeet_24 : decode cX6_costToMeet 24 = .ok (.aload_n 0, 1) := by decide +kernel
theorem dX6_costToMeet_25 : decode cX6_costToMeet 25 = .ok (.iload_n 2, 1) := by decide +kernel
theorem dX6_costToMeet_26 : decode cX6_costToMeet 26 = .ok (.iconst 0, 1) := by decide +kernel
theorem dX6_costToMeet_27 : decode cX6_costToMeet 27 = .ok (.invokevirtual 75, 3) := by decide +kernel
theorem dX6_costToMeet_30 : decode cX6_costToMeet 30 = .ok (.isub, 1) := by decide +kernel
theorem dX6_costToMeet_31 : decode cX6_costToMeet 31 = .ok (.invokestatic 104, 3) := by decide +kernel
theorem dX6_costToMeet_34 : decode cX6_costToMeet 34 = .ok (.iload 4, 2) := by decide +kernel
theorem dX6_costToMeet_36 : decode cX6_costToMeet 36 = .ok (.iconst 0, 1) := by decide +kernel
theorem dX6_costToMeet_37 : decode cX6_costToMeet 37 = .ok (.iload_n 3, 1) := by decide +kernel
theorem dX6_costToMeet_38 : decode cX6_costToMeet 38 = .ok (.invokestatic 96, 3) := by decide +kernel
theorem dX6_costToMeet_41 : decode cX6_costToMeet 41 = .ok (.imul, 1) := by decide +kernel
theorem dX6_costToMeet_42 : decode cX6_costToMeet 42 = .ok (.aload_n 0, 1) := by decide +kernel
theorem dX6_costToMeet_43 : decode cX6_costToMeet 43 = .ok (.iload_n 1, 1) := by decide +kernel
theorem dX6_costToMeet_44 : decode cX6_costToMeet 44 = .ok (.iconst 1, 1) := by decide +kernel
theorem dX6_costToMeet_45 : decode cX6_costToMeet 45 = .ok (.invokevirtual 75, 3) := by decide +kernel
theorem dX6_costToMeet_48 : decode cX6_costToMeet 48 = .ok (.aload_n 0, 1) := by decide +kernel
theorem dX6_costToMeet_49 : decode cX6_costToMeet 49 = .ok (.iload_n 2, 1) := by decide +kernel
theorem dX6_costToMeet_50 : decode cX6_costToMeet 50 = .ok (.iconst 1, 1) := by decide +kernel
theorem dX6_costToMeet_51 : decode cX6_costToMeet 51 = .ok (.invokevirtual 75, 3) := by decide +kernel
theorem dX6_costToMeet_54 : decode cX6_costToMeet 54 = .ok (.isub, 1) := by decide +kernel
theorem dX6_costToMeet_55 : decode cX6_costToMeet 55 = .ok (.invokestatic 104, 3) := by decide +kernel
theorem dX6_costToMeet_58 : decode cX6_costToMeet 58 = .ok (.iload 4, 2) := by decide +kernel
theorem dX6_costToMeet_60 : decode cX6_costToMeet 60 = .ok (.iconst 1, 1) := by decide +kernel
theorem dX6_costToMeet_61 : decode cX6_costToMeet 61 = .ok (.iload_n 3, 1) := by decide +kernel
theorem dX6_costToMeet_62 : decode cX6_costToMeet 62 = .ok (.invokestatic 96, 3) := by decide +kernel
theorem dX6_costToMeet_65 : decode cX6_costToMeet 65 = .ok (.imul, 1) := by decide +kernel
theorem dX6_costToMeet_66 : decode cX6_costToMeet 66 = .ok (.iadd, 1) := by decide +kernel
theorem dX6_costToMeet_67 : decode cX6_costToMeet 67 = .ok (.ireturn, 1) := by decide +kernel
theorem dX6_costTogether_0 : decode cX6_costTogether 0 = .ok (.aload_n 0, 1) := by decide +kernel
theorem dX6_costTogether_1 : decode cX6_costTogether 1 = .ok (.getfield 21, 3) := by decide +kernel
theorem dX6_costTogether_4 : decode cX6_costTogether 4 = .ok (.bipush 12, 2) := by decide +kernel
theorem dX6_costTogether_6 : decode cX6_costTogether 6 = .ok (.iload_n 2, 1) := by decide +kernel
theorem dX6_costTogether_7 : decode cX6_costTogether 7 = .ok (.imul, 1) := by decide +kernel
theorem dX6_costTogether_8 : decode cX6_costTogether 8 = .ok (.iload_n 3, 1) := by decide +kernel
theorem dX6_costTogether_9 : decode cX6_costTogether 9 = .ok (.iadd, 1) := by decide +kernel
theorem dX6_costTogether_10 : decode cX6_costTogether 10 = .ok (.iaload, 1) := by decide +kernel
theorem dX6_costTogether_11 : decode cX6_costTogether 11 = .ok (.aload_n 0, 1) := by decide +kernel
theorem dX6_costTogether_12 : decode cX6_costTogether 12 = .ok (.iload_n 1, 1) := by decide +kernel
theorem dX6_costTogether_13 : decode cX6_costTogether 13 = .ok (.iconst 1, 1) := by decide +kernel
theorem dX6_costTogether_14 : decode cX6_costTogether 14 = .ok (.iload_n 2, 1) := by decide +kernel
theorem dX6_costTogether_15 : decode cX6_costTogether 15 = .ok (.ishl, 1) := by decide +kernel
theorem dX6_costTogether_16 : decode cX6_costTogether 16 = .ok (.iconst 1, 1) := by decide +kernel
theorem dX6_costTogether_17 : decode cX6_costTogether 17 = .ok (.iload_n 3, 1) := by decide +kernel
theorem dX6_costTogether_18 : decode cX6_costTogether 18 = .ok (.ishl, 1) := by decide +kernel
theorem dX6_costTogether_19 : decode cX6_costTogether 19 = .ok (.ior, 1) := by decide +kernel
theorem dX6_costTogether_20 : decode cX6_costTogether 20 = .ok (.iconst (-1), 1) := by decide +kernel
theorem dX6_costTogether_21 : decode cX6_costTogether 21 = .ok (.ixor, 1) := by decide +kernel
theorem dX6_costTogether_22 : decode cX6_costTogether 22 = .ok (.iand, 1) := by decide +kernel
theorem dX6_costTogether_23 : decode cX6_costTogether 23 = .ok (.invokevirtual 41, 3) := by decide +kernel
theorem dX6_costTogether_26 : decode cX6_costTogether 26 = .ok (.iadd, 1) := by decide +kernel
theorem dX6_costTogether_27 : decode cX6_costTogether 27 = .ok (.ireturn, 1) := by decide +kernel
theorem dX6_fillLeast_0 : decode cX6_fillLeast 0 = .ok (.iconst 1, 1) := by decide +kernel
theorem dX6_fillLeast_1 : decode cX6_fillLeast 1 = .ok (.aload_n 0, 1) := by decide +kernel
theorem dX6_fillLeast_2 : decode cX6_fillLeast 2 = .ok (.getfield 34, 3) := by decide +kernel
theorem dX6_fillLeast_5 : decode cX6_fillLeast 5 = .ok (.ishl, 1) := by decide +kernel
theorem dX6_fillLeast_6 : decode cX6_fillLeast 6 = .ok (.istore_n 1, 1) := by decide +kernel
theorem dX6_fillLeast_7 : decode cX6_fillLeast 7 = .ok (.aload_n 0, 1) := by decide +kernel
theorem dX6_fillLeast_8 : decode cX6_fillLeast 8 = .ok (.getfield 24, 3) := by decide +kernel
theorem dX6_fillLeast_11 : decode cX6_fillLeast 11 = .ok (.arraylength, 1) := by decide +kernel
theorem dX6_fillLeast_12 : decode cX6_fillLeast 12 = .ok (.iload_n 1, 1) := by decide +kernel
theorem dX6_fillLeast_13 : decode cX6_fillLeast 13 = .ok (.if_icmp .ge 10, 3) := by decide +kernel
theorem dX6_fillLeast_16 : decode cX6_fillLeast 16 = .ok (.aload_n 0, 1) := by decide +kernel
theorem dX6_fillLeast_17 : decode cX6_fillLeast 17 = .ok (.iload_n 1, 1) := by decide +kernel
theorem dX6_fillLeast_18 : decode cX6_fillLeast 18 = .ok (.newarray .int, 2) := by decide +kernel
theorem dX6_fillLeast_20 : decode cX6_fillLeast 20 = .ok (.putfield 24, 3) := by decide +kernel
theorem dX6_fillLeast_23 : decode cX6_fillLeast 23 = .ok (.iconst 1, 1) := by decide +kernel
theorem dX6_fillLeast_24 : decode cX6_fillLeast 24 = .ok (.istore_n 2, 1) := by decide +kernel
theorem dX6_fillLeast_25 : decode cX6_fillLeast 25 = .ok (.iload_n 2, 1) := by decide +kernel
theorem dX6_fillLeast_26 : decode cX6_fillLeast 26 = .ok (.iload_n 1, 1) := by decide +kernel
theorem dX6_fillLeast_27 : decode cX6_fillLeast 27 = .ok (.if_icmp .ge 86, 3) := by decide +kernel
theorem dX6_fillLeast_30 : decode cX6_fillLeast 30 = .ok (.iload_n 2, 1) := by decide +kernel
theorem dX6_fillLeast_31 : decode cX6_fillLeast 31 = .ok (.aload_n 0, 1) := by decide +kernel
theorem dX6_fillLeast_32 : decode cX6_fillLeast 32 = .ok (.getfield 24, 3) := by decide +kernel
theorem dX6_fillLeast_35 : decode cX6_fillLeast 35 = .ok (.arraylength, 1) := by decide +kernel
theorem dX6_fillLeast_36 : decode cX6_fillLeast 36 = .ok (.if_icmp .ge 77, 3) := by decide +kernel
theorem dX6_fillLeast_39 : decode cX6_fillLeast 39 = .ok (.aload_n 0, 1) := by decide +kernel
theorem dX6_fillLeast_40 : decode cX6_fillLeast 40 = .ok (.iload_n 2, 1) := by decide +kernel
theorem dX6_fillLeast_41 : decode cX6_fillLeast 41 = .ok (.invokevirtual 107, 3) := by decide +kernel
theorem dX6_fillLeast_44 : decode cX6_fillLeast 44 = .ok (.istore_n 3, 1) := by decide +kernel
theorem dX6_fillLeast_45 : decode cX6_fillLeast 45 = .ok (.aload_n 0, 1) := by decide +kernel
theorem dX6_fillLeast_46 : decode cX6_fillLeast 46 = .ok (.iload_n 2, 1) := by decide +kernel
theorem dX6_fillLeast_47 : decode cX6_fillLeast 47 = .ok (.iload_n 3, 1) := by decide +kernel
theorem dX6_fillLeast_48 : decode cX6_fillLeast 48 = .ok (.invokevirtual 110, 3) := by decide +kernel
theorem dX6_fillLeast_51 : decode cX6_fillLeast 51 = .ok (.istore 4, 2) := by decide +kernel
theorem dX6_fillLeast_53 : decode cX6_fillLeast 53 = .ok (.iload_n 3, 1) := by decide +kernel
theorem dX6_fillLeast_54 : decode cX6_fillLeast 54 = .ok (.iconst 1, 1) := by decide +kernel
theorem dX6_fillLeast_55 : decode cX6_fillLeast 55 = .ok (.iadd, 1) := by decide +kernel
theorem dX6_fillLeast_56 : decode cX6_fillLeast 56 = .ok (.istore 5, 2) := by decide +kernel
theorem dX6_fillLeast_58 : decode cX6_fillLeast 58 = .ok (.iload 5, 2) := by decide +kernel
theorem dX6_fillLeast_60 : decode cX6_fillLeast 60 = .ok (.aload_n 0, 1) := by decide +kernel
theorem dX6_fillLeast_61 : decode cX6_fillLeast 61 = .ok (.getfield 34, 3) := by decide +kernel
theorem dX6_fillLeast_64 : decode cX6_fillLeast 64 = .ok (.if_icmp .ge 35, 3) := by decide +kernel
theorem dX6_fillLeast_67 : decode cX6_fillLeast 67 = .ok (.aload_n 0, 1) := by decide +kernel
theorem dX6_fillLeast_68 : decode cX6_fillLeast 68 = .ok (.iload_n 2, 1) := by decide +kernel
theorem dX6_fillLeast_69 : decode cX6_fillLeast 69 = .ok (.iload_n 3, 1) := by decide +kernel
theorem dX6_fillLeast_70 : decode cX6_fillLeast 70 = .ok (.iload 5, 2) := by decide +kernel
theorem dX6_fillLeast_72 : decode cX6_fillLeast 72 = .ok (.invokevirtual 113, 3) := by decide +kernel
theorem dX6_fillLeast_75 : decode cX6_fillLeast 75 = .ok (.ifCond .eq 18, 3) := by decide +kernel
theorem dX6_fillLeast_78 : decode cX6_fillLeast 78 = .ok (.iload 4, 2) := by decide +kernel
theorem dX6_fillLeast_80 : decode cX6_fillLeast 80 = .ok (.aload_n 0, 1) := by decide +kernel
theorem dX6_fillLeast_81 : decode cX6_fillLeast 81 = .ok (.iload_n 2, 1) := by decide +kernel
theorem dX6_fillLeast_82 : decode cX6_fillLeast 82 = .ok (.iload_n 3, 1) := by decide +kernel
theorem dX6_fillLeast_83 : decode cX6_fillLeast 83 = .ok (.iload 5, 2) := by decide +kernel
theorem dX6_fillLeast_85 : decode cX6_fillLeast 85 = .ok (.invokevirtual 117, 3) := by decide +kernel
theorem dX6_fillLeast_88 : decode cX6_fillLeast 88 = .ok (.invokestatic 88, 3) := by decide +kernel
theorem dX6_fillLeast_91 : decode cX6_fillLeast 91 = .ok (.istore 4, 2) := by decide +kernel
theorem dX6_fillLeast_93 : decode cX6_fillLeast 93 = .ok (.iinc 5 1, 3) := by decide +kernel
theorem dX6_fillLeast_96 : decode cX6_fillLeast 96 = .ok (.goto (-38), 3) := by decide +kernel
theorem dX6_fillLeast_99 : decode cX6_fillLeast 99 = .ok (.aload_n 0, 1) := by decide +kernel
theorem dX6_fillLeast_100 : decode cX6_fillLeast 100 = .ok (.getfield 24, 3) := by decide +kernel
theorem dX6_fillLeast_103 : decode cX6_fillLeast 103 = .ok (.iload_n 2, 1) := by decide +kernel
theorem dX6_fillLeast_104 : decode cX6_fillLeast 104 = .ok (.iload 4, 2) := by decide +kernel
theorem dX6_fillLeast_106 : decode cX6_fillLeast 106 = .ok (.iastore, 1) := by decide +kernel
theorem dX6_fillLeast_107 : decode cX6_fillLeast 107 = .ok (.iinc 2 1, 3) := by decide +kernel
theorem dX6_fillLeast_110 : decode cX6_fillLeast 110 = .ok (.goto (-85), 3) := by decide +kernel
theorem dX6_fillLeast_113 : decode cX6_fillLeast 113 = .ok (.return_, 1) := by decide +kernel
theorem dX6_init_0 : decode cX6_init 0 = .ok (.aload_n 0, 1) := by decide +kernel
theorem dX6_init_1 : decode cX6_init 1 = .ok (.invokespecial 3, 3) := by decide +kernel
theorem dX6_init_4 : decode cX6_init 4 = .ok (.aload_n 0, 1) := by decide +kernel
theorem dX6_init_5 : decode cX6_init 5 = .ok (.bipush 12, 2) := by decide +kernel
theorem dX6_init_7 : decode cX6_init 7 = .ok (.newarray .int, 2) := by decide +kernel
theorem dX6_init_9 : decode cX6_init 9 = .ok (.putfield 9, 3) := by decide +kernel
theorem dX6_init_12 : decode cX6_init 12 = .ok (.aload_n 0, 1) := by decide +kernel
theorem dX6_init_13 : decode cX6_init 13 = .ok (.bipush 12, 2) := by decide +kernel
theorem dX6_init_15 : decode cX6_init 15 = .ok (.newarray .int, 2) := by decide +kernel
theorem dX6_init_17 : decode cX6_init 17 = .ok (.putfield 15, 3) := by decide +kernel
theorem dX6_init_20 : decode cX6_init 20 = .ok (.aload_n 0, 1) := by decide +kernel
theorem dX6_init_21 : decode cX6_init 21 = .ok (.bipush 12, 2) := by decide +kernel
theorem dX6_init_23 : decode cX6_init 23 = .ok (.newarray .int, 2) := by decide +kernel
theorem dX6_init_25 : decode cX6_init 25 = .ok (.putfield 18, 3) := by decide +kernel
theorem dX6_init_28 : decode cX6_init 28 = .ok (.aload_n 0, 1) := by decide +kernel
theorem dX6_init_29 : decode cX6_init 29 = .ok (.sipush 144, 3) := by decide +kernel
theorem dX6_init_32 : decode cX6_init 32 = .ok (.newarray .int, 2) := by decide +kernel
theorem dX6_init_34 : decode cX6_init 34 = .ok (.putfield 21, 3) := by decide +kernel
theorem dX6_init_37 : decode cX6_init 37 = .ok (.aload_n 0, 1) := by decide +kernel
theorem dX6_init_38 : decode cX6_init 38 = .ok (.iconst 1, 1) := by decide +kernel
theorem dX6_init_39 : decode cX6_init 39 = .ok (.newarray .int, 2) := by decide +kernel
theorem dX6_init_41 : decode cX6_init 41 = .ok (.putfield 24, 3) := by decide +kernel
theorem dX6_init_44 : decode cX6_init 44 = .ok (.return_, 1) := by decide +kernel
theorem dX6_leastOf_0 : decode cX6_leastOf 0 = .ok (.iload_n 1, 1) := by decide +kernel
theorem dX6_leastOf_1 : decode cX6_leastOf 1 = .ok (.ifCond .le 21, 3) := by decide +kernel
theorem dX6_leastOf_4 : decode cX6_leastOf 4 = .ok (.iload_n 1, 1) := by decide +kernel
theorem dX6_leastOf_5 : decode cX6_leastOf 5 = .ok (.aload_n 0, 1) := by decide +kernel
theorem dX6_leastOf_6 : decode cX6_leastOf 6 = .ok (.getfield 24, 3) := by decide +kernel
theorem dX6_leastOf_9 : decode cX6_leastOf 9 = .ok (.arraylength, 1) := by decide +kernel
theorem dX6_leastOf_10 : decode cX6_leastOf 10 = .ok (.if_icmp .ge 12, 3) := by decide +kernel
theorem dX6_leastOf_13 : decode cX6_leastOf 13 = .ok (.aload_n 0, 1) := by decide +kernel
theorem dX6_leastOf_14 : decode cX6_leastOf 14 = .ok (.getfield 24, 3) := by decide +kernel
theorem dX6_leastOf_17 : decode cX6_leastOf 17 = .ok (.iload_n 1, 1) := by decide +kernel
theorem dX6_leastOf_18 : decode cX6_leastOf 18 = .ok (.iaload, 1) := by decide +kernel
theorem dX6_leastOf_19 : decode cX6_leastOf 19 = .ok (.goto 4, 3) := by decide +kernel
theorem dX6_leastOf_22 : decode cX6_leastOf 22 = .ok (.iconst 0, 1) := by decide +kernel
theorem dX6_leastOf_23 : decode cX6_leastOf 23 = .ok (.ireturn, 1) := by decide +kernel
theorem dX6_lowestOf_0 : decode cX6_lowestOf 0 = .ok (.iconst 0, 1) := by decide +kernel
theorem dX6_lowestOf_1 : decode cX6_lowestOf 1 = .ok (.istore_n 2, 1) := by decide +kernel
theorem dX6_lowestOf_2 : decode cX6_lowestOf 2 = .ok (.iload_n 2, 1) := by decide +kernel
theorem dX6_lowestOf_3 : decode cX6_lowestOf 3 = .ok (.aload_n 0, 1) := by decide +kernel
theorem dX6_lowestOf_4 : decode cX6_lowestOf 4 = .ok (.getfield 34, 3) := by decide +kernel
theorem dX6_lowestOf_7 : decode cX6_lowestOf 7 = .ok (.if_icmp .ge 20, 3) := by decide +kernel
theorem dX6_lowestOf_10 : decode cX6_lowestOf 10 = .ok (.iload_n 1, 1) := by decide +kernel
theorem dX6_lowestOf_11 : decode cX6_lowestOf 11 = .ok (.iload_n 2, 1) := by decide +kernel
theorem dX6_lowestOf_12 : decode cX6_lowestOf 12 = .ok (.ishr, 1) := by decide +kernel
theorem dX6_lowestOf_13 : decode cX6_lowestOf 13 = .ok (.iconst 1, 1) := by decide +kernel
theorem dX6_lowestOf_14 : decode cX6_lowestOf 14 = .ok (.iand, 1) := by decide +kernel
theorem dX6_lowestOf_15 : decode cX6_lowestOf 15 = .ok (.iconst 1, 1) := by decide +kernel
theorem dX6_lowestOf_16 : decode cX6_lowestOf 16 = .ok (.if_icmp .ne 5, 3) := by decide +kernel
theorem dX6_lowestOf_19 : decode cX6_lowestOf 19 = .ok (.iload_n 2, 1) := by decide +kernel
theorem dX6_lowestOf_20 : decode cX6_lowestOf 20 = .ok (.ireturn, 1) := by decide +kernel
theorem dX6_lowestOf_21 : decode cX6_lowestOf 21 = .ok (.iinc 2 1, 3) := by decide +kernel
theorem dX6_lowestOf_24 : decode cX6_lowestOf 24 = .ok (.goto (-22), 3) := by decide +kernel
theorem dX6_lowestOf_27 : decode cX6_lowestOf 27 = .ok (.iconst 0, 1) := by decide +kernel
theorem dX6_lowestOf_28 : decode cX6_lowestOf 28 = .ok (.ireturn, 1) := by decide +kernel
theorem dX6_partnerOf_0 : decode cX6_partnerOf 0 = .ok (.iload_n 1, 1) := by decide +kernel
theorem dX6_partnerOf_1 : decode cX6_partnerOf 1 = .ok (.ifCond .lt 18, 3) := by decide +kernel
theorem dX6_partnerOf_4 : decode cX6_partnerOf 4 = .ok (.iload_n 1, 1) := by decide +kernel
theorem dX6_partnerOf_5 : decode cX6_partnerOf 5 = .ok (.bipush 12, 2) := by decide +kernel
theorem dX6_partnerOf_7 : decode cX6_partnerOf 7 = .ok (.if_icmp .ge 12, 3) := by decide +kernel
theorem dX6_partnerOf_10 : decode cX6_partnerOf 10 = .ok (.aload_n 0, 1) := by decide +kernel
theorem dX6_partnerOf_11 : decode cX6_partnerOf 11 = .ok (.getfield 9, 3) := by decide +kernel
theorem dX6_partnerOf_14 : decode cX6_partnerOf 14 = .ok (.iload_n 1, 1) := by decide +kernel
theorem dX6_partnerOf_15 : decode cX6_partnerOf 15 = .ok (.iaload, 1) := by decide +kernel
theorem dX6_partnerOf_16 : decode cX6_partnerOf 16 = .ok (.goto 4, 3) := by decide +kernel
theorem dX6_partnerOf_19 : decode cX6_partnerOf 19 = .ok (.iconst (-1), 1) := by decide +kernel
theorem dX6_partnerOf_20 : decode cX6_partnerOf 20 = .ok (.ireturn, 1) := by decide +kernel
theorem dX6_plan_0 : decode cX6_plan 0 = .ok (.aload_n 0, 1) := by decide +kernel
theorem dX6_plan_1 : decode cX6_plan 1 = .ok (.aload_n 1, 1) := by decide +kernel
theorem dX6_plan_2 : decode cX6_plan 2 = .ok (.iload_n 2, 1) := by decide +kernel
theorem dX6_plan_3 : decode cX6_plan 3 = .ok (.invokevirtual 27, 3) := by decide +kernel
theorem dX6_plan_6 : decode cX6_plan 6 = .ok (.aload_n 0, 1) := by decide +kernel
theorem dX6_plan_7 : decode cX6_plan 7 = .ok (.invokevirtual 31, 3) := by decide +kernel
theorem dX6_plan_10 : decode cX6_plan 10 = .ok (.iconst 1, 1) := by decide +kernel
theorem dX6_plan_11 : decode cX6_plan 11 = .ok (.aload_n 0, 1) := by decide +kernel
theorem dX6_plan_12 : decode cX6_plan 12 = .ok (.getfield 34, 3) := by decide +kernel
theorem dX6_plan_15 : decode cX6_plan 15 = .ok (.ishl, 1) := by decide +kernel
theorem dX6_plan_16 : decode cX6_plan 16 = .ok (.iconst 1, 1) := by decide +kernel
theorem dX6_plan_17 : decode cX6_plan 17 = .ok (.isub, 1) := by decide +kernel
theorem dX6_plan_18 : decode cX6_plan 18 = .ok (.istore_n 3, 1) := by decide +kernel
theorem dX6_plan_19 : decode cX6_plan 19 = .ok (.aload_n 0, 1) := by decide +kernel
theorem dX6_plan_20 : decode cX6_plan 20 = .ok (.dup, 1) := by decide +kernel
theorem dX6_plan_21 : decode cX6_plan 21 = .ok (.getfield 38, 3) := by decide +kernel
theorem dX6_plan_24 : decode cX6_plan 24 = .ok (.aload_n 0, 1) := by decide +kernel
theorem dX6_plan_25 : decode cX6_plan 25 = .ok (.iload_n 3, 1) := by decide +kernel
theorem dX6_plan_26 : decode cX6_plan 26 = .ok (.invokevirtual 41, 3) := by decide +kernel
theorem dX6_plan_29 : decode cX6_plan 29 = .ok (.iadd, 1) := by decide +kernel
theorem dX6_plan_30 : decode cX6_plan 30 = .ok (.putfield 38, 3) := by decide +kernel
theorem dX6_plan_33 : decode cX6_plan 33 = .ok (.aload_n 0, 1) := by decide +kernel
theorem dX6_plan_34 : decode cX6_plan 34 = .ok (.iload_n 3, 1) := by decide +kernel
theorem dX6_plan_35 : decode cX6_plan 35 = .ok (.invokevirtual 45, 3) := by decide +kernel
theorem dX6_plan_38 : decode cX6_plan 38 = .ok (.return_, 1) := by decide +kernel
theorem dX6_weigh_0 : decode cX6_weigh 0 = .ok (.aload_n 1, 1) := by decide +kernel
theorem dX6_weigh_1 : decode cX6_weigh 1 = .ok (.getfield 49, 3) := by decide +kernel
theorem dX6_weigh_4 : decode cX6_weigh 4 = .ok (.astore_n 3, 1) := by decide +kernel
theorem dX6_weigh_5 : decode cX6_weigh 5 = .ok (.aload_n 0, 1) := by decide +kernel
theorem dX6_weigh_6 : decode cX6_weigh 6 = .ok (.iconst 0, 1) := by decide +kernel
theorem dX6_weigh_7 : decode cX6_weigh 7 = .ok (.putfield 38, 3) := by decide +kernel
theorem dX6_weigh_10 : decode cX6_weigh 10 = .ok (.aload_n 0, 1) := by decide +kernel
theorem dX6_weigh_11 : decode cX6_weigh 11 = .ok (.iconst 0, 1) := by decide +kernel
theorem dX6_weigh_12 : decode cX6_weigh 12 = .ok (.putfield 34, 3) := by decide +kernel
theorem dX6_weigh_15 : decode cX6_weigh 15 = .ok (.iconst 0, 1) := by decide +kernel
theorem dX6_weigh_16 : decode cX6_weigh 16 = .ok (.istore 4, 2) := by decide +kernel
theorem dX6_weigh_18 : decode cX6_weigh 18 = .ok (.iload 4, 2) := by decide +kernel
theorem dX6_weigh_20 : decode cX6_weigh 20 = .ok (.aload_n 3, 1) := by decide +kernel
theorem dX6_weigh_21 : decode cX6_weigh 21 = .ok (.getfield 55, 3) := by decide +kernel
theorem dX6_weigh_24 : decode cX6_weigh 24 = .ok (.if_icmp .ge 97, 3) := by decide +kernel
theorem dX6_weigh_27 : decode cX6_weigh 27 = .ok (.iload 4, 2) := by decide +kernel
theorem dX6_weigh_29 : decode cX6_weigh 29 = .ok (.bipush 12, 2) := by decide +kernel
theorem dX6_weigh_31 : decode cX6_weigh 31 = .ok (.if_icmp .ge 90, 3) := by decide +kernel
theorem dX6_weigh_34 : decode cX6_weigh 34 = .ok (.aload_n 0, 1) := by decide +kernel
theorem dX6_weigh_35 : decode cX6_weigh 35 = .ok (.getfield 9, 3) := by decide +kernel
theorem dX6_weigh_38 : decode cX6_weigh 38 = .ok (.iload 4, 2) := by decide +kernel
theorem dX6_weigh_40 : decode cX6_weigh 40 = .ok (.iload 4, 2) := by decide +kernel
theorem dX6_weigh_42 : decode cX6_weigh 42 = .ok (.iastore, 1) := by decide +kernel
theorem dX6_weigh_43 : decode cX6_weigh 43 = .ok (.aload_n 0, 1) := by decide +kernel
theorem dX6_weigh_44 : decode cX6_weigh 44 = .ok (.getfield 15, 3) := by decide +kernel
theorem dX6_weigh_47 : decode cX6_weigh 47 = .ok (.iload 4, 2) := by decide +kernel
theorem dX6_weigh_49 : decode cX6_weigh 49 = .ok (.aload_n 1, 1) := by decide +kernel
theorem dX6_weigh_50 : decode cX6_weigh 50 = .ok (.iload 4, 2) := by decide +kernel
theorem dX6_weigh_52 : decode cX6_weigh 52 = .ok (.iload_n 2, 1) := by decide +kernel
theorem dX6_weigh_53 : decode cX6_weigh 53 = .ok (.invokestatic 60, 3) := by decide +kernel
theorem dX6_weigh_56 : decode cX6_weigh 56 = .ok (.iastore, 1) := by decide +kernel
theorem dX6_weigh_57 : decode cX6_weigh 57 = .ok (.aload_n 3, 1) := by decide +kernel
theorem dX6_weigh_58 : decode cX6_weigh 58 = .ok (.iload 4, 2) := by decide +kernel
theorem dX6_weigh_60 : decode cX6_weigh 60 = .ok (.invokevirtual 64, 3) := by decide +kernel
theorem dX6_weigh_63 : decode cX6_weigh 63 = .ok (.ifCond .eq 36, 3) := by decide +kernel
theorem dX6_weigh_66 : decode cX6_weigh 66 = .ok (.aload_n 0, 1) := by decide +kernel
theorem dX6_weigh_67 : decode cX6_weigh 67 = .ok (.getfield 34, 3) := by decide +kernel
theorem dX6_weigh_70 : decode cX6_weigh 70 = .ok (.bipush 12, 2) := by decide +kernel
theorem dX6_weigh_72 : decode cX6_weigh 72 = .ok (.if_icmp .ge 27, 3) := by decide +kernel
theorem dX6_weigh_75 : decode cX6_weigh 75 = .ok (.aload_n 0, 1) := by decide +kernel
theorem dX6_weigh_76 : decode cX6_weigh 76 = .ok (.getfield 18, 3) := by decide +kernel
theorem dX6_weigh_79 : decode cX6_weigh 79 = .ok (.aload_n 0, 1) := by decide +kernel
theorem dX6_weigh_80 : decode cX6_weigh 80 = .ok (.getfield 34, 3) := by decide +kernel
theorem dX6_weigh_83 : decode cX6_weigh 83 = .ok (.iload 4, 2) := by decide +kernel
theorem dX6_weigh_85 : decode cX6_weigh 85 = .ok (.iastore, 1) := by decide +kernel
theorem dX6_weigh_86 : decode cX6_weigh 86 = .ok (.aload_n 0, 1) := by decide +kernel
theorem dX6_weigh_87 : decode cX6_weigh 87 = .ok (.dup, 1) := by decide +kernel
theorem dX6_weigh_88 : decode cX6_weigh 88 = .ok (.getfield 34, 3) := by decide +kernel
theorem dX6_weigh_91 : decode cX6_weigh 91 = .ok (.iconst 1, 1) := by decide +kernel
theorem dX6_weigh_92 : decode cX6_weigh 92 = .ok (.iadd, 1) := by decide +kernel
theorem dX6_weigh_93 : decode cX6_weigh 93 = .ok (.putfield 34, 3) := by decide +kernel
theorem dX6_weigh_96 : decode cX6_weigh 96 = .ok (.goto 19, 3) := by decide +kernel
theorem dX6_weigh_99 : decode cX6_weigh 99 = .ok (.aload_n 0, 1) := by decide +kernel
theorem dX6_weigh_100 : decode cX6_weigh 100 = .ok (.dup, 1) := by decide +kernel
theorem dX6_weigh_101 : decode cX6_weigh 101 = .ok (.getfield 38, 3) := by decide +kernel
theorem dX6_weigh_104 : decode cX6_weigh 104 = .ok (.aload_n 0, 1) := by decide +kernel
theorem dX6_weigh_105 : decode cX6_weigh 105 = .ok (.getfield 15, 3) := by decide +kernel
theorem dX6_weigh_108 : decode cX6_weigh 108 = .ok (.iload 4, 2) := by decide +kernel
theorem dX6_weigh_110 : decode cX6_weigh 110 = .ok (.iaload, 1) := by decide +kernel
theorem dX6_weigh_111 : decode cX6_weigh 111 = .ok (.iadd, 1) := by decide +kernel
theorem dX6_weigh_112 : decode cX6_weigh 112 = .ok (.putfield 38, 3) := by decide +kernel
theorem dX6_weigh_115 : decode cX6_weigh 115 = .ok (.iinc 4 1, 3) := by decide +kernel
theorem dX6_weigh_118 : decode cX6_weigh 118 = .ok (.goto (-100), 3) := by decide +kernel
theorem dX6_weigh_121 : decode cX6_weigh 121 = .ok (.iconst 0, 1) := by decide +kernel
theorem dX6_weigh_122 : decode cX6_weigh 122 = .ok (.istore 4, 2) := by decide +kernel
theorem dX6_weigh_124 : decode cX6_weigh 124 = .ok (.iload 4, 2) := by decide +kernel
theorem dX6_weigh_126 : decode cX6_weigh 126 = .ok (.aload_n 0, 1) := by decide +kernel
theorem dX6_weigh_127 : decode cX6_weigh 127 = .ok (.getfield 34, 3) := by decide +kernel
theorem dX6_weigh_130 : decode cX6_weigh 130 = .ok (.if_icmp .ge 62, 3) := by decide +kernel
theorem dX6_weigh_133 : decode cX6_weigh 133 = .ok (.iload 4, 2) := by decide +kernel
theorem dX6_weigh_135 : decode cX6_weigh 135 = .ok (.iconst 1, 1) := by decide +kernel
theorem dX6_weigh_136 : decode cX6_weigh 136 = .ok (.iadd, 1) := by decide +kernel
theorem dX6_weigh_137 : decode cX6_weigh 137 = .ok (.istore 5, 2) := by decide +kernel
theorem dX6_weigh_139 : decode cX6_weigh 139 = .ok (.iload 5, 2) := by decide +kernel
theorem dX6_weigh_141 : decode cX6_weigh 141 = .ok (.aload_n 0, 1) := by decide +kernel
theorem dX6_weigh_142 : decode cX6_weigh 142 = .ok (.getfield 34, 3) := by decide +kernel
theorem dX6_weigh_145 : decode cX6_weigh 145 = .ok (.if_icmp .ge 41, 3) := by decide +kernel
theorem dX6_weigh_148 : decode cX6_weigh 148 = .ok (.aload_n 0, 1) := by decide +kernel
theorem dX6_weigh_149 : decode cX6_weigh 149 = .ok (.getfield 21, 3) := by decide +kernel
theorem dX6_weigh_152 : decode cX6_weigh 152 = .ok (.bipush 12, 2) := by decide +kernel
theorem dX6_weigh_154 : decode cX6_weigh 154 = .ok (.iload 4, 2) := by decide +kernel
theorem dX6_weigh_156 : decode cX6_weigh 156 = .ok (.imul, 1) := by decide +kernel
theorem dX6_weigh_157 : decode cX6_weigh 157 = .ok (.iload 5, 2) := by decide +kernel
theorem dX6_weigh_159 : decode cX6_weigh 159 = .ok (.iadd, 1) := by decide +kernel
theorem dX6_weigh_160 : decode cX6_weigh 160 = .ok (.aload_n 3, 1) := by decide +kernel
theorem dX6_weigh_161 : decode cX6_weigh 161 = .ok (.aload_n 0, 1) := by decide +kernel
theorem dX6_weigh_162 : decode cX6_weigh 162 = .ok (.getfield 18, 3) := by decide +kernel
theorem dX6_weigh_165 : decode cX6_weigh 165 = .ok (.iload 4, 2) := by decide +kernel
theorem dX6_weigh_167 : decode cX6_weigh 167 = .ok (.iaload, 1) := by decide +kernel
theorem dX6_weigh_168 : decode cX6_weigh 168 = .ok (.aload_n 0, 1) := by decide +kernel
theorem dX6_weigh_169 : decode cX6_weigh 169 = .ok (.getfield 18, 3) := by decide +kernel
theorem dX6_weigh_172 : decode cX6_weigh 172 = .ok (.iload 5, 2) := by decide +kernel
theorem dX6_weigh_174 : decode cX6_weigh 174 = .ok (.iaload, 1) := by decide +kernel
theorem dX6_weigh_175 : decode cX6_weigh 175 = .ok (.iload_n 2, 1) := by decide +kernel
theorem dX6_weigh_176 : decode cX6_weigh 176 = .ok (.invokestatic 68, 3) := by decide +kernel
theorem dX6_weigh_179 : decode cX6_weigh 179 = .ok (.iastore, 1) := by decide +kernel
theorem dX6_weigh_180 : decode cX6_weigh 180 = .ok (.iinc 5 1, 3) := by decide +kernel
theorem dX6_weigh_183 : decode cX6_weigh 183 = .ok (.goto (-44), 3) := by decide +kernel
theorem dX6_weigh_186 : decode cX6_weigh 186 = .ok (.iinc 4 1, 3) := by decide +kernel
theorem dX6_weigh_189 : decode cX6_weigh 189 = .ok (.goto (-65), 3) := by decide +kernel
theorem dX6_weigh_192 : decode cX6_weigh 192 = .ok (.return_, 1) := by decide +kernel
theorem dX7_addTo_0 : decode cX7_addTo 0 = .ok (.aload_n 0, 1) := by decide +kernel
theorem dX7_addTo_1 : decode cX7_addTo 1 = .ok (.iload_n 1, 1) := by decide +kernel
theorem dX7_addTo_2 : decode cX7_addTo 2 = .ok (.iload_n 2, 1) := by decide +kernel
theorem dX7_addTo_3 : decode cX7_addTo 3 = .ok (.iload_n 3, 1) := by decide +kernel
theorem dX7_addTo_4 : decode cX7_addTo 4 = .ok (.invokevirtual 28, 3) := by decide +kernel
theorem dX7_addTo_7 : decode cX7_addTo 7 = .ok (.ifCond .eq 37, 3) := by decide +kernel
theorem dX7_addTo_10 : decode cX7_addTo 10 = .ok (.aload_n 0, 1) := by decide +kernel
theorem dX7_addTo_11 : decode cX7_addTo 11 = .ok (.getfield 11, 3) := by decide +kernel
theorem dX7_addTo_14 : decode cX7_addTo 14 = .ok (.iload_n 1, 1) := by decide +kernel
theorem dX7_addTo_15 : decode cX7_addTo 15 = .ok (.iload_n 2, 1) := by decide +kernel
theorem dX7_addTo_16 : decode cX7_addTo 16 = .ok (.iload_n 3, 1) := by decide +kernel
theorem dX7_addTo_17 : decode cX7_addTo 17 = .ok (.invokestatic 32, 3) := by decide +kernel
theorem dX7_addTo_20 : decode cX7_addTo 20 = .ok (.dup2, 1) := by decide +kernel
theorem dX7_addTo_21 : decode cX7_addTo 21 = .ok (.iaload, 1) := by decide +kernel
theorem dX7_addTo_22 : decode cX7_addTo 22 = .ok (.iload 4, 2) := by decide +kernel
theorem dX7_addTo_24 : decode cX7_addTo 24 = .ok (.iadd, 1) := by decide +kernel
theorem dX7_addTo_25 : decode cX7_addTo 25 = .ok (.iastore, 1) := by decide +kernel
theorem dX7_addTo_26 : decode cX7_addTo 26 = .ok (.aload_n 0, 1) := by decide +kernel
theorem dX7_addTo_27 : decode cX7_addTo 27 = .ok (.getfield 11, 3) := by decide +kernel
theorem dX7_addTo_30 : decode cX7_addTo 30 = .ok (.iload_n 1, 1) := by decide +kernel
theorem dX7_addTo_31 : decode cX7_addTo 31 = .ok (.iload_n 2, 1) := by decide +kernel
theorem dX7_addTo_32 : decode cX7_addTo 32 = .ok (.iload_n 3, 1) := by decide +kernel
theorem dX7_addTo_33 : decode cX7_addTo 33 = .ok (.invokestatic 32, 3) := by decide +kernel
theorem dX7_addTo_36 : decode cX7_addTo 36 = .ok (.iconst 1, 1) := by decide +kernel
theorem dX7_addTo_37 : decode cX7_addTo 37 = .ok (.iadd, 1) := by decide +kernel
theorem dX7_addTo_38 : decode cX7_addTo 38 = .ok (.dup2, 1) := by decide +kernel
theorem dX7_addTo_39 : decode cX7_addTo 39 = .ok (.iaload, 1) := by decide +kernel
theorem dX7_addTo_40 : decode cX7_addTo 40 = .ok (.iload 5, 2) := by decide +kernel
theorem dX7_addTo_42 : decode cX7_addTo 42 = .ok (.iadd, 1) := by decide +kernel
theorem dX7_addTo_43 : decode cX7_addTo 43 = .ok (.iastore, 1) := by decide +kernel
theorem dX7_addTo_44 : decode cX7_addTo 44 = .ok (.return_, 1) := by decide +kernel
theorem dX7_carry_0 : decode cX7_carry 0 = .ok (.iload 5, 2) := by decide +kernel
theorem dX7_carry_2 : decode cX7_carry 2 = .ok (.ifCond .lt 9, 3) := by decide +kernel
theorem dX7_carry_5 : decode cX7_carry 5 = .ok (.iload 5, 2) := by decide +kernel
theorem dX7_carry_7 : decode cX7_carry 7 = .ok (.iconst 3, 1) := by decide +kernel
theorem dX7_carry_8 : decode cX7_carry 8 = .ok (.if_icmp .le 5, 3) := by decide +kernel
theorem dX7_carry_11 : decode cX7_carry 11 = .ok (.iconst 0, 1) := by decide +kernel
theorem dX7_carry_12 : decode cX7_carry 12 = .ok (.ireturn, 1) := by decide +kernel
theorem dX7_carry_13 : decode cX7_carry 13 = .ok (.iload 5, 2) := by decide +kernel
theorem dX7_carry_15 : decode cX7_carry 15 = .ok (.tableswitch 70 0 2 #[25, 42, 57], 25) := by decide +kernel
theorem dX7_carry_40 : decode cX7_carry 40 = .ok (.aload_n 0, 1) := by decide +kernel
theorem dX7_carry_41 : decode cX7_carry 41 = .ok (.iload_n 1, 1) := by decide +kernel
theorem dX7_carry_42 : decode cX7_carry 42 = .ok (.iconst 1, 1) := by decide +kernel
theorem dX7_carry_43 : decode cX7_carry 43 = .ok (.iadd, 1) := by decide +kernel
theorem dX7_carry_44 : decode cX7_carry 44 = .ok (.iload_n 2, 1) := by decide +kernel
theorem dX7_carry_45 : decode cX7_carry 45 = .ok (.iconst 1, 1) := by decide +kernel
theorem dX7_carry_46 : decode cX7_carry 46 = .ok (.iload_n 3, 1) := by decide +kernel
theorem dX7_carry_47 : decode cX7_carry 47 = .ok (.ineg, 1) := by decide +kernel
theorem dX7_carry_48 : decode cX7_carry 48 = .ok (.iload 4, 2) := by decide +kernel
theorem dX7_carry_50 : decode cX7_carry 50 = .ok (.ineg, 1) := by decide +kernel
theorem dX7_carry_51 : decode cX7_carry 51 = .ok (.invokevirtual 58, 3) := by decide +kernel
theorem dX7_carry_54 : decode cX7_carry 54 = .ok (.goto 43, 3) := by decide +kernel
theorem dX7_carry_57 : decode cX7_carry 57 = .ok (.aload_n 0, 1) := by decide +kernel
theorem dX7_carry_58 : decode cX7_carry 58 = .ok (.iload_n 1, 1) := by decide +kernel
theorem dX7_carry_59 : decode cX7_carry 59 = .ok (.iload_n 2, 1) := by decide +kernel
theorem dX7_carry_60 : decode cX7_carry 60 = .ok (.iconst 1, 1) := by decide +kernel
theorem dX7_carry_61 : decode cX7_carry 61 = .ok (.iadd, 1) := by decide +kernel
theorem dX7_carry_62 : decode cX7_carry 62 = .ok (.iconst 0, 1) := by decide +kernel
theorem dX7_carry_63 : decode cX7_carry 63 = .ok (.iload_n 3, 1) := by decide +kernel
theorem dX7_carry_64 : decode cX7_carry 64 = .ok (.iload 4, 2) := by decide +kernel
theorem dX7_carry_66 : decode cX7_carry 66 = .ok (.invokevirtual 58, 3) := by decide +kernel
theorem dX7_carry_69 : decode cX7_carry 69 = .ok (.goto 28, 3) := by decide +kernel
theorem dX7_carry_72 : decode cX7_carry 72 = .ok (.aload_n 0, 1) := by decide +kernel
theorem dX7_carry_73 : decode cX7_carry 73 = .ok (.iload_n 1, 1) := by decide +kernel
theorem dX7_carry_74 : decode cX7_carry 74 = .ok (.iload_n 2, 1) := by decide +kernel
theorem dX7_carry_75 : decode cX7_carry 75 = .ok (.iconst 1, 1) := by decide +kernel
theorem dX7_carry_76 : decode cX7_carry 76 = .ok (.iload_n 3, 1) := by decide +kernel
theorem dX7_carry_77 : decode cX7_carry 77 = .ok (.iload 4, 2) := by decide +kernel
theorem dX7_carry_79 : decode cX7_carry 79 = .ok (.invokevirtual 58, 3) := by decide +kernel
theorem dX7_carry_82 : decode cX7_carry 82 = .ok (.goto 15, 3) := by decide +kernel
theorem dX7_carry_85 : decode cX7_carry 85 = .ok (.aload_n 0, 1) := by decide +kernel
theorem dX7_carry_86 : decode cX7_carry 86 = .ok (.iload_n 1, 1) := by decide +kernel
theorem dX7_carry_87 : decode cX7_carry 87 = .ok (.iload_n 2, 1) := by decide +kernel
theorem dX7_carry_88 : decode cX7_carry 88 = .ok (.iconst 0, 1) := by decide +kernel
theorem dX7_carry_89 : decode cX7_carry 89 = .ok (.iload_n 3, 1) := by decide +kernel
theorem dX7_carry_90 : decode cX7_carry 90 = .ok (.ineg, 1) := by decide +kernel
theorem dX7_carry_91 : decode cX7_carry 91 = .ok (.iload 4, 2) := by decide +kernel
theorem dX7_carry_93 : decode cX7_carry 93 = .ok (.ineg, 1) := by decide +kernel
theorem dX7_carry_94 : decode cX7_carry 94 = .ok (.invokevirtual 58, 3) := by decide +kernel
theorem dX7_carry_97 : decode cX7_carry 97 = .ok (.iload_n 1, 1) := by decide +kernel
theorem dX7_carry_98 : decode cX7_carry 98 = .ok (.getstatic 62, 3) := by decide +kernel
theorem dX7_carry_101 : decode cX7_carry 101 = .ok (.iload 5, 2) := by decide +kernel
theorem dX7_carry_103 : decode cX7_carry 103 = .ok (.iaload, 1) := by decide +kernel
theorem dX7_carry_104 : decode cX7_carry 104 = .ok (.iadd, 1) := by decide +kernel
theorem dX7_carry_105 : decode cX7_carry 105 = .ok (.istore 6, 2) := by decide +kernel
theorem dX7_carry_107 : decode cX7_carry 107 = .ok (.iload_n 2, 1) := by decide +kernel
theorem dX7_carry_108 : decode cX7_carry 108 = .ok (.getstatic 65, 3) := by decide +kernel
theorem dX7_carry_111 : decode cX7_carry 111 = .ok (.iload 5, 2) := by decide +kernel
theorem dX7_carry_113 : decode cX7_carry 113 = .ok (.iaload, 1) := by decide +kernel
theorem dX7_carry_114 : decode cX7_carry 114 = .ok (.iadd, 1) := by decide +kernel
theorem dX7_carry_115 : decode cX7_carry 115 = .ok (.istore 7, 2) := by decide +kernel
theorem dX7_carry_117 : decode cX7_carry 117 = .ok (.aload_n 0, 1) := by decide +kernel
theorem dX7_carry_118 : decode cX7_carry 118 = .ok (.iload 6, 2) := by decide +kernel
theorem dX7_carry_120 : decode cX7_carry 120 = .ok (.iload 7, 2) := by decide +kernel
theorem dX7_carry_122 : decode cX7_carry 122 = .ok (.invokevirtual 51, 3) := by decide +kernel
theorem dX7_carry_125 : decode cX7_carry 125 = .ok (.ifCond .ne 5, 3) := by decide +kernel
theorem dX7_carry_128 : decode cX7_carry 128 = .ok (.iconst 3, 1) := by decide +kernel
theorem dX7_carry_129 : decode cX7_carry 129 = .ok (.ireturn, 1) := by decide +kernel
theorem dX7_carry_130 : decode cX7_carry 130 = .ok (.aload_n 0, 1) := by decide +kernel
theorem dX7_carry_131 : decode cX7_carry 131 = .ok (.iload 6, 2) := by decide +kernel
theorem dX7_carry_133 : decode cX7_carry 133 = .ok (.iload 7, 2) := by decide +kernel
theorem dX7_carry_135 : decode cX7_carry 135 = .ok (.invokevirtual 68, 3) := by decide +kernel
theorem dX7_carry_138 : decode cX7_carry 138 = .ok (.ifCond .eq 7, 3) := by decide +kernel
theorem dX7_carry_141 : decode cX7_carry 141 = .ok (.iconst 2, 1) := by decide +kernel
theorem dX7_carry_142 : decode cX7_carry 142 = .ok (.goto 4, 3) := by decide +kernel
theorem dX7_carry_145 : decode cX7_carry 145 = .ok (.iconst 0, 1) := by decide +kernel
theorem dX7_carry_146 : decode cX7_carry 146 = .ok (.ireturn, 1) := by decide +kernel
theorem dX7_copy_0 : decode cX7_copy 0 = .ok (.aload_n 0, 1) := by decide +kernel
theorem dX7_copy_1 : decode cX7_copy 1 = .ok (.aload_n 1, 1) := by decide +kernel
theorem dX7_copy_2 : decode cX7_copy 2 = .ok (.getfield 15, 3) := by decide +kernel
theorem dX7_copy_5 : decode cX7_copy 5 = .ok (.putfield 15, 3) := by decide +kernel
theorem dX7_copy_8 : decode cX7_copy 8 = .ok (.aload_n 0, 1) := by decide +kernel
theorem dX7_copy_9 : decode cX7_copy 9 = .ok (.aload_n 1, 1) := by decide +kernel
theorem dX7_copy_10 : decode cX7_copy 10 = .ok (.getfield 19, 3) := by decide +kernel
theorem dX7_copy_13 : decode cX7_copy 13 = .ok (.putfield 19, 3) := by decide +kernel
theorem dX7_copy_16 : decode cX7_copy 16 = .ok (.aload_n 1, 1) := by decide +kernel
theorem dX7_copy_17 : decode cX7_copy 17 = .ok (.getfield 11, 3) := by decide +kernel
theorem dX7_copy_20 : decode cX7_copy 20 = .ok (.iconst 0, 1) := by decide +kernel
theorem dX7_copy_21 : decode cX7_copy 21 = .ok (.aload_n 0, 1) := by decide +kernel
theorem dX7_copy_22 : decode cX7_copy 22 = .ok (.getfield 11, 3) := by decide +kernel
theorem dX7_copy_25 : decode cX7_copy 25 = .ok (.iconst 0, 1) := by decide +kernel
theorem dX7_copy_26 : decode cX7_copy 26 = .ok (.aload_n 0, 1) := by decide +kernel
theorem dX7_copy_27 : decode cX7_copy 27 = .ok (.getfield 11, 3) := by decide +kernel
theorem dX7_copy_30 : decode cX7_copy 30 = .ok (.arraylength, 1) := by decide +kernel
theorem dX7_copy_31 : decode cX7_copy 31 = .ok (.invokestatic 22, 3) := by decide +kernel
theorem dX7_copy_34 : decode cX7_copy 34 = .ok (.return_, 1) := by decide +kernel
theorem dX7_hasFace_0 : decode cX7_hasFace 0 = .ok (.iload_n 1, 1) := by decide +kernel
theorem dX7_hasFace_1 : decode cX7_hasFace 1 = .ok (.ifCond .lt 43, 3) := by decide +kernel
theorem dX7_hasFace_4 : decode cX7_hasFace 4 = .ok (.iload_n 1, 1) := by decide +kernel
theorem dX7_hasFace_5 : decode cX7_hasFace 5 = .ok (.aload_n 0, 1) := by decide +kernel
theorem dX7_hasFace_6 : decode cX7_hasFace 6 = .ok (.getfield 15, 3) := by decide +kernel
theorem dX7_hasFace_9 : decode cX7_hasFace 9 = .ok (.iconst 1, 1) := by decide +kernel
theorem dX7_hasFace_10 : decode cX7_hasFace 10 = .ok (.isub, 1) := by decide +kernel
theorem dX7_hasFace_11 : decode cX7_hasFace 11 = .ok (.if_icmp .ge 33, 3) := by decide +kernel
theorem dX7_hasFace_14 : decode cX7_hasFace 14 = .ok (.iload_n 1, 1) := by decide +kernel
theorem dX7_hasFace_15 : decode cX7_hasFace 15 = .ok (.bipush 8, 2) := by decide +kernel
theorem dX7_hasFace_17 : decode cX7_hasFace 17 = .ok (.if_icmp .ge 27, 3) := by decide +kernel
theorem dX7_hasFace_20 : decode cX7_hasFace 20 = .ok (.iload_n 2, 1) := by decide +kernel
theorem dX7_hasFace_21 : decode cX7_hasFace 21 = .ok (.ifCond .lt 23, 3) := by decide +kernel
theorem dX7_hasFace_24 : decode cX7_hasFace 24 = .ok (.iload_n 2, 1) := by decide +kernel
theorem dX7_hasFace_25 : decode cX7_hasFace 25 = .ok (.aload_n 0, 1) := by decide +kernel
theorem dX7_hasFace_26 : decode cX7_hasFace 26 = .ok (.getfield 19, 3) := by decide +kernel
theorem dX7_hasFace_29 : decode cX7_hasFace 29 = .ok (.iconst 1, 1) := by decide +kernel
theorem dX7_hasFace_30 : decode cX7_hasFace 30 = .ok (.isub, 1) := by decide +kernel
theorem dX7_hasFace_31 : decode cX7_hasFace 31 = .ok (.if_icmp .ge 13, 3) := by decide +kernel
theorem dX7_hasFace_34 : decode cX7_hasFace 34 = .ok (.iload_n 2, 1) := by decide +kernel
theorem dX7_hasFace_35 : decode cX7_hasFace 35 = .ok (.bipush 8, 2) := by decide +kernel
theorem dX7_hasFace_37 : decode cX7_hasFace 37 = .ok (.if_icmp .ge 7, 3) := by decide +kernel
theorem dX7_hasFace_40 : decode cX7_hasFace 40 = .ok (.iconst 1, 1) := by decide +kernel
theorem dX7_hasFace_41 : decode cX7_hasFace 41 = .ok (.goto 4, 3) := by decide +kernel
theorem dX7_hasFace_44 : decode cX7_hasFace 44 = .ok (.iconst 0, 1) := by decide +kernel
theorem dX7_hasFace_45 : decode cX7_hasFace 45 = .ok (.ireturn, 1) := by decide +kernel
theorem dX7_hasLink_0 : decode cX7_hasLink 0 = .ok (.iload_n 3, 1) := by decide +kernel
theorem dX7_hasLink_1 : decode cX7_hasLink 1 = .ok (.ifCond .eq 8, 3) := by decide +kernel
theorem dX7_hasLink_4 : decode cX7_hasLink 4 = .ok (.iload_n 3, 1) := by decide +kernel
theorem dX7_hasLink_5 : decode cX7_hasLink 5 = .ok (.iconst 1, 1) := by decide +kernel
theorem dX7_hasLink_6 : decode cX7_hasLink 6 = .ok (.if_icmp .ne 49, 3) := by decide +kernel
theorem dX7_hasLink_9 : decode cX7_hasLink 9 = .ok (.iload_n 1, 1) := by decide +kernel
theorem dX7_hasLink_10 : decode cX7_hasLink 10 = .ok (.ifCond .lt 45, 3) := by decide +kernel
theorem dX7_hasLink_13 : decode cX7_hasLink 13 = .ok (.iload_n 1, 1) := by decide +kernel
theorem dX7_hasLink_14 : decode cX7_hasLink 14 = .ok (.aload_n 0, 1) := by decide +kernel
theorem dX7_hasLink_15 : decode cX7_hasLink 15 = .ok (.getfield 15, 3) := by decide +kernel
theorem dX7_hasLink_18 : decode cX7_hasLink 18 = .ok (.iconst 1, 1) := by decide +kernel
theorem dX7_hasLink_19 : decode cX7_hasLink 19 = .ok (.isub, 1) := by decide +kernel
theorem dX7_hasLink_20 : decode cX7_hasLink 20 = .ok (.iload_n 3, 1) := by decide +kernel
theorem dX7_hasLink_21 : decode cX7_hasLink 21 = .ok (.iadd, 1) := by decide +kernel
theorem dX7_hasLink_22 : decode cX7_hasLink 22 = .ok (.if_icmp .ge 33, 3) := by decide +kernel
theorem dX7_hasLink_25 : decode cX7_hasLink 25 = .ok (.iload_n 1, 1) := by decide +kernel
theorem dX7_hasLink_26 : decode cX7_hasLink 26 = .ok (.bipush 9, 2) := by decide +kernel
theorem dX7_hasLink_28 : decode cX7_hasLink 28 = .ok (.if_icmp .ge 27, 3) := by decide +kernel
theorem dX7_hasLink_31 : decode cX7_hasLink 31 = .ok (.iload_n 2, 1) := by decide +kernel
theorem dX7_hasLink_32 : decode cX7_hasLink 32 = .ok (.ifCond .lt 23, 3) := by decide +kernel
theorem dX7_hasLink_35 : decode cX7_hasLink 35 = .ok (.iload_n 2, 1) := by decide +kernel
theorem dX7_hasLink_36 : decode cX7_hasLink 36 = .ok (.aload_n 0, 1) := by decide +kernel
theorem dX7_hasLink_37 : decode cX7_hasLink 37 = .ok (.getfield 19, 3) := by decide +kernel
theorem dX7_hasLink_40 : decode cX7_hasLink 40 = .ok (.iload_n 3, 1) := by decide +kernel
theorem dX7_hasLink_41 : decode cX7_hasLink 41 = .ok (.isub, 1) := by decide +kernel
theorem dX7_hasLink_42 : decode cX7_hasLink 42 = .ok (.if_icmp .ge 13, 3) := by decide +kernel
theorem dX7_hasLink_45 : decode cX7_hasLink 45 = .ok (.iload_n 2, 1) := by decide +kernel
theorem dX7_hasLink_46 : decode cX7_hasLink 46 = .ok (.bipush 9, 2) := by decide +kernel
theorem dX7_hasLink_48 : decode cX7_hasLink 48 = .ok (.if_icmp .ge 7, 3) := by decide +kernel
theorem dX7_hasLink_51 : decode cX7_hasLink 51 = .ok (.iconst 1, 1) := by decide +kernel
theorem dX7_hasLink_52 : decode cX7_hasLink 52 = .ok (.goto 4, 3) := by decide +kernel
theorem dX7_hasLink_55 : decode cX7_hasLink 55 = .ok (.iconst 0, 1) := by decide +kernel
theorem dX7_hasLink_56 : decode cX7_hasLink 56 = .ok (.ireturn, 1) := by decide +kernel
theorem dX7_hasSite_0 : decode cX7_hasSite 0 = .ok (.iload_n 1, 1) := by decide +kernel
theorem dX7_hasSite_1 : decode cX7_hasSite 1 = .ok (.ifCond .lt 39, 3) := by decide +kernel
theorem dX7_hasSite_4 : decode cX7_hasSite 4 = .ok (.iload_n 1, 1) := by decide +kernel
theorem dX7_hasSite_5 : decode cX7_hasSite 5 = .ok (.aload_n 0, 1) := by decide +kernel
theorem dX7_hasSite_6 : decode cX7_hasSite 6 = .ok (.getfield 15, 3) := by decide +kernel
theorem dX7_hasSite_9 : decode cX7_hasSite 9 = .ok (.if_icmp .ge 31, 3) := by decide +kernel
theorem dX7_hasSite_12 : decode cX7_hasSite 12 = .ok (.iload_n 1, 1) := by decide +kernel
theorem dX7_hasSite_13 : decode cX7_hasSite 13 = .ok (.bipush 9, 2) := by decide +kernel
theorem dX7_hasSite_15 : decode cX7_hasSite 15 = .ok (.if_icmp .ge 25, 3) := by decide +kernel
theorem dX7_hasSite_18 : decode cX7_hasSite 18 = .ok (.iload_n 2, 1) := by decide +kernel
theorem dX7_hasSite_19 : decode cX7_hasSite 19 = .ok (.ifCond .lt 21, 3) := by decide +kernel
theorem dX7_hasSite_22 : decode cX7_hasSite 22 = .ok (.iload_n 2, 1) := by decide +kernel
theorem dX7_hasSite_23 : decode cX7_hasSite 23 = .ok (.aload_n 0, 1) := by decide +kernel
theorem dX7_hasSite_24 : decode cX7_hasSite 24 = .ok (.getfield 19, 3) := by decide +kernel
theorem dX7_hasSite_27 : decode cX7_hasSite 27 = .ok (.if_icmp .ge 13, 3) := by decide +kernel
theorem dX7_hasSite_30 : decode cX7_hasSite 30 = .ok (.iload_n 2, 1) := by decide +kernel
theorem dX7_hasSite_31 : decode cX7_hasSite 31 = .ok (.bipush 9, 2) := by decide +kernel
theorem dX7_hasSite_33 : decode cX7_hasSite 33 = .ok (.if_icmp .ge 7, 3) := by decide +kernel
theorem dX7_hasSite_36 : decode cX7_hasSite 36 = .ok (.iconst 1, 1) := by decide +kernel
theorem dX7_hasSite_37 : decode cX7_hasSite 37 = .ok (.goto 4, 3) := by decide +kernel
theorem dX7_hasSite_40 : decode cX7_hasSite 40 = .ok (.iconst 0, 1) := by decide +kernel
theorem dX7_hasSite_41 : decode cX7_hasSite 41 = .ok (.ireturn, 1) := by decide +kernel
theorem dX7_init_0 : decode cX7_init 0 = .ok (.aload_n 0, 1) := by decide +kernel
theorem dX7_init_1 : decode cX7_init 1 = .ok (.invokespecial 5, 3) := by decide +kernel
theorem dX7_init_4 : decode cX7_init 4 = .ok (.aload_n 0, 1) := by decide +kernel
theorem dX7_init_5 : decode cX7_init 5 = .ok (.sipush 324, 3) := by decide +kernel
theorem dX7_init_8 : decode cX7_init 8 = .ok (.newarray .int, 2) := by decide +kernel
theorem dX7_init_10 : decode cX7_init 10 = .ok (.putfield 11, 3) := by decide +kernel
theorem dX7_init_13 : decode cX7_init 13 = .ok (.return_, 1) := by decide +kernel
theorem dX7_isPlain_0 : decode cX7_isPlain 0 = .ok (.aload_n 0, 1) := by decide +kernel
theorem dX7_isPlain_1 : decode cX7_isPlain 1 = .ok (.iload_n 1, 1) := by decide +kernel
theorem dX7_isPlain_2 : decode cX7_isPlain 2 = .ok (.iload_n 2, 1) := by decide +kernel
theorem dX7_isPlain_3 : decode cX7_isPlain 3 = .ok (.iconst 0, 1) := by decide +kernel
theorem dX7_isPlain_4 : decode cX7_isPlain 4 = .ok (.invokevirtual 55, 3) := by decide +kernel
theorem dX7_isPlain_7 : decode cX7_isPlain 7 = .ok (.ifCond .ne 17, 3) := by decide +kernel
theorem dX7_isPlain_10 : decode cX7_isPlain 10 = .ok (.aload_n 0, 1) := by decide +kernel
theorem dX7_isPlain_11 : decode cX7_isPlain 11 = .ok (.iload_n 1, 1) := by decide +kernel
theorem dX7_isPlain_12 : decode cX7_isPlain 12 = .ok (.iload_n 2, 1) := by decide +kernel
theorem dX7_isPlain_13 : decode cX7_isPlain 13 = .ok (.iconst 1, 1) := by decide +kernel
theorem dX7_isPlain_14 : decode cX7_isPlain 14 = .ok (.invokevirtual 55, 3) := by decide +kernel
theorem dX7_isPlain_17 : decode cX7_isPlain 17 = .ok (.ifCond .ne 7, 3) := by decide +kernel
theorem dX7_isPlain_20 : decode cX7_isPlain 20 = .ok (.iconst 1, 1) := by decide +kernel
theorem dX7_isPlain_21 : decode cX7_isPlain 21 = .ok (.goto 4, 3) := by decide +kernel
theorem dX7_isPlain_24 : decode cX7_isPlain 24 = .ok (.iconst 0, 1) := by decide +kernel
theorem dX7_isPlain_25 : decode cX7_isPlain 25 = .ok (.ireturn, 1) := by decide +kernel
theorem dX7_isSlipped_0 : decode cX7_isSlipped 0 = .ok (.aload_n 0, 1) := by decide +kernel
theorem dX7_isSlipped_1 : decode cX7_isSlipped 1 = .ok (.iload_n 1, 1) := by decide +kernel
theorem dX7_isSlipped_2 : decode cX7_isSlipped 2 = .ok (.iload_n 2, 1) := by decide +kernel
theorem dX7_isSlipped_3 : decode cX7_isSlipped 3 = .ok (.iload_n 3, 1) := by decide +kernel
theorem dX7_isSlipped_4 : decode cX7_isSlipped 4 = .ok (.invokevirtual 28, 3) := by decide +kernel
theorem dX7_isSlipped_7 : decode cX7_isSlipped 7 = .ok (.ifCond .eq 33, 3) := by decide +kernel
theorem dX7_isSlipped_10 : decode cX7_isSlipped 10 = .ok (.aload_n 0, 1) := by decide +kernel
theorem dX7_isSlipped_11 : decode cX7_isSlipped 11 = .ok (.iload_n 1, 1) := by decide +kernel
theorem dX7_isSlipped_12 : decode cX7_isSlipped 12 = .ok (.iload_n 2, 1) := by decide +kernel
theorem dX7_isSlipped_13 : decode cX7_isSlipped 13 = .ok (.iload_n 3, 1) := by decide +kernel
theorem dX7_isSlipped_14 : decode cX7_isSlipped 14 = .ok (.iconst 0, 1) := by decide +kernel
theorem dX7_isSlipped_15 : decode cX7_isSlipped 15 = .ok (.invokevirtual 36, 3) := by decide +kernel
theorem dX7_isSlipped_18 : decode cX7_isSlipped 18 = .ok (.iconst 1, 1) := by decide +kernel
theorem dX7_isSlipped_19 : decode cX7_isSlipped 19 = .ok (.iload_n 3, 1) := by decide +kernel
theorem dX7_isSlipped_20 : decode cX7_isSlipped 20 = .ok (.isub, 1) := by decide +kernel
theorem dX7_isSlipped_21 : decode cX7_isSlipped 21 = .ok (.if_icmp .ne 15, 3) := by decide +kernel
theorem dX7_isSlipped_24 : decode cX7_isSlipped 24 = .ok (.aload_n 0, 1) := by decide +kernel
theorem dX7_isSlipped_25 : decode cX7_isSlipped 25 = .ok (.iload_n 1, 1) := by decide +kernel
theorem dX7_isSlipped_26 : decode cX7_isSlipped 26 = .ok (.iload_n 2, 1) := by decide +kernel
theorem dX7_isSlipped_27 : decode cX7_isSlipped 27 = .ok (.iload_n 3, 1) := by decide +kernel
theorem dX7_isSlipped_28 : decode cX7_isSlipped 28 = .ok (.iconst 1, 1) := by decide +kernel
theorem dX7_isSlipped_29 : decode cX7_isSlipped 29 = .ok (.invokevirtual 36, 3) := by decide +kernel
theorem dX7_isSlipped_32 : decode cX7_isSlipped 32 = .ok (.iload_n 3, 1) := by decide +kernel
theorem dX7_isSlipped_33 : decode cX7_isSlipped 33 = .ok (.if_icmp .eq 7, 3) := by decide +kernel
theorem dX7_isSlipped_36 : decode cX7_isSlipped 36 = .ok (.iconst 1, 1) := by decide +kernel
theorem dX7_isSlipped_37 : decode cX7_isSlipped 37 = .ok (.goto 4, 3) := by decide +kernel
theorem dX7_isSlipped_40 : decode cX7_isSlipped 40 = .ok (.iconst 0, 1) := by decide +kernel
theorem dX7_isSlipped_41 : decode cX7_isSlipped 41 = .ok (.ireturn, 1) := by decide +kernel
theorem dX7_lay_0 : decode cX7_lay 0 = .ok (.aload_n 0, 1) := by decide +kernel
theorem dX7_lay_1 : decode cX7_lay 1 = .ok (.iload_n 1, 1) := by decide +kernel
theorem dX7_lay_2 : decode cX7_lay 2 = .ok (.putfield 15, 3) := by decide +kernel
theorem dX7_lay_5 : decode cX7_lay 5 = .ok (.aload_n 0, 1) := by decide +kernel
theorem dX7_lay_6 : decode cX7_lay 6 = .ok (.iload_n 2, 1) := by decide +kernel
theorem dX7_lay_7 : decode cX7_lay 7 = .ok (.putfield 19, 3) := by decide +kernel
theorem dX7_lay_10 : decode cX7_lay 10 = .ok (.iconst 0, 1) := by decide +kernel
theorem dX7_lay_11 : decode cX7_lay 11 = .ok (.istore_n 3, 1) := by decide +kernel
theorem dX7_lay_12 : decode cX7_lay 12 = .ok (.iload_n 3, 1) := by decide +kernel
theorem dX7_lay_13 : decode cX7_lay 13 = .ok (.iconst 3, 1) := by decide +kernel
theorem dX7_lay_14 : decode cX7_lay 14 = .ok (.iadd, 1) := by decide +kernel
theorem dX7_lay_15 : decode cX7_lay 15 = .ok (.aload_n 0, 1) := by decide +kernel
theorem dX7_lay_16 : decode cX7_lay 16 = .ok (.getfield 11, 3) := by decide +kernel
theorem dX7_lay_19 : decode cX7_lay 19 = .ok (.arraylength, 1) := by decide +kernel
theorem dX7_lay_20 : decode cX7_lay 20 = .ok (.if_icmp .ge 43, 3) := by decide +kernel
theorem dX7_lay_23 : decode cX7_lay 23 = .ok (.aload_n 0, 1) := by decide +kernel
theorem dX7_lay_24 : decode cX7_lay 24 = .ok (.getfield 11, 3) := by decide +kernel
theorem dX7_lay_27 : decode cX7_lay 27 = .ok (.iload_n 3, 1) := by decide +kernel
theorem dX7_lay_28 : decode cX7_lay 28 = .ok (.iconst 1, 1) := by decide +kernel
theorem dX7_lay_29 : decode cX7_lay 29 = .ok (.iastore, 1) := by decide +kernel
theorem dX7_lay_30 : decode cX7_lay 30 = .ok (.aload_n 0, 1) := by decide +kernel
theorem dX7_lay_31 : decode cX7_lay 31 = .ok (.getfield 11, 3) := by decide +kernel
theorem dX7_lay_34 : decode cX7_lay 34 = .ok (.iload_n 3, 1) := by decide +kernel
theorem dX7_lay_35 : decode cX7_lay 35 = .ok (.iconst 1, 1) := by decide +kernel
theorem dX7_lay_36 : decode cX7_lay 36 = .ok (.iadd, 1) := by decide +kernel
theorem dX7_lay_37 : decode cX7_lay 37 = .ok (.iconst 0, 1) := by decide +kernel
theorem dX7_lay_38 : decode cX7_lay 38 = .ok (.iastore, 1) := by decide +kernel
theorem dX7_lay_39 : decode cX7_lay 39 = .ok (.aload_n 0, 1) := by decide +kernel
theorem dX7_lay_40 : decode cX7_lay 40 = .ok (.getfield 11, 3) := by decide +kernel
theorem dX7_lay_43 : decode cX7_lay 43 = .ok (.iload_n 3, 1) := by decide +kernel
theorem dX7_lay_44 : decode cX7_lay 44 = .ok (.iconst 2, 1) := by decide +kernel
theorem dX7_lay_45 : decode cX7_lay 45 = .ok (.iadd, 1) := by decide +kernel
theorem dX7_lay_46 : decode cX7_lay 46 = .ok (.iconst 0, 1) := by decide +kernel
theorem dX7_lay_47 : decode cX7_lay 47 = .ok (.iastore, 1) := by decide +kernel
theorem dX7_lay_48 : decode cX7_lay 48 = .ok (.aload_n 0, 1) := by decide +kernel
theorem dX7_lay_49 : decode cX7_lay 49 = .ok (.getfield 11, 3) := by decide +kernel
theorem dX7_lay_52 : decode cX7_lay 52 = .ok (.iload_n 3, 1) := by decide +kernel
theorem dX7_lay_53 : decode cX7_lay 53 = .ok (.iconst 3, 1) := by decide +kernel
theorem dX7_lay_54 : decode cX7_lay 54 = .ok (.iadd, 1) := by decide +kernel
theorem dX7_lay_55 : decode cX7_lay 55 = .ok (.iconst 1, 1) := by decide +kernel
theorem dX7_lay_56 : decode cX7_lay 56 = .ok (.iastore, 1) := by decide +kernel
theorem dX7_lay_57 : decode cX7_lay 57 = .ok (.iinc 3 4, 3) := by decide +kernel
theorem dX7_lay_60 : decode cX7_lay 60 = .ok (.goto (-48), 3) := by decide +kernel
theorem dX7_lay_63 : decode cX7_lay 63 = .ok (.return_, 1) := by decide +kernel
theorem dX7_numberOf_0 : decode cX7_numberOf 0 = .ok (.iconst 2, 1) := by decide +kernel
theorem dX7_numberOf_1 : decode cX7_numberOf 1 = .ok (.bipush 9, 2) := by decide +kernel
theorem dX7_numberOf_3 : decode cX7_numberOf 3 = .ok (.iload_n 1, 1) := by decide +kernel
theorem dX7_numberOf_4 : decode cX7_numberOf 4 = .ok (.imul, 1) := by decide +kernel
theorem dX7_numberOf_5 : decode cX7_numberOf 5 = .ok (.iload_n 0, 1) := by decide +kernel
theorem dX7_numberOf_6 : decode cX7_numberOf 6 = .ok (.iadd, 1) := by decide +kernel
theorem dX7_numberOf_7 : decode cX7_numberOf 7 = .ok (.imul, 1) := by decide +kernel
theorem dX7_numberOf_8 : decode cX7_numberOf 8 = .ok (.iload_n 2, 1) := by decide +kernel
theorem dX7_numberOf_9 : decode cX7_numberOf 9 = .ok (.iadd, 1) := by decide +kernel
theorem dX7_numberOf_10 : decode cX7_numberOf 10 = .ok (.ireturn, 1) := by decide +kernel
theorem dX7_placeOf_0 : decode cX7_placeOf 0 = .ok (.iconst 4, 1) := by decide +kernel
theorem dX7_placeOf_1 : decode cX7_placeOf 1 = .ok (.bipush 9, 2) := by decide +kernel
theorem dX7_placeOf_3 : decode cX7_placeOf 3 = .ok (.iload_n 1, 1) := by decide +kernel
theorem dX7_placeOf_4 : decode cX7_placeOf 4 = .ok (.imul, 1) := by decide +kernel
theorem dX7_placeOf_5 : decode cX7_placeOf 5 = .ok (.iload_n 0, 1) := by decide +kernel
theorem dX7_placeOf_6 : decode cX7_placeOf 6 = .ok (.iadd, 1) := by decide +kernel
theorem dX7_placeOf_7 : decode cX7_placeOf 7 = .ok (.imul, 1) := by decide +kernel
theorem dX7_placeOf_8 : decode cX7_placeOf 8 = .ok (.iconst 2, 1) := by decide +kernel
theorem dX7_placeOf_9 : decode cX7_placeOf 9 = .ok (.iload_n 2, 1) := by decide +kernel
theorem dX7_placeOf_10 : decode cX7_placeOf 10 = .ok (.imul, 1) := by decide +kernel
theorem dX7_placeOf_11 : decode cX7_placeOf 11 = .ok (.iadd, 1) := by decide +kernel
theorem dX7_placeOf_12 : decode cX7_placeOf 12 = .ok (.ireturn, 1) := by decide +kernel
theorem dX7_shiftSite_0 : decode cX7_shiftSite 0 = .ok (.aload_n 0, 1) := by decide +kernel
theorem dX7_shiftSite_1 : decode cX7_shiftSite 1 = .ok (.iload_n 1, 1) := by decide +kernel
theorem dX7_shiftSite_2 : decode cX7_shiftSite 2 = .ok (.iconst 1, 1) := by decide +kernel
theorem dX7_shiftSite_3 : decode cX7_shiftSite 3 = .ok (.isub, 1) := by decide +kernel
theorem dX7_shiftSite_4 : decode cX7_shiftSite 4 = .ok (.iload_n 2, 1) := by decide +kernel
theorem dX7_shiftSite_5 : decode cX7_shiftSite 5 = .ok (.iconst 0, 1) := by decide +kernel
theorem dX7_shiftSite_6 : decode cX7_shiftSite 6 = .ok (.iload_n 3, 1) := by decide +kernel
theorem dX7_shiftSite_7 : decode cX7_shiftSite 7 = .ok (.iload 4, 2) := by decide +kernel
theorem dX7_shiftSite_9 : decode cX7_shiftSite 9 = .ok (.invokevirtual 58, 3) := by decide +kernel
theorem dX7_shiftSite_12 : decode cX7_shiftSite 12 = .ok (.aload_n 0, 1) := by decide +kernel
theorem dX7_shiftSite_13 : decode cX7_shiftSite 13 = .ok (.iload_n 1, 1) := by decide +kernel
theorem dX7_shiftSite_14 : decode cX7_shiftSite 14 = .ok (.iload_n 2, 1) := by decide +kernel
theorem dX7_shiftSite_15 : decode cX7_shiftSite 15 = .ok (.iconst 1, 1) := by decide +kernel
theorem dX7_shiftSite_16 : decode cX7_shiftSite 16 = .ok (.isub, 1) := by decide +kernel
theorem dX7_shiftSite_17 : decode cX7_shiftSite 17 = .ok (.iconst 1, 1) := by decide +kernel
theorem dX7_shiftSite_18 : decode cX7_shiftSite 18 = .ok (.iload_n 3, 1) := by decide +kernel
theorem dX7_shiftSite_19 : decode cX7_shiftSite 19 = .ok (.iload 4, 2) := by decide +kernel
theorem dX7_shiftSite_21 : decode cX7_shiftSite 21 = .ok (.invokevirtual 58, 3) := by decide +kernel
theorem dX7_shiftSite_24 : decode cX7_shiftSite 24 = .ok (.aload_n 0, 1) := by decide +kernel
theorem dX7_shiftSite_25 : decode cX7_shiftSite 25 = .ok (.iload_n 1, 1) := by decide +kernel
theorem dX7_shiftSite_26 : decode cX7_shiftSite 26 = .ok (.iload_n 2, 1) := by decide +kernel
theorem dX7_shiftSite_27 : decode cX7_shiftSite 27 = .ok (.iconst 0, 1) := by decide +kernel
theorem dX7_shiftSite_28 : decode cX7_shiftSite 28 = .ok (.iload_n 3, 1) := by decide +kernel
theorem dX7_shiftSite_29 : decode cX7_shiftSite 29 = .ok (.ineg, 1) := by decide +kernel
theorem dX7_shiftSite_30 : decode cX7_shiftSite 30 = .ok (.iload 4, 2) := by decide +kernel
theorem dX7_shiftSite_32 : decode cX7_shiftSite 32 = .ok (.ineg, 1) := by decide +kernel
theorem dX7_shiftSite_33 : decode cX7_shiftSite 33 = .ok (.invokevirtual 58, 3) := by decide +kernel
theorem dX7_shiftSite_36 : decode cX7_shiftSite 36 = .ok (.aload_n 0, 1) := by decide +kernel
theorem dX7_shiftSite_37 : decode cX7_shiftSite 37 = .ok (.iload_n 1, 1) := by decide +kernel
theorem dX7_shiftSite_38 : decode cX7_shiftSite 38 = .ok (.iload_n 2, 1) := by decide +kernel
theorem dX7_shiftSite_39 : decode cX7_shiftSite 39 = .ok (.iconst 1, 1) := by decide +kernel
theorem dX7_shiftSite_40 : decode cX7_shiftSite 40 = .ok (.iload_n 3, 1) := by decide +kernel
theorem dX7_shiftSite_41 : decode cX7_shiftSite 41 = .ok (.ineg, 1) := by decide +kernel
theorem dX7_shiftSite_42 : decode cX7_shiftSite 42 = .ok (.iload 4, 2) := by decide +kernel
theorem dX7_shiftSite_44 : decode cX7_shiftSite 44 = .ok (.ineg, 1) := by decide +kernel
theorem dX7_shiftSite_45 : decode cX7_shiftSite 45 = .ok (.invokevirtual 58, 3) := by decide +kernel
theorem dX7_shiftSite_48 : decode cX7_shiftSite 48 = .ok (.return_, 1) := by decide +kernel
theorem dX7_slippedFrom_0 : decode cX7_slippedFrom 0 = .ok (.iconst 0, 1) := by decide +kernel
theorem dX7_slippedFrom_1 : decode cX7_slippedFrom 1 = .ok (.istore_n 3, 1) := by decide +kernel
theorem dX7_slippedFrom_2 : decode cX7_slippedFrom 2 = .ok (.iconst 0, 1) := by decide +kernel
theorem dX7_slippedFrom_3 : decode cX7_slippedFrom 3 = .ok (.istore 4, 2) := by decide +kernel
theorem dX7_slippedFrom_5 : decode cX7_slippedFrom 5 = .ok (.iload 4, 2) := by decide +kernel
theorem dX7_slippedFrom_7 : decode cX7_slippedFrom 7 = .ok (.aload_n 0, 1) := by decide +kernel
theorem dX7_slippedFrom_8 : decode cX7_slippedFrom 8 = .ok (.getfield 15, 3) := by decide +kernel
theorem dX7_slippedFrom_11 : decode cX7_slippedFrom 11 = .ok (.if_icmp .ge 23, 3) := by decide +kernel
theorem dX7_slippedFrom_14 : decode cX7_slippedFrom 14 = .ok (.aload_n 0, 1) := by decide +kernel
theorem dX7_slippedFrom_15 : decode cX7_slippedFrom 15 = .ok (.iload 4, 2) := by decide +kernel
theorem dX7_slippedFrom_17 : decode cX7_slippedFrom 17 = .ok (.iload_n 1, 1) := by decide +kernel
theorem dX7_slippedFrom_18 : decode cX7_slippedFrom 18 = .ok (.iload_n 2, 1) := by decide +kernel
theorem dX7_slippedFrom_19 : decode cX7_slippedFrom 19 = .ok (.invokevirtual 44, 3) := by decide +kernel
theorem dX7_slippedFrom_22 : decode cX7_slippedFrom 22 = .ok (.ifCond .eq 6, 3) := by decide +kernel
theorem dX7_slippedFrom_25 : decode cX7_slippedFrom 25 = .ok (.iinc 3 1, 3) := by decide +kernel
theorem dX7_slippedFrom_28 : decode cX7_slippedFrom 28 = .ok (.iinc 4 1, 3) := by decide +kernel
theorem dX7_slippedFrom_31 : decode cX7_slippedFrom 31 = .ok (.goto (-26), 3) := by decide +kernel
theorem dX7_slippedFrom_34 : decode cX7_slippedFrom 34 = .ok (.iload_n 3, 1) := by decide +kernel
theorem dX7_slippedFrom_35 : decode cX7_slippedFrom 35 = .ok (.ireturn, 1) := by decide +kernel
theorem dX7_slippedLinks_0 : decode cX7_slippedLinks 0 = .ok (.iconst 0, 1) := by decide +kernel
theorem dX7_slippedLinks_1 : decode cX7_slippedLinks 1 = .ok (.istore_n 1, 1) := by decide +kernel
theorem dX7_slippedLinks_2 : decode cX7_slippedLinks 2 = .ok (.iconst 0, 1) := by decide +kernel
theorem dX7_slippedLinks_3 : decode cX7_slippedLinks 3 = .ok (.istore_n 2, 1) := by decide +kernel
theorem dX7_slippedLinks_4 : decode cX7_slippedLinks 4 = .ok (.iload_n 2, 1) := by decide +kernel
theorem dX7_slippedLinks_5 : decode cX7_slippedLinks 5 = .ok (.aload_n 0, 1) := by decide +kernel
theorem dX7_slippedLinks_6 : decode cX7_slippedLinks 6 = .ok (.getfield 19, 3) := by decide +kernel
theorem dX7_slippedLinks_9 : decode cX7_slippedLinks 9 = .ok (.if_icmp .ge 25, 3) := by decide +kernel
theorem dX7_slippedLinks_12 : decode cX7_slippedLinks 12 = .ok (.iload_n 1, 1) := by decide +kernel
theorem dX7_slippedLinks_13 : decode cX7_slippedLinks 13 = .ok (.aload_n 0, 1) := by decide +kernel
theorem dX7_slippedLinks_14 : decode cX7_slippedLinks 14 = .ok (.iload_n 2, 1) := by decide +kernel
theorem dX7_slippedLinks_15 : decode cX7_slippedLinks 15 = .ok (.iconst 0, 1) := by decide +kernel
theorem dX7_slippedLinks_16 : decode cX7_slippedLinks 16 = .ok (.invokevirtual 40, 3) := by decide +kernel
theorem dX7_slippedLinks_19 : decode cX7_slippedLinks 19 = .ok (.aload_n 0, 1) := by decide +kernel
theorem dX7_slippedLinks_20 : decode cX7_slippedLinks 20 = .ok (.iload_n 2, 1) := by decide +kernel
theorem dX7_slippedLinks_21 : decode cX7_slippedLinks 21 = .ok (.iconst 1, 1) := by decide +kernel
theorem dX7_slippedLinks_22 : decode cX7_slippedLinks 22 = .ok (.invokevirtual 40, 3) := by decide +kernel
theorem dX7_slippedLinks_25 : decode cX7_slippedLinks 25 = .ok (.iadd, 1) := by decide +kernel
theorem dX7_slippedLinks_26 : decode cX7_slippedLinks 26 = .ok (.iadd, 1) := by decide +kernel
theorem dX7_slippedLinks_27 : decode cX7_slippedLinks 27 = .ok (.istore_n 1, 1) := by decide +kernel
theorem dX7_slippedLinks_28 : decode cX7_slippedLinks 28 = .ok (.iinc 2 1, 3) := by decide +kernel
theorem dX7_slippedLinks_31 : decode cX7_slippedLinks 31 = .ok (.goto (-27), 3) := by decide +kernel
theorem dX7_slippedLinks_34 : decode cX7_slippedLinks 34 = .ok (.iload_n 1, 1) := by decide +kernel
theorem dX7_slippedLinks_35 : decode cX7_slippedLinks 35 = .ok (.ireturn, 1) := by decide +kernel
theorem dX7_stepOf_0 : decode cX7_stepOf 0 = .ok (.aload_n 0, 1) := by decide +kernel
theorem dX7_stepOf_1 : decode cX7_stepOf 1 = .ok (.iload_n 1, 1) := by decide +kernel
theorem dX7_stepOf_2 : decode cX7_stepOf 2 = .ok (.iload_n 2, 1) := by decide +kernel
theorem dX7_stepOf_3 : decode cX7_stepOf 3 = .ok (.iload_n 3, 1) := by decide +kernel
theorem dX7_stepOf_4 : decode cX7_stepOf 4 = .ok (.invokevirtual 28, 3) := by decide +kernel
theorem dX7_stepOf_7 : decode cX7_stepOf 7 = .ok (.ifCond .eq 31, 3) := by decide +kernel
theorem dX7_stepOf_10 : decode cX7_stepOf 10 = .ok (.iload 4, 2) := by decide +kernel
theorem dX7_stepOf_12 : decode cX7_stepOf 12 = .ok (.ifCond .eq 9, 3) := by decide +kernel
theorem dX7_stepOf_15 : decode cX7_stepOf 15 = .ok (.iload 4, 2) := by decide +kernel
theorem dX7_stepOf_17 : decode cX7_stepOf 17 = .ok (.iconst 1, 1) := by decide +kernel
theorem dX7_stepOf_18 : decode cX7_stepOf 18 = .ok (.if_icmp .ne 20, 3) := by decide +kernel
theorem dX7_stepOf_21 : decode cX7_stepOf 21 = .ok (.aload_n 0, 1) := by decide +kernel
theorem dX7_stepOf_22 : decode cX7_stepOf 22 = .ok (.getfield 11, 3) := by decide +kernel
theorem dX7_stepOf_25 : decode cX7_stepOf 25 = .ok (.iload_n 1, 1) := by decide +kernel
theorem dX7_stepOf_26 : decode cX7_stepOf 26 = .ok (.iload_n 2, 1) := by decide +kernel
theorem dX7_stepOf_27 : decode cX7_stepOf 27 = .ok (.iload_n 3, 1) := by decide +kernel
theorem dX7_stepOf_28 : decode cX7_stepOf 28 = .ok (.invokestatic 32, 3) := by decide +kernel
theorem dX7_stepOf_31 : decode cX7_stepOf 31 = .ok (.iload 4, 2) := by decide +kernel
theorem dX7_stepOf_33 : decode cX7_stepOf 33 = .ok (.iadd, 1) := by decide +kernel
theorem dX7_stepOf_34 : decode cX7_stepOf 34 = .ok (.iaload, 1) := by decide +kernel
theorem dX7_stepOf_35 : decode cX7_stepOf 35 = .ok (.goto 4, 3) := by decide +kernel
theorem dX7_stepOf_38 : decode cX7_stepOf 38 = .ok (.iconst 0, 1) := by decide +kernel
theorem dX7_stepOf_39 : decode cX7_stepOf 39 = .ok (.ireturn, 1) := by decide +kernel
theorem dX7_strideFrom_0 : decode cX7_strideFrom 0 = .ok (.iload_n 3, 1) := by decide +kernel
theorem dX7_strideFrom_1 : decode cX7_strideFrom 1 = .ok (.tableswitch 60 0 2 #[27, 37, 47], 27) := by decide +kernel
theorem dX7_strideFrom_28 : decode cX7_strideFrom 28 = .ok (.aload_n 0, 1) := by decide +kernel
theorem dX7_strideFrom_29 : decode cX7_strideFrom 29 = .ok (.iload_n 1, 1) := by decide +kernel
theorem dX7_strideFrom_30 : decode cX7_strideFrom 30 = .ok (.iload_n 2, 1) := by decide +kernel
theorem dX7_strideFrom_31 : decode cX7_strideFrom 31 = .ok (.iconst 0, 1) := by decide +kernel
theorem dX7_strideFrom_32 : decode cX7_strideFrom 32 = .ok (.iload 4, 2) := by decide +kernel
theorem dX7_strideFrom_34 : decode cX7_strideFrom 34 = .ok (.invokevirtual 36, 3) := by decide +kernel
theorem dX7_strideFrom_37 : decode cX7_strideFrom 37 = .ok (.ireturn, 1) := by decide +kernel
theorem dX7_strideFrom_38 : decode cX7_strideFrom 38 = .ok (.aload_n 0, 1) := by decide +kernel
theorem dX7_strideFrom_39 : decode cX7_strideFrom 39 = .ok (.iload_n 1, 1) := by decide +kernel
theorem dX7_strideFrom_40 : decode cX7_strideFrom 40 = .ok (.iload_n 2, 1) := by decide +kernel
theorem dX7_strideFrom_41 : decode cX7_strideFrom 41 = .ok (.iconst 1, 1) := by decide +kernel
theorem dX7_strideFrom_42 : decode cX7_strideFrom 42 = .ok (.iload 4, 2) := by decide +kernel
theorem dX7_strideFrom_44 : decode cX7_strideFrom 44 = .ok (.invokevirtual 36, 3) := by decide +kernel
theorem dX7_strideFrom_47 : decode cX7_strideFrom 47 = .ok (.ireturn, 1) := by decide +kernel
theorem dX7_strideFrom_48 : decode cX7_strideFrom 48 = .ok (.aload_n 0, 1) := by decide +kernel
theorem dX7_strideFrom_49 : decode cX7_strideFrom 49 = .ok (.iload_n 1, 1) := by decide +kernel
theorem dX7_strideFrom_50 : decode cX7_strideFrom 50 = .ok (.iconst 1, 1) := by decide +kernel
theorem dX7_strideFrom_51 : decode cX7_strideFrom 51 = .ok (.isub, 1) := by decide +kernel
theorem dX7_strideFrom_52 : decode cX7_strideFrom 52 = .ok (.iload_n 2, 1) := by decide +kernel
theorem dX7_strideFrom_53 : decode cX7_strideFrom 53 = .ok (.iconst 0, 1) := by decide +kernel
theorem dX7_strideFrom_54 : decode cX7_strideFrom 54 = .ok (.iload 4, 2) := by decide +kernel
theorem dX7_strideFrom_56 : decode cX7_strideFrom 56 = .ok (.invokevirtual 36, 3) := by decide +kernel
theorem dX7_strideFrom_59 : decode cX7_strideFrom 59 = .ok (.ineg, 1) := by decide +kernel
theorem dX7_strideFrom_60 : decode cX7_strideFrom 60 = .ok (.ireturn, 1) := by decide +kernel
theorem dX7_strideFrom_61 : decode cX7_strideFrom 61 = .ok (.aload_n 0, 1) := by decide +kernel
theorem dX7_strideFrom_62 : decode cX7_strideFrom 62 = .ok (.iload_n 1, 1) := by decide +kernel
theorem dX7_strideFrom_63 : decode cX7_strideFrom 63 = .ok (.iload_n 2, 1) := by decide +kernel
theorem dX7_strideFrom_64 : decode cX7_strideFrom 64 = .ok (.iconst 1, 1) := by decide +kernel
theorem dX7_strideFrom_65 : decode cX7_strideFrom 65 = .ok (.isub, 1) := by decide +kernel
theorem dX7_strideFrom_66 : decode cX7_strideFrom 66 = .ok (.iconst 1, 1) := by decide +kernel
theorem dX7_strideFrom_67 : decode cX7_strideFrom 67 = .ok (.iload 4, 2) := by decide +kernel
theorem dX7_strideFrom_69 : decode cX7_strideFrom 69 = .ok (.invokevirtual 36, 3) := by decide +kernel
theorem dX7_strideFrom_72 : decode cX7_strideFrom 72 = .ok (.ineg, 1) := by decide +kernel
theorem dX7_strideFrom_73 : decode cX7_strideFrom 73 = .ok (.ireturn, 1) := by decide +kernel
theorem dX7_sumAlong_0 : decode cX7_sumAlong 0 = .ok (.iconst 0, 1) := by decide +kernel
theorem dX7_sumAlong_1 : decode cX7_sumAlong 1 = .ok (.istore_n 3, 1) := by decide +kernel
theorem dX7_sumAlong_2 : decode cX7_sumAlong 2 = .ok (.iconst 0, 1) := by decide +kernel
theorem dX7_sumAlong_3 : decode cX7_sumAlong 3 = .ok (.istore 4, 2) := by decide +kernel
theorem dX7_sumAlong_5 : decode cX7_sumAlong 5 = .ok (.iload 4, 2) := by decide +kernel
theorem dX7_sumAlong_7 : decode cX7_sumAlong 7 = .ok (.aload_n 0, 1) := by decide +kernel
theorem dX7_sumAlong_8 : decode cX7_sumAlong 8 = .ok (.getfield 15, 3) := by decide +kernel
theorem dX7_sumAlong_11 : decode cX7_sumAlong 11 = .ok (.iconst 1, 1) := by decide +kernel
theorem dX7_sumAlong_12 : decode cX7_sumAlong 12 = .ok (.isub, 1) := by decide +kernel
theorem dX7_sumAlong_13 : decode cX7_sumAlong 13 = .ok (.if_icmp .ge 21, 3) := by decide +kernel
theorem dX7_sumAlong_16 : decode cX7_sumAlong 16 = .ok (.iload_n 3, 1) := by decide +kernel
theorem dX7_sumAlong_17 : decode cX7_sumAlong 17 = .ok (.aload_n 0, 1) := by decide +kernel
theorem dX7_sumAlong_18 : decode cX7_sumAlong 18 = .ok (.iload 4, 2) := by decide +kernel
theorem dX7_sumAlong_20 : decode cX7_sumAlong 20 = .ok (.iload_n 1, 1) := by decide +kernel
theorem dX7_sumAlong_21 : decode cX7_sumAlong 21 = .ok (.iconst 0, 1) := by decide +kernel
theorem dX7_sumAlong_22 : decode cX7_sumAlong 22 = .ok (.iload_n 2, 1) := by decide +kernel
theorem dX7_sumAlong_23 : decode cX7_sumAlong 23 = .ok (.invokevirtual 36, 3) := by decide +kernel
theorem dX7_sumAlong_26 : decode cX7_sumAlong 26 = .ok (.iadd, 1) := by decide +kernel
theorem dX7_sumAlong_27 : decode cX7_sumAlong 27 = .ok (.istore_n 3, 1) := by decide +kernel
theorem dX7_sumAlong_28 : decode cX7_sumAlong 28 = .ok (.iinc 4 1, 3) := by decide +kernel
theorem dX7_sumAlong_31 : decode cX7_sumAlong 31 = .ok (.goto (-26), 3) := by decide +kernel
theorem dX7_sumAlong_34 : decode cX7_sumAlong 34 = .ok (.iload_n 3, 1) := by decide +kernel
theorem dX7_sumAlong_35 : decode cX7_sumAlong 35 = .ok (.ireturn, 1) := by decide +kernel
theorem dX7_sumRound_0 : decode cX7_sumRound 0 = .ok (.iconst 0, 1) := by decide +kernel
theorem dX7_sumRound_1 : decode cX7_sumRound 1 = .ok (.istore 6, 2) := by decide +kernel
theorem dX7_sumRound_3 : decode cX7_sumRound 3 = .ok (.iload_n 1, 1) := by decide +kernel
theorem dX7_sumRound_4 : decode cX7_sumRound 4 = .ok (.istore 7, 2) := by decide +kernel
theorem dX7_sumRound_6 : decode cX7_sumRound 6 = .ok (.iload 7, 2) := by decide +kernel
theorem dX7_sumRound_8 : decode cX7_sumRound 8 = .ok (.iload_n 3, 1) := by decide +kernel
theorem dX7_sumRound_9 : decode cX7_sumRound 9 = .ok (.if_icmp .ge 36, 3) := by decide +kernel
theorem dX7_sumRound_12 : decode cX7_sumRound 12 = .ok (.iload 6, 2) := by decide +kernel
theorem dX7_sumRound_14 : decode cX7_sumRound 14 = .ok (.aload_n 0, 1) := by decide +kernel
theorem dX7_sumRound_15 : decode cX7_sumRound 15 = .ok (.iload 7, 2) := by decide +kernel
theorem dX7_sumRound_17 : decode cX7_sumRound 17 = .ok (.iload_n 2, 1) := by decide +kernel
theorem dX7_sumRound_18 : decode cX7_sumRound 18 = .ok (.iconst 0, 1) := by decide +kernel
theorem dX7_sumRound_19 : decode cX7_sumRound 19 = .ok (.iload 5, 2) := by decide +kernel
theorem dX7_sumRound_21 : decode cX7_sumRound 21 = .ok (.invokevirtual 36, 3) := by decide +kernel
theorem dX7_sumRound_24 : decode cX7_sumRound 24 = .ok (.aload_n 0, 1) := by decide +kernel
theorem dX7_sumRound_25 : decode cX7_sumRound 25 = .ok (.iload 7, 2) := by decide +kernel
theorem dX7_sumRound_27 : decode cX7_sumRound 27 = .ok (.iload 4, 2) := by decide +kernel
theorem dX7_sumRound_29 : decode cX7_sumRound 29 = .ok (.iconst 0, 1) := by decide +kernel
theorem dX7_sumRound_30 : decode cX7_sumRound 30 = .ok (.iload 5, 2) := by decide +kernel
theorem dX7_sumRound_32 : decode cX7_sumRound 32 = .ok (.invokevirtual 36, 3) := by decide +kernel
theorem dX7_sumRound_35 : decode cX7_sumRound 35 = .ok (.isub, 1) := by decide +kernel
theorem dX7_sumRound_36 : decode cX7_sumRound 36 = .ok (.iadd, 1) := by decide +kernel
theorem dX7_sumRound_37 : decode cX7_sumRound 37 = .ok (.istore 6, 2) := by decide +kernel
theorem dX7_sumRound_39 : decode cX7_sumRound 39 = .ok (.iinc 7 1, 3) := by decide +kernel
theorem dX7_sumRound_42 : decode cX7_sumRound 42 = .ok (.goto (-36), 3) := by decide +kernel
theorem dX7_sumRound_45 : decode cX7_sumRound 45 = .ok (.iload_n 2, 1) := by decide +kernel
theorem dX7_sumRound_46 : decode cX7_sumRound 46 = .ok (.istore 7, 2) := by decide +kernel
theorem dX7_sumRound_48 : decode cX7_sumRound 48 = .ok (.iload 7, 2) := by decide +kernel
theorem dX7_sumRound_50 : decode cX7_sumRound 50 = .ok (.iload 4, 2) := by decide +kernel
theorem dX7_sumRound_52 : decode cX7_sumRound 52 = .ok (.if_icmp .ge 35, 3) := by decide +kernel
theorem dX7_sumRound_55 : decode cX7_sumRound 55 = .ok (.iload 6, 2) := by decide +kernel
theorem dX7_sumRound_57 : decode cX7_sumRound 57 = .ok (.aload_n 0, 1) := by decide +kernel
theorem dX7_sumRound_58 : decode cX7_sumRound 58 = .ok (.iload_n 3, 1) := by decide +kernel
theorem dX7_sumRound_59 : decode cX7_sumRound 59 = .ok (.iload 7, 2) := by decide +kernel
theorem dX7_sumRound_61 : decode cX7_sumRound 61 = .ok (.iconst 1, 1) := by decide +kernel
theorem dX7_sumRound_62 : decode cX7_sumRound 62 = .ok (.iload 5, 2) := by decide +kernel
theorem dX7_sumRound_64 : decode cX7_sumRound 64 = .ok (.invokevirtual 36, 3) := by decide +kernel
theorem dX7_sumRound_67 : decode cX7_sumRound 67 = .ok (.aload_n 0, 1) := by decide +kernel
theorem dX7_sumRound_68 : decode cX7_sumRound 68 = .ok (.iload_n 1, 1) := by decide +kernel
theorem dX7_sumRound_69 : decode cX7_sumRound 69 = .ok (.iload 7, 2) := by decide +kernel
theorem dX7_sumRound_71 : decode cX7_sumRound 71 = .ok (.iconst 1, 1) := by decide +kernel
theorem dX7_sumRound_72 : decode cX7_sumRound 72 = .ok (.iload 5, 2) := by decide +kernel
theorem dX7_sumRound_74 : decode cX7_sumRound 74 = .ok (.invokevirtual 36, 3) := by decide +kernel
theorem dX7_sumRound_77 : decode cX7_sumRound 77 = .ok (.isub, 1) := by decide +kernel
theorem dX7_sumRound_78 : decode cX7_sumRound 78 = .ok (.iadd, 1) := by decide +kernel
theorem dX7_sumRound_79 : decode cX7_sumRound 79 = .ok (.istore 6, 2) := by decide +kernel
theorem dX7_sumRound_81 : decode cX7_sumRound 81 = .ok (.iinc 7 1, 3) := by decide +kernel
theorem dX7_sumRound_84 : decode cX7_sumRound 84 = .ok (.goto (-36), 3) := by decide +kernel
theorem dX7_sumRound_87 : decode cX7_sumRound 87 = .ok (.iload 6, 2) := by decide +kernel
theorem dX7_sumRound_89 : decode cX7_sumRound 89 = .ok (.ireturn, 1) := by decide +kernel
theorem dX7_sumRoundAll_0 : decode cX7_sumRoundAll 0 = .ok (.aload_n 0, 1) := by decide +kernel
theorem dX7_sumRoundAll_1 : decode cX7_sumRoundAll 1 = .ok (.iconst 0, 1) := by decide +kernel
theorem dX7_sumRoundAll_2 : decode cX7_sumRoundAll 2 = .ok (.iconst 0, 1) := by decide +kernel
theorem dX7_sumRoundAll_3 : decode cX7_sumRoundAll 3 = .ok (.aload_n 0, 1) := by decide +kernel
theorem dX7_sumRoundAll_4 : decode cX7_sumRoundAll 4 = .ok (.getfield 15, 3) := by decide +kernel
theorem dX7_sumRoundAll_7 : decode cX7_sumRoundAll 7 = .ok (.iconst 1, 1) := by decide +kernel
theorem dX7_sumRoundAll_8 : decode cX7_sumRoundAll 8 = .ok (.isub, 1) := by decide +kernel
theorem dX7_sumRoundAll_9 : decode cX7_sumRoundAll 9 = .ok (.aload_n 0, 1) := by decide +kernel
theorem dX7_sumRoundAll_10 : decode cX7_sumRoundAll 10 = .ok (.getfield 19, 3) := by decide +kernel
theorem dX7_sumRoundAll_13 : decode cX7_sumRoundAll 13 = .ok (.iconst 1, 1) := by decide +kernel
theorem dX7_sumRoundAll_14 : decode cX7_sumRoundAll 14 = .ok (.isub, 1) := by decide +kernel
theorem dX7_sumRoundAll_15 : decode cX7_sumRoundAll 15 = .ok (.iload_n 1, 1) := by decide +kernel
theorem dX7_sumRoundAll_16 : decode cX7_sumRoundAll 16 = .ok (.invokevirtual 47, 3) := by decide +kernel
theorem dX7_sumRoundAll_19 : decode cX7_sumRoundAll 19 = .ok (.ireturn, 1) := by decide +kernel
theorem dX7_vectorOf_0 : decode cX7_vectorOf 0 = .ok (.aload_n 0, 1) := by decide +kernel
theorem dX7_vectorOf_1 : decode cX7_vectorOf 1 = .ok (.iload_n 1, 1) := by decide +kernel
theorem dX7_vectorOf_2 : decode cX7_vectorOf 2 = .ok (.iload_n 2, 1) := by decide +kernel
theorem dX7_vectorOf_3 : decode cX7_vectorOf 3 = .ok (.invokevirtual 51, 3) := by decide +kernel
theorem dX7_vectorOf_6 : decode cX7_vectorOf 6 = .ok (.ifCond .eq 12, 3) := by decide +kernel
theorem dX7_vectorOf_9 : decode cX7_vectorOf 9 = .ok (.iload_n 3, 1) := by decide +kernel
theorem dX7_vectorOf_10 : decode cX7_vectorOf 10 = .ok (.ifCond .eq 10, 3) := by decide +kernel
theorem dX7_vectorOf_13 : decode cX7_vectorOf 13 = .ok (.iload_n 3, 1) := by decide +kernel
theorem dX7_vectorOf_14 : decode cX7_vectorOf 14 = .ok (.iconst 1, 1) := by decide +kernel
theorem dX7_vectorOf_15 : decode cX7_vectorOf 15 = .ok (.if_icmp .eq 5, 3) := by decide +kernel
theorem dX7_vectorOf_18 : decode cX7_vectorOf 18 = .ok (.iconst 0, 1) := by decide +kernel
theorem dX7_vectorOf_19 : decode cX7_vectorOf 19 = .ok (.ireturn, 1) := by decide +kernel
theorem dX7_vectorOf_20 : decode cX7_vectorOf 20 = .ok (.aload_n 0, 1) := by decide +kernel
theorem dX7_vectorOf_21 : decode cX7_vectorOf 21 = .ok (.getfield 11, 3) := by decide +kernel
theorem dX7_vectorOf_24 : decode cX7_vectorOf 24 = .ok (.iload_n 1, 1) := by decide +kernel
theorem dX7_vectorOf_25 : decode cX7_vectorOf 25 = .ok (.iload_n 2, 1) := by decide +kernel
theorem dX7_vectorOf_26 : decode cX7_vectorOf 26 = .ok (.iconst 0, 1) := by decide +kernel
theorem dX7_vectorOf_27 : decode cX7_vectorOf 27 = .ok (.invokestatic 32, 3) := by decide +kernel
theorem dX7_vectorOf_30 : decode cX7_vectorOf 30 = .ok (.iload_n 3, 1) := by decide +kernel
theorem dX7_vectorOf_31 : decode cX7_vectorOf 31 = .ok (.iadd, 1) := by decide +kernel
theorem dX7_vectorOf_32 : decode cX7_vectorOf 32 = .ok (.iaload, 1) := by decide +kernel
theorem dX7_vectorOf_33 : decode cX7_vectorOf 33 = .ok (.aload_n 0, 1) := by decide +kernel
theorem dX7_vectorOf_34 : decode cX7_vectorOf 34 = .ok (.getfield 11, 3) := by decide +kernel
theorem dX7_vectorOf_37 : decode cX7_vectorOf 37 = .ok (.iload_n 1, 1) := by decide +kernel
theorem dX7_vectorOf_38 : decode cX7_vectorOf 38 = .ok (.iconst 1, 1) := by decide +kernel
theorem dX7_vectorOf_39 : decode cX7_vectorOf 39 = .ok (.iadd, 1) := by decide +kernel
theorem dX7_vectorOf_40 : decode cX7_vectorOf 40 = .ok (.iload_n 2, 1) := by decide +kernel
theorem dX7_vectorOf_41 : decode cX7_vectorOf 41 = .ok (.iconst 1, 1) := by decide +kernel
theorem dX7_vectorOf_42 : decode cX7_vectorOf 42 = .ok (.invokestatic 32, 3) := by decide +kernel
theorem dX7_vectorOf_45 : decode cX7_vectorOf 45 = .ok (.iload_n 3, 1) := by decide +kernel
theorem dX7_vectorOf_46 : decode cX7_vectorOf 46 = .ok (.iadd, 1) := by decide +kernel
theorem dX7_vectorOf_47 : decode cX7_vectorOf 47 = .ok (.iaload, 1) := by decide +kernel
theorem dX7_vectorOf_48 : decode cX7_vectorOf 48 = .ok (.iadd, 1) := by decide +kernel
theorem dX7_vectorOf_49 : decode cX7_vectorOf 49 = .ok (.aload_n 0, 1) := by decide +kernel
theorem dX7_vectorOf_50 : decode cX7_vectorOf 50 = .ok (.getfield 11, 3) := by decide +kernel
theorem dX7_vectorOf_53 : decode cX7_vectorOf 53 = .ok (.iload_n 1, 1) := by decide +kernel
theorem dX7_vectorOf_54 : decode cX7_vectorOf 54 = .ok (.iload_n 2, 1) := by decide +kernel
theorem dX7_vectorOf_55 : decode cX7_vectorOf 55 = .ok (.iconst 1, 1) := by decide +kernel
theorem dX7_vectorOf_56 : decode cX7_vectorOf 56 = .ok (.iadd, 1) := by decide +kernel
theorem dX7_vectorOf_57 : decode cX7_vectorOf 57 = .ok (.iconst 0, 1) := by decide +kernel
theorem dX7_vectorOf_58 : decode cX7_vectorOf 58 = .ok (.invokestatic 32, 3) := by decide +kernel
theorem dX7_vectorOf_61 : decode cX7_vectorOf 61 = .ok (.iload_n 3, 1) := by decide +kernel
theorem dX7_vectorOf_62 : decode cX7_vectorOf 62 = .ok (.iadd, 1) := by decide +kernel
theorem dX7_vectorOf_63 : decode cX7_vectorOf 63 = .ok (.iaload, 1) := by decide +kernel
theorem dX7_vectorOf_64 : decode cX7_vectorOf 64 = .ok (.isub, 1) := by decide +kernel
theorem dX7_vectorOf_65 : decode cX7_vectorOf 65 = .ok (.aload_n 0, 1) := by decide +kernel
theorem dX7_vectorOf_66 : decode cX7_vectorOf 66 = .ok (.getfield 11, 3) := by decide +kernel
theorem dX7_vectorOf_69 : decode cX7_vectorOf 69 = .ok (.iload_n 1, 1) := by decide +kernel
theorem dX7_vectorOf_70 : decode cX7_vectorOf 70 = .ok (.iload_n 2, 1) := by decide +kernel
theorem dX7_vectorOf_71 : decode cX7_vectorOf 71 = .ok (.iconst 1, 1) := by decide +kernel
theorem dX7_vectorOf_72 : decode cX7_vectorOf 72 = .ok (.invokestatic 32, 3) := by decide +kernel
theorem dX7_vectorOf_75 : decode cX7_vectorOf 75 = .ok (.iload_n 3, 1) := by decide +kernel
theorem dX7_vectorOf_76 : decode cX7_vectorOf 76 = .ok (.iadd, 1) := by decide +kernel
theorem dX7_vectorOf_77 : decode cX7_vectorOf 77 = .ok (.iaload, 1) := by decide +kernel
theorem dX7_vectorOf_78 : decode cX7_vectorOf 78 = .ok (.isub, 1) := by decide +kernel
theorem dX7_vectorOf_79 : decode cX7_vectorOf 79 = .ok (.ireturn, 1) := by decide +kernel
theorem dX8_give_0 : decode cX8_give 0 = .ok (.aload_n 0, 1) := by decide +kernel
theorem dX8_give_1 : decode cX8_give 1 = .ok (.getfield 9, 3) := by decide +kernel
theorem dX8_give_4 : decode cX8_give 4 = .ok (.iconst 0, 1) := by decide +kernel
theorem dX8_give_5 : decode cX8_give 5 = .ok (.aload_n 1, 1) := by decide +kernel
theorem dX8_give_6 : decode cX8_give 6 = .ok (.getfield 20, 3) := by decide +kernel
theorem dX8_give_9 : decode cX8_give 9 = .ok (.iconst 0, 1) := by decide +kernel
theorem dX8_give_10 : decode cX8_give 10 = .ok (.aload_n 0, 1) := by decide +kernel
theorem dX8_give_11 : decode cX8_give 11 = .ok (.getfield 9, 3) := by decide +kernel
theorem dX8_give_14 : decode cX8_give 14 = .ok (.arraylength, 1) := by decide +kernel
theorem dX8_give_15 : decode cX8_give 15 = .ok (.invokestatic 21, 3) := by decide +kernel
theorem dX8_give_18 : decode cX8_give 18 = .ok (.aload_n 0, 1) := by decide +kernel
theorem dX8_give_19 : decode cX8_give 19 = .ok (.getfield 17, 3) := by decide +kernel
theorem dX8_give_22 : decode cX8_give 22 = .ok (.iconst 0, 1) := by decide +kernel
theorem dX8_give_23 : decode cX8_give 23 = .ok (.aload_n 2, 1) := by decide +kernel
theorem dX8_give_24 : decode cX8_give 24 = .ok (.getfield 27, 3) := by decide +kernel
theorem dX8_give_27 : decode cX8_give 27 = .ok (.iconst 0, 1) := by decide +kernel
theorem dX8_give_28 : decode cX8_give 28 = .ok (.aload_n 0, 1) := by decide +kernel
theorem dX8_give_29 : decode cX8_give 29 = .ok (.getfield 17, 3) := by decide +kernel
theorem dX8_give_32 : decode cX8_give 32 = .ok (.arraylength, 1) := by decide +kernel
theorem dX8_give_33 : decode cX8_give 33 = .ok (.invokestatic 21, 3) := by decide +kernel
theorem dX8_give_36 : decode cX8_give 36 = .ok (.aload_n 2, 1) := by decide +kernel
theorem dX8_give_37 : decode cX8_give 37 = .ok (.aload_n 0, 1) := by decide +kernel
theorem dX8_give_38 : decode cX8_give 38 = .ok (.getfield 32, 3) := by decide +kernel
theorem dX8_give_41 : decode cX8_give 41 = .ok (.putfield 28, 3) := by decide +kernel
theorem dX8_give_44 : decode cX8_give 44 = .ok (.return_, 1) := by decide +kernel
theorem dX8_init_0 : decode cX8_init 0 = .ok (.aload_n 0, 1) := by decide +kernel
theorem dX8_init_1 : decode cX8_init 1 = .ok (.invokespecial 1, 3) := by decide +kernel
theorem dX8_init_4 : decode cX8_init 4 = .ok (.aload_n 0, 1) := by decide +kernel
theorem dX8_init_5 : decode cX8_init 5 = .ok (.sipush 324, 3) := by decide +kernel
theorem dX8_init_8 : decode cX8_init 8 = .ok (.newarray .int, 2) := by decide +kernel
theorem dX8_init_10 : decode cX8_init 10 = .ok (.putfield 9, 3) := by decide +kernel
theorem dX8_init_13 : decode cX8_init 13 = .ok (.aload_n 0, 1) := by decide +kernel
theorem dX8_init_14 : decode cX8_init 14 = .ok (.sipush 160, 3) := by decide +kernel
theorem dX8_init_17 : decode cX8_init 17 = .ok (.newarray .int, 2) := by decide +kernel
theorem dX8_init_19 : decode cX8_init 19 = .ok (.putfield 17, 3) := by decide +kernel
theorem dX8_init_22 : decode cX8_init 22 = .ok (.return_, 1) := by decide +kernel
theorem dX8_take_0 : decode cX8_take 0 = .ok (.aload_n 1, 1) := by decide +kernel
theorem dX8_take_1 : decode cX8_take 1 = .ok (.getfield 20, 3) := by decide +kernel
theorem dX8_take_4 : decode cX8_take 4 = .ok (.iconst 0, 1) := by decide +kernel
theorem dX8_take_5 : decode cX8_take 5 = .ok (.aload_n 0, 1) := by decide +kernel
theorem dX8_take_6 : decode cX8_take 6 = .ok (.getfield 9, 3) := by decide +kernel
theorem dX8_take_9 : decode cX8_take 9 = .ok (.iconst 0, 1) := by decide +kernel
theorem dX8_take_10 : decode cX8_take 10 = .ok (.aload_n 0, 1) := by decide +kernel
theorem dX8_take_11 : decode cX8_take 11 = .ok (.getfield 9, 3) := by decide +kernel
theorem dX8_take_14 : decode cX8_take 14 = .ok (.arraylength, 1) := by decide +kernel
theorem dX8_take_15 : decode cX8_take 15 = .ok (.invokestatic 21, 3) := by decide +kernel
theorem dX8_take_18 : decode cX8_take 18 = .ok (.aload_n 2, 1) := by decide +kernel
theorem dX8_take_19 : decode cX8_take 19 = .ok (.getfield 27, 3) := by decide +kernel
theorem dX8_take_22 : decode cX8_take 22 = .ok (.iconst 0, 1) := by decide +kernel
theorem dX8_take_23 : decode cX8_take 23 = .ok (.aload_n 0, 1) := by decide +kernel
theorem dX8_take_24 : decode cX8_take 24 = .ok (.getfield 17, 3) := by decide +kernel
theorem dX8_take_27 : decode cX8_take 27 = .ok (.iconst 0, 1) := by decide +kernel
theorem dX8_take_28 : decode cX8_take 28 = .ok (.aload_n 0, 1) := by decide +kernel
theorem dX8_take_29 : decode cX8_take 29 = .ok (.getfield 17, 3) := by decide +kernel
theorem dX8_take_32 : decode cX8_take 32 = .ok (.arraylength, 1) := by decide +kernel
theorem dX8_take_33 : decode cX8_take 33 = .ok (.invokestatic 21, 3) := by decide +kernel
theorem dX8_take_36 : decode cX8_take 36 = .ok (.aload_n 0, 1) := by decide +kernel
theorem dX8_take_37 : decode cX8_take 37 = .ok (.aload_n 2, 1) := by decide +kernel
theorem dX8_take_38 : decode cX8_take 38 = .ok (.getfield 28, 3) := by decide +kernel
theorem dX8_take_41 : decode cX8_take 41 = .ok (.putfield 32, 3) := by decide +kernel
theorem dX8_take_44 : decode cX8_take 44 = .ok (.return_, 1) := by decide +kernel
theorem dX9_byteAt_0 : decode cX9_byteAt 0 = .ok (.iload_n 1, 1) := by decide +kernel
theorem dX9_byteAt_1 : decode cX9_byteAt 1 = .ok (.ifCond .lt 27, 3) := by decide +kernel
theorem dX9_byteAt_4 : decode cX9_byteAt 4 = .ok (.iload_n 1, 1) := by decide +kernel
theorem dX9_byteAt_5 : decode cX9_byteAt 5 = .ok (.aload_n 0, 1) := by decide +kernel
theorem dX9_byteAt_6 : decode cX9_byteAt 6 = .ok (.getfield 13, 3) := by decide +kernel
theorem dX9_byteAt_9 : decode cX9_byteAt 9 = .ok (.if_icmp .ge 19, 3) := by decide +kernel
theorem dX9_byteAt_12 : decode cX9_byteAt 12 = .ok (.iload_n 1, 1) := by decide +kernel
theorem dX9_byteAt_13 : decode cX9_byteAt 13 = .ok (.sipush 300, 3) := by decide +kernel
theorem dX9_byteAt_16 : decode cX9_byteAt 16 = .ok (.if_icmp .ge 12, 3) := by decide +kernel
theorem dX9_byteAt_19 : decode cX9_byteAt 19 = .ok (.aload_n 0, 1) := by decide +kernel
theorem dX9_byteAt_20 : decode cX9_byteAt 20 = .ok (.getfield 9, 3) := by decide +kernel
theorem dX9_byteAt_23 : decode cX9_byteAt 23 = .ok (.iload_n 1, 1) := by decide +kernel
theorem dX9_byteAt_24 : decode cX9_byteAt 24 = .ok (.iaload, 1) := by decide +kernel
theorem dX9_byteAt_25 : decode cX9_byteAt 25 = .ok (.goto 4, 3) := by decide +kernel
theorem dX9_byteAt_28 : decode cX9_byteAt 28 = .ok (.iconst 0, 1) := by decide +kernel
theorem dX9_byteAt_29 : decode cX9_byteAt 29 = .ok (.ireturn, 1) := by decide +kernel
theorem dX9_bytesOf_0 : decode cX9_bytesOf 0 = .ok (.iconst 0, 1) := by decide +kernel
theorem dX9_bytesOf_1 : decode cX9_bytesOf 1 = .ok (.istore_n 1, 1) := by decide +kernel
theorem dX9_bytesOf_2 : decode cX9_bytesOf 2 = .ok (.bipush 24, 2) := by decide +kernel
theorem dX9_bytesOf_4 : decode cX9_bytesOf 4 = .ok (.istore_n 2, 1) := by decide +kernel
theorem dX9_bytesOf_5 : decode cX9_bytesOf 5 = .ok (.iload_n 2, 1) := by decide +kernel
theorem dX9_bytesOf_6 : decode cX9_bytesOf 6 = .ok (.ifCond .lt 22, 3) := by decide +kernel
theorem dX9_bytesOf_9 : decode cX9_bytesOf 9 = .ok (.iload_n 0, 1) := by decide +kernel
theorem dX9_bytesOf_10 : decode cX9_bytesOf 10 = .ok (.iload_n 2, 1) := by decide +kernel
theorem dX9_bytesOf_11 : decode cX9_bytesOf 11 = .ok (.iushr, 1) := by decide +kernel
theorem dX9_bytesOf_12 : decode cX9_bytesOf 12 = .ok (.sipush 255, 3) := by decide +kernel
theorem dX9_bytesOf_15 : decode cX9_bytesOf 15 = .ok (.iand, 1) := by decide +kernel
theorem dX9_bytesOf_16 : decode cX9_bytesOf 16 = .ok (.ifCond .eq 6, 3) := by decide +kernel
theorem dX9_bytesOf_19 : decode cX9_bytesOf 19 = .ok (.iinc 1 1, 3) := by decide +kernel
theorem dX9_bytesOf_22 : decode cX9_bytesOf 22 = .ok (.iinc 2 (-8), 3) := by decide +kernel
theorem dX9_bytesOf_25 : decode cX9_bytesOf 25 = .ok (.goto (-20), 3) := by decide +kernel
theorem dX9_bytesOf_28 : decode cX9_bytesOf 28 = .ok (.iload_n 1, 1) := by decide +kernel
theorem dX9_bytesOf_29 : decode cX9_bytesOf 29 = .ok (.ireturn, 1) := by decide +kernel
theorem dX9_init_0 : decode cX9_init 0 = .ok (.aload_n 0, 1) := by decide +kernel
theorem dX9_init_1 : decode cX9_init 1 = .ok (.invokespecial 1, 3) := by decide +kernel
theorem dX9_init_4 : decode cX9_init 4 = .ok (.aload_n 0, 1) := by decide +kernel
theorem dX9_init_5 : decode cX9_init 5 = .ok (.sipush 300, 3) := by decide +kernel
theorem dX9_init_8 : decode cX9_init 8 = .ok (.newarray .int, 2) := by decide +kernel
theorem dX9_init_10 : decode cX9_init 10 = .ok (.putfield 9, 3) := by decide +kernel
theorem dX9_init_13 : decode cX9_init 13 = .ok (.return_, 1) := by decide +kernel
theorem dX9_put_0 : decode cX9_put 0 = .ok (.bipush 24, 2) := by decide +kernel
theorem dX9_put_2 : decode cX9_put 2 = .ok (.istore_n 2, 1) := by decide +kernel
theorem dX9_put_3 : decode cX9_put 3 = .ok (.iload_n 2, 1) := by decide +kernel
theorem dX9_put_4 : decode cX9_put 4 = .ok (.ifCond .lt 58, 3) := by decide +kernel
theorem dX9_put_7 : decode cX9_put 7 = .ok (.iload_n 1, 1) := by decide +kernel
theorem dX9_put_8 : decode cX9_put 8 = .ok (.iload_n 2, 1) := by decide +kernel
theorem dX9_put_9 : decode cX9_put 9 = .ok (.iushr, 1) := by decide +kernel
theorem dX9_put_10 : decode cX9_put 10 = .ok (.sipush 255, 3) := by decide +kernel
theorem dX9_put_13 : decode cX9_put 13 = .ok (.iand, 1) := by decide +kernel
theorem dX9_put_14 : decode cX9_put 14 = .ok (.istore_n 3, 1) := by decide +kernel
theorem dX9_put_15 : decode cX9_put 15 = .ok (.iload_n 3, 1) := by decide +kernel
theorem dX9_put_16 : decode cX9_put 16 = .ok (.ifCond .eq 40, 3) := by decide +kernel
theorem dX9_put_19 : decode cX9_put 19 = .ok (.aload_n 0, 1) := by decide +kernel
theorem dX9_put_20 : decode cX9_put 20 = .ok (.getfield 13, 3) := by decide +kernel
theorem dX9_put_23 : decode cX9_put 23 = .ok (.ifCond .lt 33, 3) := by decide +kernel
theorem dX9_put_26 : decode cX9_put 26 = .ok (.aload_n 0, 1) := by decide +kernel
theorem dX9_put_27 : decode cX9_put 27 = .ok (.getfield 13, 3) := by decide +kernel
theorem dX9_put_30 : decode cX9_put 30 = .ok (.sipush 300, 3) := by decide +kernel
theorem dX9_put_33 : decode cX9_put 33 = .ok (.if_icmp .ge 23, 3) := by decide +kernel
theorem dX9_put_36 : decode cX9_put 36 = .ok (.aload_n 0, 1) := by decide +kernel
theorem dX9_put_37 : decode cX9_put 37 = .ok (.getfield 9, 3) := by decide +kernel
theorem dX9_put_40 : decode cX9_put 40 = .ok (.aload_n 0, 1) := by decide +kernel
theorem dX9_put_41 : decode cX9_put 41 = .ok (.getfield 13, 3) := by decide +kernel
theorem dX9_put_44 : decode cX9_put 44 = .ok (.iload_n 3, 1) := by decide +kernel
theorem dX9_put_45 : decode cX9_put 45 = .ok (.iastore, 1) := by decide +kernel
theorem dX9_put_46 : decode cX9_put 46 = .ok (.aload_n 0, 1) := by decide +kernel
theorem dX9_put_47 : decode cX9_put 47 = .ok (.dup, 1) := by decide +kernel
theorem dX9_put_48 : decode cX9_put 48 = .ok (.getfield 13, 3) := by decide +kernel
theorem dX9_put_51 : decode cX9_put 51 = .ok (.iconst 1, 1) := by decide +kernel
theorem dX9_put_52 : decode cX9_put 52 = .ok (.iadd, 1) := by decide +kernel
theorem dX9_put_53 : decode cX9_put 53 = .ok (.putfield 13, 3) := by decide +kernel
theorem dX9_put_56 : decode cX9_put 56 = .ok (.iinc 2 (-8), 3) := by decide +kernel
theorem dX9_put_59 : decode cX9_put 59 = .ok (.goto (-56), 3) := by decide +kernel
theorem dX9_put_62 : decode cX9_put 62 = .ok (.return_, 1) := by decide +kernel
