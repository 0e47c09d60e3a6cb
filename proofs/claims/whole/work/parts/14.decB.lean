theorem d_B_init_0 : decode prog_2_method_1_code 0 = .ok (.aload_n 0, 1) := by decide +kernel
theorem d_B_init_1 : decode prog_2_method_1_code 1 = .ok (.invokespecial 3, 3) := by decide +kernel
theorem d_B_init_4 : decode prog_2_method_1_code 4 = .ok (.aload_n 0, 1) := by decide +kernel
theorem d_B_init_5 : decode prog_2_method_1_code 5 = .ok (.iconst 0, 1) := by decide +kernel
theorem d_B_init_6 : decode prog_2_method_1_code 6 = .ok (.putfield 9, 3) := by decide +kernel
theorem d_B_init_9 : decode prog_2_method_1_code 9 = .ok (.aload_n 0, 1) := by decide +kernel
theorem d_B_init_10 : decode prog_2_method_1_code 10 = .ok (.iconst 1, 1) := by decide +kernel
theorem d_B_init_11 : decode prog_2_method_1_code 11 = .ok (.putfield 15, 3) := by decide +kernel
theorem d_B_init_14 : decode prog_2_method_1_code 14 = .ok (.aload_n 0, 1) := by decide +kernel
theorem d_B_init_15 : decode prog_2_method_1_code 15 = .ok (.bipush 24, 2) := by decide +kernel
theorem d_B_init_17 : decode prog_2_method_1_code 17 = .ok (.newarray .int, 2) := by decide +kernel
theorem d_B_init_19 : decode prog_2_method_1_code 19 = .ok (.putfield 18, 3) := by decide +kernel
theorem d_B_init_22 : decode prog_2_method_1_code 22 = .ok (.aload_n 0, 1) := by decide +kernel
theorem d_B_init_23 : decode prog_2_method_1_code 23 = .ok (.bipush 24, 2) := by decide +kernel
theorem d_B_init_25 : decode prog_2_method_1_code 25 = .ok (.newarray .int, 2) := by decide +kernel
theorem d_B_init_27 : decode prog_2_method_1_code 27 = .ok (.putfield 22, 3) := by decide +kernel
theorem d_B_init_30 : decode prog_2_method_1_code 30 = .ok (.aload_n 0, 1) := by decide +kernel
theorem d_B_init_31 : decode prog_2_method_1_code 31 = .ok (.iconst 3, 1) := by decide +kernel
theorem d_B_init_32 : decode prog_2_method_1_code 32 = .ok (.bipush 24, 2) := by decide +kernel
theorem d_B_init_34 : decode prog_2_method_1_code 34 = .ok (.multianewarray 25 2, 4) := by decide +kernel
theorem d_B_init_38 : decode prog_2_method_1_code 38 = .ok (.putfield 27, 3) := by decide +kernel
theorem d_B_init_41 : decode prog_2_method_1_code 41 = .ok (.aload_n 0, 1) := by decide +kernel
theorem d_B_init_42 : decode prog_2_method_1_code 42 = .ok (.iconst 5, 1) := by decide +kernel
theorem d_B_init_43 : decode prog_2_method_1_code 43 = .ok (.bipush 24, 2) := by decide +kernel
theorem d_B_init_45 : decode prog_2_method_1_code 45 = .ok (.multianewarray 25 2, 4) := by decide +kernel
theorem d_B_init_49 : decode prog_2_method_1_code 49 = .ok (.putfield 30, 3) := by decide +kernel
theorem d_B_init_52 : decode prog_2_method_1_code 52 = .ok (.aload_n 0, 1) := by decide +kernel
theorem d_B_init_53 : decode prog_2_method_1_code 53 = .ok (.iconst 5, 1) := by decide +kernel
theorem d_B_init_54 : decode prog_2_method_1_code 54 = .ok (.bipush 24, 2) := by decide +kernel
theorem d_B_init_56 : decode prog_2_method_1_code 56 = .ok (.multianewarray 25 2, 4) := by decide +kernel
theorem d_B_init_60 : decode prog_2_method_1_code 60 = .ok (.putfield 33, 3) := by decide +kernel
theorem d_B_init_63 : decode prog_2_method_1_code 63 = .ok (.iconst 0, 1) := by decide +kernel
theorem d_B_init_64 : decode prog_2_method_1_code 64 = .ok (.istore_n 1, 1) := by decide +kernel
theorem d_B_init_65 : decode prog_2_method_1_code 65 = .ok (.iload_n 1, 1) := by decide +kernel
theorem d_B_init_66 : decode prog_2_method_1_code 66 = .ok (.iconst 5, 1) := by decide +kernel
theorem d_B_init_67 : decode prog_2_method_1_code 67 = .ok (.if_icmp .ge 41, 3) := by decide +kernel
theorem d_B_init_70 : decode prog_2_method_1_code 70 = .ok (.iconst 0, 1) := by decide +kernel
theorem d_B_init_71 : decode prog_2_method_1_code 71 = .ok (.istore_n 2, 1) := by decide +kernel
theorem d_B_init_72 : decode prog_2_method_1_code 72 = .ok (.iload_n 2, 1) := by decide +kernel
theorem d_B_init_73 : decode prog_2_method_1_code 73 = .ok (.bipush 24, 2) := by decide +kernel
theorem d_B_init_75 : decode prog_2_method_1_code 75 = .ok (.if_icmp .ge 27, 3) := by decide +kernel
theorem d_B_init_78 : decode prog_2_method_1_code 78 = .ok (.aload_n 0, 1) := by decide +kernel
theorem d_B_init_79 : decode prog_2_method_1_code 79 = .ok (.getfield 30, 3) := by decide +kernel
theorem d_B_init_82 : decode prog_2_method_1_code 82 = .ok (.iload_n 1, 1) := by decide +kernel
theorem d_B_init_83 : decode prog_2_method_1_code 83 = .ok (.aaload, 1) := by decide +kernel
theorem d_B_init_84 : decode prog_2_method_1_code 84 = .ok (.iload_n 2, 1) := by decide +kernel
theorem d_B_init_85 : decode prog_2_method_1_code 85 = .ok (.iconst (-1), 1) := by decide +kernel
theorem d_B_init_86 : decode prog_2_method_1_code 86 = .ok (.iastore, 1) := by decide +kernel
theorem d_B_init_87 : decode prog_2_method_1_code 87 = .ok (.aload_n 0, 1) := by decide +kernel
theorem d_B_init_88 : decode prog_2_method_1_code 88 = .ok (.getfield 33, 3) := by decide +kernel
theorem d_B_init_91 : decode prog_2_method_1_code 91 = .ok (.iload_n 1, 1) := by decide +kernel
theorem d_B_init_92 : decode prog_2_method_1_code 92 = .ok (.aaload, 1) := by decide +kernel
theorem d_B_init_93 : decode prog_2_method_1_code 93 = .ok (.iload_n 2, 1) := by decide +kernel
theorem d_B_init_94 : decode prog_2_method_1_code 94 = .ok (.iconst (-1), 1) := by decide +kernel
theorem d_B_init_95 : decode prog_2_method_1_code 95 = .ok (.iastore, 1) := by decide +kernel
theorem d_B_init_96 : decode prog_2_method_1_code 96 = .ok (.iinc 2 1, 3) := by decide +kernel
theorem d_B_init_99 : decode prog_2_method_1_code 99 = .ok (.goto (-27), 3) := by decide +kernel
theorem d_B_init_102 : decode prog_2_method_1_code 102 = .ok (.iinc 1 1, 3) := by decide +kernel
theorem d_B_init_105 : decode prog_2_method_1_code 105 = .ok (.goto (-40), 3) := by decide +kernel
theorem d_B_init_108 : decode prog_2_method_1_code 108 = .ok (.return_, 1) := by decide +kernel
theorem d_B_copyFrom_0 : decode prog_2_method_2_code 0 = .ok (.aload_n 0, 1) := by decide +kernel
theorem d_B_copyFrom_1 : decode prog_2_method_2_code 1 = .ok (.aload_n 1, 1) := by decide +kernel
theorem d_B_copyFrom_2 : decode prog_2_method_2_code 2 = .ok (.getfield 9, 3) := by decide +kernel
theorem d_B_copyFrom_5 : decode prog_2_method_2_code 5 = .ok (.putfield 9, 3) := by decide +kernel
theorem d_B_copyFrom_8 : decode prog_2_method_2_code 8 = .ok (.aload_n 0, 1) := by decide +kernel
theorem d_B_copyFrom_9 : decode prog_2_method_2_code 9 = .ok (.aload_n 1, 1) := by decide +kernel
theorem d_B_copyFrom_10 : decode prog_2_method_2_code 10 = .ok (.getfield 15, 3) := by decide +kernel
theorem d_B_copyFrom_13 : decode prog_2_method_2_code 13 = .ok (.putfield 15, 3) := by decide +kernel
theorem d_B_copyFrom_16 : decode prog_2_method_2_code 16 = .ok (.aload_n 1, 1) := by decide +kernel
theorem d_B_copyFrom_17 : decode prog_2_method_2_code 17 = .ok (.getfield 18, 3) := by decide +kernel
theorem d_B_copyFrom_20 : decode prog_2_method_2_code 20 = .ok (.iconst 0, 1) := by decide +kernel
theorem d_B_copyFrom_21 : decode prog_2_method_2_code 21 = .ok (.aload_n 0, 1) := by decide +kernel
theorem d_B_copyFrom_22 : decode prog_2_method_2_code 22 = .ok (.getfield 18, 3) := by decide +kernel
theorem d_B_copyFrom_25 : decode prog_2_method_2_code 25 = .ok (.iconst 0, 1) := by decide +kernel
theorem d_B_copyFrom_26 : decode prog_2_method_2_code 26 = .ok (.bipush 24, 2) := by decide +kernel
theorem d_B_copyFrom_28 : decode prog_2_method_2_code 28 = .ok (.invokestatic 36, 3) := by decide +kernel
theorem d_B_copyFrom_31 : decode prog_2_method_2_code 31 = .ok (.aload_n 1, 1) := by decide +kernel
theorem d_B_copyFrom_32 : decode prog_2_method_2_code 32 = .ok (.getfield 22, 3) := by decide +kernel
theorem d_B_copyFrom_35 : decode prog_2_method_2_code 35 = .ok (.iconst 0, 1) := by decide +kernel
theorem d_B_copyFrom_36 : decode prog_2_method_2_code 36 = .ok (.aload_n 0, 1) := by decide +kernel
theorem d_B_copyFrom_37 : decode prog_2_method_2_code 37 = .ok (.getfield 22, 3) := by decide +kernel
theorem d_B_copyFrom_40 : decode prog_2_method_2_code 40 = .ok (.iconst 0, 1) := by decide +kernel
theorem d_B_copyFrom_41 : decode prog_2_method_2_code 41 = .ok (.bipush 24, 2) := by decide +kernel
theorem d_B_copyFrom_43 : decode prog_2_method_2_code 43 = .ok (.invokestatic 36, 3) := by decide +kernel
theorem d_B_copyFrom_46 : decode prog_2_method_2_code 46 = .ok (.iconst 0, 1) := by decide +kernel
theorem d_B_copyFrom_47 : decode prog_2_method_2_code 47 = .ok (.istore_n 2, 1) := by decide +kernel
theorem d_B_copyFrom_48 : decode prog_2_method_2_code 48 = .ok (.iload_n 2, 1) := by decide +kernel
theorem d_B_copyFrom_49 : decode prog_2_method_2_code 49 = .ok (.iconst 3, 1) := by decide +kernel
theorem d_B_copyFrom_50 : decode prog_2_method_2_code 50 = .ok (.if_icmp .ge 28, 3) := by decide +kernel
theorem d_B_copyFrom_53 : decode prog_2_method_2_code 53 = .ok (.aload_n 1, 1) := by decide +kernel
theorem d_B_copyFrom_54 : decode prog_2_method_2_code 54 = .ok (.getfield 27, 3) := by decide +kernel
theorem d_B_copyFrom_57 : decode prog_2_method_2_code 57 = .ok (.iload_n 2, 1) := by decide +kernel
theorem d_B_copyFrom_58 : decode prog_2_method_2_code 58 = .ok (.aaload, 1) := by decide +kernel
theorem d_B_copyFrom_59 : decode prog_2_method_2_code 59 = .ok (.iconst 0, 1) := by decide +kernel
theorem d_B_copyFrom_60 : decode prog_2_method_2_code 60 = .ok (.aload_n 0, 1) := by decide +kernel
theorem d_B_copyFrom_61 : decode prog_2_method_2_code 61 = .ok (.getfield 27, 3) := by decide +kernel
theorem d_B_copyFrom_64 : decode prog_2_method_2_code 64 = .ok (.iload_n 2, 1) := by decide +kernel
theorem d_B_copyFrom_65 : decode prog_2_method_2_code 65 = .ok (.aaload, 1) := by decide +kernel
theorem d_B_copyFrom_66 : decode prog_2_method_2_code 66 = .ok (.iconst 0, 1) := by decide +kernel
theorem d_B_copyFrom_67 : decode prog_2_method_2_code 67 = .ok (.bipush 24, 2) := by decide +kernel
theorem d_B_copyFrom_69 : decode prog_2_method_2_code 69 = .ok (.invokestatic 36, 3) := by decide +kernel
theorem d_B_copyFrom_72 : decode prog_2_method_2_code 72 = .ok (.iinc 2 1, 3) := by decide +kernel
theorem d_B_copyFrom_75 : decode prog_2_method_2_code 75 = .ok (.goto (-27), 3) := by decide +kernel
theorem d_B_copyFrom_78 : decode prog_2_method_2_code 78 = .ok (.iconst 0, 1) := by decide +kernel
theorem d_B_copyFrom_79 : decode prog_2_method_2_code 79 = .ok (.istore_n 2, 1) := by decide +kernel
theorem d_B_copyFrom_80 : decode prog_2_method_2_code 80 = .ok (.iload_n 2, 1) := by decide +kernel
theorem d_B_copyFrom_81 : decode prog_2_method_2_code 81 = .ok (.iconst 5, 1) := by decide +kernel
theorem d_B_copyFrom_82 : decode prog_2_method_2_code 82 = .ok (.if_icmp .ge 47, 3) := by decide +kernel
theorem d_B_copyFrom_85 : decode prog_2_method_2_code 85 = .ok (.aload_n 1, 1) := by decide +kernel
theorem d_B_copyFrom_86 : decode prog_2_method_2_code 86 = .ok (.getfield 30, 3) := by decide +kernel
theorem d_B_copyFrom_89 : decode prog_2_method_2_code 89 = .ok (.iload_n 2, 1) := by decide +kernel
theorem d_B_copyFrom_90 : decode prog_2_method_2_code 90 = .ok (.aaload, 1) := by decide +kernel
theorem d_B_copyFrom_91 : decode prog_2_method_2_code 91 = .ok (.iconst 0, 1) := by decide +kernel
theorem d_B_copyFrom_92 : decode prog_2_method_2_code 92 = .ok (.aload_n 0, 1) := by decide +kernel
theorem d_B_copyFrom_93 : decode prog_2_method_2_code 93 = .ok (.getfield 30, 3) := by decide +kernel
theorem d_B_copyFrom_96 : decode prog_2_method_2_code 96 = .ok (.iload_n 2, 1) := by decide +kernel
theorem d_B_copyFrom_97 : decode prog_2_method_2_code 97 = .ok (.aaload, 1) := by decide +kernel
theorem d_B_copyFrom_98 : decode prog_2_method_2_code 98 = .ok (.iconst 0, 1) := by decide +kernel
theorem d_B_copyFrom_99 : decode prog_2_method_2_code 99 = .ok (.bipush 24, 2) := by decide +kernel
theorem d_B_copyFrom_101 : decode prog_2_method_2_code 101 = .ok (.invokestatic 36, 3) := by decide +kernel
theorem d_B_copyFrom_104 : decode prog_2_method_2_code 104 = .ok (.aload_n 1, 1) := by decide +kernel
theorem d_B_copyFrom_105 : decode prog_2_method_2_code 105 = .ok (.getfield 33, 3) := by decide +kernel
theorem d_B_copyFrom_108 : decode prog_2_method_2_code 108 = .ok (.iload_n 2, 1) := by decide +kernel
theorem d_B_copyFrom_109 : decode prog_2_method_2_code 109 = .ok (.aaload, 1) := by decide +kernel
theorem d_B_copyFrom_110 : decode prog_2_method_2_code 110 = .ok (.iconst 0, 1) := by decide +kernel
theorem d_B_copyFrom_111 : decode prog_2_method_2_code 111 = .ok (.aload_n 0, 1) := by decide +kernel
theorem d_B_copyFrom_112 : decode prog_2_method_2_code 112 = .ok (.getfield 33, 3) := by decide +kernel
theorem d_B_copyFrom_115 : decode prog_2_method_2_code 115 = .ok (.iload_n 2, 1) := by decide +kernel
theorem d_B_copyFrom_116 : decode prog_2_method_2_code 116 = .ok (.aaload, 1) := by decide +kernel
theorem d_B_copyFrom_117 : decode prog_2_method_2_code 117 = .ok (.iconst 0, 1) := by decide +kernel
theorem d_B_copyFrom_118 : decode prog_2_method_2_code 118 = .ok (.bipush 24, 2) := by decide +kernel
theorem d_B_copyFrom_120 : decode prog_2_method_2_code 120 = .ok (.invokestatic 36, 3) := by decide +kernel
theorem d_B_copyFrom_123 : decode prog_2_method_2_code 123 = .ok (.iinc 2 1, 3) := by decide +kernel
theorem d_B_copyFrom_126 : decode prog_2_method_2_code 126 = .ok (.goto (-46), 3) := by decide +kernel
theorem d_B_copyFrom_129 : decode prog_2_method_2_code 129 = .ok (.return_, 1) := by decide +kernel
theorem d_B_freePlace_0 : decode prog_2_method_3_code 0 = .ok (.iconst 0, 1) := by decide +kernel
theorem d_B_freePlace_1 : decode prog_2_method_3_code 1 = .ok (.istore_n 1, 1) := by decide +kernel
theorem d_B_freePlace_2 : decode prog_2_method_3_code 2 = .ok (.iload_n 1, 1) := by decide +kernel
theorem d_B_freePlace_3 : decode prog_2_method_3_code 3 = .ok (.bipush 24, 2) := by decide +kernel
theorem d_B_freePlace_5 : decode prog_2_method_3_code 5 = .ok (.if_icmp .ge 20, 3) := by decide +kernel
theorem d_B_freePlace_8 : decode prog_2_method_3_code 8 = .ok (.aload_n 0, 1) := by decide +kernel
theorem d_B_freePlace_9 : decode prog_2_method_3_code 9 = .ok (.getfield 18, 3) := by decide +kernel
theorem d_B_freePlace_12 : decode prog_2_method_3_code 12 = .ok (.iload_n 1, 1) := by decide +kernel
theorem d_B_freePlace_13 : decode prog_2_method_3_code 13 = .ok (.iaload, 1) := by decide +kernel
theorem d_B_freePlace_14 : decode prog_2_method_3_code 14 = .ok (.ifCond .ne 5, 3) := by decide +kernel
theorem d_B_freePlace_17 : decode prog_2_method_3_code 17 = .ok (.iload_n 1, 1) := by decide +kernel
theorem d_B_freePlace_18 : decode prog_2_method_3_code 18 = .ok (.ireturn, 1) := by decide +kernel
theorem d_B_freePlace_19 : decode prog_2_method_3_code 19 = .ok (.iinc 1 1, 3) := by decide +kernel
theorem d_B_freePlace_22 : decode prog_2_method_3_code 22 = .ok (.goto (-20), 3) := by decide +kernel
theorem d_B_freePlace_25 : decode prog_2_method_3_code 25 = .ok (.iconst (-1), 1) := by decide +kernel
theorem d_B_freePlace_26 : decode prog_2_method_3_code 26 = .ok (.ireturn, 1) := by decide +kernel
theorem d_B_writeFields_0 : decode prog_2_method_6_code 0 = .ok (.aload_n 0, 1) := by decide +kernel
theorem d_B_writeFields_1 : decode prog_2_method_6_code 1 = .ok (.getfield 27, 3) := by decide +kernel
theorem d_B_writeFields_4 : decode prog_2_method_6_code 4 = .ok (.iconst 0, 1) := by decide +kernel
theorem d_B_writeFields_5 : decode prog_2_method_6_code 5 = .ok (.aaload, 1) := by decide +kernel
theorem d_B_writeFields_6 : decode prog_2_method_6_code 6 = .ok (.iload_n 1, 1) := by decide +kernel
theorem d_B_writeFields_7 : decode prog_2_method_6_code 7 = .ok (.iload_n 2, 1) := by decide +kernel
theorem d_B_writeFields_8 : decode prog_2_method_6_code 8 = .ok (.iastore, 1) := by decide +kernel
theorem d_B_writeFields_9 : decode prog_2_method_6_code 9 = .ok (.aload_n 0, 1) := by decide +kernel
theorem d_B_writeFields_10 : decode prog_2_method_6_code 10 = .ok (.getfield 27, 3) := by decide +kernel
theorem d_B_writeFields_13 : decode prog_2_method_6_code 13 = .ok (.iconst 1, 1) := by decide +kernel
theorem d_B_writeFields_14 : decode prog_2_method_6_code 14 = .ok (.aaload, 1) := by decide +kernel
theorem d_B_writeFields_15 : decode prog_2_method_6_code 15 = .ok (.iload_n 1, 1) := by decide +kernel
theorem d_B_writeFields_16 : decode prog_2_method_6_code 16 = .ok (.iload_n 3, 1) := by decide +kernel
theorem d_B_writeFields_17 : decode prog_2_method_6_code 17 = .ok (.iastore, 1) := by decide +kernel
theorem d_B_writeFields_18 : decode prog_2_method_6_code 18 = .ok (.aload_n 0, 1) := by decide +kernel
theorem d_B_writeFields_19 : decode prog_2_method_6_code 19 = .ok (.getfield 27, 3) := by decide +kernel
theorem d_B_writeFields_22 : decode prog_2_method_6_code 22 = .ok (.iconst 2, 1) := by decide +kernel
theorem d_B_writeFields_23 : decode prog_2_method_6_code 23 = .ok (.aaload, 1) := by decide +kernel
theorem d_B_writeFields_24 : decode prog_2_method_6_code 24 = .ok (.iload_n 1, 1) := by decide +kernel
theorem d_B_writeFields_25 : decode prog_2_method_6_code 25 = .ok (.iload 4, 2) := by decide +kernel
theorem d_B_writeFields_27 : decode prog_2_method_6_code 27 = .ok (.iastore, 1) := by decide +kernel
theorem d_B_writeFields_28 : decode prog_2_method_6_code 28 = .ok (.return_, 1) := by decide +kernel
theorem d_B_hasOtherWithValue_0 : decode prog_2_method_14_code 0 = .ok (.iconst 0, 1) := by decide +kernel
theorem d_B_hasOtherWithValue_1 : decode prog_2_method_14_code 1 = .ok (.istore 6, 2) := by decide +kernel
theorem d_B_hasOtherWithValue_3 : decode prog_2_method_14_code 3 = .ok (.iload 6, 2) := by decide +kernel
theorem d_B_hasOtherWithValue_5 : decode prog_2_method_14_code 5 = .ok (.bipush 24, 2) := by decide +kernel
theorem d_B_hasOtherWithValue_7 : decode prog_2_method_14_code 7 = .ok (.if_icmp .ge 45, 3) := by decide +kernel
theorem d_B_hasOtherWithValue_10 : decode prog_2_method_14_code 10 = .ok (.iload 6, 2) := by decide +kernel
theorem d_B_hasOtherWithValue_12 : decode prog_2_method_14_code 12 = .ok (.iload_n 3, 1) := by decide +kernel
theorem d_B_hasOtherWithValue_13 : decode prog_2_method_14_code 13 = .ok (.if_icmp .eq 33, 3) := by decide +kernel
theorem d_B_hasOtherWithValue_16 : decode prog_2_method_14_code 16 = .ok (.aload_n 0, 1) := by decide +kernel
theorem d_B_hasOtherWithValue_17 : decode prog_2_method_14_code 17 = .ok (.getfield 30, 3) := by decide +kernel
theorem d_B_hasOtherWithValue_20 : decode prog_2_method_14_code 20 = .ok (.iload_n 1, 1) := by decide +kernel
theorem d_B_hasOtherWithValue_21 : decode prog_2_method_14_code 21 = .ok (.aaload, 1) := by decide +kernel
theorem d_B_hasOtherWithValue_22 : decode prog_2_method_14_code 22 = .ok (.iload 6, 2) := by decide +kernel
theorem d_B_hasOtherWithValue_24 : decode prog_2_method_14_code 24 = .ok (.iaload, 1) := by decide +kernel
theorem d_B_hasOtherWithValue_25 : decode prog_2_method_14_code 25 = .ok (.iload_n 2, 1) := by decide +kernel
theorem d_B_hasOtherWithValue_26 : decode prog_2_method_14_code 26 = .ok (.if_icmp .ne 20, 3) := by decide +kernel
theorem d_B_hasOtherWithValue_29 : decode prog_2_method_14_code 29 = .ok (.aload_n 0, 1) := by decide +kernel
theorem d_B_hasOtherWithValue_30 : decode prog_2_method_14_code 30 = .ok (.getfield 27, 3) := by decide +kernel
theorem d_B_hasOtherWithValue_33 : decode prog_2_method_14_code 33 = .ok (.iload 4, 2) := by decide +kernel
theorem d_B_hasOtherWithValue_35 : decode prog_2_method_14_code 35 = .ok (.aaload, 1) := by decide +kernel
theorem d_B_hasOtherWithValue_36 : decode prog_2_method_14_code 36 = .ok (.iload 6, 2) := by decide +kernel
theorem d_B_hasOtherWithValue_38 : decode prog_2_method_14_code 38 = .ok (.iaload, 1) := by decide +kernel
theorem d_B_hasOtherWithValue_39 : decode prog_2_method_14_code 39 = .ok (.iload 5, 2) := by decide +kernel
theorem d_B_hasOtherWithValue_41 : decode prog_2_method_14_code 41 = .ok (.if_icmp .ne 5, 3) := by decide +kernel
theorem d_B_hasOtherWithValue_44 : decode prog_2_method_14_code 44 = .ok (.iconst 1, 1) := by decide +kernel
theorem d_B_hasOtherWithValue_45 : decode prog_2_method_14_code 45 = .ok (.ireturn, 1) := by decide +kernel
theorem d_B_hasOtherWithValue_46 : decode prog_2_method_14_code 46 = .ok (.iinc 6 1, 3) := by decide +kernel
theorem d_B_hasOtherWithValue_49 : decode prog_2_method_14_code 49 = .ok (.goto (-46), 3) := by decide +kernel
theorem d_B_hasOtherWithValue_52 : decode prog_2_method_14_code 52 = .ok (.iconst 0, 1) := by decide +kernel
theorem d_B_hasOtherWithValue_53 : decode prog_2_method_14_code 53 = .ok (.ireturn, 1) := by decide +kernel
theorem d_B_addRecord_0 : decode prog_2_method_7_code 0 = .ok (.aload_n 0, 1) := by decide +kernel
theorem d_B_addRecord_1 : decode prog_2_method_7_code 1 = .ok (.getfield 18, 3) := by decide +kernel
theorem d_B_addRecord_4 : decode prog_2_method_7_code 4 = .ok (.iload_n 1, 1) := by decide +kernel
theorem d_B_addRecord_5 : decode prog_2_method_7_code 5 = .ok (.aload_n 0, 1) := by decide +kernel
theorem d_B_addRecord_6 : decode prog_2_method_7_code 6 = .ok (.getfield 15, 3) := by decide +kernel
theorem d_B_addRecord_9 : decode prog_2_method_7_code 9 = .ok (.iastore, 1) := by decide +kernel
theorem d_B_addRecord_10 : decode prog_2_method_7_code 10 = .ok (.aload_n 0, 1) := by decide +kernel
theorem d_B_addRecord_11 : decode prog_2_method_7_code 11 = .ok (.getfield 22, 3) := by decide +kernel
theorem d_B_addRecord_14 : decode prog_2_method_7_code 14 = .ok (.iload_n 1, 1) := by decide +kernel
theorem d_B_addRecord_15 : decode prog_2_method_7_code 15 = .ok (.iload_n 2, 1) := by decide +kernel
theorem d_B_addRecord_16 : decode prog_2_method_7_code 16 = .ok (.iastore, 1) := by decide +kernel
theorem d_B_addRecord_17 : decode prog_2_method_7_code 17 = .ok (.aload_n 0, 1) := by decide +kernel
theorem d_B_addRecord_18 : decode prog_2_method_7_code 18 = .ok (.dup, 1) := by decide +kernel
theorem d_B_addRecord_19 : decode prog_2_method_7_code 19 = .ok (.getfield 15, 3) := by decide +kernel
theorem d_B_addRecord_22 : decode prog_2_method_7_code 22 = .ok (.iconst 1, 1) := by decide +kernel
theorem d_B_addRecord_23 : decode prog_2_method_7_code 23 = .ok (.iadd, 1) := by decide +kernel
theorem d_B_addRecord_24 : decode prog_2_method_7_code 24 = .ok (.putfield 15, 3) := by decide +kernel
theorem d_B_addRecord_27 : decode prog_2_method_7_code 27 = .ok (.aload_n 0, 1) := by decide +kernel
theorem d_B_addRecord_28 : decode prog_2_method_7_code 28 = .ok (.dup, 1) := by decide +kernel
theorem d_B_addRecord_29 : decode prog_2_method_7_code 29 = .ok (.getfield 9, 3) := by decide +kernel
theorem d_B_addRecord_32 : decode prog_2_method_7_code 32 = .ok (.iconst 1, 1) := by decide +kernel
theorem d_B_addRecord_33 : decode prog_2_method_7_code 33 = .ok (.iadd, 1) := by decide +kernel
theorem d_B_addRecord_34 : decode prog_2_method_7_code 34 = .ok (.putfield 9, 3) := by decide +kernel
theorem d_B_addRecord_37 : decode prog_2_method_7_code 37 = .ok (.return_, 1) := by decide +kernel
theorem d_B_ringSize_0 : decode prog_2_method_11_code 0 = .ok (.iconst 0, 1) := by decide +kernel
theorem d_B_ringSize_1 : decode prog_2_method_11_code 1 = .ok (.istore_n 3, 1) := by decide +kernel
theorem d_B_ringSize_2 : decode prog_2_method_11_code 2 = .ok (.iconst 0, 1) := by decide +kernel
theorem d_B_ringSize_3 : decode prog_2_method_11_code 3 = .ok (.istore 4, 2) := by decide +kernel
theorem d_B_ringSize_5 : decode prog_2_method_11_code 5 = .ok (.iload 4, 2) := by decide +kernel
theorem d_B_ringSize_7 : decode prog_2_method_11_code 7 = .ok (.bipush 24, 2) := by decide +kernel
theorem d_B_ringSize_9 : decode prog_2_method_11_code 9 = .ok (.if_icmp .ge 25, 3) := by decide +kernel
theorem d_B_ringSize_12 : decode prog_2_method_11_code 12 = .ok (.aload_n 0, 1) := by decide +kernel
theorem d_B_ringSize_13 : decode prog_2_method_11_code 13 = .ok (.getfield 30, 3) := by decide +kernel
theorem d_B_ringSize_16 : decode prog_2_method_11_code 16 = .ok (.iload_n 1, 1) := by decide +kernel
theorem d_B_ringSize_17 : decode prog_2_method_11_code 17 = .ok (.aaload, 1) := by decide +kernel
theorem d_B_ringSize_18 : decode prog_2_method_11_code 18 = .ok (.iload 4, 2) := by decide +kernel
theorem d_B_ringSize_20 : decode prog_2_method_11_code 20 = .ok (.iaload, 1) := by decide +kernel
theorem d_B_ringSize_21 : decode prog_2_method_11_code 21 = .ok (.iload_n 2, 1) := by decide +kernel
theorem d_B_ringSize_22 : decode prog_2_method_11_code 22 = .ok (.if_icmp .ne 6, 3) := by decide +kernel
theorem d_B_ringSize_25 : decode prog_2_method_11_code 25 = .ok (.iinc 3 1, 3) := by decide +kernel
theorem d_B_ringSize_28 : decode prog_2_method_11_code 28 = .ok (.iinc 4 1, 3) := by decide +kernel
theorem d_B_ringSize_31 : decode prog_2_method_11_code 31 = .ok (.goto (-26), 3) := by decide +kernel
theorem d_B_ringSize_34 : decode prog_2_method_11_code 34 = .ok (.iload_n 3, 1) := by decide +kernel
theorem d_B_ringSize_35 : decode prog_2_method_11_code 35 = .ok (.ireturn, 1) := by decide +kernel
theorem d_B_putIn_0 : decode prog_2_method_16_code 0 = .ok (.aload_n 0, 1) := by decide +kernel
theorem d_B_putIn_1 : decode prog_2_method_16_code 1 = .ok (.iload_n 1, 1) := by decide +kernel
theorem d_B_putIn_2 : decode prog_2_method_16_code 2 = .ok (.iload_n 3, 1) := by decide +kernel
theorem d_B_putIn_3 : decode prog_2_method_16_code 3 = .ok (.iload 4, 2) := by decide +kernel
theorem d_B_putIn_5 : decode prog_2_method_16_code 5 = .ok (.iconst 1, 1) := by decide +kernel
theorem d_B_putIn_6 : decode prog_2_method_16_code 6 = .ok (.invokevirtual 54, 3) := by decide +kernel
theorem d_B_putIn_9 : decode prog_2_method_16_code 9 = .ok (.aload_n 0, 1) := by decide +kernel
theorem d_B_putIn_10 : decode prog_2_method_16_code 10 = .ok (.getfield 30, 3) := by decide +kernel
theorem d_B_putIn_13 : decode prog_2_method_16_code 13 = .ok (.iload_n 1, 1) := by decide +kernel
theorem d_B_putIn_14 : decode prog_2_method_16_code 14 = .ok (.aaload, 1) := by decide +kernel
theorem d_B_putIn_15 : decode prog_2_method_16_code 15 = .ok (.iload_n 2, 1) := by decide +kernel
theorem d_B_putIn_16 : decode prog_2_method_16_code 16 = .ok (.iload_n 3, 1) := by decide +kernel
theorem d_B_putIn_17 : decode prog_2_method_16_code 17 = .ok (.iastore, 1) := by decide +kernel
theorem d_B_putIn_18 : decode prog_2_method_16_code 18 = .ok (.aload_n 0, 1) := by decide +kernel
theorem d_B_putIn_19 : decode prog_2_method_16_code 19 = .ok (.getfield 33, 3) := by decide +kernel
theorem d_B_putIn_22 : decode prog_2_method_16_code 22 = .ok (.iload_n 1, 1) := by decide +kernel
theorem d_B_putIn_23 : decode prog_2_method_16_code 23 = .ok (.aaload, 1) := by decide +kernel
theorem d_B_putIn_24 : decode prog_2_method_16_code 24 = .ok (.iload_n 2, 1) := by decide +kernel
theorem d_B_putIn_25 : decode prog_2_method_16_code 25 = .ok (.iload 4, 2) := by decide +kernel
theorem d_B_putIn_27 : decode prog_2_method_16_code 27 = .ok (.iastore, 1) := by decide +kernel
theorem d_B_putIn_28 : decode prog_2_method_16_code 28 = .ok (.return_, 1) := by decide +kernel
theorem d_B_shiftRing_0 : decode prog_2_method_18_code 0 = .ok (.iconst 0, 1) := by decide +kernel
theorem d_B_shiftRing_1 : decode prog_2_method_18_code 1 = .ok (.istore 5, 2) := by decide +kernel
theorem d_B_shiftRing_3 : decode prog_2_method_18_code 3 = .ok (.iload 5, 2) := by decide +kernel
theorem d_B_shiftRing_5 : decode prog_2_method_18_code 5 = .ok (.bipush 24, 2) := by decide +kernel
theorem d_B_shiftRing_7 : decode prog_2_method_18_code 7 = .ok (.if_icmp .ge 49, 3) := by decide +kernel
theorem d_B_shiftRing_10 : decode prog_2_method_18_code 10 = .ok (.aload_n 0, 1) := by decide +kernel
theorem d_B_shiftRing_11 : decode prog_2_method_18_code 11 = .ok (.getfield 30, 3) := by decide +kernel
theorem d_B_shiftRing_14 : decode prog_2_method_18_code 14 = .ok (.iload_n 1, 1) := by decide +kernel
theorem d_B_shiftRing_15 : decode prog_2_method_18_code 15 = .ok (.aaload, 1) := by decide +kernel
theorem d_B_shiftRing_16 : decode prog_2_method_18_code 16 = .ok (.iload 5, 2) := by decide +kernel
theorem d_B_shiftRing_18 : decode prog_2_method_18_code 18 = .ok (.iaload, 1) := by decide +kernel
theorem d_B_shiftRing_19 : decode prog_2_method_18_code 19 = .ok (.iload_n 2, 1) := by decide +kernel
theorem d_B_shiftRing_20 : decode prog_2_method_18_code 20 = .ok (.if_icmp .ne 30, 3) := by decide +kernel
theorem d_B_shiftRing_23 : decode prog_2_method_18_code 23 = .ok (.aload_n 0, 1) := by decide +kernel
theorem d_B_shiftRing_24 : decode prog_2_method_18_code 24 = .ok (.getfield 33, 3) := by decide +kernel
theorem d_B_shiftRing_27 : decode prog_2_method_18_code 27 = .ok (.iload_n 1, 1) := by decide +kernel
theorem d_B_shiftRing_28 : decode prog_2_method_18_code 28 = .ok (.aaload, 1) := by decide +kernel
theorem d_B_shiftRing_29 : decode prog_2_method_18_code 29 = .ok (.iload 5, 2) := by decide +kernel
theorem d_B_shiftRing_31 : decode prog_2_method_18_code 31 = .ok (.iaload, 1) := by decide +kernel
theorem d_B_shiftRing_32 : decode prog_2_method_18_code 32 = .ok (.iload_n 3, 1) := by decide +kernel
theorem d_B_shiftRing_33 : decode prog_2_method_18_code 33 = .ok (.if_icmp .lt 17, 3) := by decide +kernel
theorem d_B_shiftRing_36 : decode prog_2_method_18_code 36 = .ok (.aload_n 0, 1) := by decide +kernel
theorem d_B_shiftRing_37 : decode prog_2_method_18_code 37 = .ok (.getfield 33, 3) := by decide +kernel
theorem d_B_shiftRing_40 : decode prog_2_method_18_code 40 = .ok (.iload_n 1, 1) := by decide +kernel
theorem d_B_shiftRing_41 : decode prog_2_method_18_code 41 = .ok (.aaload, 1) := by decide +kernel
theorem d_B_shiftRing_42 : decode prog_2_method_18_code 42 = .ok (.iload 5, 2) := by decide +kernel
theorem d_B_shiftRing_44 : decode prog_2_method_18_code 44 = .ok (.dup2, 1) := by decide +kernel
theorem d_B_shiftRing_45 : decode prog_2_method_18_code 45 = .ok (.iaload, 1) := by decide +kernel
theorem d_B_shiftRing_46 : decode prog_2_method_18_code 46 = .ok (.iload 4, 2) := by decide +kernel
theorem d_B_shiftRing_48 : decode prog_2_method_18_code 48 = .ok (.iadd, 1) := by decide +kernel
theorem d_B_shiftRing_49 : decode prog_2_method_18_code 49 = .ok (.iastore, 1) := by decide +kernel
theorem d_B_shiftRing_50 : decode prog_2_method_18_code 50 = .ok (.iinc 5 1, 3) := by decide +kernel
theorem d_B_shiftRing_53 : decode prog_2_method_18_code 53 = .ok (.goto (-50), 3) := by decide +kernel
theorem d_B_shiftRing_56 : decode prog_2_method_18_code 56 = .ok (.return_, 1) := by decide +kernel
theorem d_B_isMember_0 : decode prog_2_method_10_code 0 = .ok (.aload_n 0, 1) := by decide +kernel
theorem d_B_isMember_1 : decode prog_2_method_10_code 1 = .ok (.getfield 30, 3) := by decide +kernel
theorem d_B_isMember_4 : decode prog_2_method_10_code 4 = .ok (.iload_n 1, 1) := by decide +kernel
theorem d_B_isMember_5 : decode prog_2_method_10_code 5 = .ok (.aaload, 1) := by decide +kernel
theorem d_B_isMember_6 : decode prog_2_method_10_code 6 = .ok (.iload_n 2, 1) := by decide +kernel
theorem d_B_isMember_7 : decode prog_2_method_10_code 7 = .ok (.iaload, 1) := by decide +kernel
theorem d_B_isMember_8 : decode prog_2_method_10_code 8 = .ok (.iconst (-1), 1) := by decide +kernel
theorem d_B_isMember_9 : decode prog_2_method_10_code 9 = .ok (.if_icmp .eq 7, 3) := by decide +kernel
theorem d_B_isMember_12 : decode prog_2_method_10_code 12 = .ok (.iconst 1, 1) := by decide +kernel
theorem d_B_isMember_13 : decode prog_2_method_10_code 13 = .ok (.goto 4, 3) := by decide +kernel
theorem d_B_isMember_16 : decode prog_2_method_10_code 16 = .ok (.iconst 0, 1) := by decide +kernel
theorem d_B_isMember_17 : decode prog_2_method_10_code 17 = .ok (.ireturn, 1) := by decide +kernel
theorem d_B_placeOf_0 : decode prog_2_method_4_code 0 = .ok (.iconst 0, 1) := by decide +kernel
theorem d_B_placeOf_1 : decode prog_2_method_4_code 1 = .ok (.istore_n 2, 1) := by decide +kernel
theorem d_B_placeOf_2 : decode prog_2_method_4_code 2 = .ok (.iload_n 2, 1) := by decide +kernel
theorem d_B_placeOf_3 : decode prog_2_method_4_code 3 = .ok (.bipush 24, 2) := by decide +kernel
theorem d_B_placeOf_5 : decode prog_2_method_4_code 5 = .ok (.if_icmp .ge 30, 3) := by decide +kernel
theorem d_B_placeOf_8 : decode prog_2_method_4_code 8 = .ok (.aload_n 0, 1) := by decide +kernel
theorem d_B_placeOf_9 : decode prog_2_method_4_code 9 = .ok (.getfield 18, 3) := by decide +kernel
theorem d_B_placeOf_12 : decode prog_2_method_4_code 12 = .ok (.iload_n 2, 1) := by decide +kernel
theorem d_B_placeOf_13 : decode prog_2_method_4_code 13 = .ok (.iaload, 1) := by decide +kernel
theorem d_B_placeOf_14 : decode prog_2_method_4_code 14 = .ok (.ifCond .eq 15, 3) := by decide +kernel
theorem d_B_placeOf_17 : decode prog_2_method_4_code 17 = .ok (.aload_n 0, 1) := by decide +kernel
theorem d_B_placeOf_18 : decode prog_2_method_4_code 18 = .ok (.getfield 18, 3) := by decide +kernel
theorem d_B_placeOf_21 : decode prog_2_method_4_code 21 = .ok (.iload_n 2, 1) := by decide +kernel
theorem d_B_placeOf_22 : decode prog_2_method_4_code 22 = .ok (.iaload, 1) := by decide +kernel
theorem d_B_placeOf_23 : decode prog_2_method_4_code 23 = .ok (.iload_n 1, 1) := by decide +kernel
theorem d_B_placeOf_24 : decode prog_2_method_4_code 24 = .ok (.if_icmp .ne 5, 3) := by decide +kernel
theorem d_B_placeOf_27 : decode prog_2_method_4_code 27 = .ok (.iload_n 2, 1) := by decide +kernel
theorem d_B_placeOf_28 : decode prog_2_method_4_code 28 = .ok (.ireturn, 1) := by decide +kernel
theorem d_B_placeOf_29 : decode prog_2_method_4_code 29 = .ok (.iinc 2 1, 3) := by decide +kernel
theorem d_B_placeOf_32 : decode prog_2_method_4_code 32 = .ok (.goto (-30), 3) := by decide +kernel
theorem d_B_placeOf_35 : decode prog_2_method_4_code 35 = .ok (.iconst (-1), 1) := by decide +kernel
theorem d_B_placeOf_36 : decode prog_2_method_4_code 36 = .ok (.ireturn, 1) := by decide +kernel
theorem d_B_lowestKeyed_0 : decode prog_2_method_9_code 0 = .ok (.iconst (-1), 1) := by decide +kernel
theorem d_B_lowestKeyed_1 : decode prog_2_method_9_code 1 = .ok (.istore 4, 2) := by decide +kernel
theorem d_B_lowestKeyed_3 : decode prog_2_method_9_code 3 = .ok (.iconst 0, 1) := by decide +kernel
theorem d_B_lowestKeyed_4 : decode prog_2_method_9_code 4 = .ok (.istore 5, 2) := by decide +kernel
theorem d_B_lowestKeyed_6 : decode prog_2_method_9_code 6 = .ok (.iload 5, 2) := by decide +kernel
theorem d_B_lowestKeyed_8 : decode prog_2_method_9_code 8 = .ok (.bipush 24, 2) := by decide +kernel
theorem d_B_lowestKeyed_10 : decode prog_2_method_9_code 10 = .ok (.if_icmp .ge 82, 3) := by decide +kernel
theorem d_B_lowestKeyed_13 : decode prog_2_method_9_code 13 = .ok (.aload_n 0, 1) := by decide +kernel
theorem d_B_lowestKeyed_14 : decode prog_2_method_9_code 14 = .ok (.getfield 18, 3) := by decide +kernel
theorem d_B_lowestKeyed_17 : decode prog_2_method_9_code 17 = .ok (.iload 5, 2) := by decide +kernel
theorem d_B_lowestKeyed_19 : decode prog_2_method_9_code 19 = .ok (.iaload, 1) := by decide +kernel
theorem d_B_lowestKeyed_20 : decode prog_2_method_9_code 20 = .ok (.ifCond .eq 31, 3) := by decide +kernel
theorem d_B_lowestKeyed_23 : decode prog_2_method_9_code 23 = .ok (.aload_n 0, 1) := by decide +kernel
theorem d_B_lowestKeyed_24 : decode prog_2_method_9_code 24 = .ok (.getfield 22, 3) := by decide +kernel
theorem d_B_lowestKeyed_27 : decode prog_2_method_9_code 27 = .ok (.iload 5, 2) := by decide +kernel
theorem d_B_lowestKeyed_29 : decode prog_2_method_9_code 29 = .ok (.iaload, 1) := by decide +kernel
theorem d_B_lowestKeyed_30 : decode prog_2_method_9_code 30 = .ok (.iload_n 1, 1) := by decide +kernel
theorem d_B_lowestKeyed_31 : decode prog_2_method_9_code 31 = .ok (.if_icmp .ne 20, 3) := by decide +kernel
theorem d_B_lowestKeyed_34 : decode prog_2_method_9_code 34 = .ok (.aload_n 0, 1) := by decide +kernel
theorem d_B_lowestKeyed_35 : decode prog_2_method_9_code 35 = .ok (.getfield 27, 3) := by decide +kernel
theorem d_B_lowestKeyed_38 : decode prog_2_method_9_code 38 = .ok (.iload_n 2, 1) := by decide +kernel
theorem d_B_lowestKeyed_39 : decode prog_2_method_9_code 39 = .ok (.aaload, 1) := by decide +kernel
theorem d_B_lowestKeyed_40 : decode prog_2_method_9_code 40 = .ok (.iload 5, 2) := by decide +kernel
theorem d_B_lowestKeyed_42 : decode prog_2_method_9_code 42 = .ok (.iaload, 1) := by decide +kernel
theorem d_B_lowestKeyed_43 : decode prog_2_method_9_code 43 = .ok (.iload_n 3, 1) := by decide +kernel
theorem d_B_lowestKeyed_44 : decode prog_2_method_9_code 44 = .ok (.if_icmp .ne 7, 3) := by decide +kernel
theorem d_B_lowestKeyed_47 : decode prog_2_method_9_code 47 = .ok (.iconst 1, 1) := by decide +kernel
theorem d_B_lowestKeyed_48 : decode prog_2_method_9_code 48 = .ok (.goto 4, 3) := by decide +kernel
theorem d_B_lowestKeyed_51 : decode prog_2_method_9_code 51 = .ok (.iconst 0, 1) := by decide +kernel
theorem d_B_lowestKeyed_52 : decode prog_2_method_9_code 52 = .ok (.istore 6, 2) := by decide +kernel
theorem d_B_lowestKeyed_54 : decode prog_2_method_9_code 54 = .ok (.iload 6, 2) := by decide +kernel
theorem d_B_lowestKeyed_56 : decode prog_2_method_9_code 56 = .ok (.ifCond .eq 30, 3) := by decide +kernel
theorem d_B_lowestKeyed_59 : decode prog_2_method_9_code 59 = .ok (.iload 4, 2) := by decide +kernel
theorem d_B_lowestKeyed_61 : decode prog_2_method_9_code 61 = .ok (.iconst (-1), 1) := by decide +kernel
theorem d_B_lowestKeyed_62 : decode prog_2_method_9_code 62 = .ok (.if_icmp .eq 20, 3) := by decide +kernel
theorem d_B_lowestKeyed_65 : decode prog_2_method_9_code 65 = .ok (.aload_n 0, 1) := by decide +kernel
theorem d_B_lowestKeyed_66 : decode prog_2_method_9_code 66 = .ok (.getfield 18, 3) := by decide +kernel
theorem d_B_lowestKeyed_69 : decode prog_2_method_9_code 69 = .ok (.iload 5, 2) := by decide +kernel
theorem d_B_lowestKeyed_71 : decode prog_2_method_9_code 71 = .ok (.iaload, 1) := by decide +kernel
theorem d_B_lowestKeyed_72 : decode prog_2_method_9_code 72 = .ok (.aload_n 0, 1) := by decide +kernel
theorem d_B_lowestKeyed_73 : decode prog_2_method_9_code 73 = .ok (.getfield 18, 3) := by decide +kernel
theorem d_B_lowestKeyed_76 : decode prog_2_method_9_code 76 = .ok (.iload 4, 2) := by decide +kernel
theorem d_B_lowestKeyed_78 : decode prog_2_method_9_code 78 = .ok (.iaload, 1) := by decide +kernel
theorem d_B_lowestKeyed_79 : decode prog_2_method_9_code 79 = .ok (.if_icmp .ge 7, 3) := by decide +kernel
theorem d_B_lowestKeyed_82 : decode prog_2_method_9_code 82 = .ok (.iload 5, 2) := by decide +kernel
theorem d_B_lowestKeyed_84 : decode prog_2_method_9_code 84 = .ok (.istore 4, 2) := by decide +kernel
theorem d_B_lowestKeyed_86 : decode prog_2_method_9_code 86 = .ok (.iinc 5 1, 3) := by decide +kernel
theorem d_B_lowestKeyed_89 : decode prog_2_method_9_code 89 = .ok (.goto (-83), 3) := by decide +kernel
theorem d_B_lowestKeyed_92 : decode prog_2_method_9_code 92 = .ok (.iload 4, 2) := by decide +kernel
theorem d_B_lowestKeyed_94 : decode prog_2_method_9_code 94 = .ok (.ireturn, 1) := by decide +kernel
theorem d_B_memberAt_0 : decode prog_2_method_12_code 0 = .ok (.iconst 0, 1) := by decide +kernel
theorem d_B_memberAt_1 : decode prog_2_method_12_code 1 = .ok (.istore 4, 2) := by decide +kernel
theorem d_B_memberAt_3 : decode prog_2_method_12_code 3 = .ok (.iload 4, 2) := by decide +kernel
theorem d_B_memberAt_5 : decode prog_2_method_12_code 5 = .ok (.bipush 24, 2) := by decide +kernel
theorem d_B_memberAt_7 : decode prog_2_method_12_code 7 = .ok (.if_icmp .ge 38, 3) := by decide +kernel
theorem d_B_memberAt_10 : decode prog_2_method_12_code 10 = .ok (.aload_n 0, 1) := by decide +kernel
theorem d_B_memberAt_11 : decode prog_2_method_12_code 11 = .ok (.getfield 30, 3) := by decide +kernel
theorem d_B_memberAt_14 : decode prog_2_method_12_code 14 = .ok (.iload_n 1, 1) := by decide +kernel
theorem d_B_memberAt_15 : decode prog_2_method_12_code 15 = .ok (.aaload, 1) := by decide +kernel
theorem d_B_memberAt_16 : decode prog_2_method_12_code 16 = .ok (.iload 4, 2) := by decide +kernel
theorem d_B_memberAt_18 : decode prog_2_method_12_code 18 = .ok (.iaload, 1) := by decide +kernel
theorem d_B_memberAt_19 : decode prog_2_method_12_code 19 = .ok (.iload_n 2, 1) := by decide +kernel
theorem d_B_memberAt_20 : decode prog_2_method_12_code 20 = .ok (.if_icmp .ne 19, 3) := by decide +kernel
theorem d_B_memberAt_23 : decode prog_2_method_12_code 23 = .ok (.aload_n 0, 1) := by decide +kernel
theorem d_B_memberAt_24 : decode prog_2_method_12_code 24 = .ok (.getfield 33, 3) := by decide +kernel
theorem d_B_memberAt_27 : decode prog_2_method_12_code 27 = .ok (.iload_n 1, 1) := by decide +kernel
theorem d_B_memberAt_28 : decode prog_2_method_12_code 28 = .ok (.aaload, 1) := by decide +kernel
theorem d_B_memberAt_29 : decode prog_2_method_12_code 29 = .ok (.iload 4, 2) := by decide +kernel
theorem d_B_memberAt_31 : decode prog_2_method_12_code 31 = .ok (.iaload, 1) := by decide +kernel
theorem d_B_memberAt_32 : decode prog_2_method_12_code 32 = .ok (.iload_n 3, 1) := by decide +kernel
theorem d_B_memberAt_33 : decode prog_2_method_12_code 33 = .ok (.if_icmp .ne 6, 3) := by decide +kernel
theorem d_B_memberAt_36 : decode prog_2_method_12_code 36 = .ok (.iload 4, 2) := by decide +kernel
theorem d_B_memberAt_38 : decode prog_2_method_12_code 38 = .ok (.ireturn, 1) := by decide +kernel
theorem d_B_memberAt_39 : decode prog_2_method_12_code 39 = .ok (.iinc 4 1, 3) := by decide +kernel
theorem d_B_memberAt_42 : decode prog_2_method_12_code 42 = .ok (.goto (-39), 3) := by decide +kernel
theorem d_B_memberAt_45 : decode prog_2_method_12_code 45 = .ok (.iconst (-1), 1) := by decide +kernel
theorem d_B_memberAt_46 : decode prog_2_method_12_code 46 = .ok (.ireturn, 1) := by decide +kernel
theorem d_B_memberWithValue_0 : decode prog_2_method_13_code 0 = .ok (.aload_n 0, 1) := by decide +kernel
theorem d_B_memberWithValue_1 : decode prog_2_method_13_code 1 = .ok (.iload_n 1, 1) := by decide +kernel
theorem d_B_memberWithValue_2 : decode prog_2_method_13_code 2 = .ok (.iload_n 2, 1) := by decide +kernel
theorem d_B_memberWithValue_3 : decode prog_2_method_13_code 3 = .ok (.invokevirtual 42, 3) := by decide +kernel
theorem d_B_memberWithValue_6 : decode prog_2_method_13_code 6 = .ok (.istore 6, 2) := by decide +kernel
theorem d_B_memberWithValue_8 : decode prog_2_method_13_code 8 = .ok (.iload_n 3, 1) := by decide +kernel
theorem d_B_memberWithValue_9 : decode prog_2_method_13_code 9 = .ok (.istore 7, 2) := by decide +kernel
theorem d_B_memberWithValue_11 : decode prog_2_method_13_code 11 = .ok (.iload 7, 2) := by decide +kernel
theorem d_B_memberWithValue_13 : decode prog_2_method_13_code 13 = .ok (.iload 6, 2) := by decide +kernel
theorem d_B_memberWithValue_15 : decode prog_2_method_13_code 15 = .ok (.if_icmp .ge 43, 3) := by decide +kernel
theorem d_B_memberWithValue_18 : decode prog_2_method_13_code 18 = .ok (.aload_n 0, 1) := by decide +kernel
theorem d_B_memberWithValue_19 : decode prog_2_method_13_code 19 = .ok (.iload_n 1, 1) := by decide +kernel
theorem d_B_memberWithValue_20 : decode prog_2_method_13_code 20 = .ok (.iload_n 2, 1) := by decide +kernel
theorem d_B_memberWithValue_21 : decode prog_2_method_13_code 21 = .ok (.iload 7, 2) := by decide +kernel
theorem d_B_memberWithValue_23 : decode prog_2_method_13_code 23 = .ok (.invokevirtual 46, 3) := by decide +kernel
theorem d_B_memberWithValue_26 : decode prog_2_method_13_code 26 = .ok (.istore 8, 2) := by decide +kernel
theorem d_B_memberWithValue_28 : decode prog_2_method_13_code 28 = .ok (.iload 8, 2) := by decide +kernel
theorem d_B_memberWithValue_30 : decode prog_2_method_13_code 30 = .ok (.iconst (-1), 1) := by decide +kernel
theorem d_B_memberWithValue_31 : decode prog_2_method_13_code 31 = .ok (.if_icmp .eq 21, 3) := by decide +kernel
theorem d_B_memberWithValue_34 : decode prog_2_method_13_code 34 = .ok (.aload_n 0, 1) := by decide +kernel
theorem d_B_memberWithValue_35 : decode prog_2_method_13_code 35 = .ok (.getfield 27, 3) := by decide +kernel
theorem d_B_memberWithValue_38 : decode prog_2_method_13_code 38 = .ok (.iload 4, 2) := by decide +kernel
theorem d_B_memberWithValue_40 : decode prog_2_method_13_code 40 = .ok (.aaload, 1) := by decide +kernel
theorem d_B_memberWithValue_41 : decode prog_2_method_13_code 41 = .ok (.iload 8, 2) := by decide +kernel
theorem d_B_memberWithValue_43 : decode prog_2_method_13_code 43 = .ok (.iaload, 1) := by decide +kernel
theorem d_B_memberWithValue_44 : decode prog_2_method_13_code 44 = .ok (.iload 5, 2) := by decide +kernel
theorem d_B_memberWithValue_46 : decode prog_2_method_13_code 46 = .ok (.if_icmp .ne 6, 3) := by decide +kernel
theorem d_B_memberWithValue_49 : decode prog_2_method_13_code 49 = .ok (.iload 8, 2) := by decide +kernel
theorem d_B_memberWithValue_51 : decode prog_2_method_13_code 51 = .ok (.ireturn, 1) := by decide +kernel
theorem d_B_memberWithValue_52 : decode prog_2_method_13_code 52 = .ok (.iinc 7 1, 3) := by decide +kernel
theorem d_B_memberWithValue_55 : decode prog_2_method_13_code 55 = .ok (.goto (-44), 3) := by decide +kernel
theorem d_B_memberWithValue_58 : decode prog_2_method_13_code 58 = .ok (.iconst (-1), 1) := by decide +kernel
theorem d_B_memberWithValue_59 : decode prog_2_method_13_code 59 = .ok (.ireturn, 1) := by decide +kernel
theorem d_B_keyAt_0 : decode prog_2_method_5_code 0 = .ok (.iload_n 1, 1) := by decide +kernel
theorem d_B_keyAt_1 : decode prog_2_method_5_code 1 = .ok (.iconst (-1), 1) := by decide +kernel
theorem d_B_keyAt_2 : decode prog_2_method_5_code 2 = .ok (.if_icmp .ne 7, 3) := by decide +kernel
theorem d_B_keyAt_5 : decode prog_2_method_5_code 5 = .ok (.iconst 0, 1) := by decide +kernel
theorem d_B_keyAt_6 : decode prog_2_method_5_code 6 = .ok (.goto 9, 3) := by decide +kernel
theorem d_B_keyAt_9 : decode prog_2_method_5_code 9 = .ok (.aload_n 0, 1) := by decide +kernel
theorem d_B_keyAt_10 : decode prog_2_method_5_code 10 = .ok (.getfield 18, 3) := by decide +kernel
theorem d_B_keyAt_13 : decode prog_2_method_5_code 13 = .ok (.iload_n 1, 1) := by decide +kernel
theorem d_B_keyAt_14 : decode prog_2_method_5_code 14 = .ok (.iaload, 1) := by decide +kernel
theorem d_B_keyAt_15 : decode prog_2_method_5_code 15 = .ok (.ireturn, 1) := by decide +kernel
theorem d_B_takeOut_0 : decode prog_2_method_17_code 0 = .ok (.aload_n 0, 1) := by decide +kernel
theorem d_B_takeOut_1 : decode prog_2_method_17_code 1 = .ok (.getfield 30, 3) := by decide +kernel
theorem d_B_takeOut_4 : decode prog_2_method_17_code 4 = .ok (.iload_n 1, 1) := by decide +kernel
theorem d_B_takeOut_5 : decode prog_2_method_17_code 5 = .ok (.aaload, 1) := by decide +kernel
theorem d_B_takeOut_6 : decode prog_2_method_17_code 6 = .ok (.iload_n 2, 1) := by decide +kernel
theorem d_B_takeOut_7 : decode prog_2_method_17_code 7 = .ok (.iaload, 1) := by decide +kernel
theorem d_B_takeOut_8 : decode prog_2_method_17_code 8 = .ok (.istore_n 3, 1) := by decide +kernel
theorem d_B_takeOut_9 : decode prog_2_method_17_code 9 = .ok (.iload_n 3, 1) := by decide +kernel
theorem d_B_takeOut_10 : decode prog_2_method_17_code 10 = .ok (.iconst (-1), 1) := by decide +kernel
theorem d_B_takeOut_11 : decode prog_2_method_17_code 11 = .ok (.if_icmp .ne 4, 3) := by decide +kernel
theorem d_B_takeOut_14 : decode prog_2_method_17_code 14 = .ok (.return_, 1) := by decide +kernel
theorem d_B_takeOut_15 : decode prog_2_method_17_code 15 = .ok (.aload_n 0, 1) := by decide +kernel
theorem d_B_takeOut_16 : decode prog_2_method_17_code 16 = .ok (.getfield 33, 3) := by decide +kernel
theorem d_B_takeOut_19 : decode prog_2_method_17_code 19 = .ok (.iload_n 1, 1) := by decide +kernel
theorem d_B_takeOut_20 : decode prog_2_method_17_code 20 = .ok (.aaload, 1) := by decide +kernel
theorem d_B_takeOut_21 : decode prog_2_method_17_code 21 = .ok (.iload_n 2, 1) := by decide +kernel
theorem d_B_takeOut_22 : decode prog_2_method_17_code 22 = .ok (.iaload, 1) := by decide +kernel
theorem d_B_takeOut_23 : decode prog_2_method_17_code 23 = .ok (.istore 4, 2) := by decide +kernel
theorem d_B_takeOut_25 : decode prog_2_method_17_code 25 = .ok (.aload_n 0, 1) := by decide +kernel
theorem d_B_takeOut_26 : decode prog_2_method_17_code 26 = .ok (.getfield 30, 3) := by decide +kernel
theorem d_B_takeOut_29 : decode prog_2_method_17_code 29 = .ok (.iload_n 1, 1) := by decide +kernel
theorem d_B_takeOut_30 : decode prog_2_method_17_code 30 = .ok (.aaload, 1) := by decide +kernel
theorem d_B_takeOut_31 : decode prog_2_method_17_code 31 = .ok (.iload_n 2, 1) := by decide +kernel
theorem d_B_takeOut_32 : decode prog_2_method_17_code 32 = .ok (.iconst (-1), 1) := by decide +kernel
theorem d_B_takeOut_33 : decode prog_2_method_17_code 33 = .ok (.iastore, 1) := by decide +kernel
theorem d_B_takeOut_34 : decode prog_2_method_17_code 34 = .ok (.aload_n 0, 1) := by decide +kernel
theorem d_B_takeOut_35 : decode prog_2_method_17_code 35 = .ok (.getfield 33, 3) := by decide +kernel
theorem d_B_takeOut_38 : decode prog_2_method_17_code 38 = .ok (.iload_n 1, 1) := by decide +kernel
theorem d_B_takeOut_39 : decode prog_2_method_17_code 39 = .ok (.aaload, 1) := by decide +kernel
theorem d_B_takeOut_40 : decode prog_2_method_17_code 40 = .ok (.iload_n 2, 1) := by decide +kernel
theorem d_B_takeOut_41 : decode prog_2_method_17_code 41 = .ok (.iconst (-1), 1) := by decide +kernel
theorem d_B_takeOut_42 : decode prog_2_method_17_code 42 = .ok (.iastore, 1) := by decide +kernel
theorem d_B_takeOut_43 : decode prog_2_method_17_code 43 = .ok (.aload_n 0, 1) := by decide +kernel
theorem d_B_takeOut_44 : decode prog_2_method_17_code 44 = .ok (.iload_n 1, 1) := by decide +kernel
theorem d_B_takeOut_45 : decode prog_2_method_17_code 45 = .ok (.iload_n 3, 1) := by decide +kernel
theorem d_B_takeOut_46 : decode prog_2_method_17_code 46 = .ok (.iload 4, 2) := by decide +kernel
theorem d_B_takeOut_48 : decode prog_2_method_17_code 48 = .ok (.iconst (-1), 1) := by decide +kernel
theorem d_B_takeOut_49 : decode prog_2_method_17_code 49 = .ok (.invokevirtual 54, 3) := by decide +kernel
theorem d_B_takeOut_52 : decode prog_2_method_17_code 52 = .ok (.return_, 1) := by decide +kernel
theorem d_B_membersOwnedBy_0 : decode prog_2_method_15_code 0 = .ok (.iconst 0, 1) := by decide +kernel
theorem d_B_membersOwnedBy_1 : decode prog_2_method_15_code 1 = .ok (.istore_n 3, 1) := by decide +kernel
theorem d_B_membersOwnedBy_2 : decode prog_2_method_15_code 2 = .ok (.iconst 0, 1) := by decide +kernel
theorem d_B_membersOwnedBy_3 : decode prog_2_method_15_code 3 = .ok (.istore 4, 2) := by decide +kernel
theorem d_B_membersOwnedBy_5 : decode prog_2_method_15_code 5 = .ok (.iload 4, 2) := by decide +kernel
theorem d_B_membersOwnedBy_7 : decode prog_2_method_15_code 7 = .ok (.bipush 24, 2) := by decide +kernel
theorem d_B_membersOwnedBy_9 : decode prog_2_method_15_code 9 = .ok (.if_icmp .ge 32, 3) := by decide +kernel
theorem d_B_membersOwnedBy_12 : decode prog_2_method_15_code 12 = .ok (.iload_n 2, 1) := by decide +kernel
theorem d_B_membersOwnedBy_13 : decode prog_2_method_15_code 13 = .ok (.aload_n 0, 1) := by decide +kernel
theorem d_B_membersOwnedBy_14 : decode prog_2_method_15_code 14 = .ok (.getfield 30, 3) := by decide +kernel
theorem d_B_membersOwnedBy_17 : decode prog_2_method_15_code 17 = .ok (.iload_n 1, 1) := by decide +kernel
theorem d_B_membersOwnedBy_18 : decode prog_2_method_15_code 18 = .ok (.aaload, 1) := by decide +kernel
theorem d_B_membersOwnedBy_19 : decode prog_2_method_15_code 19 = .ok (.iload 4, 2) := by decide +kernel
theorem d_B_membersOwnedBy_21 : decode prog_2_method_15_code 21 = .ok (.iaload, 1) := by decide +kernel
theorem d_B_membersOwnedBy_22 : decode prog_2_method_15_code 22 = .ok (.invokestatic 50, 3) := by decide +kernel
theorem d_B_membersOwnedBy_25 : decode prog_2_method_15_code 25 = .ok (.ifCond .eq 10, 3) := by decide +kernel
theorem d_B_membersOwnedBy_28 : decode prog_2_method_15_code 28 = .ok (.iload_n 3, 1) := by decide +kernel
theorem d_B_membersOwnedBy_29 : decode prog_2_method_15_code 29 = .ok (.iconst 1, 1) := by decide +kernel
theorem d_B_membersOwnedBy_30 : decode prog_2_method_15_code 30 = .ok (.iload 4, 2) := by decide +kernel
theorem d_B_membersOwnedBy_32 : decode prog_2_method_15_code 32 = .ok (.ishl, 1) := by decide +kernel
theorem d_B_membersOwnedBy_33 : decode prog_2_method_15_code 33 = .ok (.ior, 1) := by decide +kernel
theorem d_B_membersOwnedBy_34 : decode prog_2_method_15_code 34 = .ok (.istore_n 3, 1) := by decide +kernel
theorem d_B_membersOwnedBy_35 : decode prog_2_method_15_code 35 = .ok (.iinc 4 1, 3) := by decide +kernel
theorem d_B_membersOwnedBy_38 : decode prog_2_method_15_code 38 = .ok (.goto (-33), 3) := by decide +kernel
theorem d_B_membersOwnedBy_41 : decode prog_2_method_15_code 41 = .ok (.iload_n 3, 1) := by decide +kernel
theorem d_B_membersOwnedBy_42 : decode prog_2_method_15_code 42 = .ok (.ireturn, 1) := by decide +kernel
theorem d_B_dropRecord_0 : decode prog_2_method_8_code 0 = .ok (.aload_n 0, 1) := by decide +kernel
theorem d_B_dropRecord_1 : decode prog_2_method_8_code 1 = .ok (.getfield 18, 3) := by decide +kernel
theorem d_B_dropRecord_4 : decode prog_2_method_8_code 4 = .ok (.iload_n 1, 1) := by decide +kernel
theorem d_B_dropRecord_5 : decode prog_2_method_8_code 5 = .ok (.iconst 0, 1) := by decide +kernel
theorem d_B_dropRecord_6 : decode prog_2_method_8_code 6 = .ok (.iastore, 1) := by decide +kernel
theorem d_B_dropRecord_7 : decode prog_2_method_8_code 7 = .ok (.aload_n 0, 1) := by decide +kernel
theorem d_B_dropRecord_8 : decode prog_2_method_8_code 8 = .ok (.dup, 1) := by decide +kernel
theorem d_B_dropRecord_9 : decode prog_2_method_8_code 9 = .ok (.getfield 9, 3) := by decide +kernel
theorem d_B_dropRecord_12 : decode prog_2_method_8_code 12 = .ok (.iconst 1, 1) := by decide +kernel
theorem d_B_dropRecord_13 : decode prog_2_method_8_code 13 = .ok (.isub, 1) := by decide +kernel
theorem d_B_dropRecord_14 : decode prog_2_method_8_code 14 = .ok (.putfield 9, 3) := by decide +kernel
theorem d_B_dropRecord_17 : decode prog_2_method_8_code 17 = .ok (.return_, 1) := by decide +kernel
