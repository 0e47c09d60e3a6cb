theorem d_R_init_0 : decode prog_1_method_1_code 0 = .ok (.aload_n 0, 1) := by decide +kernel
theorem d_R_init_1 : decode prog_1_method_1_code 1 = .ok (.invokespecial 1, 3) := by decide +kernel
theorem d_R_init_4 : decode prog_1_method_1_code 4 = .ok (.aload_n 0, 1) := by decide +kernel
theorem d_R_init_5 : decode prog_1_method_1_code 5 = .ok (.new 7, 3) := by decide +kernel
theorem d_R_init_8 : decode prog_1_method_1_code 8 = .ok (.dup, 1) := by decide +kernel
theorem d_R_init_9 : decode prog_1_method_1_code 9 = .ok (.invokespecial 9, 3) := by decide +kernel
theorem d_R_init_12 : decode prog_1_method_1_code 12 = .ok (.putfield 10, 3) := by decide +kernel
theorem d_R_init_15 : decode prog_1_method_1_code 15 = .ok (.aload_n 0, 1) := by decide +kernel
theorem d_R_init_16 : decode prog_1_method_1_code 16 = .ok (.new 16, 3) := by decide +kernel
theorem d_R_init_19 : decode prog_1_method_1_code 19 = .ok (.dup, 1) := by decide +kernel
theorem d_R_init_20 : decode prog_1_method_1_code 20 = .ok (.invokespecial 18, 3) := by decide +kernel
theorem d_R_init_23 : decode prog_1_method_1_code 23 = .ok (.putfield 19, 3) := by decide +kernel
theorem d_R_init_26 : decode prog_1_method_1_code 26 = .ok (.aload_n 0, 1) := by decide +kernel
theorem d_R_init_27 : decode prog_1_method_1_code 27 = .ok (.new 16, 3) := by decide +kernel
theorem d_R_init_30 : decode prog_1_method_1_code 30 = .ok (.dup, 1) := by decide +kernel
theorem d_R_init_31 : decode prog_1_method_1_code 31 = .ok (.invokespecial 18, 3) := by decide +kernel
theorem d_R_init_34 : decode prog_1_method_1_code 34 = .ok (.putfield 23, 3) := by decide +kernel
theorem d_R_init_37 : decode prog_1_method_1_code 37 = .ok (.aload_n 0, 1) := by decide +kernel
theorem d_R_init_38 : decode prog_1_method_1_code 38 = .ok (.new 26, 3) := by decide +kernel
theorem d_R_init_41 : decode prog_1_method_1_code 41 = .ok (.dup, 1) := by decide +kernel
theorem d_R_init_42 : decode prog_1_method_1_code 42 = .ok (.invokespecial 28, 3) := by decide +kernel
theorem d_R_init_45 : decode prog_1_method_1_code 45 = .ok (.putfield 29, 3) := by decide +kernel
theorem d_R_init_48 : decode prog_1_method_1_code 48 = .ok (.aload_n 0, 1) := by decide +kernel
theorem d_R_init_49 : decode prog_1_method_1_code 49 = .ok (.iconst 0, 1) := by decide +kernel
theorem d_R_init_50 : decode prog_1_method_1_code 50 = .ok (.putfield 33, 3) := by decide +kernel
theorem d_R_init_53 : decode prog_1_method_1_code 53 = .ok (.return_, 1) := by decide +kernel
theorem d_R_keep_0 : decode prog_1_method_18_code 0 = .ok (.aload_n 0, 1) := by decide +kernel
theorem d_R_keep_1 : decode prog_1_method_18_code 1 = .ok (.getfield 23, 3) := by decide +kernel
theorem d_R_keep_4 : decode prog_1_method_18_code 4 = .ok (.aload_n 0, 1) := by decide +kernel
theorem d_R_keep_5 : decode prog_1_method_18_code 5 = .ok (.getfield 19, 3) := by decide +kernel
theorem d_R_keep_8 : decode prog_1_method_18_code 8 = .ok (.invokevirtual 246, 3) := by decide +kernel
theorem d_R_keep_11 : decode prog_1_method_18_code 11 = .ok (.aload_n 0, 1) := by decide +kernel
theorem d_R_keep_12 : decode prog_1_method_18_code 12 = .ok (.getfield 19, 3) := by decide +kernel
theorem d_R_keep_15 : decode prog_1_method_18_code 15 = .ok (.getfield 250, 3) := by decide +kernel
theorem d_R_keep_18 : decode prog_1_method_18_code 18 = .ok (.ireturn, 1) := by decide +kernel
theorem d_R_rollBack_0 : decode prog_1_method_19_code 0 = .ok (.aload_n 0, 1) := by decide +kernel
theorem d_R_rollBack_1 : decode prog_1_method_19_code 1 = .ok (.getfield 19, 3) := by decide +kernel
theorem d_R_rollBack_4 : decode prog_1_method_19_code 4 = .ok (.aload_n 0, 1) := by decide +kernel
theorem d_R_rollBack_5 : decode prog_1_method_19_code 5 = .ok (.getfield 23, 3) := by decide +kernel
theorem d_R_rollBack_8 : decode prog_1_method_19_code 8 = .ok (.invokevirtual 246, 3) := by decide +kernel
theorem d_R_rollBack_11 : decode prog_1_method_19_code 11 = .ok (.aload_n 0, 1) := by decide +kernel
theorem d_R_rollBack_12 : decode prog_1_method_19_code 12 = .ok (.getfield 29, 3) := by decide +kernel
theorem d_R_rollBack_15 : decode prog_1_method_19_code 15 = .ok (.invokevirtual 253, 3) := by decide +kernel
theorem d_R_rollBack_18 : decode prog_1_method_19_code 18 = .ok (.aload_n 0, 1) := by decide +kernel
theorem d_R_rollBack_19 : decode prog_1_method_19_code 19 = .ok (.getfield 19, 3) := by decide +kernel
theorem d_R_rollBack_22 : decode prog_1_method_19_code 22 = .ok (.getfield 250, 3) := by decide +kernel
theorem d_R_rollBack_25 : decode prog_1_method_19_code 25 = .ok (.ireturn, 1) := by decide +kernel
theorem d_R_count_0 : decode prog_1_method_20_code 0 = .ok (.aload_n 0, 1) := by decide +kernel
theorem d_R_count_1 : decode prog_1_method_20_code 1 = .ok (.getfield 19, 3) := by decide +kernel
theorem d_R_count_4 : decode prog_1_method_20_code 4 = .ok (.getfield 250, 3) := by decide +kernel
theorem d_R_count_7 : decode prog_1_method_20_code 7 = .ok (.ireturn, 1) := by decide +kernel
theorem d_R_type_0 : decode prog_1_method_2_code 0 = .ok (.iload_n 1, 1) := by decide +kernel
theorem d_R_type_1 : decode prog_1_method_2_code 1 = .ok (.iconst 1, 1) := by decide +kernel
theorem d_R_type_2 : decode prog_1_method_2_code 2 = .ok (.if_icmp .lt 8, 3) := by decide +kernel
theorem d_R_type_5 : decode prog_1_method_2_code 5 = .ok (.iload_n 1, 1) := by decide +kernel
theorem d_R_type_6 : decode prog_1_method_2_code 6 = .ok (.iconst 3, 1) := by decide +kernel
theorem d_R_type_7 : decode prog_1_method_2_code 7 = .ok (.if_icmp .le 13, 3) := by decide +kernel
theorem d_R_type_10 : decode prog_1_method_2_code 10 = .ok (.new 37, 3) := by decide +kernel
theorem d_R_type_13 : decode prog_1_method_2_code 13 = .ok (.dup, 1) := by decide +kernel
theorem d_R_type_14 : decode prog_1_method_2_code 14 = .ok (.ldc 39, 2) := by decide +kernel
theorem d_R_type_16 : decode prog_1_method_2_code 16 = .ok (.invokespecial 41, 3) := by decide +kernel
theorem d_R_type_19 : decode prog_1_method_2_code 19 = .ok (.athrow, 1) := by decide +kernel
theorem d_R_type_20 : decode prog_1_method_2_code 20 = .ok (.aload_n 0, 1) := by decide +kernel
theorem d_R_type_21 : decode prog_1_method_2_code 21 = .ok (.getfield 10, 3) := by decide +kernel
theorem d_R_type_24 : decode prog_1_method_2_code 24 = .ok (.getfield 44, 3) := by decide +kernel
theorem d_R_type_27 : decode prog_1_method_2_code 27 = .ok (.iconst 4, 1) := by decide +kernel
theorem d_R_type_28 : decode prog_1_method_2_code 28 = .ok (.if_icmp .ge 10, 3) := by decide +kernel
theorem d_R_type_31 : decode prog_1_method_2_code 31 = .ok (.aload_n 0, 1) := by decide +kernel
theorem d_R_type_32 : decode prog_1_method_2_code 32 = .ok (.getfield 33, 3) := by decide +kernel
theorem d_R_type_35 : decode prog_1_method_2_code 35 = .ok (.ifCond .eq 13, 3) := by decide +kernel
theorem d_R_type_38 : decode prog_1_method_2_code 38 = .ok (.new 48, 3) := by decide +kernel
theorem d_R_type_41 : decode prog_1_method_2_code 41 = .ok (.dup, 1) := by decide +kernel
theorem d_R_type_42 : decode prog_1_method_2_code 42 = .ok (.ldc 50, 2) := by decide +kernel
theorem d_R_type_44 : decode prog_1_method_2_code 44 = .ok (.invokespecial 52, 3) := by decide +kernel
theorem d_R_type_47 : decode prog_1_method_2_code 47 = .ok (.athrow, 1) := by decide +kernel
theorem d_R_type_48 : decode prog_1_method_2_code 48 = .ok (.aload_n 0, 1) := by decide +kernel
theorem d_R_type_49 : decode prog_1_method_2_code 49 = .ok (.getfield 10, 3) := by decide +kernel
theorem d_R_type_52 : decode prog_1_method_2_code 52 = .ok (.iload_n 1, 1) := by decide +kernel
theorem d_R_type_53 : decode prog_1_method_2_code 53 = .ok (.invokevirtual 53, 3) := by decide +kernel
theorem d_R_type_56 : decode prog_1_method_2_code 56 = .ok (.ireturn, 1) := by decide +kernel
theorem d_R_set_0 : decode prog_1_method_3_code 0 = .ok (.aload_n 0, 1) := by decide +kernel
theorem d_R_set_1 : decode prog_1_method_3_code 1 = .ok (.getfield 10, 3) := by decide +kernel
theorem d_R_set_4 : decode prog_1_method_3_code 4 = .ok (.iload_n 1, 1) := by decide +kernel
theorem d_R_set_5 : decode prog_1_method_3_code 5 = .ok (.invokevirtual 57, 3) := by decide +kernel
theorem d_R_set_8 : decode prog_1_method_3_code 8 = .ok (.ifCond .eq 19, 3) := by decide +kernel
theorem d_R_set_11 : decode prog_1_method_3_code 11 = .ok (.aload_n 0, 1) := by decide +kernel
theorem d_R_set_12 : decode prog_1_method_3_code 12 = .ok (.getfield 10, 3) := by decide +kernel
theorem d_R_set_15 : decode prog_1_method_3_code 15 = .ok (.iload_n 2, 1) := by decide +kernel
theorem d_R_set_16 : decode prog_1_method_3_code 16 = .ok (.invokevirtual 57, 3) := by decide +kernel
theorem d_R_set_19 : decode prog_1_method_3_code 19 = .ok (.ifCond .eq 8, 3) := by decide +kernel
theorem d_R_set_22 : decode prog_1_method_3_code 22 = .ok (.iload_n 1, 1) := by decide +kernel
theorem d_R_set_23 : decode prog_1_method_3_code 23 = .ok (.iload_n 2, 1) := by decide +kernel
theorem d_R_set_24 : decode prog_1_method_3_code 24 = .ok (.if_icmp .ne 13, 3) := by decide +kernel
theorem d_R_set_27 : decode prog_1_method_3_code 27 = .ok (.new 37, 3) := by decide +kernel
theorem d_R_set_30 : decode prog_1_method_3_code 30 = .ok (.dup, 1) := by decide +kernel
theorem d_R_set_31 : decode prog_1_method_3_code 31 = .ok (.ldc 61, 2) := by decide +kernel
theorem d_R_set_33 : decode prog_1_method_3_code 33 = .ok (.invokespecial 41, 3) := by decide +kernel
theorem d_R_set_36 : decode prog_1_method_3_code 36 = .ok (.athrow, 1) := by decide +kernel
theorem d_R_set_37 : decode prog_1_method_3_code 37 = .ok (.aload_n 0, 1) := by decide +kernel
theorem d_R_set_38 : decode prog_1_method_3_code 38 = .ok (.getfield 10, 3) := by decide +kernel
theorem d_R_set_41 : decode prog_1_method_3_code 41 = .ok (.iload_n 3, 1) := by decide +kernel
theorem d_R_set_42 : decode prog_1_method_3_code 42 = .ok (.iload_n 2, 1) := by decide +kernel
theorem d_R_set_43 : decode prog_1_method_3_code 43 = .ok (.invokevirtual 63, 3) := by decide +kernel
theorem d_R_set_46 : decode prog_1_method_3_code 46 = .ok (.ifCond .eq 15, 3) := by decide +kernel
theorem d_R_set_49 : decode prog_1_method_3_code 49 = .ok (.iload 4, 2) := by decide +kernel
theorem d_R_set_51 : decode prog_1_method_3_code 51 = .ok (.ifCond .lt 10, 3) := by decide +kernel
theorem d_R_set_54 : decode prog_1_method_3_code 54 = .ok (.iload 4, 2) := by decide +kernel
theorem d_R_set_56 : decode prog_1_method_3_code 56 = .ok (.bipush 6, 2) := by decide +kernel
theorem d_R_set_58 : decode prog_1_method_3_code 58 = .ok (.if_icmp .lt 13, 3) := by decide +kernel
theorem d_R_set_61 : decode prog_1_method_3_code 61 = .ok (.new 37, 3) := by decide +kernel
theorem d_R_set_64 : decode prog_1_method_3_code 64 = .ok (.dup, 1) := by decide +kernel
theorem d_R_set_65 : decode prog_1_method_3_code 65 = .ok (.ldc 67, 2) := by decide +kernel
theorem d_R_set_67 : decode prog_1_method_3_code 67 = .ok (.invokespecial 41, 3) := by decide +kernel
theorem d_R_set_70 : decode prog_1_method_3_code 70 = .ok (.athrow, 1) := by decide +kernel
theorem d_R_set_71 : decode prog_1_method_3_code 71 = .ok (.aload_n 0, 1) := by decide +kernel
theorem d_R_set_72 : decode prog_1_method_3_code 72 = .ok (.getfield 10, 3) := by decide +kernel
theorem d_R_set_75 : decode prog_1_method_3_code 75 = .ok (.getfield 69, 3) := by decide +kernel
theorem d_R_set_78 : decode prog_1_method_3_code 78 = .ok (.iconst 5, 1) := by decide +kernel
theorem d_R_set_79 : decode prog_1_method_3_code 79 = .ok (.if_icmp .ge 10, 3) := by decide +kernel
theorem d_R_set_82 : decode prog_1_method_3_code 82 = .ok (.aload_n 0, 1) := by decide +kernel
theorem d_R_set_83 : decode prog_1_method_3_code 83 = .ok (.getfield 33, 3) := by decide +kernel
theorem d_R_set_86 : decode prog_1_method_3_code 86 = .ok (.ifCond .eq 13, 3) := by decide +kernel
theorem d_R_set_89 : decode prog_1_method_3_code 89 = .ok (.new 48, 3) := by decide +kernel
theorem d_R_set_92 : decode prog_1_method_3_code 92 = .ok (.dup, 1) := by decide +kernel
theorem d_R_set_93 : decode prog_1_method_3_code 93 = .ok (.ldc 72, 2) := by decide +kernel
theorem d_R_set_95 : decode prog_1_method_3_code 95 = .ok (.invokespecial 52, 3) := by decide +kernel
theorem d_R_set_98 : decode prog_1_method_3_code 98 = .ok (.athrow, 1) := by decide +kernel
theorem d_R_set_99 : decode prog_1_method_3_code 99 = .ok (.aload_n 0, 1) := by decide +kernel
theorem d_R_set_100 : decode prog_1_method_3_code 100 = .ok (.getfield 10, 3) := by decide +kernel
theorem d_R_set_103 : decode prog_1_method_3_code 103 = .ok (.iload_n 1, 1) := by decide +kernel
theorem d_R_set_104 : decode prog_1_method_3_code 104 = .ok (.iload_n 2, 1) := by decide +kernel
theorem d_R_set_105 : decode prog_1_method_3_code 105 = .ok (.iload_n 3, 1) := by decide +kernel
theorem d_R_set_106 : decode prog_1_method_3_code 106 = .ok (.iload 4, 2) := by decide +kernel
theorem d_R_set_108 : decode prog_1_method_3_code 108 = .ok (.invokevirtual 74, 3) := by decide +kernel
theorem d_R_set_111 : decode prog_1_method_3_code 111 = .ok (.ireturn, 1) := by decide +kernel
theorem d_R_store_0 : decode prog_1_method_4_code 0 = .ok (.aload_n 0, 1) := by decide +kernel
theorem d_R_store_1 : decode prog_1_method_4_code 1 = .ok (.getfield 10, 3) := by decide +kernel
theorem d_R_store_4 : decode prog_1_method_4_code 4 = .ok (.iload_n 1, 1) := by decide +kernel
theorem d_R_store_5 : decode prog_1_method_4_code 5 = .ok (.invokevirtual 57, 3) := by decide +kernel
theorem d_R_store_8 : decode prog_1_method_4_code 8 = .ok (.ifCond .ne 13, 3) := by decide +kernel
theorem d_R_store_11 : decode prog_1_method_4_code 11 = .ok (.new 37, 3) := by decide +kernel
theorem d_R_store_14 : decode prog_1_method_4_code 14 = .ok (.dup, 1) := by decide +kernel
theorem d_R_store_15 : decode prog_1_method_4_code 15 = .ok (.ldc 78, 2) := by decide +kernel
theorem d_R_store_17 : decode prog_1_method_4_code 17 = .ok (.invokespecial 41, 3) := by decide +kernel
theorem d_R_store_20 : decode prog_1_method_4_code 20 = .ok (.athrow, 1) := by decide +kernel
theorem d_R_store_21 : decode prog_1_method_4_code 21 = .ok (.aload_n 0, 1) := by decide +kernel
theorem d_R_store_22 : decode prog_1_method_4_code 22 = .ok (.iload_n 1, 1) := by decide +kernel
theorem d_R_store_23 : decode prog_1_method_4_code 23 = .ok (.invokevirtual 80, 3) := by decide +kernel
theorem d_R_store_26 : decode prog_1_method_4_code 26 = .ok (.aload_n 0, 1) := by decide +kernel
theorem d_R_store_27 : decode prog_1_method_4_code 27 = .ok (.getfield 19, 3) := by decide +kernel
theorem d_R_store_30 : decode prog_1_method_4_code 30 = .ok (.invokevirtual 84, 3) := by decide +kernel
theorem d_R_store_33 : decode prog_1_method_4_code 33 = .ok (.istore 5, 2) := by decide +kernel
theorem d_R_store_35 : decode prog_1_method_4_code 35 = .ok (.iload 5, 2) := by decide +kernel
theorem d_R_store_37 : decode prog_1_method_4_code 37 = .ok (.iconst (-1), 1) := by decide +kernel
theorem d_R_store_38 : decode prog_1_method_4_code 38 = .ok (.if_icmp .ne 13, 3) := by decide +kernel
theorem d_R_store_41 : decode prog_1_method_4_code 41 = .ok (.new 48, 3) := by decide +kernel
theorem d_R_store_44 : decode prog_1_method_4_code 44 = .ok (.dup, 1) := by decide +kernel
theorem d_R_store_45 : decode prog_1_method_4_code 45 = .ok (.ldc 88, 2) := by decide +kernel
theorem d_R_store_47 : decode prog_1_method_4_code 47 = .ok (.invokespecial 52, 3) := by decide +kernel
theorem d_R_store_50 : decode prog_1_method_4_code 50 = .ok (.athrow, 1) := by decide +kernel
theorem d_R_store_51 : decode prog_1_method_4_code 51 = .ok (.aload_n 0, 1) := by decide +kernel
theorem d_R_store_52 : decode prog_1_method_4_code 52 = .ok (.getfield 19, 3) := by decide +kernel
theorem d_R_store_55 : decode prog_1_method_4_code 55 = .ok (.iload 5, 2) := by decide +kernel
theorem d_R_store_57 : decode prog_1_method_4_code 57 = .ok (.iload_n 2, 1) := by decide +kernel
theorem d_R_store_58 : decode prog_1_method_4_code 58 = .ok (.iload_n 3, 1) := by decide +kernel
theorem d_R_store_59 : decode prog_1_method_4_code 59 = .ok (.iload 4, 2) := by decide +kernel
theorem d_R_store_61 : decode prog_1_method_4_code 61 = .ok (.invokevirtual 90, 3) := by decide +kernel
theorem d_R_store_64 : decode prog_1_method_4_code 64 = .ok (.aload_n 0, 1) := by decide +kernel
theorem d_R_store_65 : decode prog_1_method_4_code 65 = .ok (.iload_n 1, 1) := by decide +kernel
theorem d_R_store_66 : decode prog_1_method_4_code 66 = .ok (.iload 5, 2) := by decide +kernel
theorem d_R_store_68 : decode prog_1_method_4_code 68 = .ok (.invokevirtual 94, 3) := by decide +kernel
theorem d_R_store_71 : decode prog_1_method_4_code 71 = .ok (.aload_n 0, 1) := by decide +kernel
theorem d_R_store_72 : decode prog_1_method_4_code 72 = .ok (.getfield 19, 3) := by decide +kernel
theorem d_R_store_75 : decode prog_1_method_4_code 75 = .ok (.iload 5, 2) := by decide +kernel
theorem d_R_store_77 : decode prog_1_method_4_code 77 = .ok (.iload_n 1, 1) := by decide +kernel
theorem d_R_store_78 : decode prog_1_method_4_code 78 = .ok (.invokevirtual 98, 3) := by decide +kernel
theorem d_R_store_81 : decode prog_1_method_4_code 81 = .ok (.aload_n 0, 1) := by decide +kernel
theorem d_R_store_82 : decode prog_1_method_4_code 82 = .ok (.iconst 1, 1) := by decide +kernel
theorem d_R_store_83 : decode prog_1_method_4_code 83 = .ok (.putfield 33, 3) := by decide +kernel
theorem d_R_store_86 : decode prog_1_method_4_code 86 = .ok (.iconst 0, 1) := by decide +kernel
theorem d_R_store_87 : decode prog_1_method_4_code 87 = .ok (.istore 6, 2) := by decide +kernel
theorem d_R_store_89 : decode prog_1_method_4_code 89 = .ok (.iload 6, 2) := by decide +kernel
theorem d_R_store_91 : decode prog_1_method_4_code 91 = .ok (.aload_n 0, 1) := by decide +kernel
theorem d_R_store_92 : decode prog_1_method_4_code 92 = .ok (.getfield 10, 3) := by decide +kernel
theorem d_R_store_95 : decode prog_1_method_4_code 95 = .ok (.getfield 69, 3) := by decide +kernel
theorem d_R_store_98 : decode prog_1_method_4_code 98 = .ok (.if_icmp .ge 36, 3) := by decide +kernel
theorem d_R_store_101 : decode prog_1_method_4_code 101 = .ok (.aload_n 0, 1) := by decide +kernel
theorem d_R_store_102 : decode prog_1_method_4_code 102 = .ok (.getfield 10, 3) := by decide +kernel
theorem d_R_store_105 : decode prog_1_method_4_code 105 = .ok (.iload 6, 2) := by decide +kernel
theorem d_R_store_107 : decode prog_1_method_4_code 107 = .ok (.iload_n 1, 1) := by decide +kernel
theorem d_R_store_108 : decode prog_1_method_4_code 108 = .ok (.invokevirtual 101, 3) := by decide +kernel
theorem d_R_store_111 : decode prog_1_method_4_code 111 = .ok (.ifCond .eq 17, 3) := by decide +kernel
theorem d_R_store_114 : decode prog_1_method_4_code 114 = .ok (.aload_n 0, 1) := by decide +kernel
theorem d_R_store_115 : decode prog_1_method_4_code 115 = .ok (.iload 6, 2) := by decide +kernel
theorem d_R_store_117 : decode prog_1_method_4_code 117 = .ok (.iload 5, 2) := by decide +kernel
theorem d_R_store_119 : decode prog_1_method_4_code 119 = .ok (.aload_n 0, 1) := by decide +kernel
theorem d_R_store_120 : decode prog_1_method_4_code 120 = .ok (.iload 6, 2) := by decide +kernel
theorem d_R_store_122 : decode prog_1_method_4_code 122 = .ok (.invokevirtual 104, 3) := by decide +kernel
theorem d_R_store_125 : decode prog_1_method_4_code 125 = .ok (.invokevirtual 107, 3) := by decide +kernel
theorem d_R_store_128 : decode prog_1_method_4_code 128 = .ok (.iinc 6 1, 3) := by decide +kernel
theorem d_R_store_131 : decode prog_1_method_4_code 131 = .ok (.goto (-42), 3) := by decide +kernel
theorem d_R_store_134 : decode prog_1_method_4_code 134 = .ok (.aload_n 0, 1) := by decide +kernel
theorem d_R_store_135 : decode prog_1_method_4_code 135 = .ok (.iload 5, 2) := by decide +kernel
theorem d_R_store_137 : decode prog_1_method_4_code 137 = .ok (.iconst 0, 1) := by decide +kernel
theorem d_R_store_138 : decode prog_1_method_4_code 138 = .ok (.invokevirtual 111, 3) := by decide +kernel
theorem d_R_store_141 : decode prog_1_method_4_code 141 = .ok (.aload_n 0, 1) := by decide +kernel
theorem d_R_store_142 : decode prog_1_method_4_code 142 = .ok (.getfield 19, 3) := by decide +kernel
theorem d_R_store_145 : decode prog_1_method_4_code 145 = .ok (.getfield 114, 3) := by decide +kernel
theorem d_R_store_148 : decode prog_1_method_4_code 148 = .ok (.iload 5, 2) := by decide +kernel
theorem d_R_store_150 : decode prog_1_method_4_code 150 = .ok (.iaload, 1) := by decide +kernel
theorem d_R_store_151 : decode prog_1_method_4_code 151 = .ok (.ireturn, 1) := by decide +kernel
theorem d_R_requireOwnersToJoin_0 : decode prog_1_method_26_code 0 = .ok (.iconst 0, 1) := by decide +kernel
theorem d_R_requireOwnersToJoin_1 : decode prog_1_method_26_code 1 = .ok (.istore_n 2, 1) := by decide +kernel
theorem d_R_requireOwnersToJoin_2 : decode prog_1_method_26_code 2 = .ok (.iload_n 2, 1) := by decide +kernel
theorem d_R_requireOwnersToJoin_3 : decode prog_1_method_26_code 3 = .ok (.aload_n 0, 1) := by decide +kernel
theorem d_R_requireOwnersToJoin_4 : decode prog_1_method_26_code 4 = .ok (.getfield 10, 3) := by decide +kernel
theorem d_R_requireOwnersToJoin_7 : decode prog_1_method_26_code 7 = .ok (.getfield 69, 3) := by decide +kernel
theorem d_R_requireOwnersToJoin_10 : decode prog_1_method_26_code 10 = .ok (.if_icmp .ge 27, 3) := by decide +kernel
theorem d_R_requireOwnersToJoin_13 : decode prog_1_method_26_code 13 = .ok (.aload_n 0, 1) := by decide +kernel
theorem d_R_requireOwnersToJoin_14 : decode prog_1_method_26_code 14 = .ok (.getfield 10, 3) := by decide +kernel
theorem d_R_requireOwnersToJoin_17 : decode prog_1_method_26_code 17 = .ok (.iload_n 2, 1) := by decide +kernel
theorem d_R_requireOwnersToJoin_18 : decode prog_1_method_26_code 18 = .ok (.iload_n 1, 1) := by decide +kernel
theorem d_R_requireOwnersToJoin_19 : decode prog_1_method_26_code 19 = .ok (.invokevirtual 101, 3) := by decide +kernel
theorem d_R_requireOwnersToJoin_22 : decode prog_1_method_26_code 22 = .ok (.ifCond .eq 9, 3) := by decide +kernel
theorem d_R_requireOwnersToJoin_25 : decode prog_1_method_26_code 25 = .ok (.aload_n 0, 1) := by decide +kernel
theorem d_R_requireOwnersToJoin_26 : decode prog_1_method_26_code 26 = .ok (.iload_n 2, 1) := by decide +kernel
theorem d_R_requireOwnersToJoin_27 : decode prog_1_method_26_code 27 = .ok (.invokevirtual 147, 3) := by decide +kernel
theorem d_R_requireOwnersToJoin_30 : decode prog_1_method_26_code 30 = .ok (.pop, 1) := by decide +kernel
theorem d_R_requireOwnersToJoin_31 : decode prog_1_method_26_code 31 = .ok (.iinc 2 1, 3) := by decide +kernel
theorem d_R_requireOwnersToJoin_34 : decode prog_1_method_26_code 34 = .ok (.goto (-32), 3) := by decide +kernel
theorem d_R_requireOwnersToJoin_37 : decode prog_1_method_26_code 37 = .ok (.return_, 1) := by decide +kernel
theorem d_R_requireCurrentOwner_0 : decode prog_1_method_25_code 0 = .ok (.aload_n 0, 1) := by decide +kernel
theorem d_R_requireCurrentOwner_1 : decode prog_1_method_25_code 1 = .ok (.iload_n 1, 1) := by decide +kernel
theorem d_R_requireCurrentOwner_2 : decode prog_1_method_25_code 2 = .ok (.invokevirtual 104, 3) := by decide +kernel
theorem d_R_requireCurrentOwner_5 : decode prog_1_method_25_code 5 = .ok (.istore_n 2, 1) := by decide +kernel
theorem d_R_requireCurrentOwner_6 : decode prog_1_method_25_code 6 = .ok (.iload_n 2, 1) := by decide +kernel
theorem d_R_requireCurrentOwner_7 : decode prog_1_method_25_code 7 = .ok (.iconst (-1), 1) := by decide +kernel
theorem d_R_requireCurrentOwner_8 : decode prog_1_method_25_code 8 = .ok (.if_icmp .ne 14, 3) := by decide +kernel
theorem d_R_requireCurrentOwner_11 : decode prog_1_method_25_code 11 = .ok (.new 261, 3) := by decide +kernel
theorem d_R_requireCurrentOwner_14 : decode prog_1_method_25_code 14 = .ok (.dup, 1) := by decide +kernel
theorem d_R_requireCurrentOwner_15 : decode prog_1_method_25_code 15 = .ok (.ldc_w 268, 3) := by decide +kernel
theorem d_R_requireCurrentOwner_18 : decode prog_1_method_25_code 18 = .ok (.invokespecial 265, 3) := by decide +kernel
theorem d_R_requireCurrentOwner_21 : decode prog_1_method_25_code 21 = .ok (.athrow, 1) := by decide +kernel
theorem d_R_requireCurrentOwner_22 : decode prog_1_method_25_code 22 = .ok (.iload_n 2, 1) := by decide +kernel
theorem d_R_requireCurrentOwner_23 : decode prog_1_method_25_code 23 = .ok (.ireturn, 1) := by decide +kernel
theorem d_R_currentOwner_0 : decode prog_1_method_31_code 0 = .ok (.aload_n 0, 1) := by decide +kernel
theorem d_R_currentOwner_1 : decode prog_1_method_31_code 1 = .ok (.getfield 29, 3) := by decide +kernel
theorem d_R_currentOwner_4 : decode prog_1_method_31_code 4 = .ok (.getfield 154, 3) := by decide +kernel
theorem d_R_currentOwner_7 : decode prog_1_method_31_code 7 = .ok (.iload_n 1, 1) := by decide +kernel
theorem d_R_currentOwner_8 : decode prog_1_method_31_code 8 = .ok (.iaload, 1) := by decide +kernel
theorem d_R_currentOwner_9 : decode prog_1_method_31_code 9 = .ok (.istore_n 2, 1) := by decide +kernel
theorem d_R_currentOwner_10 : decode prog_1_method_31_code 10 = .ok (.iload_n 2, 1) := by decide +kernel
theorem d_R_currentOwner_11 : decode prog_1_method_31_code 11 = .ok (.iconst (-1), 1) := by decide +kernel
theorem d_R_currentOwner_12 : decode prog_1_method_31_code 12 = .ok (.if_icmp .eq 24, 3) := by decide +kernel
theorem d_R_currentOwner_15 : decode prog_1_method_31_code 15 = .ok (.aload_n 0, 1) := by decide +kernel
theorem d_R_currentOwner_16 : decode prog_1_method_31_code 16 = .ok (.getfield 19, 3) := by decide +kernel
theorem d_R_currentOwner_19 : decode prog_1_method_31_code 19 = .ok (.getfield 190, 3) := by decide +kernel
theorem d_R_currentOwner_22 : decode prog_1_method_31_code 22 = .ok (.iload_n 2, 1) := by decide +kernel
theorem d_R_currentOwner_23 : decode prog_1_method_31_code 23 = .ok (.iaload, 1) := by decide +kernel
theorem d_R_currentOwner_24 : decode prog_1_method_31_code 24 = .ok (.aload_n 0, 1) := by decide +kernel
theorem d_R_currentOwner_25 : decode prog_1_method_31_code 25 = .ok (.getfield 10, 3) := by decide +kernel
theorem d_R_currentOwner_28 : decode prog_1_method_31_code 28 = .ok (.getfield 291, 3) := by decide +kernel
theorem d_R_currentOwner_31 : decode prog_1_method_31_code 31 = .ok (.iload_n 1, 1) := by decide +kernel
theorem d_R_currentOwner_32 : decode prog_1_method_31_code 32 = .ok (.iaload, 1) := by decide +kernel
theorem d_R_currentOwner_33 : decode prog_1_method_31_code 33 = .ok (.if_icmp .ne 5, 3) := by decide +kernel
theorem d_R_currentOwner_36 : decode prog_1_method_31_code 36 = .ok (.iload_n 2, 1) := by decide +kernel
theorem d_R_currentOwner_37 : decode prog_1_method_31_code 37 = .ok (.ireturn, 1) := by decide +kernel
theorem d_R_currentOwner_38 : decode prog_1_method_31_code 38 = .ok (.aload_n 0, 1) := by decide +kernel
theorem d_R_currentOwner_39 : decode prog_1_method_31_code 39 = .ok (.getfield 19, 3) := by decide +kernel
theorem d_R_currentOwner_42 : decode prog_1_method_31_code 42 = .ok (.getfield 243, 3) := by decide +kernel
theorem d_R_currentOwner_45 : decode prog_1_method_31_code 45 = .ok (.iload_n 1, 1) := by decide +kernel
theorem d_R_currentOwner_46 : decode prog_1_method_31_code 46 = .ok (.aaload, 1) := by decide +kernel
theorem d_R_currentOwner_47 : decode prog_1_method_31_code 47 = .ok (.iload_n 2, 1) := by decide +kernel
theorem d_R_currentOwner_48 : decode prog_1_method_31_code 48 = .ok (.iaload, 1) := by decide +kernel
theorem d_R_currentOwner_49 : decode prog_1_method_31_code 49 = .ok (.ireturn, 1) := by decide +kernel
theorem d_R_requireNoRefusalToJoin_0 : decode prog_1_method_27_code 0 = .ok (.iconst 0, 1) := by decide +kernel
theorem d_R_requireNoRefusalToJoin_1 : decode prog_1_method_27_code 1 = .ok (.istore_n 3, 1) := by decide +kernel
theorem d_R_requireNoRefusalToJoin_2 : decode prog_1_method_27_code 2 = .ok (.iload_n 3, 1) := by decide +kernel
theorem d_R_requireNoRefusalToJoin_3 : decode prog_1_method_27_code 3 = .ok (.aload_n 0, 1) := by decide +kernel
theorem d_R_requireNoRefusalToJoin_4 : decode prog_1_method_27_code 4 = .ok (.getfield 10, 3) := by decide +kernel
theorem d_R_requireNoRefusalToJoin_7 : decode prog_1_method_27_code 7 = .ok (.getfield 69, 3) := by decide +kernel
theorem d_R_requireNoRefusalToJoin_10 : decode prog_1_method_27_code 10 = .ok (.if_icmp .ge 32, 3) := by decide +kernel
theorem d_R_requireNoRefusalToJoin_13 : decode prog_1_method_27_code 13 = .ok (.aload_n 0, 1) := by decide +kernel
theorem d_R_requireNoRefusalToJoin_14 : decode prog_1_method_27_code 14 = .ok (.getfield 10, 3) := by decide +kernel
theorem d_R_requireNoRefusalToJoin_17 : decode prog_1_method_27_code 17 = .ok (.iload_n 3, 1) := by decide +kernel
theorem d_R_requireNoRefusalToJoin_18 : decode prog_1_method_27_code 18 = .ok (.iload_n 1, 1) := by decide +kernel
theorem d_R_requireNoRefusalToJoin_19 : decode prog_1_method_27_code 19 = .ok (.invokevirtual 101, 3) := by decide +kernel
theorem d_R_requireNoRefusalToJoin_22 : decode prog_1_method_27_code 22 = .ok (.ifCond .eq 14, 3) := by decide +kernel
theorem d_R_requireNoRefusalToJoin_25 : decode prog_1_method_27_code 25 = .ok (.aload_n 0, 1) := by decide +kernel
theorem d_R_requireNoRefusalToJoin_26 : decode prog_1_method_27_code 26 = .ok (.iload_n 3, 1) := by decide +kernel
theorem d_R_requireNoRefusalToJoin_27 : decode prog_1_method_27_code 27 = .ok (.iload_n 2, 1) := by decide +kernel
theorem d_R_requireNoRefusalToJoin_28 : decode prog_1_method_27_code 28 = .ok (.aload_n 0, 1) := by decide +kernel
theorem d_R_requireNoRefusalToJoin_29 : decode prog_1_method_27_code 29 = .ok (.iload_n 3, 1) := by decide +kernel
theorem d_R_requireNoRefusalToJoin_30 : decode prog_1_method_27_code 30 = .ok (.invokevirtual 104, 3) := by decide +kernel
theorem d_R_requireNoRefusalToJoin_33 : decode prog_1_method_27_code 33 = .ok (.invokevirtual 198, 3) := by decide +kernel
theorem d_R_requireNoRefusalToJoin_36 : decode prog_1_method_27_code 36 = .ok (.iinc 3 1, 3) := by decide +kernel
theorem d_R_requireNoRefusalToJoin_39 : decode prog_1_method_27_code 39 = .ok (.goto (-37), 3) := by decide +kernel
theorem d_R_requireNoRefusalToJoin_42 : decode prog_1_method_27_code 42 = .ok (.return_, 1) := by decide +kernel
theorem d_R_requireNoRefusal_0 : decode prog_1_method_28_code 0 = .ok (.aload_n 0, 1) := by decide +kernel
theorem d_R_requireNoRefusal_1 : decode prog_1_method_28_code 1 = .ok (.getfield 10, 3) := by decide +kernel
theorem d_R_requireNoRefusal_4 : decode prog_1_method_28_code 4 = .ok (.iload_n 1, 1) := by decide +kernel
theorem d_R_requireNoRefusal_5 : decode prog_1_method_28_code 5 = .ok (.invokevirtual 270, 3) := by decide +kernel
theorem d_R_requireNoRefusal_8 : decode prog_1_method_28_code 8 = .ok (.ifCond .eq 28, 3) := by decide +kernel
theorem d_R_requireNoRefusal_11 : decode prog_1_method_28_code 11 = .ok (.aload_n 0, 1) := by decide +kernel
theorem d_R_requireNoRefusal_12 : decode prog_1_method_28_code 12 = .ok (.iload_n 1, 1) := by decide +kernel
theorem d_R_requireNoRefusal_13 : decode prog_1_method_28_code 13 = .ok (.iload_n 2, 1) := by decide +kernel
theorem d_R_requireNoRefusal_14 : decode prog_1_method_28_code 14 = .ok (.iload_n 3, 1) := by decide +kernel
theorem d_R_requireNoRefusal_15 : decode prog_1_method_28_code 15 = .ok (.aload_n 0, 1) := by decide +kernel
theorem d_R_requireNoRefusal_16 : decode prog_1_method_28_code 16 = .ok (.getfield 19, 3) := by decide +kernel
theorem d_R_requireNoRefusal_19 : decode prog_1_method_28_code 19 = .ok (.getfield 181, 3) := by decide +kernel
theorem d_R_requireNoRefusal_22 : decode prog_1_method_28_code 22 = .ok (.aload_n 0, 1) := by decide +kernel
theorem d_R_requireNoRefusal_23 : decode prog_1_method_28_code 23 = .ok (.getfield 10, 3) := by decide +kernel
theorem d_R_requireNoRefusal_26 : decode prog_1_method_28_code 26 = .ok (.iload_n 1, 1) := by decide +kernel
theorem d_R_requireNoRefusal_27 : decode prog_1_method_28_code 27 = .ok (.invokevirtual 273, 3) := by decide +kernel
theorem d_R_requireNoRefusal_30 : decode prog_1_method_28_code 30 = .ok (.aaload, 1) := by decide +kernel
theorem d_R_requireNoRefusal_31 : decode prog_1_method_28_code 31 = .ok (.iload_n 2, 1) := by decide +kernel
theorem d_R_requireNoRefusal_32 : decode prog_1_method_28_code 32 = .ok (.iaload, 1) := by decide +kernel
theorem d_R_requireNoRefusal_33 : decode prog_1_method_28_code 33 = .ok (.invokevirtual 276, 3) := by decide +kernel
theorem d_R_requireNoRefusal_36 : decode prog_1_method_28_code 36 = .ok (.return_, 1) := by decide +kernel
theorem d_R_requireNoEqual_0 : decode prog_1_method_30_code 0 = .ok (.aload_n 0, 1) := by decide +kernel
theorem d_R_requireNoEqual_1 : decode prog_1_method_30_code 1 = .ok (.getfield 10, 3) := by decide +kernel
theorem d_R_requireNoEqual_4 : decode prog_1_method_30_code 4 = .ok (.getfield 282, 3) := by decide +kernel
theorem d_R_requireNoEqual_7 : decode prog_1_method_30_code 7 = .ok (.iload_n 1, 1) := by decide +kernel
theorem d_R_requireNoEqual_8 : decode prog_1_method_30_code 8 = .ok (.iaload, 1) := by decide +kernel
theorem d_R_requireNoEqual_9 : decode prog_1_method_30_code 9 = .ok (.bipush 30, 2) := by decide +kernel
theorem d_R_requireNoEqual_11 : decode prog_1_method_30_code 11 = .ok (.if_icmp .lt 37, 3) := by decide +kernel
theorem d_R_requireNoEqual_14 : decode prog_1_method_30_code 14 = .ok (.aload_n 0, 1) := by decide +kernel
theorem d_R_requireNoEqual_15 : decode prog_1_method_30_code 15 = .ok (.getfield 19, 3) := by decide +kernel
theorem d_R_requireNoEqual_18 : decode prog_1_method_30_code 18 = .ok (.iload_n 1, 1) := by decide +kernel
theorem d_R_requireNoEqual_19 : decode prog_1_method_30_code 19 = .ok (.iload_n 3, 1) := by decide +kernel
theorem d_R_requireNoEqual_20 : decode prog_1_method_30_code 20 = .ok (.iload_n 2, 1) := by decide +kernel
theorem d_R_requireNoEqual_21 : decode prog_1_method_30_code 21 = .ok (.aload_n 0, 1) := by decide +kernel
theorem d_R_requireNoEqual_22 : decode prog_1_method_30_code 22 = .ok (.getfield 10, 3) := by decide +kernel
theorem d_R_requireNoEqual_25 : decode prog_1_method_30_code 25 = .ok (.iload_n 1, 1) := by decide +kernel
theorem d_R_requireNoEqual_26 : decode prog_1_method_30_code 26 = .ok (.invokevirtual 273, 3) := by decide +kernel
theorem d_R_requireNoEqual_29 : decode prog_1_method_30_code 29 = .ok (.iload 4, 2) := by decide +kernel
theorem d_R_requireNoEqual_31 : decode prog_1_method_30_code 31 = .ok (.invokevirtual 285, 3) := by decide +kernel
theorem d_R_requireNoEqual_34 : decode prog_1_method_30_code 34 = .ok (.ifCond .eq 14, 3) := by decide +kernel
theorem d_R_requireNoEqual_37 : decode prog_1_method_30_code 37 = .ok (.new 48, 3) := by decide +kernel
theorem d_R_requireNoEqual_40 : decode prog_1_method_30_code 40 = .ok (.dup, 1) := by decide +kernel
theorem d_R_requireNoEqual_41 : decode prog_1_method_30_code 41 = .ok (.ldc_w 289, 3) := by decide +kernel
theorem d_R_requireNoEqual_44 : decode prog_1_method_30_code 44 = .ok (.invokespecial 52, 3) := by decide +kernel
theorem d_R_requireNoEqual_47 : decode prog_1_method_30_code 47 = .ok (.athrow, 1) := by decide +kernel
theorem d_R_requireNoEqual_48 : decode prog_1_method_30_code 48 = .ok (.return_, 1) := by decide +kernel
theorem d_R_join_0 : decode prog_1_method_35_code 0 = .ok (.aload_n 0, 1) := by decide +kernel
theorem d_R_join_1 : decode prog_1_method_35_code 1 = .ok (.getfield 19, 3) := by decide +kernel
theorem d_R_join_4 : decode prog_1_method_35_code 4 = .ok (.iload_n 1, 1) := by decide +kernel
theorem d_R_join_5 : decode prog_1_method_35_code 5 = .ok (.iload_n 2, 1) := by decide +kernel
theorem d_R_join_6 : decode prog_1_method_35_code 6 = .ok (.iload_n 3, 1) := by decide +kernel
theorem d_R_join_7 : decode prog_1_method_35_code 7 = .ok (.aload_n 0, 1) := by decide +kernel
theorem d_R_join_8 : decode prog_1_method_35_code 8 = .ok (.iload_n 1, 1) := by decide +kernel
theorem d_R_join_9 : decode prog_1_method_35_code 9 = .ok (.iload_n 2, 1) := by decide +kernel
theorem d_R_join_10 : decode prog_1_method_35_code 10 = .ok (.iload_n 3, 1) := by decide +kernel
theorem d_R_join_11 : decode prog_1_method_35_code 11 = .ok (.invokevirtual 302, 3) := by decide +kernel
theorem d_R_join_14 : decode prog_1_method_35_code 14 = .ok (.invokevirtual 305, 3) := by decide +kernel
theorem d_R_join_17 : decode prog_1_method_35_code 17 = .ok (.return_, 1) := by decide +kernel
theorem d_R_positionByOrder_0 : decode prog_1_method_36_code 0 = .ok (.aload_n 0, 1) := by decide +kernel
theorem d_R_positionByOrder_1 : decode prog_1_method_36_code 1 = .ok (.getfield 29, 3) := by decide +kernel
theorem d_R_positionByOrder_4 : decode prog_1_method_36_code 4 = .ok (.getfield 154, 3) := by decide +kernel
theorem d_R_positionByOrder_7 : decode prog_1_method_36_code 7 = .ok (.iload_n 1, 1) := by decide +kernel
theorem d_R_positionByOrder_8 : decode prog_1_method_36_code 8 = .ok (.iaload, 1) := by decide +kernel
theorem d_R_positionByOrder_9 : decode prog_1_method_36_code 9 = .ok (.istore 4, 2) := by decide +kernel
theorem d_R_positionByOrder_11 : decode prog_1_method_36_code 11 = .ok (.iload 4, 2) := by decide +kernel
theorem d_R_positionByOrder_13 : decode prog_1_method_36_code 13 = .ok (.iconst (-1), 1) := by decide +kernel
theorem d_R_positionByOrder_14 : decode prog_1_method_36_code 14 = .ok (.if_icmp .eq 23, 3) := by decide +kernel
theorem d_R_positionByOrder_17 : decode prog_1_method_36_code 17 = .ok (.aload_n 0, 1) := by decide +kernel
theorem d_R_positionByOrder_18 : decode prog_1_method_36_code 18 = .ok (.getfield 19, 3) := by decide +kernel
theorem d_R_positionByOrder_21 : decode prog_1_method_36_code 21 = .ok (.getfield 243, 3) := by decide +kernel
theorem d_R_positionByOrder_24 : decode prog_1_method_36_code 24 = .ok (.iload_n 1, 1) := by decide +kernel
theorem d_R_positionByOrder_25 : decode prog_1_method_36_code 25 = .ok (.aaload, 1) := by decide +kernel
theorem d_R_positionByOrder_26 : decode prog_1_method_36_code 26 = .ok (.iload 4, 2) := by decide +kernel
theorem d_R_positionByOrder_28 : decode prog_1_method_36_code 28 = .ok (.iaload, 1) := by decide +kernel
theorem d_R_positionByOrder_29 : decode prog_1_method_36_code 29 = .ok (.iload_n 3, 1) := by decide +kernel
theorem d_R_positionByOrder_30 : decode prog_1_method_36_code 30 = .ok (.if_icmp .ne 7, 3) := by decide +kernel
theorem d_R_positionByOrder_33 : decode prog_1_method_36_code 33 = .ok (.iconst 1, 1) := by decide +kernel
theorem d_R_positionByOrder_34 : decode prog_1_method_36_code 34 = .ok (.goto 4, 3) := by decide +kernel
theorem d_R_positionByOrder_37 : decode prog_1_method_36_code 37 = .ok (.iconst 0, 1) := by decide +kernel
theorem d_R_positionByOrder_38 : decode prog_1_method_36_code 38 = .ok (.istore 5, 2) := by decide +kernel
theorem d_R_positionByOrder_40 : decode prog_1_method_36_code 40 = .ok (.aload_n 0, 1) := by decide +kernel
theorem d_R_positionByOrder_41 : decode prog_1_method_36_code 41 = .ok (.getfield 19, 3) := by decide +kernel
theorem d_R_positionByOrder_44 : decode prog_1_method_36_code 44 = .ok (.iload_n 1, 1) := by decide +kernel
theorem d_R_positionByOrder_45 : decode prog_1_method_36_code 45 = .ok (.iload_n 3, 1) := by decide +kernel
theorem d_R_positionByOrder_46 : decode prog_1_method_36_code 46 = .ok (.invokevirtual 240, 3) := by decide +kernel
theorem d_R_positionByOrder_49 : decode prog_1_method_36_code 49 = .ok (.istore 6, 2) := by decide +kernel
theorem d_R_positionByOrder_51 : decode prog_1_method_36_code 51 = .ok (.aload_n 0, 1) := by decide +kernel
theorem d_R_positionByOrder_52 : decode prog_1_method_36_code 52 = .ok (.getfield 10, 3) := by decide +kernel
theorem d_R_positionByOrder_55 : decode prog_1_method_36_code 55 = .ok (.getfield 282, 3) := by decide +kernel
theorem d_R_positionByOrder_58 : decode prog_1_method_36_code 58 = .ok (.iload_n 1, 1) := by decide +kernel
theorem d_R_positionByOrder_59 : decode prog_1_method_36_code 59 = .ok (.iaload, 1) := by decide +kernel
theorem d_R_positionByOrder_60 : decode prog_1_method_36_code 60 = .ok (.tableswitch 84 0 3 #[32, 34, 37, 61], 32) := by decide +kernel
theorem d_R_positionByOrder_92 : decode prog_1_method_36_code 92 = .ok (.iconst 0, 1) := by decide +kernel
theorem d_R_positionByOrder_93 : decode prog_1_method_36_code 93 = .ok (.ireturn, 1) := by decide +kernel
theorem d_R_positionByOrder_94 : decode prog_1_method_36_code 94 = .ok (.iload 6, 2) := by decide +kernel
theorem d_R_positionByOrder_96 : decode prog_1_method_36_code 96 = .ok (.ireturn, 1) := by decide +kernel
theorem d_R_positionByOrder_97 : decode prog_1_method_36_code 97 = .ok (.iload 5, 2) := by decide +kernel
theorem d_R_positionByOrder_99 : decode prog_1_method_36_code 99 = .ok (.ifCond .eq 20, 3) := by decide +kernel
theorem d_R_positionByOrder_102 : decode prog_1_method_36_code 102 = .ok (.aload_n 0, 1) := by decide +kernel
theorem d_R_positionByOrder_103 : decode prog_1_method_36_code 103 = .ok (.getfield 19, 3) := by decide +kernel
theorem d_R_positionByOrder_106 : decode prog_1_method_36_code 106 = .ok (.getfield 150, 3) := by decide +kernel
theorem d_R_positionByOrder_109 : decode prog_1_method_36_code 109 = .ok (.iload_n 1, 1) := by decide +kernel
theorem d_R_positionByOrder_110 : decode prog_1_method_36_code 110 = .ok (.aaload, 1) := by decide +kernel
theorem d_R_positionByOrder_111 : decode prog_1_method_36_code 111 = .ok (.iload 4, 2) := by decide +kernel
theorem d_R_positionByOrder_113 : decode prog_1_method_36_code 113 = .ok (.iaload, 1) := by decide +kernel
theorem d_R_positionByOrder_114 : decode prog_1_method_36_code 114 = .ok (.iconst 1, 1) := by decide +kernel
theorem d_R_positionByOrder_115 : decode prog_1_method_36_code 115 = .ok (.iadd, 1) := by decide +kernel
theorem d_R_positionByOrder_116 : decode prog_1_method_36_code 116 = .ok (.goto 4, 3) := by decide +kernel
theorem d_R_positionByOrder_119 : decode prog_1_method_36_code 119 = .ok (.iconst 0, 1) := by decide +kernel
theorem d_R_positionByOrder_120 : decode prog_1_method_36_code 120 = .ok (.ireturn, 1) := by decide +kernel
theorem d_R_positionByOrder_121 : decode prog_1_method_36_code 121 = .ok (.iload 5, 2) := by decide +kernel
theorem d_R_positionByOrder_123 : decode prog_1_method_36_code 123 = .ok (.ifCond .eq 18, 3) := by decide +kernel
theorem d_R_positionByOrder_126 : decode prog_1_method_36_code 126 = .ok (.aload_n 0, 1) := by decide +kernel
theorem d_R_positionByOrder_127 : decode prog_1_method_36_code 127 = .ok (.getfield 19, 3) := by decide +kernel
theorem d_R_positionByOrder_130 : decode prog_1_method_36_code 130 = .ok (.getfield 150, 3) := by decide +kernel
theorem d_R_positionByOrder_133 : decode prog_1_method_36_code 133 = .ok (.iload_n 1, 1) := by decide +kernel
theorem d_R_positionByOrder_134 : decode prog_1_method_36_code 134 = .ok (.aaload, 1) := by decide +kernel
theorem d_R_positionByOrder_135 : decode prog_1_method_36_code 135 = .ok (.iload 4, 2) := by decide +kernel
theorem d_R_positionByOrder_137 : decode prog_1_method_36_code 137 = .ok (.iaload, 1) := by decide +kernel
theorem d_R_positionByOrder_138 : decode prog_1_method_36_code 138 = .ok (.goto 5, 3) := by decide +kernel
theorem d_R_positionByOrder_141 : decode prog_1_method_36_code 141 = .ok (.iload 6, 2) := by decide +kernel
theorem d_R_positionByOrder_143 : decode prog_1_method_36_code 143 = .ok (.ireturn, 1) := by decide +kernel
theorem d_R_positionByOrder_144 : decode prog_1_method_36_code 144 = .ok (.aload_n 0, 1) := by decide +kernel
theorem d_R_positionByOrder_145 : decode prog_1_method_36_code 145 = .ok (.iload_n 1, 1) := by decide +kernel
theorem d_R_positionByOrder_146 : decode prog_1_method_36_code 146 = .ok (.iload_n 2, 1) := by decide +kernel
theorem d_R_positionByOrder_147 : decode prog_1_method_36_code 147 = .ok (.iload_n 3, 1) := by decide +kernel
theorem d_R_positionByOrder_148 : decode prog_1_method_36_code 148 = .ok (.invokevirtual 308, 3) := by decide +kernel
theorem d_R_positionByOrder_151 : decode prog_1_method_36_code 151 = .ok (.ireturn, 1) := by decide +kernel
theorem d_R_positionByValue_0 : decode prog_1_method_37_code 0 = .ok (.aload_n 0, 1) := by decide +kernel
theorem d_R_positionByValue_1 : decode prog_1_method_37_code 1 = .ok (.getfield 10, 3) := by decide +kernel
theorem d_R_positionByValue_4 : decode prog_1_method_37_code 4 = .ok (.getfield 282, 3) := by decide +kernel
theorem d_R_positionByValue_7 : decode prog_1_method_37_code 7 = .ok (.iload_n 1, 1) := by decide +kernel
theorem d_R_positionByValue_8 : decode prog_1_method_37_code 8 = .ok (.iaload, 1) := by decide +kernel
theorem d_R_positionByValue_9 : decode prog_1_method_37_code 9 = .ok (.bipush 20, 2) := by decide +kernel
theorem d_R_positionByValue_11 : decode prog_1_method_37_code 11 = .ok (.if_icmp .lt 7, 3) := by decide +kernel
theorem d_R_positionByValue_14 : decode prog_1_method_37_code 14 = .ok (.iconst 1, 1) := by decide +kernel
theorem d_R_positionByValue_15 : decode prog_1_method_37_code 15 = .ok (.goto 4, 3) := by decide +kernel
theorem d_R_positionByValue_18 : decode prog_1_method_37_code 18 = .ok (.iconst 0, 1) := by decide +kernel
theorem d_R_positionByValue_19 : decode prog_1_method_37_code 19 = .ok (.istore 4, 2) := by decide +kernel
theorem d_R_positionByValue_21 : decode prog_1_method_37_code 21 = .ok (.aload_n 0, 1) := by decide +kernel
theorem d_R_positionByValue_22 : decode prog_1_method_37_code 22 = .ok (.getfield 19, 3) := by decide +kernel
theorem d_R_positionByValue_25 : decode prog_1_method_37_code 25 = .ok (.getfield 181, 3) := by decide +kernel
theorem d_R_positionByValue_28 : decode prog_1_method_37_code 28 = .ok (.aload_n 0, 1) := by decide +kernel
theorem d_R_positionByValue_29 : decode prog_1_method_37_code 29 = .ok (.getfield 10, 3) := by decide +kernel
theorem d_R_positionByValue_32 : decode prog_1_method_37_code 32 = .ok (.iload_n 1, 1) := by decide +kernel
theorem d_R_positionByValue_33 : decode prog_1_method_37_code 33 = .ok (.invokevirtual 273, 3) := by decide +kernel
theorem d_R_positionByValue_36 : decode prog_1_method_37_code 36 = .ok (.aaload, 1) := by decide +kernel
theorem d_R_positionByValue_37 : decode prog_1_method_37_code 37 = .ok (.astore 5, 2) := by decide +kernel
theorem d_R_positionByValue_39 : decode prog_1_method_37_code 39 = .ok (.iconst 0, 1) := by decide +kernel
theorem d_R_positionByValue_40 : decode prog_1_method_37_code 40 = .ok (.istore 6, 2) := by decide +kernel
theorem d_R_positionByValue_42 : decode prog_1_method_37_code 42 = .ok (.iconst 0, 1) := by decide +kernel
theorem d_R_positionByValue_43 : decode prog_1_method_37_code 43 = .ok (.istore 7, 2) := by decide +kernel
theorem d_R_positionByValue_45 : decode prog_1_method_37_code 45 = .ok (.iload 7, 2) := by decide +kernel
theorem d_R_positionByValue_47 : decode prog_1_method_37_code 47 = .ok (.bipush 24, 2) := by decide +kernel
theorem d_R_positionByValue_49 : decode prog_1_method_37_code 49 = .ok (.if_icmp .ge 69, 3) := by decide +kernel
theorem d_R_positionByValue_52 : decode prog_1_method_37_code 52 = .ok (.aload 5, 2) := by decide +kernel
theorem d_R_positionByValue_54 : decode prog_1_method_37_code 54 = .ok (.iload 7, 2) := by decide +kernel
theorem d_R_positionByValue_56 : decode prog_1_method_37_code 56 = .ok (.iaload, 1) := by decide +kernel
theorem d_R_positionByValue_57 : decode prog_1_method_37_code 57 = .ok (.aload 5, 2) := by decide +kernel
theorem d_R_positionByValue_59 : decode prog_1_method_37_code 59 = .ok (.iload_n 2, 1) := by decide +kernel
theorem d_R_positionByValue_60 : decode prog_1_method_37_code 60 = .ok (.iaload, 1) := by decide +kernel
theorem d_R_positionByValue_61 : decode prog_1_method_37_code 61 = .ok (.if_icmp .lt 20, 3) := by decide +kernel
theorem d_R_positionByValue_64 : decode prog_1_method_37_code 64 = .ok (.iload 4, 2) := by decide +kernel
theorem d_R_positionByValue_66 : decode prog_1_method_37_code 66 = .ok (.ifCond .eq 19, 3) := by decide +kernel
theorem d_R_positionByValue_69 : decode prog_1_method_37_code 69 = .ok (.aload 5, 2) := by decide +kernel
theorem d_R_positionByValue_71 : decode prog_1_method_37_code 71 = .ok (.iload 7, 2) := by decide +kernel
theorem d_R_positionByValue_73 : decode prog_1_method_37_code 73 = .ok (.iaload, 1) := by decide +kernel
theorem d_R_positionByValue_74 : decode prog_1_method_37_code 74 = .ok (.aload 5, 2) := by decide +kernel
theorem d_R_positionByValue_76 : decode prog_1_method_37_code 76 = .ok (.iload_n 2, 1) := by decide +kernel
theorem d_R_positionByValue_77 : decode prog_1_method_37_code 77 = .ok (.iaload, 1) := by decide +kernel
theorem d_R_positionByValue_78 : decode prog_1_method_37_code 78 = .ok (.if_icmp .ne 7, 3) := by decide +kernel
theorem d_R_positionByValue_81 : decode prog_1_method_37_code 81 = .ok (.iconst 1, 1) := by decide +kernel
theorem d_R_positionByValue_82 : decode prog_1_method_37_code 82 = .ok (.goto 4, 3) := by decide +kernel
theorem d_R_positionByValue_85 : decode prog_1_method_37_code 85 = .ok (.iconst 0, 1) := by decide +kernel
theorem d_R_positionByValue_86 : decode prog_1_method_37_code 86 = .ok (.istore 8, 2) := by decide +kernel
theorem d_R_positionByValue_88 : decode prog_1_method_37_code 88 = .ok (.aload_n 0, 1) := by decide +kernel
theorem d_R_positionByValue_89 : decode prog_1_method_37_code 89 = .ok (.getfield 19, 3) := by decide +kernel
theorem d_R_positionByValue_92 : decode prog_1_method_37_code 92 = .ok (.getfield 243, 3) := by decide +kernel
theorem d_R_positionByValue_95 : decode prog_1_method_37_code 95 = .ok (.iload_n 1, 1) := by decide +kernel
theorem d_R_positionByValue_96 : decode prog_1_method_37_code 96 = .ok (.aaload, 1) := by decide +kernel
theorem d_R_positionByValue_97 : decode prog_1_method_37_code 97 = .ok (.iload 7, 2) := by decide +kernel
theorem d_R_positionByValue_99 : decode prog_1_method_37_code 99 = .ok (.iaload, 1) := by decide +kernel
theorem d_R_positionByValue_100 : decode prog_1_method_37_code 100 = .ok (.iload_n 3, 1) := by decide +kernel
theorem d_R_positionByValue_101 : decode prog_1_method_37_code 101 = .ok (.if_icmp .ne 11, 3) := by decide +kernel
theorem d_R_positionByValue_104 : decode prog_1_method_37_code 104 = .ok (.iload 8, 2) := by decide +kernel
theorem d_R_positionByValue_106 : decode prog_1_method_37_code 106 = .ok (.ifCond .eq 6, 3) := by decide +kernel
theorem d_R_positionByValue_109 : decode prog_1_method_37_code 109 = .ok (.iinc 6 1, 3) := by decide +kernel
theorem d_R_positionByValue_112 : decode prog_1_method_37_code 112 = .ok (.iinc 7 1, 3) := by decide +kernel
theorem d_R_positionByValue_115 : decode prog_1_method_37_code 115 = .ok (.goto (-70), 3) := by decide +kernel
theorem d_R_positionByValue_118 : decode prog_1_method_37_code 118 = .ok (.iload 6, 2) := by decide +kernel
theorem d_R_positionByValue_120 : decode prog_1_method_37_code 120 = .ok (.ireturn, 1) := by decide +kernel
theorem d_R_comeTo_0 : decode prog_1_method_33_code 0 = .ok (.aload_n 0, 1) := by decide +kernel
theorem d_R_comeTo_1 : decode prog_1_method_33_code 1 = .ok (.getfield 19, 3) := by decide +kernel
theorem d_R_comeTo_4 : decode prog_1_method_33_code 4 = .ok (.getfield 190, 3) := by decide +kernel
theorem d_R_comeTo_7 : decode prog_1_method_33_code 7 = .ok (.iload_n 1, 1) := by decide +kernel
theorem d_R_comeTo_8 : decode prog_1_method_33_code 8 = .ok (.iaload, 1) := by decide +kernel
theorem d_R_comeTo_9 : decode prog_1_method_33_code 9 = .ok (.istore_n 3, 1) := by decide +kernel
theorem d_R_comeTo_10 : decode prog_1_method_33_code 10 = .ok (.aload_n 0, 1) := by decide +kernel
theorem d_R_comeTo_11 : decode prog_1_method_33_code 11 = .ok (.getfield 29, 3) := by decide +kernel
theorem d_R_comeTo_14 : decode prog_1_method_33_code 14 = .ok (.iload_n 1, 1) := by decide +kernel
theorem d_R_comeTo_15 : decode prog_1_method_33_code 15 = .ok (.putfield 161, 3) := by decide +kernel
theorem d_R_comeTo_18 : decode prog_1_method_33_code 18 = .ok (.aload_n 0, 1) := by decide +kernel
theorem d_R_comeTo_19 : decode prog_1_method_33_code 19 = .ok (.getfield 29, 3) := by decide +kernel
theorem d_R_comeTo_22 : decode prog_1_method_33_code 22 = .ok (.getfield 167, 3) := by decide +kernel
theorem d_R_comeTo_25 : decode prog_1_method_33_code 25 = .ok (.iload_n 3, 1) := by decide +kernel
theorem d_R_comeTo_26 : decode prog_1_method_33_code 26 = .ok (.iload_n 1, 1) := by decide +kernel
theorem d_R_comeTo_27 : decode prog_1_method_33_code 27 = .ok (.iastore, 1) := by decide +kernel
theorem d_R_comeTo_28 : decode prog_1_method_33_code 28 = .ok (.iconst 0, 1) := by decide +kernel
theorem d_R_comeTo_29 : decode prog_1_method_33_code 29 = .ok (.istore 4, 2) := by decide +kernel
theorem d_R_comeTo_31 : decode prog_1_method_33_code 31 = .ok (.iload 4, 2) := by decide +kernel
theorem d_R_comeTo_33 : decode prog_1_method_33_code 33 = .ok (.aload_n 0, 1) := by decide +kernel
theorem d_R_comeTo_34 : decode prog_1_method_33_code 34 = .ok (.getfield 10, 3) := by decide +kernel
theorem d_R_comeTo_37 : decode prog_1_method_33_code 37 = .ok (.getfield 69, 3) := by decide +kernel
theorem d_R_comeTo_40 : decode prog_1_method_33_code 40 = .ok (.if_icmp .ge 68, 3) := by decide +kernel
theorem d_R_comeTo_43 : decode prog_1_method_33_code 43 = .ok (.aload_n 0, 1) := by decide +kernel
theorem d_R_comeTo_44 : decode prog_1_method_33_code 44 = .ok (.getfield 10, 3) := by decide +kernel
theorem d_R_comeTo_47 : decode prog_1_method_33_code 47 = .ok (.getfield 291, 3) := by decide +kernel
theorem d_R_comeTo_50 : decode prog_1_method_33_code 50 = .ok (.iload 4, 2) := by decide +kernel
theorem d_R_comeTo_52 : decode prog_1_method_33_code 52 = .ok (.iaload, 1) := by decide +kernel
theorem d_R_comeTo_53 : decode prog_1_method_33_code 53 = .ok (.iload_n 3, 1) := by decide +kernel
theorem d_R_comeTo_54 : decode prog_1_method_33_code 54 = .ok (.if_icmp .eq 16, 3) := by decide +kernel
theorem d_R_comeTo_57 : decode prog_1_method_33_code 57 = .ok (.aload_n 0, 1) := by decide +kernel
theorem d_R_comeTo_58 : decode prog_1_method_33_code 58 = .ok (.getfield 19, 3) := by decide +kernel
theorem d_R_comeTo_61 : decode prog_1_method_33_code 61 = .ok (.iload 4, 2) := by decide +kernel
theorem d_R_comeTo_63 : decode prog_1_method_33_code 63 = .ok (.iload_n 1, 1) := by decide +kernel
theorem d_R_comeTo_64 : decode prog_1_method_33_code 64 = .ok (.invokevirtual 193, 3) := by decide +kernel
theorem d_R_comeTo_67 : decode prog_1_method_33_code 67 = .ok (.ifCond .eq 7, 3) := by decide +kernel
theorem d_R_comeTo_70 : decode prog_1_method_33_code 70 = .ok (.iconst 1, 1) := by decide +kernel
theorem d_R_comeTo_71 : decode prog_1_method_33_code 71 = .ok (.goto 4, 3) := by decide +kernel
theorem d_R_comeTo_74 : decode prog_1_method_33_code 74 = .ok (.iconst 0, 1) := by decide +kernel
theorem d_R_comeTo_75 : decode prog_1_method_33_code 75 = .ok (.istore 5, 2) := by decide +kernel
theorem d_R_comeTo_77 : decode prog_1_method_33_code 77 = .ok (.iload 5, 2) := by decide +kernel
theorem d_R_comeTo_79 : decode prog_1_method_33_code 79 = .ok (.ifCond .eq 23, 3) := by decide +kernel
theorem d_R_comeTo_82 : decode prog_1_method_33_code 82 = .ok (.iload_n 2, 1) := by decide +kernel
theorem d_R_comeTo_83 : decode prog_1_method_33_code 83 = .ok (.iload 4, 2) := by decide +kernel
theorem d_R_comeTo_85 : decode prog_1_method_33_code 85 = .ok (.invokestatic 296, 3) := by decide +kernel
theorem d_R_comeTo_88 : decode prog_1_method_33_code 88 = .ok (.ifCond .ne 14, 3) := by decide +kernel
theorem d_R_comeTo_91 : decode prog_1_method_33_code 91 = .ok (.aload_n 0, 1) := by decide +kernel
theorem d_R_comeTo_92 : decode prog_1_method_33_code 92 = .ok (.getfield 29, 3) := by decide +kernel
theorem d_R_comeTo_95 : decode prog_1_method_33_code 95 = .ok (.getfield 154, 3) := by decide +kernel
theorem d_R_comeTo_98 : decode prog_1_method_33_code 98 = .ok (.iload 4, 2) := by decide +kernel
theorem d_R_comeTo_100 : decode prog_1_method_33_code 100 = .ok (.iload_n 1, 1) := by decide +kernel
theorem d_R_comeTo_101 : decode prog_1_method_33_code 101 = .ok (.iastore, 1) := by decide +kernel
theorem d_R_comeTo_102 : decode prog_1_method_33_code 102 = .ok (.iinc 4 1, 3) := by decide +kernel
theorem d_R_comeTo_105 : decode prog_1_method_33_code 105 = .ok (.goto (-74), 3) := by decide +kernel
theorem d_R_comeTo_108 : decode prog_1_method_33_code 108 = .ok (.return_, 1) := by decide +kernel
theorem d_R_hasBit_0 : decode prog_1_method_45_code 0 = .ok (.iload_n 1, 1) := by decide +kernel
theorem d_R_hasBit_1 : decode prog_1_method_45_code 1 = .ok (.ifCond .lt 15, 3) := by decide +kernel
theorem d_R_hasBit_4 : decode prog_1_method_45_code 4 = .ok (.iload_n 0, 1) := by decide +kernel
theorem d_R_hasBit_5 : decode prog_1_method_45_code 5 = .ok (.iload_n 1, 1) := by decide +kernel
theorem d_R_hasBit_6 : decode prog_1_method_45_code 6 = .ok (.ishr, 1) := by decide +kernel
theorem d_R_hasBit_7 : decode prog_1_method_45_code 7 = .ok (.iconst 1, 1) := by decide +kernel
theorem d_R_hasBit_8 : decode prog_1_method_45_code 8 = .ok (.iand, 1) := by decide +kernel
theorem d_R_hasBit_9 : decode prog_1_method_45_code 9 = .ok (.ifCond .eq 7, 3) := by decide +kernel
theorem d_R_hasBit_12 : decode prog_1_method_45_code 12 = .ok (.iconst 1, 1) := by decide +kernel
theorem d_R_hasBit_13 : decode prog_1_method_45_code 13 = .ok (.goto 4, 3) := by decide +kernel
theorem d_R_hasBit_16 : decode prog_1_method_45_code 16 = .ok (.iconst 0, 1) := by decide +kernel
theorem d_R_hasBit_17 : decode prog_1_method_45_code 17 = .ok (.ireturn, 1) := by decide +kernel
theorem d_R_find_0 : decode prog_1_method_5_code 0 = .ok (.aload_n 0, 1) := by decide +kernel
theorem d_R_find_1 : decode prog_1_method_5_code 1 = .ok (.aload_n 0, 1) := by decide +kernel
theorem d_R_find_2 : decode prog_1_method_5_code 2 = .ok (.iload_n 1, 1) := by decide +kernel
theorem d_R_find_3 : decode prog_1_method_5_code 3 = .ok (.invokevirtual 118, 3) := by decide +kernel
theorem d_R_find_6 : decode prog_1_method_5_code 6 = .ok (.iload_n 2, 1) := by decide +kernel
theorem d_R_find_7 : decode prog_1_method_5_code 7 = .ok (.invokevirtual 111, 3) := by decide +kernel
theorem d_R_find_10 : decode prog_1_method_5_code 10 = .ok (.return_, 1) := by decide +kernel
theorem d_R_requireRecord_0 : decode prog_1_method_23_code 0 = .ok (.aload_n 0, 1) := by decide +kernel
theorem d_R_requireRecord_1 : decode prog_1_method_23_code 1 = .ok (.getfield 19, 3) := by decide +kernel
theorem d_R_requireRecord_4 : decode prog_1_method_23_code 4 = .ok (.iload_n 1, 1) := by decide +kernel
theorem d_R_requireRecord_5 : decode prog_1_method_23_code 5 = .ok (.invokevirtual 258, 3) := by decide +kernel
theorem d_R_requireRecord_8 : decode prog_1_method_23_code 8 = .ok (.istore_n 2, 1) := by decide +kernel
theorem d_R_requireRecord_9 : decode prog_1_method_23_code 9 = .ok (.iload_n 2, 1) := by decide +kernel
theorem d_R_requireRecord_10 : decode prog_1_method_23_code 10 = .ok (.iconst (-1), 1) := by decide +kernel
theorem d_R_requireRecord_11 : decode prog_1_method_23_code 11 = .ok (.if_icmp .ne 14, 3) := by decide +kernel
theorem d_R_requireRecord_14 : decode prog_1_method_23_code 14 = .ok (.new 261, 3) := by decide +kernel
theorem d_R_requireRecord_17 : decode prog_1_method_23_code 17 = .ok (.dup, 1) := by decide +kernel
theorem d_R_requireRecord_18 : decode prog_1_method_23_code 18 = .ok (.ldc_w 263, 3) := by decide +kernel
theorem d_R_requireRecord_21 : decode prog_1_method_23_code 21 = .ok (.invokespecial 265, 3) := by decide +kernel
theorem d_R_requireRecord_24 : decode prog_1_method_23_code 24 = .ok (.athrow, 1) := by decide +kernel
theorem d_R_requireRecord_25 : decode prog_1_method_23_code 25 = .ok (.iload_n 2, 1) := by decide +kernel
theorem d_R_requireRecord_26 : decode prog_1_method_23_code 26 = .ok (.ireturn, 1) := by decide +kernel
theorem d_R_seek_0 : decode prog_1_method_6_code 0 = .ok (.aload_n 0, 1) := by decide +kernel
theorem d_R_seek_1 : decode prog_1_method_6_code 1 = .ok (.getfield 10, 3) := by decide +kernel
theorem d_R_seek_4 : decode prog_1_method_6_code 4 = .ok (.iload_n 1, 1) := by decide +kernel
theorem d_R_seek_5 : decode prog_1_method_6_code 5 = .ok (.iload_n 2, 1) := by decide +kernel
theorem d_R_seek_6 : decode prog_1_method_6_code 6 = .ok (.invokevirtual 121, 3) := by decide +kernel
theorem d_R_seek_9 : decode prog_1_method_6_code 9 = .ok (.ifCond .ne 13, 3) := by decide +kernel
theorem d_R_seek_12 : decode prog_1_method_6_code 12 = .ok (.new 37, 3) := by decide +kernel
theorem d_R_seek_15 : decode prog_1_method_6_code 15 = .ok (.dup, 1) := by decide +kernel
theorem d_R_seek_16 : decode prog_1_method_6_code 16 = .ok (.ldc 124, 2) := by decide +kernel
theorem d_R_seek_18 : decode prog_1_method_6_code 18 = .ok (.invokespecial 41, 3) := by decide +kernel
theorem d_R_seek_21 : decode prog_1_method_6_code 21 = .ok (.athrow, 1) := by decide +kernel
theorem d_R_seek_22 : decode prog_1_method_6_code 22 = .ok (.aload_n 0, 1) := by decide +kernel
theorem d_R_seek_23 : decode prog_1_method_6_code 23 = .ok (.aload_n 0, 1) := by decide +kernel
theorem d_R_seek_24 : decode prog_1_method_6_code 24 = .ok (.getfield 19, 3) := by decide +kernel
theorem d_R_seek_27 : decode prog_1_method_6_code 27 = .ok (.iload_n 1, 1) := by decide +kernel
theorem d_R_seek_28 : decode prog_1_method_6_code 28 = .ok (.iload_n 2, 1) := by decide +kernel
theorem d_R_seek_29 : decode prog_1_method_6_code 29 = .ok (.iload_n 3, 1) := by decide +kernel
theorem d_R_seek_30 : decode prog_1_method_6_code 30 = .ok (.invokevirtual 126, 3) := by decide +kernel
theorem d_R_seek_33 : decode prog_1_method_6_code 33 = .ok (.invokevirtual 130, 3) := by decide +kernel
theorem d_R_seek_36 : decode prog_1_method_6_code 36 = .ok (.ireturn, 1) := by decide +kernel
theorem d_R_comeToExisting_0 : decode prog_1_method_32_code 0 = .ok (.iload_n 1, 1) := by decide +kernel
theorem d_R_comeToExisting_1 : decode prog_1_method_32_code 1 = .ok (.iconst (-1), 1) := by decide +kernel
theorem d_R_comeToExisting_2 : decode prog_1_method_32_code 2 = .ok (.if_icmp .ne 14, 3) := by decide +kernel
theorem d_R_comeToExisting_5 : decode prog_1_method_32_code 5 = .ok (.new 261, 3) := by decide +kernel
theorem d_R_comeToExisting_8 : decode prog_1_method_32_code 8 = .ok (.dup, 1) := by decide +kernel
theorem d_R_comeToExisting_9 : decode prog_1_method_32_code 9 = .ok (.ldc_w 294, 3) := by decide +kernel
theorem d_R_comeToExisting_12 : decode prog_1_method_32_code 12 = .ok (.invokespecial 265, 3) := by decide +kernel
theorem d_R_comeToExisting_15 : decode prog_1_method_32_code 15 = .ok (.athrow, 1) := by decide +kernel
theorem d_R_comeToExisting_16 : decode prog_1_method_32_code 16 = .ok (.aload_n 0, 1) := by decide +kernel
theorem d_R_comeToExisting_17 : decode prog_1_method_32_code 17 = .ok (.iload_n 1, 1) := by decide +kernel
theorem d_R_comeToExisting_18 : decode prog_1_method_32_code 18 = .ok (.iconst 0, 1) := by decide +kernel
theorem d_R_comeToExisting_19 : decode prog_1_method_32_code 19 = .ok (.invokevirtual 111, 3) := by decide +kernel
theorem d_R_comeToExisting_22 : decode prog_1_method_32_code 22 = .ok (.aload_n 0, 1) := by decide +kernel
theorem d_R_comeToExisting_23 : decode prog_1_method_32_code 23 = .ok (.getfield 19, 3) := by decide +kernel
theorem d_R_comeToExisting_26 : decode prog_1_method_32_code 26 = .ok (.getfield 114, 3) := by decide +kernel
theorem d_R_comeToExisting_29 : decode prog_1_method_32_code 29 = .ok (.iload_n 1, 1) := by decide +kernel
theorem d_R_comeToExisting_30 : decode prog_1_method_32_code 30 = .ok (.iaload, 1) := by decide +kernel
theorem d_R_comeToExisting_31 : decode prog_1_method_32_code 31 = .ok (.ireturn, 1) := by decide +kernel
theorem d_R_move_0 : decode prog_1_method_7_code 0 = .ok (.aload_n 0, 1) := by decide +kernel
theorem d_R_move_1 : decode prog_1_method_7_code 1 = .ok (.iload_n 1, 1) := by decide +kernel
theorem d_R_move_2 : decode prog_1_method_7_code 2 = .ok (.invokevirtual 133, 3) := by decide +kernel
theorem d_R_move_5 : decode prog_1_method_7_code 5 = .ok (.iload_n 2, 1) := by decide +kernel
theorem d_R_move_6 : decode prog_1_method_7_code 6 = .ok (.ifCond .lt 8, 3) := by decide +kernel
theorem d_R_move_9 : decode prog_1_method_7_code 9 = .ok (.iload_n 2, 1) := by decide +kernel
theorem d_R_move_10 : decode prog_1_method_7_code 10 = .ok (.iconst 4, 1) := by decide +kernel
theorem d_R_move_11 : decode prog_1_method_7_code 11 = .ok (.if_icmp .le 13, 3) := by decide +kernel
theorem d_R_move_14 : decode prog_1_method_7_code 14 = .ok (.new 37, 3) := by decide +kernel
theorem d_R_move_17 : decode prog_1_method_7_code 17 = .ok (.dup, 1) := by decide +kernel
theorem d_R_move_18 : decode prog_1_method_7_code 18 = .ok (.ldc 136, 2) := by decide +kernel
theorem d_R_move_20 : decode prog_1_method_7_code 20 = .ok (.invokespecial 41, 3) := by decide +kernel
theorem d_R_move_23 : decode prog_1_method_7_code 23 = .ok (.athrow, 1) := by decide +kernel
theorem d_R_move_24 : decode prog_1_method_7_code 24 = .ok (.aload_n 0, 1) := by decide +kernel
theorem d_R_move_25 : decode prog_1_method_7_code 25 = .ok (.aload_n 0, 1) := by decide +kernel
theorem d_R_move_26 : decode prog_1_method_7_code 26 = .ok (.iload_n 1, 1) := by decide +kernel
theorem d_R_move_27 : decode prog_1_method_7_code 27 = .ok (.iload_n 2, 1) := by decide +kernel
theorem d_R_move_28 : decode prog_1_method_7_code 28 = .ok (.invokevirtual 138, 3) := by decide +kernel
theorem d_R_move_31 : decode prog_1_method_7_code 31 = .ok (.invokevirtual 130, 3) := by decide +kernel
theorem d_R_move_34 : decode prog_1_method_7_code 34 = .ok (.ireturn, 1) := by decide +kernel
theorem d_R_requireSet_0 : decode prog_1_method_21_code 0 = .ok (.aload_n 0, 1) := by decide +kernel
theorem d_R_requireSet_1 : decode prog_1_method_21_code 1 = .ok (.getfield 10, 3) := by decide +kernel
theorem d_R_requireSet_4 : decode prog_1_method_21_code 4 = .ok (.iload_n 1, 1) := by decide +kernel
theorem d_R_requireSet_5 : decode prog_1_method_21_code 5 = .ok (.invokevirtual 170, 3) := by decide +kernel
theorem d_R_requireSet_8 : decode prog_1_method_21_code 8 = .ok (.ifCond .ne 14, 3) := by decide +kernel
theorem d_R_requireSet_11 : decode prog_1_method_21_code 11 = .ok (.new 37, 3) := by decide +kernel
theorem d_R_requireSet_14 : decode prog_1_method_21_code 14 = .ok (.dup, 1) := by decide +kernel
theorem d_R_requireSet_15 : decode prog_1_method_21_code 15 = .ok (.ldc_w 256, 3) := by decide +kernel
theorem d_R_requireSet_18 : decode prog_1_method_21_code 18 = .ok (.invokespecial 41, 3) := by decide +kernel
theorem d_R_requireSet_21 : decode prog_1_method_21_code 21 = .ok (.athrow, 1) := by decide +kernel
theorem d_R_requireSet_22 : decode prog_1_method_21_code 22 = .ok (.return_, 1) := by decide +kernel
theorem d_R_placeToMoveTo_0 : decode prog_1_method_34_code 0 = .ok (.aload_n 0, 1) := by decide +kernel
theorem d_R_placeToMoveTo_1 : decode prog_1_method_34_code 1 = .ok (.getfield 29, 3) := by decide +kernel
theorem d_R_placeToMoveTo_4 : decode prog_1_method_34_code 4 = .ok (.getfield 154, 3) := by decide +kernel
theorem d_R_placeToMoveTo_7 : decode prog_1_method_34_code 7 = .ok (.iload_n 1, 1) := by decide +kernel
theorem d_R_placeToMoveTo_8 : decode prog_1_method_34_code 8 = .ok (.iaload, 1) := by decide +kernel
theorem d_R_placeToMoveTo_9 : decode prog_1_method_34_code 9 = .ok (.istore_n 3, 1) := by decide +kernel
theorem d_R_placeToMoveTo_10 : decode prog_1_method_34_code 10 = .ok (.aload_n 0, 1) := by decide +kernel
theorem d_R_placeToMoveTo_11 : decode prog_1_method_34_code 11 = .ok (.iload_n 1, 1) := by decide +kernel
theorem d_R_placeToMoveTo_12 : decode prog_1_method_34_code 12 = .ok (.invokevirtual 104, 3) := by decide +kernel
theorem d_R_placeToMoveTo_15 : decode prog_1_method_34_code 15 = .ok (.istore 4, 2) := by decide +kernel
theorem d_R_placeToMoveTo_17 : decode prog_1_method_34_code 17 = .ok (.iload_n 3, 1) := by decide +kernel
theorem d_R_placeToMoveTo_18 : decode prog_1_method_34_code 18 = .ok (.iconst (-1), 1) := by decide +kernel
theorem d_R_placeToMoveTo_19 : decode prog_1_method_34_code 19 = .ok (.if_icmp .eq 9, 3) := by decide +kernel
theorem d_R_placeToMoveTo_22 : decode prog_1_method_34_code 22 = .ok (.iload 4, 2) := by decide +kernel
theorem d_R_placeToMoveTo_24 : decode prog_1_method_34_code 24 = .ok (.iconst (-1), 1) := by decide +kernel
theorem d_R_placeToMoveTo_25 : decode prog_1_method_34_code 25 = .ok (.if_icmp .ne 5, 3) := by decide +kernel
theorem d_R_placeToMoveTo_28 : decode prog_1_method_34_code 28 = .ok (.iconst (-1), 1) := by decide +kernel
theorem d_R_placeToMoveTo_29 : decode prog_1_method_34_code 29 = .ok (.ireturn, 1) := by decide +kernel
theorem d_R_placeToMoveTo_30 : decode prog_1_method_34_code 30 = .ok (.aload_n 0, 1) := by decide +kernel
theorem d_R_placeToMoveTo_31 : decode prog_1_method_34_code 31 = .ok (.getfield 19, 3) := by decide +kernel
theorem d_R_placeToMoveTo_34 : decode prog_1_method_34_code 34 = .ok (.getfield 150, 3) := by decide +kernel
theorem d_R_placeToMoveTo_37 : decode prog_1_method_34_code 37 = .ok (.iload_n 1, 1) := by decide +kernel
theorem d_R_placeToMoveTo_38 : decode prog_1_method_34_code 38 = .ok (.aaload, 1) := by decide +kernel
theorem d_R_placeToMoveTo_39 : decode prog_1_method_34_code 39 = .ok (.iload_n 3, 1) := by decide +kernel
theorem d_R_placeToMoveTo_40 : decode prog_1_method_34_code 40 = .ok (.iaload, 1) := by decide +kernel
theorem d_R_placeToMoveTo_41 : decode prog_1_method_34_code 41 = .ok (.istore 5, 2) := by decide +kernel
theorem d_R_placeToMoveTo_43 : decode prog_1_method_34_code 43 = .ok (.aload_n 0, 1) := by decide +kernel
theorem d_R_placeToMoveTo_44 : decode prog_1_method_34_code 44 = .ok (.getfield 19, 3) := by decide +kernel
theorem d_R_placeToMoveTo_47 : decode prog_1_method_34_code 47 = .ok (.iload_n 1, 1) := by decide +kernel
theorem d_R_placeToMoveTo_48 : decode prog_1_method_34_code 48 = .ok (.iload 4, 2) := by decide +kernel
theorem d_R_placeToMoveTo_50 : decode prog_1_method_34_code 50 = .ok (.invokevirtual 240, 3) := by decide +kernel
theorem d_R_placeToMoveTo_53 : decode prog_1_method_34_code 53 = .ok (.istore 6, 2) := by decide +kernel
theorem d_R_placeToMoveTo_55 : decode prog_1_method_34_code 55 = .ok (.iload_n 2, 1) := by decide +kernel
theorem d_R_placeToMoveTo_56 : decode prog_1_method_34_code 56 = .ok (.tableswitch 102 0 3 #[32, 44, 59, 74], 32) := by decide +kernel
theorem d_R_placeToMoveTo_88 : decode prog_1_method_34_code 88 = .ok (.aload_n 0, 1) := by decide +kernel
theorem d_R_placeToMoveTo_89 : decode prog_1_method_34_code 89 = .ok (.getfield 19, 3) := by decide +kernel
theorem d_R_placeToMoveTo_92 : decode prog_1_method_34_code 92 = .ok (.iload_n 1, 1) := by decide +kernel
theorem d_R_placeToMoveTo_93 : decode prog_1_method_34_code 93 = .ok (.iload 4, 2) := by decide +kernel
theorem d_R_placeToMoveTo_95 : decode prog_1_method_34_code 95 = .ok (.iconst 0, 1) := by decide +kernel
theorem d_R_placeToMoveTo_96 : decode prog_1_method_34_code 96 = .ok (.invokevirtual 299, 3) := by decide +kernel
theorem d_R_placeToMoveTo_99 : decode prog_1_method_34_code 99 = .ok (.ireturn, 1) := by decide +kernel
theorem d_R_placeToMoveTo_100 : decode prog_1_method_34_code 100 = .ok (.aload_n 0, 1) := by decide +kernel
theorem d_R_placeToMoveTo_101 : decode prog_1_method_34_code 101 = .ok (.getfield 19, 3) := by decide +kernel
theorem d_R_placeToMoveTo_104 : decode prog_1_method_34_code 104 = .ok (.iload_n 1, 1) := by decide +kernel
theorem d_R_placeToMoveTo_105 : decode prog_1_method_34_code 105 = .ok (.iload 4, 2) := by decide +kernel
theorem d_R_placeToMoveTo_107 : decode prog_1_method_34_code 107 = .ok (.iload 6, 2) := by decide +kernel
theorem d_R_placeToMoveTo_109 : decode prog_1_method_34_code 109 = .ok (.iconst 1, 1) := by decide +kernel
theorem d_R_placeToMoveTo_110 : decode prog_1_method_34_code 110 = .ok (.isub, 1) := by decide +kernel
theorem d_R_placeToMoveTo_111 : decode prog_1_method_34_code 111 = .ok (.invokevirtual 299, 3) := by decide +kernel
theorem d_R_placeToMoveTo_114 : decode prog_1_method_34_code 114 = .ok (.ireturn, 1) := by decide +kernel
theorem d_R_placeToMoveTo_115 : decode prog_1_method_34_code 115 = .ok (.aload_n 0, 1) := by decide +kernel
theorem d_R_placeToMoveTo_116 : decode prog_1_method_34_code 116 = .ok (.getfield 19, 3) := by decide +kernel
theorem d_R_placeToMoveTo_119 : decode prog_1_method_34_code 119 = .ok (.iload_n 1, 1) := by decide +kernel
theorem d_R_placeToMoveTo_120 : decode prog_1_method_34_code 120 = .ok (.iload 4, 2) := by decide +kernel
theorem d_R_placeToMoveTo_122 : decode prog_1_method_34_code 122 = .ok (.iload 5, 2) := by decide +kernel
theorem d_R_placeToMoveTo_124 : decode prog_1_method_34_code 124 = .ok (.iconst 1, 1) := by decide +kernel
theorem d_R_placeToMoveTo_125 : decode prog_1_method_34_code 125 = .ok (.iadd, 1) := by decide +kernel
theorem d_R_placeToMoveTo_126 : decode prog_1_method_34_code 126 = .ok (.invokevirtual 299, 3) := by decide +kernel
theorem d_R_placeToMoveTo_129 : decode prog_1_method_34_code 129 = .ok (.ireturn, 1) := by decide +kernel
theorem d_R_placeToMoveTo_130 : decode prog_1_method_34_code 130 = .ok (.aload_n 0, 1) := by decide +kernel
theorem d_R_placeToMoveTo_131 : decode prog_1_method_34_code 131 = .ok (.getfield 19, 3) := by decide +kernel
theorem d_R_placeToMoveTo_134 : decode prog_1_method_34_code 134 = .ok (.iload_n 1, 1) := by decide +kernel
theorem d_R_placeToMoveTo_135 : decode prog_1_method_34_code 135 = .ok (.iload 4, 2) := by decide +kernel
theorem d_R_placeToMoveTo_137 : decode prog_1_method_34_code 137 = .ok (.iload_n 3, 1) := by decide +kernel
theorem d_R_placeToMoveTo_138 : decode prog_1_method_34_code 138 = .ok (.iload 4, 2) := by decide +kernel
theorem d_R_placeToMoveTo_140 : decode prog_1_method_34_code 140 = .ok (.if_icmp .ne 10, 3) := by decide +kernel
theorem d_R_placeToMoveTo_143 : decode prog_1_method_34_code 143 = .ok (.iload 6, 2) := by decide +kernel
theorem d_R_placeToMoveTo_145 : decode prog_1_method_34_code 145 = .ok (.iconst 1, 1) := by decide +kernel
theorem d_R_placeToMoveTo_146 : decode prog_1_method_34_code 146 = .ok (.isub, 1) := by decide +kernel
theorem d_R_placeToMoveTo_147 : decode prog_1_method_34_code 147 = .ok (.goto 7, 3) := by decide +kernel
theorem d_R_placeToMoveTo_150 : decode prog_1_method_34_code 150 = .ok (.iload 5, 2) := by decide +kernel
theorem d_R_placeToMoveTo_152 : decode prog_1_method_34_code 152 = .ok (.iconst 1, 1) := by decide +kernel
theorem d_R_placeToMoveTo_153 : decode prog_1_method_34_code 153 = .ok (.isub, 1) := by decide +kernel
theorem d_R_placeToMoveTo_154 : decode prog_1_method_34_code 154 = .ok (.invokevirtual 299, 3) := by decide +kernel
theorem d_R_placeToMoveTo_157 : decode prog_1_method_34_code 157 = .ok (.ireturn, 1) := by decide +kernel
theorem d_R_placeToMoveTo_158 : decode prog_1_method_34_code 158 = .ok (.iload 4, 2) := by decide +kernel
theorem d_R_placeToMoveTo_160 : decode prog_1_method_34_code 160 = .ok (.ireturn, 1) := by decide +kernel
theorem d_R_scan_0 : decode prog_1_method_8_code 0 = .ok (.aload_n 0, 1) := by decide +kernel
theorem d_R_scan_1 : decode prog_1_method_8_code 1 = .ok (.iload_n 1, 1) := by decide +kernel
theorem d_R_scan_2 : decode prog_1_method_8_code 2 = .ok (.invokevirtual 133, 3) := by decide +kernel
theorem d_R_scan_5 : decode prog_1_method_8_code 5 = .ok (.aload_n 0, 1) := by decide +kernel
theorem d_R_scan_6 : decode prog_1_method_8_code 6 = .ok (.getfield 10, 3) := by decide +kernel
theorem d_R_scan_9 : decode prog_1_method_8_code 9 = .ok (.aload_n 0, 1) := by decide +kernel
theorem d_R_scan_10 : decode prog_1_method_8_code 10 = .ok (.getfield 10, 3) := by decide +kernel
theorem d_R_scan_13 : decode prog_1_method_8_code 13 = .ok (.getfield 142, 3) := by decide +kernel
theorem d_R_scan_16 : decode prog_1_method_8_code 16 = .ok (.iload_n 1, 1) := by decide +kernel
theorem d_R_scan_17 : decode prog_1_method_8_code 17 = .ok (.iaload, 1) := by decide +kernel
theorem d_R_scan_18 : decode prog_1_method_8_code 18 = .ok (.iload_n 2, 1) := by decide +kernel
theorem d_R_scan_19 : decode prog_1_method_8_code 19 = .ok (.invokevirtual 121, 3) := by decide +kernel
theorem d_R_scan_22 : decode prog_1_method_8_code 22 = .ok (.ifCond .ne 13, 3) := by decide +kernel
theorem d_R_scan_25 : decode prog_1_method_8_code 25 = .ok (.new 37, 3) := by decide +kernel
theorem d_R_scan_28 : decode prog_1_method_8_code 28 = .ok (.dup, 1) := by decide +kernel
theorem d_R_scan_29 : decode prog_1_method_8_code 29 = .ok (.ldc 145, 2) := by decide +kernel
theorem d_R_scan_31 : decode prog_1_method_8_code 31 = .ok (.invokespecial 41, 3) := by decide +kernel
theorem d_R_scan_34 : decode prog_1_method_8_code 34 = .ok (.athrow, 1) := by decide +kernel
theorem d_R_scan_35 : decode prog_1_method_8_code 35 = .ok (.aload_n 0, 1) := by decide +kernel
theorem d_R_scan_36 : decode prog_1_method_8_code 36 = .ok (.iload_n 1, 1) := by decide +kernel
theorem d_R_scan_37 : decode prog_1_method_8_code 37 = .ok (.invokevirtual 147, 3) := by decide +kernel
theorem d_R_scan_40 : decode prog_1_method_8_code 40 = .ok (.istore 4, 2) := by decide +kernel
theorem d_R_scan_42 : decode prog_1_method_8_code 42 = .ok (.aload_n 0, 1) := by decide +kernel
theorem d_R_scan_43 : decode prog_1_method_8_code 43 = .ok (.getfield 19, 3) := by decide +kernel
theorem d_R_scan_46 : decode prog_1_method_8_code 46 = .ok (.getfield 150, 3) := by decide +kernel
theorem d_R_scan_49 : decode prog_1_method_8_code 49 = .ok (.iload_n 1, 1) := by decide +kernel
theorem d_R_scan_50 : decode prog_1_method_8_code 50 = .ok (.aaload, 1) := by decide +kernel
theorem d_R_scan_51 : decode prog_1_method_8_code 51 = .ok (.aload_n 0, 1) := by decide +kernel
theorem d_R_scan_52 : decode prog_1_method_8_code 52 = .ok (.getfield 29, 3) := by decide +kernel
theorem d_R_scan_55 : decode prog_1_method_8_code 55 = .ok (.getfield 154, 3) := by decide +kernel
theorem d_R_scan_58 : decode prog_1_method_8_code 58 = .ok (.iload_n 1, 1) := by decide +kernel
theorem d_R_scan_59 : decode prog_1_method_8_code 59 = .ok (.iaload, 1) := by decide +kernel
theorem d_R_scan_60 : decode prog_1_method_8_code 60 = .ok (.iaload, 1) := by decide +kernel
theorem d_R_scan_61 : decode prog_1_method_8_code 61 = .ok (.iconst 1, 1) := by decide +kernel
theorem d_R_scan_62 : decode prog_1_method_8_code 62 = .ok (.iadd, 1) := by decide +kernel
theorem d_R_scan_63 : decode prog_1_method_8_code 63 = .ok (.istore 5, 2) := by decide +kernel
theorem d_R_scan_65 : decode prog_1_method_8_code 65 = .ok (.aload_n 0, 1) := by decide +kernel
theorem d_R_scan_66 : decode prog_1_method_8_code 66 = .ok (.aload_n 0, 1) := by decide +kernel
theorem d_R_scan_67 : decode prog_1_method_8_code 67 = .ok (.getfield 19, 3) := by decide +kernel
theorem d_R_scan_70 : decode prog_1_method_8_code 70 = .ok (.iload_n 1, 1) := by decide +kernel
theorem d_R_scan_71 : decode prog_1_method_8_code 71 = .ok (.iload 4, 2) := by decide +kernel
theorem d_R_scan_73 : decode prog_1_method_8_code 73 = .ok (.iload 5, 2) := by decide +kernel
theorem d_R_scan_75 : decode prog_1_method_8_code 75 = .ok (.iload_n 2, 1) := by decide +kernel
theorem d_R_scan_76 : decode prog_1_method_8_code 76 = .ok (.iload_n 3, 1) := by decide +kernel
theorem d_R_scan_77 : decode prog_1_method_8_code 77 = .ok (.invokevirtual 157, 3) := by decide +kernel
theorem d_R_scan_80 : decode prog_1_method_8_code 80 = .ok (.invokevirtual 130, 3) := by decide +kernel
theorem d_R_scan_83 : decode prog_1_method_8_code 83 = .ok (.ireturn, 1) := by decide +kernel
theorem d_R_current_0 : decode prog_1_method_9_code 0 = .ok (.iload_n 1, 1) := by decide +kernel
theorem d_R_current_1 : decode prog_1_method_9_code 1 = .ok (.ifCond .ne 18, 3) := by decide +kernel
theorem d_R_current_4 : decode prog_1_method_9_code 4 = .ok (.aload_n 0, 1) := by decide +kernel
theorem d_R_current_5 : decode prog_1_method_9_code 5 = .ok (.getfield 19, 3) := by decide +kernel
theorem d_R_current_8 : decode prog_1_method_9_code 8 = .ok (.aload_n 0, 1) := by decide +kernel
theorem d_R_current_9 : decode prog_1_method_9_code 9 = .ok (.getfield 29, 3) := by decide +kernel
theorem d_R_current_12 : decode prog_1_method_9_code 12 = .ok (.getfield 161, 3) := by decide +kernel
theorem d_R_current_15 : decode prog_1_method_9_code 15 = .ok (.invokevirtual 164, 3) := by decide +kernel
theorem d_R_current_18 : decode prog_1_method_9_code 18 = .ok (.ireturn, 1) := by decide +kernel
theorem d_R_current_19 : decode prog_1_method_9_code 19 = .ok (.iload_n 1, 1) := by decide +kernel
theorem d_R_current_20 : decode prog_1_method_9_code 20 = .ok (.iconst 1, 1) := by decide +kernel
theorem d_R_current_21 : decode prog_1_method_9_code 21 = .ok (.if_icmp .ne 31, 3) := by decide +kernel
theorem d_R_current_24 : decode prog_1_method_9_code 24 = .ok (.aload_n 0, 1) := by decide +kernel
theorem d_R_current_25 : decode prog_1_method_9_code 25 = .ok (.getfield 10, 3) := by decide +kernel
theorem d_R_current_28 : decode prog_1_method_9_code 28 = .ok (.iload_n 2, 1) := by decide +kernel
theorem d_R_current_29 : decode prog_1_method_9_code 29 = .ok (.invokevirtual 57, 3) := by decide +kernel
theorem d_R_current_32 : decode prog_1_method_9_code 32 = .ok (.ifCond .eq 20, 3) := by decide +kernel
theorem d_R_current_35 : decode prog_1_method_9_code 35 = .ok (.aload_n 0, 1) := by decide +kernel
theorem d_R_current_36 : decode prog_1_method_9_code 36 = .ok (.getfield 19, 3) := by decide +kernel
theorem d_R_current_39 : decode prog_1_method_9_code 39 = .ok (.aload_n 0, 1) := by decide +kernel
theorem d_R_current_40 : decode prog_1_method_9_code 40 = .ok (.getfield 29, 3) := by decide +kernel
theorem d_R_current_43 : decode prog_1_method_9_code 43 = .ok (.getfield 167, 3) := by decide +kernel
theorem d_R_current_46 : decode prog_1_method_9_code 46 = .ok (.iload_n 2, 1) := by decide +kernel
theorem d_R_current_47 : decode prog_1_method_9_code 47 = .ok (.iaload, 1) := by decide +kernel
theorem d_R_current_48 : decode prog_1_method_9_code 48 = .ok (.invokevirtual 164, 3) := by decide +kernel
theorem d_R_current_51 : decode prog_1_method_9_code 51 = .ok (.ireturn, 1) := by decide +kernel
theorem d_R_current_52 : decode prog_1_method_9_code 52 = .ok (.iload_n 1, 1) := by decide +kernel
theorem d_R_current_53 : decode prog_1_method_9_code 53 = .ok (.iconst 2, 1) := by decide +kernel
theorem d_R_current_54 : decode prog_1_method_9_code 54 = .ok (.if_icmp .ne 31, 3) := by decide +kernel
theorem d_R_current_57 : decode prog_1_method_9_code 57 = .ok (.aload_n 0, 1) := by decide +kernel
theorem d_R_current_58 : decode prog_1_method_9_code 58 = .ok (.getfield 10, 3) := by decide +kernel
theorem d_R_current_61 : decode prog_1_method_9_code 61 = .ok (.iload_n 2, 1) := by decide +kernel
theorem d_R_current_62 : decode prog_1_method_9_code 62 = .ok (.invokevirtual 170, 3) := by decide +kernel
theorem d_R_current_65 : decode prog_1_method_9_code 65 = .ok (.ifCond .eq 20, 3) := by decide +kernel
theorem d_R_current_68 : decode prog_1_method_9_code 68 = .ok (.aload_n 0, 1) := by decide +kernel
theorem d_R_current_69 : decode prog_1_method_9_code 69 = .ok (.getfield 19, 3) := by decide +kernel
theorem d_R_current_72 : decode prog_1_method_9_code 72 = .ok (.aload_n 0, 1) := by decide +kernel
theorem d_R_current_73 : decode prog_1_method_9_code 73 = .ok (.getfield 29, 3) := by decide +kernel
theorem d_R_current_76 : decode prog_1_method_9_code 76 = .ok (.getfield 154, 3) := by decide +kernel
theorem d_R_current_79 : decode prog_1_method_9_code 79 = .ok (.iload_n 2, 1) := by decide +kernel
theorem d_R_current_80 : decode prog_1_method_9_code 80 = .ok (.iaload, 1) := by decide +kernel
theorem d_R_current_81 : decode prog_1_method_9_code 81 = .ok (.invokevirtual 164, 3) := by decide +kernel
theorem d_R_current_84 : decode prog_1_method_9_code 84 = .ok (.ireturn, 1) := by decide +kernel
theorem d_R_current_85 : decode prog_1_method_9_code 85 = .ok (.new 37, 3) := by decide +kernel
theorem d_R_current_88 : decode prog_1_method_9_code 88 = .ok (.dup, 1) := by decide +kernel
theorem d_R_current_89 : decode prog_1_method_9_code 89 = .ok (.ldc 173, 2) := by decide +kernel
theorem d_R_current_91 : decode prog_1_method_9_code 91 = .ok (.invokespecial 41, 3) := by decide +kernel
theorem d_R_current_94 : decode prog_1_method_9_code 94 = .ok (.athrow, 1) := by decide +kernel
theorem d_R_get_0 : decode prog_1_method_10_code 0 = .ok (.aload_n 0, 1) := by decide +kernel
theorem d_R_get_1 : decode prog_1_method_10_code 1 = .ok (.invokevirtual 175, 3) := by decide +kernel
theorem d_R_get_4 : decode prog_1_method_10_code 4 = .ok (.istore_n 2, 1) := by decide +kernel
theorem d_R_get_5 : decode prog_1_method_10_code 5 = .ok (.aload_n 0, 1) := by decide +kernel
theorem d_R_get_6 : decode prog_1_method_10_code 6 = .ok (.iload_n 2, 1) := by decide +kernel
theorem d_R_get_7 : decode prog_1_method_10_code 7 = .ok (.iload_n 1, 1) := by decide +kernel
theorem d_R_get_8 : decode prog_1_method_10_code 8 = .ok (.invokevirtual 178, 3) := by decide +kernel
theorem d_R_get_11 : decode prog_1_method_10_code 11 = .ok (.aload_n 0, 1) := by decide +kernel
theorem d_R_get_12 : decode prog_1_method_10_code 12 = .ok (.getfield 19, 3) := by decide +kernel
theorem d_R_get_15 : decode prog_1_method_10_code 15 = .ok (.getfield 181, 3) := by decide +kernel
theorem d_R_get_18 : decode prog_1_method_10_code 18 = .ok (.iload_n 1, 1) := by decide +kernel
theorem d_R_get_19 : decode prog_1_method_10_code 19 = .ok (.aaload, 1) := by decide +kernel
theorem d_R_get_20 : decode prog_1_method_10_code 20 = .ok (.iload_n 2, 1) := by decide +kernel
theorem d_R_get_21 : decode prog_1_method_10_code 21 = .ok (.iaload, 1) := by decide +kernel
theorem d_R_get_22 : decode prog_1_method_10_code 22 = .ok (.ireturn, 1) := by decide +kernel
theorem d_R_requireRunRecord_0 : decode prog_1_method_24_code 0 = .ok (.aload_n 0, 1) := by decide +kernel
theorem d_R_requireRunRecord_1 : decode prog_1_method_24_code 1 = .ok (.getfield 29, 3) := by decide +kernel
theorem d_R_requireRunRecord_4 : decode prog_1_method_24_code 4 = .ok (.getfield 161, 3) := by decide +kernel
theorem d_R_requireRunRecord_7 : decode prog_1_method_24_code 7 = .ok (.iconst (-1), 1) := by decide +kernel
theorem d_R_requireRunRecord_8 : decode prog_1_method_24_code 8 = .ok (.if_icmp .ne 14, 3) := by decide +kernel
theorem d_R_requireRunRecord_11 : decode prog_1_method_24_code 11 = .ok (.new 261, 3) := by decide +kernel
theorem d_R_requireRunRecord_14 : decode prog_1_method_24_code 14 = .ok (.dup, 1) := by decide +kernel
theorem d_R_requireRunRecord_15 : decode prog_1_method_24_code 15 = .ok (.ldc_w 266, 3) := by decide +kernel
theorem d_R_requireRunRecord_18 : decode prog_1_method_24_code 18 = .ok (.invokespecial 265, 3) := by decide +kernel
theorem d_R_requireRunRecord_21 : decode prog_1_method_24_code 21 = .ok (.athrow, 1) := by decide +kernel
theorem d_R_requireRunRecord_22 : decode prog_1_method_24_code 22 = .ok (.aload_n 0, 1) := by decide +kernel
theorem d_R_requireRunRecord_23 : decode prog_1_method_24_code 23 = .ok (.getfield 29, 3) := by decide +kernel
theorem d_R_requireRunRecord_26 : decode prog_1_method_24_code 26 = .ok (.getfield 161, 3) := by decide +kernel
theorem d_R_requireRunRecord_29 : decode prog_1_method_24_code 29 = .ok (.ireturn, 1) := by decide +kernel
theorem d_R_requireFieldOf_0 : decode prog_1_method_22_code 0 = .ok (.aload_n 0, 1) := by decide +kernel
theorem d_R_requireFieldOf_1 : decode prog_1_method_22_code 1 = .ok (.getfield 10, 3) := by decide +kernel
theorem d_R_requireFieldOf_4 : decode prog_1_method_22_code 4 = .ok (.aload_n 0, 1) := by decide +kernel
theorem d_R_requireFieldOf_5 : decode prog_1_method_22_code 5 = .ok (.getfield 19, 3) := by decide +kernel
theorem d_R_requireFieldOf_8 : decode prog_1_method_22_code 8 = .ok (.getfield 190, 3) := by decide +kernel
theorem d_R_requireFieldOf_11 : decode prog_1_method_22_code 11 = .ok (.iload_n 1, 1) := by decide +kernel
theorem d_R_requireFieldOf_12 : decode prog_1_method_22_code 12 = .ok (.iaload, 1) := by decide +kernel
theorem d_R_requireFieldOf_13 : decode prog_1_method_22_code 13 = .ok (.iload_n 2, 1) := by decide +kernel
theorem d_R_requireFieldOf_14 : decode prog_1_method_22_code 14 = .ok (.invokevirtual 121, 3) := by decide +kernel
theorem d_R_requireFieldOf_17 : decode prog_1_method_22_code 17 = .ok (.ifCond .ne 13, 3) := by decide +kernel
theorem d_R_requireFieldOf_20 : decode prog_1_method_22_code 20 = .ok (.new 37, 3) := by decide +kernel
theorem d_R_requireFieldOf_23 : decode prog_1_method_22_code 23 = .ok (.dup, 1) := by decide +kernel
theorem d_R_requireFieldOf_24 : decode prog_1_method_22_code 24 = .ok (.ldc 145, 2) := by decide +kernel
theorem d_R_requireFieldOf_26 : decode prog_1_method_22_code 26 = .ok (.invokespecial 41, 3) := by decide +kernel
theorem d_R_requireFieldOf_29 : decode prog_1_method_22_code 29 = .ok (.athrow, 1) := by decide +kernel
theorem d_R_requireFieldOf_30 : decode prog_1_method_22_code 30 = .ok (.return_, 1) := by decide +kernel
theorem d_R_modify_0 : decode prog_1_method_11_code 0 = .ok (.aload_n 0, 1) := by decide +kernel
theorem d_R_modify_1 : decode prog_1_method_11_code 1 = .ok (.invokevirtual 175, 3) := by decide +kernel
theorem d_R_modify_4 : decode prog_1_method_11_code 4 = .ok (.istore_n 3, 1) := by decide +kernel
theorem d_R_modify_5 : decode prog_1_method_11_code 5 = .ok (.aload_n 0, 1) := by decide +kernel
theorem d_R_modify_6 : decode prog_1_method_11_code 6 = .ok (.iload_n 3, 1) := by decide +kernel
theorem d_R_modify_7 : decode prog_1_method_11_code 7 = .ok (.iload_n 1, 1) := by decide +kernel
theorem d_R_modify_8 : decode prog_1_method_11_code 8 = .ok (.invokevirtual 178, 3) := by decide +kernel
theorem d_R_modify_11 : decode prog_1_method_11_code 11 = .ok (.aload_n 0, 1) := by decide +kernel
theorem d_R_modify_12 : decode prog_1_method_11_code 12 = .ok (.getfield 19, 3) := by decide +kernel
theorem d_R_modify_15 : decode prog_1_method_11_code 15 = .ok (.getfield 181, 3) := by decide +kernel
theorem d_R_modify_18 : decode prog_1_method_11_code 18 = .ok (.iload_n 1, 1) := by decide +kernel
theorem d_R_modify_19 : decode prog_1_method_11_code 19 = .ok (.aaload, 1) := by decide +kernel
theorem d_R_modify_20 : decode prog_1_method_11_code 20 = .ok (.iload_n 3, 1) := by decide +kernel
theorem d_R_modify_21 : decode prog_1_method_11_code 21 = .ok (.iaload, 1) := by decide +kernel
theorem d_R_modify_22 : decode prog_1_method_11_code 22 = .ok (.iload_n 2, 1) := by decide +kernel
theorem d_R_modify_23 : decode prog_1_method_11_code 23 = .ok (.if_icmp .eq 28, 3) := by decide +kernel
theorem d_R_modify_26 : decode prog_1_method_11_code 26 = .ok (.aload_n 0, 1) := by decide +kernel
theorem d_R_modify_27 : decode prog_1_method_11_code 27 = .ok (.iload_n 3, 1) := by decide +kernel
theorem d_R_modify_28 : decode prog_1_method_11_code 28 = .ok (.iload_n 1, 1) := by decide +kernel
theorem d_R_modify_29 : decode prog_1_method_11_code 29 = .ok (.iload_n 2, 1) := by decide +kernel
theorem d_R_modify_30 : decode prog_1_method_11_code 30 = .ok (.invokevirtual 184, 3) := by decide +kernel
theorem d_R_modify_33 : decode prog_1_method_11_code 33 = .ok (.aload_n 0, 1) := by decide +kernel
theorem d_R_modify_34 : decode prog_1_method_11_code 34 = .ok (.getfield 19, 3) := by decide +kernel
theorem d_R_modify_37 : decode prog_1_method_11_code 37 = .ok (.getfield 181, 3) := by decide +kernel
theorem d_R_modify_40 : decode prog_1_method_11_code 40 = .ok (.iload_n 1, 1) := by decide +kernel
theorem d_R_modify_41 : decode prog_1_method_11_code 41 = .ok (.aaload, 1) := by decide +kernel
theorem d_R_modify_42 : decode prog_1_method_11_code 42 = .ok (.iload_n 3, 1) := by decide +kernel
theorem d_R_modify_43 : decode prog_1_method_11_code 43 = .ok (.iload_n 2, 1) := by decide +kernel
theorem d_R_modify_44 : decode prog_1_method_11_code 44 = .ok (.iastore, 1) := by decide +kernel
theorem d_R_modify_45 : decode prog_1_method_11_code 45 = .ok (.aload_n 0, 1) := by decide +kernel
theorem d_R_modify_46 : decode prog_1_method_11_code 46 = .ok (.iload_n 3, 1) := by decide +kernel
theorem d_R_modify_47 : decode prog_1_method_11_code 47 = .ok (.iload_n 1, 1) := by decide +kernel
theorem d_R_modify_48 : decode prog_1_method_11_code 48 = .ok (.invokevirtual 187, 3) := by decide +kernel
theorem d_R_modify_51 : decode prog_1_method_11_code 51 = .ok (.aload_n 0, 1) := by decide +kernel
theorem d_R_modify_52 : decode prog_1_method_11_code 52 = .ok (.iload_n 3, 1) := by decide +kernel
theorem d_R_modify_53 : decode prog_1_method_11_code 53 = .ok (.iconst 0, 1) := by decide +kernel
theorem d_R_modify_54 : decode prog_1_method_11_code 54 = .ok (.invokevirtual 111, 3) := by decide +kernel
theorem d_R_modify_57 : decode prog_1_method_11_code 57 = .ok (.return_, 1) := by decide +kernel
theorem d_R_requireNoRefusalToSort_0 : decode prog_1_method_29_code 0 = .ok (.iconst 0, 1) := by decide +kernel
theorem d_R_requireNoRefusalToSort_1 : decode prog_1_method_29_code 1 = .ok (.istore 4, 2) := by decide +kernel
theorem d_R_requireNoRefusalToSort_3 : decode prog_1_method_29_code 3 = .ok (.iload 4, 2) := by decide +kernel
theorem d_R_requireNoRefusalToSort_5 : decode prog_1_method_29_code 5 = .ok (.aload_n 0, 1) := by decide +kernel
theorem d_R_requireNoRefusalToSort_6 : decode prog_1_method_29_code 6 = .ok (.getfield 10, 3) := by decide +kernel
theorem d_R_requireNoRefusalToSort_9 : decode prog_1_method_29_code 9 = .ok (.getfield 69, 3) := by decide +kernel
theorem d_R_requireNoRefusalToSort_12 : decode prog_1_method_29_code 12 = .ok (.if_icmp .ge 55, 3) := by decide +kernel
theorem d_R_requireNoRefusalToSort_15 : decode prog_1_method_29_code 15 = .ok (.aload_n 0, 1) := by decide +kernel
theorem d_R_requireNoRefusalToSort_16 : decode prog_1_method_29_code 16 = .ok (.getfield 10, 3) := by decide +kernel
theorem d_R_requireNoRefusalToSort_19 : decode prog_1_method_29_code 19 = .ok (.iload 4, 2) := by decide +kernel
theorem d_R_requireNoRefusalToSort_21 : decode prog_1_method_29_code 21 = .ok (.iload_n 2, 1) := by decide +kernel
theorem d_R_requireNoRefusalToSort_22 : decode prog_1_method_29_code 22 = .ok (.invokevirtual 279, 3) := by decide +kernel
theorem d_R_requireNoRefusalToSort_25 : decode prog_1_method_29_code 25 = .ok (.ifCond .eq 36, 3) := by decide +kernel
theorem d_R_requireNoRefusalToSort_28 : decode prog_1_method_29_code 28 = .ok (.aload_n 0, 1) := by decide +kernel
theorem d_R_requireNoRefusalToSort_29 : decode prog_1_method_29_code 29 = .ok (.getfield 19, 3) := by decide +kernel
theorem d_R_requireNoRefusalToSort_32 : decode prog_1_method_29_code 32 = .ok (.iload 4, 2) := by decide +kernel
theorem d_R_requireNoRefusalToSort_34 : decode prog_1_method_29_code 34 = .ok (.iload_n 1, 1) := by decide +kernel
theorem d_R_requireNoRefusalToSort_35 : decode prog_1_method_29_code 35 = .ok (.invokevirtual 193, 3) := by decide +kernel
theorem d_R_requireNoRefusalToSort_38 : decode prog_1_method_29_code 38 = .ok (.ifCond .eq 23, 3) := by decide +kernel
theorem d_R_requireNoRefusalToSort_41 : decode prog_1_method_29_code 41 = .ok (.aload_n 0, 1) := by decide +kernel
theorem d_R_requireNoRefusalToSort_42 : decode prog_1_method_29_code 42 = .ok (.iload 4, 2) := by decide +kernel
theorem d_R_requireNoRefusalToSort_44 : decode prog_1_method_29_code 44 = .ok (.iload_n 1, 1) := by decide +kernel
theorem d_R_requireNoRefusalToSort_45 : decode prog_1_method_29_code 45 = .ok (.aload_n 0, 1) := by decide +kernel
theorem d_R_requireNoRefusalToSort_46 : decode prog_1_method_29_code 46 = .ok (.getfield 19, 3) := by decide +kernel
theorem d_R_requireNoRefusalToSort_49 : decode prog_1_method_29_code 49 = .ok (.getfield 243, 3) := by decide +kernel
theorem d_R_requireNoRefusalToSort_52 : decode prog_1_method_29_code 52 = .ok (.iload 4, 2) := by decide +kernel
theorem d_R_requireNoRefusalToSort_54 : decode prog_1_method_29_code 54 = .ok (.aaload, 1) := by decide +kernel
theorem d_R_requireNoRefusalToSort_55 : decode prog_1_method_29_code 55 = .ok (.iload_n 1, 1) := by decide +kernel
theorem d_R_requireNoRefusalToSort_56 : decode prog_1_method_29_code 56 = .ok (.iaload, 1) := by decide +kernel
theorem d_R_requireNoRefusalToSort_57 : decode prog_1_method_29_code 57 = .ok (.iload_n 3, 1) := by decide +kernel
theorem d_R_requireNoRefusalToSort_58 : decode prog_1_method_29_code 58 = .ok (.invokevirtual 276, 3) := by decide +kernel
theorem d_R_requireNoRefusalToSort_61 : decode prog_1_method_29_code 61 = .ok (.iinc 4 1, 3) := by decide +kernel
theorem d_R_requireNoRefusalToSort_64 : decode prog_1_method_29_code 64 = .ok (.goto (-61), 3) := by decide +kernel
theorem d_R_requireNoRefusalToSort_67 : decode prog_1_method_29_code 67 = .ok (.return_, 1) := by decide +kernel
theorem d_R_sortAgain_0 : decode prog_1_method_38_code 0 = .ok (.iconst 0, 1) := by decide +kernel
theorem d_R_sortAgain_1 : decode prog_1_method_38_code 1 = .ok (.istore_n 3, 1) := by decide +kernel
theorem d_R_sortAgain_2 : decode prog_1_method_38_code 2 = .ok (.iload_n 3, 1) := by decide +kernel
theorem d_R_sortAgain_3 : decode prog_1_method_38_code 3 = .ok (.aload_n 0, 1) := by decide +kernel
theorem d_R_sortAgain_4 : decode prog_1_method_38_code 4 = .ok (.getfield 10, 3) := by decide +kernel
theorem d_R_sortAgain_7 : decode prog_1_method_38_code 7 = .ok (.getfield 69, 3) := by decide +kernel
theorem d_R_sortAgain_10 : decode prog_1_method_38_code 10 = .ok (.if_icmp .ge 63, 3) := by decide +kernel
theorem d_R_sortAgain_13 : decode prog_1_method_38_code 13 = .ok (.aload_n 0, 1) := by decide +kernel
theorem d_R_sortAgain_14 : decode prog_1_method_38_code 14 = .ok (.getfield 10, 3) := by decide +kernel
theorem d_R_sortAgain_17 : decode prog_1_method_38_code 17 = .ok (.iload_n 3, 1) := by decide +kernel
theorem d_R_sortAgain_18 : decode prog_1_method_38_code 18 = .ok (.iload_n 2, 1) := by decide +kernel
theorem d_R_sortAgain_19 : decode prog_1_method_38_code 19 = .ok (.invokevirtual 279, 3) := by decide +kernel
theorem d_R_sortAgain_22 : decode prog_1_method_38_code 22 = .ok (.ifCond .eq 45, 3) := by decide +kernel
theorem d_R_sortAgain_25 : decode prog_1_method_38_code 25 = .ok (.aload_n 0, 1) := by decide +kernel
theorem d_R_sortAgain_26 : decode prog_1_method_38_code 26 = .ok (.getfield 19, 3) := by decide +kernel
theorem d_R_sortAgain_29 : decode prog_1_method_38_code 29 = .ok (.iload_n 3, 1) := by decide +kernel
theorem d_R_sortAgain_30 : decode prog_1_method_38_code 30 = .ok (.iload_n 1, 1) := by decide +kernel
theorem d_R_sortAgain_31 : decode prog_1_method_38_code 31 = .ok (.invokevirtual 193, 3) := by decide +kernel
theorem d_R_sortAgain_34 : decode prog_1_method_38_code 34 = .ok (.ifCond .eq 33, 3) := by decide +kernel
theorem d_R_sortAgain_37 : decode prog_1_method_38_code 37 = .ok (.aload_n 0, 1) := by decide +kernel
theorem d_R_sortAgain_38 : decode prog_1_method_38_code 38 = .ok (.getfield 19, 3) := by decide +kernel
theorem d_R_sortAgain_41 : decode prog_1_method_38_code 41 = .ok (.getfield 243, 3) := by decide +kernel
theorem d_R_sortAgain_44 : decode prog_1_method_38_code 44 = .ok (.iload_n 3, 1) := by decide +kernel
theorem d_R_sortAgain_45 : decode prog_1_method_38_code 45 = .ok (.aaload, 1) := by decide +kernel
theorem d_R_sortAgain_46 : decode prog_1_method_38_code 46 = .ok (.iload_n 1, 1) := by decide +kernel
theorem d_R_sortAgain_47 : decode prog_1_method_38_code 47 = .ok (.iaload, 1) := by decide +kernel
theorem d_R_sortAgain_48 : decode prog_1_method_38_code 48 = .ok (.istore 4, 2) := by decide +kernel
theorem d_R_sortAgain_50 : decode prog_1_method_38_code 50 = .ok (.aload_n 0, 1) := by decide +kernel
theorem d_R_sortAgain_51 : decode prog_1_method_38_code 51 = .ok (.getfield 19, 3) := by decide +kernel
theorem d_R_sortAgain_54 : decode prog_1_method_38_code 54 = .ok (.iload_n 3, 1) := by decide +kernel
theorem d_R_sortAgain_55 : decode prog_1_method_38_code 55 = .ok (.iload_n 1, 1) := by decide +kernel
theorem d_R_sortAgain_56 : decode prog_1_method_38_code 56 = .ok (.invokevirtual 209, 3) := by decide +kernel
theorem d_R_sortAgain_59 : decode prog_1_method_38_code 59 = .ok (.aload_n 0, 1) := by decide +kernel
theorem d_R_sortAgain_60 : decode prog_1_method_38_code 60 = .ok (.iload_n 3, 1) := by decide +kernel
theorem d_R_sortAgain_61 : decode prog_1_method_38_code 61 = .ok (.iload_n 1, 1) := by decide +kernel
theorem d_R_sortAgain_62 : decode prog_1_method_38_code 62 = .ok (.iload 4, 2) := by decide +kernel
theorem d_R_sortAgain_64 : decode prog_1_method_38_code 64 = .ok (.invokevirtual 107, 3) := by decide +kernel
theorem d_R_sortAgain_67 : decode prog_1_method_38_code 67 = .ok (.iinc 3 1, 3) := by decide +kernel
theorem d_R_sortAgain_70 : decode prog_1_method_38_code 70 = .ok (.goto (-68), 3) := by decide +kernel
theorem d_R_sortAgain_73 : decode prog_1_method_38_code 73 = .ok (.return_, 1) := by decide +kernel
theorem d_R_connect_0 : decode prog_1_method_12_code 0 = .ok (.aload_n 0, 1) := by decide +kernel
theorem d_R_connect_1 : decode prog_1_method_12_code 1 = .ok (.iload_n 1, 1) := by decide +kernel
theorem d_R_connect_2 : decode prog_1_method_12_code 2 = .ok (.invokevirtual 133, 3) := by decide +kernel
theorem d_R_connect_5 : decode prog_1_method_12_code 5 = .ok (.aload_n 0, 1) := by decide +kernel
theorem d_R_connect_6 : decode prog_1_method_12_code 6 = .ok (.invokevirtual 175, 3) := by decide +kernel
theorem d_R_connect_9 : decode prog_1_method_12_code 9 = .ok (.istore_n 2, 1) := by decide +kernel
theorem d_R_connect_10 : decode prog_1_method_12_code 10 = .ok (.aload_n 0, 1) := by decide +kernel
theorem d_R_connect_11 : decode prog_1_method_12_code 11 = .ok (.iload_n 1, 1) := by decide +kernel
theorem d_R_connect_12 : decode prog_1_method_12_code 12 = .ok (.invokevirtual 147, 3) := by decide +kernel
theorem d_R_connect_15 : decode prog_1_method_12_code 15 = .ok (.istore_n 3, 1) := by decide +kernel
theorem d_R_connect_16 : decode prog_1_method_12_code 16 = .ok (.aload_n 0, 1) := by decide +kernel
theorem d_R_connect_17 : decode prog_1_method_12_code 17 = .ok (.getfield 19, 3) := by decide +kernel
theorem d_R_connect_20 : decode prog_1_method_12_code 20 = .ok (.getfield 190, 3) := by decide +kernel
theorem d_R_connect_23 : decode prog_1_method_12_code 23 = .ok (.iload_n 2, 1) := by decide +kernel
theorem d_R_connect_24 : decode prog_1_method_12_code 24 = .ok (.iaload, 1) := by decide +kernel
theorem d_R_connect_25 : decode prog_1_method_12_code 25 = .ok (.aload_n 0, 1) := by decide +kernel
theorem d_R_connect_26 : decode prog_1_method_12_code 26 = .ok (.getfield 10, 3) := by decide +kernel
theorem d_R_connect_29 : decode prog_1_method_12_code 29 = .ok (.getfield 142, 3) := by decide +kernel
theorem d_R_connect_32 : decode prog_1_method_12_code 32 = .ok (.iload_n 1, 1) := by decide +kernel
theorem d_R_connect_33 : decode prog_1_method_12_code 33 = .ok (.iaload, 1) := by decide +kernel
theorem d_R_connect_34 : decode prog_1_method_12_code 34 = .ok (.if_icmp .ne 15, 3) := by decide +kernel
theorem d_R_connect_37 : decode prog_1_method_12_code 37 = .ok (.aload_n 0, 1) := by decide +kernel
theorem d_R_connect_38 : decode prog_1_method_12_code 38 = .ok (.getfield 19, 3) := by decide +kernel
theorem d_R_connect_41 : decode prog_1_method_12_code 41 = .ok (.iload_n 1, 1) := by decide +kernel
theorem d_R_connect_42 : decode prog_1_method_12_code 42 = .ok (.iload_n 2, 1) := by decide +kernel
theorem d_R_connect_43 : decode prog_1_method_12_code 43 = .ok (.invokevirtual 193, 3) := by decide +kernel
theorem d_R_connect_46 : decode prog_1_method_12_code 46 = .ok (.ifCond .eq 13, 3) := by decide +kernel
theorem d_R_connect_49 : decode prog_1_method_12_code 49 = .ok (.new 48, 3) := by decide +kernel
theorem d_R_connect_52 : decode prog_1_method_12_code 52 = .ok (.dup, 1) := by decide +kernel
theorem d_R_connect_53 : decode prog_1_method_12_code 53 = .ok (.ldc 196, 2) := by decide +kernel
theorem d_R_connect_55 : decode prog_1_method_12_code 55 = .ok (.invokespecial 52, 3) := by decide +kernel
theorem d_R_connect_58 : decode prog_1_method_12_code 58 = .ok (.athrow, 1) := by decide +kernel
theorem d_R_connect_59 : decode prog_1_method_12_code 59 = .ok (.aload_n 0, 1) := by decide +kernel
theorem d_R_connect_60 : decode prog_1_method_12_code 60 = .ok (.iload_n 1, 1) := by decide +kernel
theorem d_R_connect_61 : decode prog_1_method_12_code 61 = .ok (.iload_n 2, 1) := by decide +kernel
theorem d_R_connect_62 : decode prog_1_method_12_code 62 = .ok (.iload_n 3, 1) := by decide +kernel
theorem d_R_connect_63 : decode prog_1_method_12_code 63 = .ok (.invokevirtual 198, 3) := by decide +kernel
theorem d_R_connect_66 : decode prog_1_method_12_code 66 = .ok (.aload_n 0, 1) := by decide +kernel
theorem d_R_connect_67 : decode prog_1_method_12_code 67 = .ok (.iload_n 1, 1) := by decide +kernel
theorem d_R_connect_68 : decode prog_1_method_12_code 68 = .ok (.iload_n 2, 1) := by decide +kernel
theorem d_R_connect_69 : decode prog_1_method_12_code 69 = .ok (.iload_n 3, 1) := by decide +kernel
theorem d_R_connect_70 : decode prog_1_method_12_code 70 = .ok (.invokevirtual 107, 3) := by decide +kernel
theorem d_R_connect_73 : decode prog_1_method_12_code 73 = .ok (.aload_n 0, 1) := by decide +kernel
theorem d_R_connect_74 : decode prog_1_method_12_code 74 = .ok (.iload_n 2, 1) := by decide +kernel
theorem d_R_connect_75 : decode prog_1_method_12_code 75 = .ok (.iconst 0, 1) := by decide +kernel
theorem d_R_connect_76 : decode prog_1_method_12_code 76 = .ok (.invokevirtual 111, 3) := by decide +kernel
theorem d_R_connect_79 : decode prog_1_method_12_code 79 = .ok (.return_, 1) := by decide +kernel
theorem d_R_disconnect_0 : decode prog_1_method_13_code 0 = .ok (.aload_n 0, 1) := by decide +kernel
theorem d_R_disconnect_1 : decode prog_1_method_13_code 1 = .ok (.iload_n 1, 1) := by decide +kernel
theorem d_R_disconnect_2 : decode prog_1_method_13_code 2 = .ok (.invokevirtual 133, 3) := by decide +kernel
theorem d_R_disconnect_5 : decode prog_1_method_13_code 5 = .ok (.aload_n 0, 1) := by decide +kernel
theorem d_R_disconnect_6 : decode prog_1_method_13_code 6 = .ok (.invokevirtual 175, 3) := by decide +kernel
theorem d_R_disconnect_9 : decode prog_1_method_13_code 9 = .ok (.istore_n 2, 1) := by decide +kernel
theorem d_R_disconnect_10 : decode prog_1_method_13_code 10 = .ok (.aload_n 0, 1) := by decide +kernel
theorem d_R_disconnect_11 : decode prog_1_method_13_code 11 = .ok (.getfield 19, 3) := by decide +kernel
theorem d_R_disconnect_14 : decode prog_1_method_13_code 14 = .ok (.iload_n 1, 1) := by decide +kernel
theorem d_R_disconnect_15 : decode prog_1_method_13_code 15 = .ok (.iload_n 2, 1) := by decide +kernel
theorem d_R_disconnect_16 : decode prog_1_method_13_code 16 = .ok (.invokevirtual 193, 3) := by decide +kernel
theorem d_R_disconnect_19 : decode prog_1_method_13_code 19 = .ok (.ifCond .eq 15, 3) := by decide +kernel
theorem d_R_disconnect_22 : decode prog_1_method_13_code 22 = .ok (.aload_n 0, 1) := by decide +kernel
theorem d_R_disconnect_23 : decode prog_1_method_13_code 23 = .ok (.getfield 10, 3) := by decide +kernel
theorem d_R_disconnect_26 : decode prog_1_method_13_code 26 = .ok (.iload_n 1, 1) := by decide +kernel
theorem d_R_disconnect_27 : decode prog_1_method_13_code 27 = .ok (.invokevirtual 201, 3) := by decide +kernel
theorem d_R_disconnect_30 : decode prog_1_method_13_code 30 = .ok (.iconst 2, 1) := by decide +kernel
theorem d_R_disconnect_31 : decode prog_1_method_13_code 31 = .ok (.if_icmp .eq 13, 3) := by decide +kernel
theorem d_R_disconnect_34 : decode prog_1_method_13_code 34 = .ok (.new 48, 3) := by decide +kernel
theorem d_R_disconnect_37 : decode prog_1_method_13_code 37 = .ok (.dup, 1) := by decide +kernel
theorem d_R_disconnect_38 : decode prog_1_method_13_code 38 = .ok (.ldc 204, 2) := by decide +kernel
theorem d_R_disconnect_40 : decode prog_1_method_13_code 40 = .ok (.invokespecial 52, 3) := by decide +kernel
theorem d_R_disconnect_43 : decode prog_1_method_13_code 43 = .ok (.athrow, 1) := by decide +kernel
theorem d_R_disconnect_44 : decode prog_1_method_13_code 44 = .ok (.aload_n 0, 1) := by decide +kernel
theorem d_R_disconnect_45 : decode prog_1_method_13_code 45 = .ok (.iload_n 1, 1) := by decide +kernel
theorem d_R_disconnect_46 : decode prog_1_method_13_code 46 = .ok (.iconst 1, 1) := by decide +kernel
theorem d_R_disconnect_47 : decode prog_1_method_13_code 47 = .ok (.iload_n 2, 1) := by decide +kernel
theorem d_R_disconnect_48 : decode prog_1_method_13_code 48 = .ok (.ishl, 1) := by decide +kernel
theorem d_R_disconnect_49 : decode prog_1_method_13_code 49 = .ok (.invokevirtual 206, 3) := by decide +kernel
theorem d_R_disconnect_52 : decode prog_1_method_13_code 52 = .ok (.aload_n 0, 1) := by decide +kernel
theorem d_R_disconnect_53 : decode prog_1_method_13_code 53 = .ok (.getfield 19, 3) := by decide +kernel
theorem d_R_disconnect_56 : decode prog_1_method_13_code 56 = .ok (.iload_n 1, 1) := by decide +kernel
theorem d_R_disconnect_57 : decode prog_1_method_13_code 57 = .ok (.iload_n 2, 1) := by decide +kernel
theorem d_R_disconnect_58 : decode prog_1_method_13_code 58 = .ok (.invokevirtual 209, 3) := by decide +kernel
theorem d_R_disconnect_61 : decode prog_1_method_13_code 61 = .ok (.return_, 1) := by decide +kernel
theorem d_R_stepBack_0 : decode prog_1_method_43_code 0 = .ok (.aload_n 0, 1) := by decide +kernel
theorem d_R_stepBack_1 : decode prog_1_method_43_code 1 = .ok (.iload_n 1, 1) := by decide +kernel
theorem d_R_stepBack_2 : decode prog_1_method_43_code 2 = .ok (.invokevirtual 104, 3) := by decide +kernel
theorem d_R_stepBack_5 : decode prog_1_method_43_code 5 = .ok (.istore_n 3, 1) := by decide +kernel
theorem d_R_stepBack_6 : decode prog_1_method_43_code 6 = .ok (.iload_n 3, 1) := by decide +kernel
theorem d_R_stepBack_7 : decode prog_1_method_43_code 7 = .ok (.iconst (-1), 1) := by decide +kernel
theorem d_R_stepBack_8 : decode prog_1_method_43_code 8 = .ok (.if_icmp .ne 4, 3) := by decide +kernel
theorem d_R_stepBack_11 : decode prog_1_method_43_code 11 = .ok (.return_, 1) := by decide +kernel
theorem d_R_stepBack_12 : decode prog_1_method_43_code 12 = .ok (.iload_n 2, 1) := by decide +kernel
theorem d_R_stepBack_13 : decode prog_1_method_43_code 13 = .ok (.iload_n 3, 1) := by decide +kernel
theorem d_R_stepBack_14 : decode prog_1_method_43_code 14 = .ok (.invokestatic 296, 3) := by decide +kernel
theorem d_R_stepBack_17 : decode prog_1_method_43_code 17 = .ok (.ifCond .eq 14, 3) := by decide +kernel
theorem d_R_stepBack_20 : decode prog_1_method_43_code 20 = .ok (.aload_n 0, 1) := by decide +kernel
theorem d_R_stepBack_21 : decode prog_1_method_43_code 21 = .ok (.getfield 29, 3) := by decide +kernel
theorem d_R_stepBack_24 : decode prog_1_method_43_code 24 = .ok (.getfield 154, 3) := by decide +kernel
theorem d_R_stepBack_27 : decode prog_1_method_43_code 27 = .ok (.iload_n 1, 1) := by decide +kernel
theorem d_R_stepBack_28 : decode prog_1_method_43_code 28 = .ok (.iconst (-1), 1) := by decide +kernel
theorem d_R_stepBack_29 : decode prog_1_method_43_code 29 = .ok (.iastore, 1) := by decide +kernel
theorem d_R_stepBack_30 : decode prog_1_method_43_code 30 = .ok (.return_, 1) := by decide +kernel
theorem d_R_stepBack_31 : decode prog_1_method_43_code 31 = .ok (.aload_n 0, 1) := by decide +kernel
theorem d_R_stepBack_32 : decode prog_1_method_43_code 32 = .ok (.getfield 19, 3) := by decide +kernel
theorem d_R_stepBack_35 : decode prog_1_method_43_code 35 = .ok (.getfield 150, 3) := by decide +kernel
theorem d_R_stepBack_38 : decode prog_1_method_43_code 38 = .ok (.iload_n 1, 1) := by decide +kernel
theorem d_R_stepBack_39 : decode prog_1_method_43_code 39 = .ok (.aaload, 1) := by decide +kernel
theorem d_R_stepBack_40 : decode prog_1_method_43_code 40 = .ok (.aload_n 0, 1) := by decide +kernel
theorem d_R_stepBack_41 : decode prog_1_method_43_code 41 = .ok (.getfield 29, 3) := by decide +kernel
theorem d_R_stepBack_44 : decode prog_1_method_43_code 44 = .ok (.getfield 154, 3) := by decide +kernel
theorem d_R_stepBack_47 : decode prog_1_method_43_code 47 = .ok (.iload_n 1, 1) := by decide +kernel
theorem d_R_stepBack_48 : decode prog_1_method_43_code 48 = .ok (.iaload, 1) := by decide +kernel
theorem d_R_stepBack_49 : decode prog_1_method_43_code 49 = .ok (.iaload, 1) := by decide +kernel
theorem d_R_stepBack_50 : decode prog_1_method_43_code 50 = .ok (.istore 4, 2) := by decide +kernel
theorem d_R_stepBack_52 : decode prog_1_method_43_code 52 = .ok (.iload 4, 2) := by decide +kernel
theorem d_R_stepBack_54 : decode prog_1_method_43_code 54 = .ok (.ifCond .lt 27, 3) := by decide +kernel
theorem d_R_stepBack_57 : decode prog_1_method_43_code 57 = .ok (.iload_n 2, 1) := by decide +kernel
theorem d_R_stepBack_58 : decode prog_1_method_43_code 58 = .ok (.aload_n 0, 1) := by decide +kernel
theorem d_R_stepBack_59 : decode prog_1_method_43_code 59 = .ok (.getfield 19, 3) := by decide +kernel
theorem d_R_stepBack_62 : decode prog_1_method_43_code 62 = .ok (.iload_n 1, 1) := by decide +kernel
theorem d_R_stepBack_63 : decode prog_1_method_43_code 63 = .ok (.iload_n 3, 1) := by decide +kernel
theorem d_R_stepBack_64 : decode prog_1_method_43_code 64 = .ok (.iload 4, 2) := by decide +kernel
theorem d_R_stepBack_66 : decode prog_1_method_43_code 66 = .ok (.invokevirtual 299, 3) := by decide +kernel
theorem d_R_stepBack_69 : decode prog_1_method_43_code 69 = .ok (.invokestatic 296, 3) := by decide +kernel
theorem d_R_stepBack_72 : decode prog_1_method_43_code 72 = .ok (.ifCond .eq 9, 3) := by decide +kernel
theorem d_R_stepBack_75 : decode prog_1_method_43_code 75 = .ok (.iinc 4 (-1), 3) := by decide +kernel
theorem d_R_stepBack_78 : decode prog_1_method_43_code 78 = .ok (.goto (-26), 3) := by decide +kernel
theorem d_R_stepBack_81 : decode prog_1_method_43_code 81 = .ok (.aload_n 0, 1) := by decide +kernel
theorem d_R_stepBack_82 : decode prog_1_method_43_code 82 = .ok (.getfield 29, 3) := by decide +kernel
theorem d_R_stepBack_85 : decode prog_1_method_43_code 85 = .ok (.getfield 154, 3) := by decide +kernel
theorem d_R_stepBack_88 : decode prog_1_method_43_code 88 = .ok (.iload_n 1, 1) := by decide +kernel
theorem d_R_stepBack_89 : decode prog_1_method_43_code 89 = .ok (.iload 4, 2) := by decide +kernel
theorem d_R_stepBack_91 : decode prog_1_method_43_code 91 = .ok (.ifCond .lt 17, 3) := by decide +kernel
theorem d_R_stepBack_94 : decode prog_1_method_43_code 94 = .ok (.aload_n 0, 1) := by decide +kernel
theorem d_R_stepBack_95 : decode prog_1_method_43_code 95 = .ok (.getfield 19, 3) := by decide +kernel
theorem d_R_stepBack_98 : decode prog_1_method_43_code 98 = .ok (.iload_n 1, 1) := by decide +kernel
theorem d_R_stepBack_99 : decode prog_1_method_43_code 99 = .ok (.iload_n 3, 1) := by decide +kernel
theorem d_R_stepBack_100 : decode prog_1_method_43_code 100 = .ok (.iload 4, 2) := by decide +kernel
theorem d_R_stepBack_102 : decode prog_1_method_43_code 102 = .ok (.invokevirtual 299, 3) := by decide +kernel
theorem d_R_stepBack_105 : decode prog_1_method_43_code 105 = .ok (.goto 4, 3) := by decide +kernel
theorem d_R_stepBack_108 : decode prog_1_method_43_code 108 = .ok (.iload_n 3, 1) := by decide +kernel
theorem d_R_stepBack_109 : decode prog_1_method_43_code 109 = .ok (.iastore, 1) := by decide +kernel
theorem d_R_stepBack_110 : decode prog_1_method_43_code 110 = .ok (.return_, 1) := by decide +kernel
theorem d_R_reconnect_0 : decode prog_1_method_14_code 0 = .ok (.aload_n 0, 1) := by decide +kernel
theorem d_R_reconnect_1 : decode prog_1_method_14_code 1 = .ok (.iload_n 1, 1) := by decide +kernel
theorem d_R_reconnect_2 : decode prog_1_method_14_code 2 = .ok (.invokevirtual 133, 3) := by decide +kernel
theorem d_R_reconnect_5 : decode prog_1_method_14_code 5 = .ok (.aload_n 0, 1) := by decide +kernel
theorem d_R_reconnect_6 : decode prog_1_method_14_code 6 = .ok (.invokevirtual 175, 3) := by decide +kernel
theorem d_R_reconnect_9 : decode prog_1_method_14_code 9 = .ok (.istore_n 2, 1) := by decide +kernel
theorem d_R_reconnect_10 : decode prog_1_method_14_code 10 = .ok (.aload_n 0, 1) := by decide +kernel
theorem d_R_reconnect_11 : decode prog_1_method_14_code 11 = .ok (.iload_n 1, 1) := by decide +kernel
theorem d_R_reconnect_12 : decode prog_1_method_14_code 12 = .ok (.invokevirtual 147, 3) := by decide +kernel
theorem d_R_reconnect_15 : decode prog_1_method_14_code 15 = .ok (.istore_n 3, 1) := by decide +kernel
theorem d_R_reconnect_16 : decode prog_1_method_14_code 16 = .ok (.aload_n 0, 1) := by decide +kernel
theorem d_R_reconnect_17 : decode prog_1_method_14_code 17 = .ok (.getfield 19, 3) := by decide +kernel
theorem d_R_reconnect_20 : decode prog_1_method_14_code 20 = .ok (.iload_n 1, 1) := by decide +kernel
theorem d_R_reconnect_21 : decode prog_1_method_14_code 21 = .ok (.iload_n 2, 1) := by decide +kernel
theorem d_R_reconnect_22 : decode prog_1_method_14_code 22 = .ok (.invokevirtual 193, 3) := by decide +kernel
theorem d_R_reconnect_25 : decode prog_1_method_14_code 25 = .ok (.ifCond .eq 14, 3) := by decide +kernel
theorem d_R_reconnect_28 : decode prog_1_method_14_code 28 = .ok (.aload_n 0, 1) := by decide +kernel
theorem d_R_reconnect_29 : decode prog_1_method_14_code 29 = .ok (.getfield 10, 3) := by decide +kernel
theorem d_R_reconnect_32 : decode prog_1_method_14_code 32 = .ok (.iload_n 1, 1) := by decide +kernel
theorem d_R_reconnect_33 : decode prog_1_method_14_code 33 = .ok (.invokevirtual 201, 3) := by decide +kernel
theorem d_R_reconnect_36 : decode prog_1_method_14_code 36 = .ok (.ifCond .ne 13, 3) := by decide +kernel
theorem d_R_reconnect_39 : decode prog_1_method_14_code 39 = .ok (.new 48, 3) := by decide +kernel
theorem d_R_reconnect_42 : decode prog_1_method_14_code 42 = .ok (.dup, 1) := by decide +kernel
theorem d_R_reconnect_43 : decode prog_1_method_14_code 43 = .ok (.ldc 212, 2) := by decide +kernel
theorem d_R_reconnect_45 : decode prog_1_method_14_code 45 = .ok (.invokespecial 52, 3) := by decide +kernel
theorem d_R_reconnect_48 : decode prog_1_method_14_code 48 = .ok (.athrow, 1) := by decide +kernel
theorem d_R_reconnect_49 : decode prog_1_method_14_code 49 = .ok (.aload_n 0, 1) := by decide +kernel
theorem d_R_reconnect_50 : decode prog_1_method_14_code 50 = .ok (.iload_n 1, 1) := by decide +kernel
theorem d_R_reconnect_51 : decode prog_1_method_14_code 51 = .ok (.iload_n 2, 1) := by decide +kernel
theorem d_R_reconnect_52 : decode prog_1_method_14_code 52 = .ok (.iload_n 3, 1) := by decide +kernel
theorem d_R_reconnect_53 : decode prog_1_method_14_code 53 = .ok (.invokevirtual 198, 3) := by decide +kernel
theorem d_R_reconnect_56 : decode prog_1_method_14_code 56 = .ok (.aload_n 0, 1) := by decide +kernel
theorem d_R_reconnect_57 : decode prog_1_method_14_code 57 = .ok (.getfield 19, 3) := by decide +kernel
theorem d_R_reconnect_60 : decode prog_1_method_14_code 60 = .ok (.iload_n 1, 1) := by decide +kernel
theorem d_R_reconnect_61 : decode prog_1_method_14_code 61 = .ok (.iload_n 2, 1) := by decide +kernel
theorem d_R_reconnect_62 : decode prog_1_method_14_code 62 = .ok (.invokevirtual 209, 3) := by decide +kernel
theorem d_R_reconnect_65 : decode prog_1_method_14_code 65 = .ok (.aload_n 0, 1) := by decide +kernel
theorem d_R_reconnect_66 : decode prog_1_method_14_code 66 = .ok (.iload_n 1, 1) := by decide +kernel
theorem d_R_reconnect_67 : decode prog_1_method_14_code 67 = .ok (.iload_n 2, 1) := by decide +kernel
theorem d_R_reconnect_68 : decode prog_1_method_14_code 68 = .ok (.iload_n 3, 1) := by decide +kernel
theorem d_R_reconnect_69 : decode prog_1_method_14_code 69 = .ok (.invokevirtual 107, 3) := by decide +kernel
theorem d_R_reconnect_72 : decode prog_1_method_14_code 72 = .ok (.aload_n 0, 1) := by decide +kernel
theorem d_R_reconnect_73 : decode prog_1_method_14_code 73 = .ok (.iload_n 2, 1) := by decide +kernel
theorem d_R_reconnect_74 : decode prog_1_method_14_code 74 = .ok (.iconst 0, 1) := by decide +kernel
theorem d_R_reconnect_75 : decode prog_1_method_14_code 75 = .ok (.invokevirtual 111, 3) := by decide +kernel
theorem d_R_reconnect_78 : decode prog_1_method_14_code 78 = .ok (.return_, 1) := by decide +kernel
theorem d_R_erase_0 : decode prog_1_method_15_code 0 = .ok (.iload_n 1, 1) := by decide +kernel
theorem d_R_erase_1 : decode prog_1_method_15_code 1 = .ok (.ifCond .lt 8, 3) := by decide +kernel
theorem d_R_erase_4 : decode prog_1_method_15_code 4 = .ok (.iload_n 1, 1) := by decide +kernel
theorem d_R_erase_5 : decode prog_1_method_15_code 5 = .ok (.iconst 3, 1) := by decide +kernel
theorem d_R_erase_6 : decode prog_1_method_15_code 6 = .ok (.if_icmp .le 13, 3) := by decide +kernel
theorem d_R_erase_9 : decode prog_1_method_15_code 9 = .ok (.new 37, 3) := by decide +kernel
theorem d_R_erase_12 : decode prog_1_method_15_code 12 = .ok (.dup, 1) := by decide +kernel
theorem d_R_erase_13 : decode prog_1_method_15_code 13 = .ok (.ldc 214, 2) := by decide +kernel
theorem d_R_erase_15 : decode prog_1_method_15_code 15 = .ok (.invokespecial 41, 3) := by decide +kernel
theorem d_R_erase_18 : decode prog_1_method_15_code 18 = .ok (.athrow, 1) := by decide +kernel
theorem d_R_erase_19 : decode prog_1_method_15_code 19 = .ok (.aload_n 0, 1) := by decide +kernel
theorem d_R_erase_20 : decode prog_1_method_15_code 20 = .ok (.invokevirtual 175, 3) := by decide +kernel
theorem d_R_erase_23 : decode prog_1_method_15_code 23 = .ok (.istore_n 2, 1) := by decide +kernel
theorem d_R_erase_24 : decode prog_1_method_15_code 24 = .ok (.aload_n 0, 1) := by decide +kernel
theorem d_R_erase_25 : decode prog_1_method_15_code 25 = .ok (.iload_n 2, 1) := by decide +kernel
theorem d_R_erase_26 : decode prog_1_method_15_code 26 = .ok (.iload_n 1, 1) := by decide +kernel
theorem d_R_erase_27 : decode prog_1_method_15_code 27 = .ok (.invokevirtual 216, 3) := by decide +kernel
theorem d_R_erase_30 : decode prog_1_method_15_code 30 = .ok (.istore_n 3, 1) := by decide +kernel
theorem d_R_erase_31 : decode prog_1_method_15_code 31 = .ok (.iload_n 1, 1) := by decide +kernel
theorem d_R_erase_32 : decode prog_1_method_15_code 32 = .ok (.ifCond .ne 21, 3) := by decide +kernel
theorem d_R_erase_35 : decode prog_1_method_15_code 35 = .ok (.aload_n 0, 1) := by decide +kernel
theorem d_R_erase_36 : decode prog_1_method_15_code 36 = .ok (.iload_n 2, 1) := by decide +kernel
theorem d_R_erase_37 : decode prog_1_method_15_code 37 = .ok (.invokevirtual 219, 3) := by decide +kernel
theorem d_R_erase_40 : decode prog_1_method_15_code 40 = .ok (.ifCond .eq 13, 3) := by decide +kernel
theorem d_R_erase_43 : decode prog_1_method_15_code 43 = .ok (.new 48, 3) := by decide +kernel
theorem d_R_erase_46 : decode prog_1_method_15_code 46 = .ok (.dup, 1) := by decide +kernel
theorem d_R_erase_47 : decode prog_1_method_15_code 47 = .ok (.ldc 222, 2) := by decide +kernel
theorem d_R_erase_49 : decode prog_1_method_15_code 49 = .ok (.invokespecial 52, 3) := by decide +kernel
theorem d_R_erase_52 : decode prog_1_method_15_code 52 = .ok (.athrow, 1) := by decide +kernel
theorem d_R_erase_53 : decode prog_1_method_15_code 53 = .ok (.iload_n 1, 1) := by decide +kernel
theorem d_R_erase_54 : decode prog_1_method_15_code 54 = .ok (.iconst 1, 1) := by decide +kernel
theorem d_R_erase_55 : decode prog_1_method_15_code 55 = .ok (.if_icmp .ne 21, 3) := by decide +kernel
theorem d_R_erase_58 : decode prog_1_method_15_code 58 = .ok (.aload_n 0, 1) := by decide +kernel
theorem d_R_erase_59 : decode prog_1_method_15_code 59 = .ok (.iload_n 3, 1) := by decide +kernel
theorem d_R_erase_60 : decode prog_1_method_15_code 60 = .ok (.invokevirtual 224, 3) := by decide +kernel
theorem d_R_erase_63 : decode prog_1_method_15_code 63 = .ok (.ifCond .eq 13, 3) := by decide +kernel
theorem d_R_erase_66 : decode prog_1_method_15_code 66 = .ok (.new 48, 3) := by decide +kernel
theorem d_R_erase_69 : decode prog_1_method_15_code 69 = .ok (.dup, 1) := by decide +kernel
theorem d_R_erase_70 : decode prog_1_method_15_code 70 = .ok (.ldc 227, 2) := by decide +kernel
theorem d_R_erase_72 : decode prog_1_method_15_code 72 = .ok (.invokespecial 52, 3) := by decide +kernel
theorem d_R_erase_75 : decode prog_1_method_15_code 75 = .ok (.athrow, 1) := by decide +kernel
theorem d_R_erase_76 : decode prog_1_method_15_code 76 = .ok (.aload_n 0, 1) := by decide +kernel
theorem d_R_erase_77 : decode prog_1_method_15_code 77 = .ok (.iload_n 3, 1) := by decide +kernel
theorem d_R_erase_78 : decode prog_1_method_15_code 78 = .ok (.invokevirtual 229, 3) := by decide +kernel
theorem d_R_erase_81 : decode prog_1_method_15_code 81 = .ok (.aload_n 0, 1) := by decide +kernel
theorem d_R_erase_82 : decode prog_1_method_15_code 82 = .ok (.iload_n 3, 1) := by decide +kernel
theorem d_R_erase_83 : decode prog_1_method_15_code 83 = .ok (.invokevirtual 232, 3) := by decide +kernel
theorem d_R_erase_86 : decode prog_1_method_15_code 86 = .ok (.iload_n 3, 1) := by decide +kernel
theorem d_R_erase_87 : decode prog_1_method_15_code 87 = .ok (.invokestatic 235, 3) := by decide +kernel
theorem d_R_erase_90 : decode prog_1_method_15_code 90 = .ok (.ireturn, 1) := by decide +kernel
theorem d_R_allThatGo_0 : decode prog_1_method_39_code 0 = .ok (.iconst 1, 1) := by decide +kernel
theorem d_R_allThatGo_1 : decode prog_1_method_39_code 1 = .ok (.iload_n 1, 1) := by decide +kernel
theorem d_R_allThatGo_2 : decode prog_1_method_39_code 2 = .ok (.ishl, 1) := by decide +kernel
theorem d_R_allThatGo_3 : decode prog_1_method_39_code 3 = .ok (.istore_n 3, 1) := by decide +kernel
theorem d_R_allThatGo_4 : decode prog_1_method_39_code 4 = .ok (.iconst 0, 1) := by decide +kernel
theorem d_R_allThatGo_5 : decode prog_1_method_39_code 5 = .ok (.istore 4, 2) := by decide +kernel
theorem d_R_allThatGo_7 : decode prog_1_method_39_code 7 = .ok (.iload 4, 2) := by decide +kernel
theorem d_R_allThatGo_9 : decode prog_1_method_39_code 9 = .ok (.bipush 24, 2) := by decide +kernel
theorem d_R_allThatGo_11 : decode prog_1_method_39_code 11 = .ok (.if_icmp .ge 73, 3) := by decide +kernel
theorem d_R_allThatGo_14 : decode prog_1_method_39_code 14 = .ok (.iload_n 3, 1) := by decide +kernel
theorem d_R_allThatGo_15 : decode prog_1_method_39_code 15 = .ok (.istore 5, 2) := by decide +kernel
theorem d_R_allThatGo_17 : decode prog_1_method_39_code 17 = .ok (.iconst 0, 1) := by decide +kernel
theorem d_R_allThatGo_18 : decode prog_1_method_39_code 18 = .ok (.istore 6, 2) := by decide +kernel
theorem d_R_allThatGo_20 : decode prog_1_method_39_code 20 = .ok (.iload 6, 2) := by decide +kernel
theorem d_R_allThatGo_22 : decode prog_1_method_39_code 22 = .ok (.aload_n 0, 1) := by decide +kernel
theorem d_R_allThatGo_23 : decode prog_1_method_39_code 23 = .ok (.getfield 10, 3) := by decide +kernel
theorem d_R_allThatGo_26 : decode prog_1_method_39_code 26 = .ok (.getfield 69, 3) := by decide +kernel
theorem d_R_allThatGo_29 : decode prog_1_method_39_code 29 = .ok (.if_icmp .ge 37, 3) := by decide +kernel
theorem d_R_allThatGo_32 : decode prog_1_method_39_code 32 = .ok (.aload_n 0, 1) := by decide +kernel
theorem d_R_allThatGo_33 : decode prog_1_method_39_code 33 = .ok (.getfield 10, 3) := by decide +kernel
theorem d_R_allThatGo_36 : decode prog_1_method_39_code 36 = .ok (.iload 6, 2) := by decide +kernel
theorem d_R_allThatGo_38 : decode prog_1_method_39_code 38 = .ok (.iload_n 2, 1) := by decide +kernel
theorem d_R_allThatGo_39 : decode prog_1_method_39_code 39 = .ok (.invokevirtual 311, 3) := by decide +kernel
theorem d_R_allThatGo_42 : decode prog_1_method_39_code 42 = .ok (.ifCond .eq 18, 3) := by decide +kernel
theorem d_R_allThatGo_45 : decode prog_1_method_39_code 45 = .ok (.iload 5, 2) := by decide +kernel
theorem d_R_allThatGo_47 : decode prog_1_method_39_code 47 = .ok (.aload_n 0, 1) := by decide +kernel
theorem d_R_allThatGo_48 : decode prog_1_method_39_code 48 = .ok (.getfield 19, 3) := by decide +kernel
theorem d_R_allThatGo_51 : decode prog_1_method_39_code 51 = .ok (.iload 6, 2) := by decide +kernel
theorem d_R_allThatGo_53 : decode prog_1_method_39_code 53 = .ok (.iload_n 3, 1) := by decide +kernel
theorem d_R_allThatGo_54 : decode prog_1_method_39_code 54 = .ok (.invokevirtual 314, 3) := by decide +kernel
theorem d_R_allThatGo_57 : decode prog_1_method_39_code 57 = .ok (.ior, 1) := by decide +kernel
theorem d_R_allThatGo_58 : decode prog_1_method_39_code 58 = .ok (.istore 5, 2) := by decide +kernel
theorem d_R_allThatGo_60 : decode prog_1_method_39_code 60 = .ok (.iinc 6 1, 3) := by decide +kernel
theorem d_R_allThatGo_63 : decode prog_1_method_39_code 63 = .ok (.goto (-43), 3) := by decide +kernel
theorem d_R_allThatGo_66 : decode prog_1_method_39_code 66 = .ok (.iload 5, 2) := by decide +kernel
theorem d_R_allThatGo_68 : decode prog_1_method_39_code 68 = .ok (.iload_n 3, 1) := by decide +kernel
theorem d_R_allThatGo_69 : decode prog_1_method_39_code 69 = .ok (.if_icmp .ne 6, 3) := by decide +kernel
theorem d_R_allThatGo_72 : decode prog_1_method_39_code 72 = .ok (.goto 12, 3) := by decide +kernel
theorem d_R_allThatGo_75 : decode prog_1_method_39_code 75 = .ok (.iload 5, 2) := by decide +kernel
theorem d_R_allThatGo_77 : decode prog_1_method_39_code 77 = .ok (.istore_n 3, 1) := by decide +kernel
theorem d_R_allThatGo_78 : decode prog_1_method_39_code 78 = .ok (.iinc 4 1, 3) := by decide +kernel
theorem d_R_allThatGo_81 : decode prog_1_method_39_code 81 = .ok (.goto (-74), 3) := by decide +kernel
theorem d_R_allThatGo_84 : decode prog_1_method_39_code 84 = .ok (.iload_n 3, 1) := by decide +kernel
theorem d_R_allThatGo_85 : decode prog_1_method_39_code 85 = .ok (.ireturn, 1) := by decide +kernel
theorem d_R_ownsMembers_0 : decode prog_1_method_40_code 0 = .ok (.iconst 0, 1) := by decide +kernel
theorem d_R_ownsMembers_1 : decode prog_1_method_40_code 1 = .ok (.istore_n 2, 1) := by decide +kernel
theorem d_R_ownsMembers_2 : decode prog_1_method_40_code 2 = .ok (.iload_n 2, 1) := by decide +kernel
theorem d_R_ownsMembers_3 : decode prog_1_method_40_code 3 = .ok (.aload_n 0, 1) := by decide +kernel
theorem d_R_ownsMembers_4 : decode prog_1_method_40_code 4 = .ok (.getfield 10, 3) := by decide +kernel
theorem d_R_ownsMembers_7 : decode prog_1_method_40_code 7 = .ok (.getfield 69, 3) := by decide +kernel
theorem d_R_ownsMembers_10 : decode prog_1_method_40_code 10 = .ok (.if_icmp .ge 23, 3) := by decide +kernel
theorem d_R_ownsMembers_13 : decode prog_1_method_40_code 13 = .ok (.aload_n 0, 1) := by decide +kernel
theorem d_R_ownsMembers_14 : decode prog_1_method_40_code 14 = .ok (.getfield 19, 3) := by decide +kernel
theorem d_R_ownsMembers_17 : decode prog_1_method_40_code 17 = .ok (.iload_n 2, 1) := by decide +kernel
theorem d_R_ownsMembers_18 : decode prog_1_method_40_code 18 = .ok (.iload_n 1, 1) := by decide +kernel
theorem d_R_ownsMembers_19 : decode prog_1_method_40_code 19 = .ok (.invokevirtual 240, 3) := by decide +kernel
theorem d_R_ownsMembers_22 : decode prog_1_method_40_code 22 = .ok (.ifCond .le 5, 3) := by decide +kernel
theorem d_R_ownsMembers_25 : decode prog_1_method_40_code 25 = .ok (.iconst 1, 1) := by decide +kernel
theorem d_R_ownsMembers_26 : decode prog_1_method_40_code 26 = .ok (.ireturn, 1) := by decide +kernel
theorem d_R_ownsMembers_27 : decode prog_1_method_40_code 27 = .ok (.iinc 2 1, 3) := by decide +kernel
theorem d_R_ownsMembers_30 : decode prog_1_method_40_code 30 = .ok (.goto (-28), 3) := by decide +kernel
theorem d_R_ownsMembers_33 : decode prog_1_method_40_code 33 = .ok (.iconst 0, 1) := by decide +kernel
theorem d_R_ownsMembers_34 : decode prog_1_method_40_code 34 = .ok (.ireturn, 1) := by decide +kernel
theorem d_R_boundOneWouldStay_0 : decode prog_1_method_41_code 0 = .ok (.iconst 0, 1) := by decide +kernel
theorem d_R_boundOneWouldStay_1 : decode prog_1_method_41_code 1 = .ok (.istore_n 2, 1) := by decide +kernel
theorem d_R_boundOneWouldStay_2 : decode prog_1_method_41_code 2 = .ok (.iload_n 2, 1) := by decide +kernel
theorem d_R_boundOneWouldStay_3 : decode prog_1_method_41_code 3 = .ok (.aload_n 0, 1) := by decide +kernel
theorem d_R_boundOneWouldStay_4 : decode prog_1_method_41_code 4 = .ok (.getfield 10, 3) := by decide +kernel
theorem d_R_boundOneWouldStay_7 : decode prog_1_method_41_code 7 = .ok (.getfield 69, 3) := by decide +kernel
theorem d_R_boundOneWouldStay_10 : decode prog_1_method_41_code 10 = .ok (.if_icmp .ge 39, 3) := by decide +kernel
theorem d_R_boundOneWouldStay_13 : decode prog_1_method_41_code 13 = .ok (.aload_n 0, 1) := by decide +kernel
theorem d_R_boundOneWouldStay_14 : decode prog_1_method_41_code 14 = .ok (.getfield 10, 3) := by decide +kernel
theorem d_R_boundOneWouldStay_17 : decode prog_1_method_41_code 17 = .ok (.iload_n 2, 1) := by decide +kernel
theorem d_R_boundOneWouldStay_18 : decode prog_1_method_41_code 18 = .ok (.invokevirtual 201, 3) := by decide +kernel
theorem d_R_boundOneWouldStay_21 : decode prog_1_method_41_code 21 = .ok (.iconst 1, 1) := by decide +kernel
theorem d_R_boundOneWouldStay_22 : decode prog_1_method_41_code 22 = .ok (.if_icmp .ne 21, 3) := by decide +kernel
theorem d_R_boundOneWouldStay_25 : decode prog_1_method_41_code 25 = .ok (.aload_n 0, 1) := by decide +kernel
theorem d_R_boundOneWouldStay_26 : decode prog_1_method_41_code 26 = .ok (.getfield 19, 3) := by decide +kernel
theorem d_R_boundOneWouldStay_29 : decode prog_1_method_41_code 29 = .ok (.iload_n 2, 1) := by decide +kernel
theorem d_R_boundOneWouldStay_30 : decode prog_1_method_41_code 30 = .ok (.iload_n 1, 1) := by decide +kernel
theorem d_R_boundOneWouldStay_31 : decode prog_1_method_41_code 31 = .ok (.invokevirtual 314, 3) := by decide +kernel
theorem d_R_boundOneWouldStay_34 : decode prog_1_method_41_code 34 = .ok (.iload_n 1, 1) := by decide +kernel
theorem d_R_boundOneWouldStay_35 : decode prog_1_method_41_code 35 = .ok (.iconst (-1), 1) := by decide +kernel
theorem d_R_boundOneWouldStay_36 : decode prog_1_method_41_code 36 = .ok (.ixor, 1) := by decide +kernel
theorem d_R_boundOneWouldStay_37 : decode prog_1_method_41_code 37 = .ok (.iand, 1) := by decide +kernel
theorem d_R_boundOneWouldStay_38 : decode prog_1_method_41_code 38 = .ok (.ifCond .eq 5, 3) := by decide +kernel
theorem d_R_boundOneWouldStay_41 : decode prog_1_method_41_code 41 = .ok (.iconst 1, 1) := by decide +kernel
theorem d_R_boundOneWouldStay_42 : decode prog_1_method_41_code 42 = .ok (.ireturn, 1) := by decide +kernel
theorem d_R_boundOneWouldStay_43 : decode prog_1_method_41_code 43 = .ok (.iinc 2 1, 3) := by decide +kernel
theorem d_R_boundOneWouldStay_46 : decode prog_1_method_41_code 46 = .ok (.goto (-44), 3) := by decide +kernel
theorem d_R_boundOneWouldStay_49 : decode prog_1_method_41_code 49 = .ok (.iconst 0, 1) := by decide +kernel
theorem d_R_boundOneWouldStay_50 : decode prog_1_method_41_code 50 = .ok (.ireturn, 1) := by decide +kernel
theorem d_R_standWithout_0 : decode prog_1_method_42_code 0 = .ok (.iload_n 1, 1) := by decide +kernel
theorem d_R_standWithout_1 : decode prog_1_method_42_code 1 = .ok (.aload_n 0, 1) := by decide +kernel
theorem d_R_standWithout_2 : decode prog_1_method_42_code 2 = .ok (.getfield 29, 3) := by decide +kernel
theorem d_R_standWithout_5 : decode prog_1_method_42_code 5 = .ok (.getfield 161, 3) := by decide +kernel
theorem d_R_standWithout_8 : decode prog_1_method_42_code 8 = .ok (.invokestatic 296, 3) := by decide +kernel
theorem d_R_standWithout_11 : decode prog_1_method_42_code 11 = .ok (.ifCond .eq 11, 3) := by decide +kernel
theorem d_R_standWithout_14 : decode prog_1_method_42_code 14 = .ok (.aload_n 0, 1) := by decide +kernel
theorem d_R_standWithout_15 : decode prog_1_method_42_code 15 = .ok (.getfield 29, 3) := by decide +kernel
theorem d_R_standWithout_18 : decode prog_1_method_42_code 18 = .ok (.iconst (-1), 1) := by decide +kernel
theorem d_R_standWithout_19 : decode prog_1_method_42_code 19 = .ok (.putfield 161, 3) := by decide +kernel
theorem d_R_standWithout_22 : decode prog_1_method_42_code 22 = .ok (.iconst 0, 1) := by decide +kernel
theorem d_R_standWithout_23 : decode prog_1_method_42_code 23 = .ok (.istore_n 2, 1) := by decide +kernel
theorem d_R_standWithout_24 : decode prog_1_method_42_code 24 = .ok (.iload_n 2, 1) := by decide +kernel
theorem d_R_standWithout_25 : decode prog_1_method_42_code 25 = .ok (.aload_n 0, 1) := by decide +kernel
theorem d_R_standWithout_26 : decode prog_1_method_42_code 26 = .ok (.getfield 10, 3) := by decide +kernel
theorem d_R_standWithout_29 : decode prog_1_method_42_code 29 = .ok (.getfield 44, 3) := by decide +kernel
theorem d_R_standWithout_32 : decode prog_1_method_42_code 32 = .ok (.if_icmp .ge 35, 3) := by decide +kernel
theorem d_R_standWithout_35 : decode prog_1_method_42_code 35 = .ok (.iload_n 1, 1) := by decide +kernel
theorem d_R_standWithout_36 : decode prog_1_method_42_code 36 = .ok (.aload_n 0, 1) := by decide +kernel
theorem d_R_standWithout_37 : decode prog_1_method_42_code 37 = .ok (.getfield 29, 3) := by decide +kernel
theorem d_R_standWithout_40 : decode prog_1_method_42_code 40 = .ok (.getfield 167, 3) := by decide +kernel
theorem d_R_standWithout_43 : decode prog_1_method_42_code 43 = .ok (.iload_n 2, 1) := by decide +kernel
theorem d_R_standWithout_44 : decode prog_1_method_42_code 44 = .ok (.iaload, 1) := by decide +kernel
theorem d_R_standWithout_45 : decode prog_1_method_42_code 45 = .ok (.invokestatic 296, 3) := by decide +kernel
theorem d_R_standWithout_48 : decode prog_1_method_42_code 48 = .ok (.ifCond .eq 13, 3) := by decide +kernel
theorem d_R_standWithout_51 : decode prog_1_method_42_code 51 = .ok (.aload_n 0, 1) := by decide +kernel
theorem d_R_standWithout_52 : decode prog_1_method_42_code 52 = .ok (.getfield 29, 3) := by decide +kernel
theorem d_R_standWithout_55 : decode prog_1_method_42_code 55 = .ok (.getfield 167, 3) := by decide +kernel
theorem d_R_standWithout_58 : decode prog_1_method_42_code 58 = .ok (.iload_n 2, 1) := by decide +kernel
theorem d_R_standWithout_59 : decode prog_1_method_42_code 59 = .ok (.iconst (-1), 1) := by decide +kernel
theorem d_R_standWithout_60 : decode prog_1_method_42_code 60 = .ok (.iastore, 1) := by decide +kernel
theorem d_R_standWithout_61 : decode prog_1_method_42_code 61 = .ok (.iinc 2 1, 3) := by decide +kernel
theorem d_R_standWithout_64 : decode prog_1_method_42_code 64 = .ok (.goto (-40), 3) := by decide +kernel
theorem d_R_standWithout_67 : decode prog_1_method_42_code 67 = .ok (.iconst 0, 1) := by decide +kernel
theorem d_R_standWithout_68 : decode prog_1_method_42_code 68 = .ok (.istore_n 2, 1) := by decide +kernel
theorem d_R_standWithout_69 : decode prog_1_method_42_code 69 = .ok (.iload_n 2, 1) := by decide +kernel
theorem d_R_standWithout_70 : decode prog_1_method_42_code 70 = .ok (.aload_n 0, 1) := by decide +kernel
theorem d_R_standWithout_71 : decode prog_1_method_42_code 71 = .ok (.getfield 10, 3) := by decide +kernel
theorem d_R_standWithout_74 : decode prog_1_method_42_code 74 = .ok (.getfield 69, 3) := by decide +kernel
theorem d_R_standWithout_77 : decode prog_1_method_42_code 77 = .ok (.if_icmp .ge 15, 3) := by decide +kernel
theorem d_R_standWithout_80 : decode prog_1_method_42_code 80 = .ok (.aload_n 0, 1) := by decide +kernel
theorem d_R_standWithout_81 : decode prog_1_method_42_code 81 = .ok (.iload_n 2, 1) := by decide +kernel
theorem d_R_standWithout_82 : decode prog_1_method_42_code 82 = .ok (.iload_n 1, 1) := by decide +kernel
theorem d_R_standWithout_83 : decode prog_1_method_42_code 83 = .ok (.invokevirtual 206, 3) := by decide +kernel
theorem d_R_standWithout_86 : decode prog_1_method_42_code 86 = .ok (.iinc 2 1, 3) := by decide +kernel
theorem d_R_standWithout_89 : decode prog_1_method_42_code 89 = .ok (.goto (-20), 3) := by decide +kernel
theorem d_R_standWithout_92 : decode prog_1_method_42_code 92 = .ok (.return_, 1) := by decide +kernel
theorem d_R_removeAll_0 : decode prog_1_method_44_code 0 = .ok (.iconst 0, 1) := by decide +kernel
theorem d_R_removeAll_1 : decode prog_1_method_44_code 1 = .ok (.istore_n 2, 1) := by decide +kernel
theorem d_R_removeAll_2 : decode prog_1_method_44_code 2 = .ok (.iload_n 2, 1) := by decide +kernel
theorem d_R_removeAll_3 : decode prog_1_method_44_code 3 = .ok (.aload_n 0, 1) := by decide +kernel
theorem d_R_removeAll_4 : decode prog_1_method_44_code 4 = .ok (.getfield 10, 3) := by decide +kernel
theorem d_R_removeAll_7 : decode prog_1_method_44_code 7 = .ok (.getfield 69, 3) := by decide +kernel
theorem d_R_removeAll_10 : decode prog_1_method_44_code 10 = .ok (.if_icmp .ge 56, 3) := by decide +kernel
theorem d_R_removeAll_13 : decode prog_1_method_44_code 13 = .ok (.iload_n 1, 1) := by decide +kernel
theorem d_R_removeAll_14 : decode prog_1_method_44_code 14 = .ok (.aload_n 0, 1) := by decide +kernel
theorem d_R_removeAll_15 : decode prog_1_method_44_code 15 = .ok (.getfield 19, 3) := by decide +kernel
theorem d_R_removeAll_18 : decode prog_1_method_44_code 18 = .ok (.iload_n 2, 1) := by decide +kernel
theorem d_R_removeAll_19 : decode prog_1_method_44_code 19 = .ok (.iload_n 1, 1) := by decide +kernel
theorem d_R_removeAll_20 : decode prog_1_method_44_code 20 = .ok (.invokevirtual 314, 3) := by decide +kernel
theorem d_R_removeAll_23 : decode prog_1_method_44_code 23 = .ok (.ior, 1) := by decide +kernel
theorem d_R_removeAll_24 : decode prog_1_method_44_code 24 = .ok (.istore_n 3, 1) := by decide +kernel
theorem d_R_removeAll_25 : decode prog_1_method_44_code 25 = .ok (.iconst 0, 1) := by decide +kernel
theorem d_R_removeAll_26 : decode prog_1_method_44_code 26 = .ok (.istore 4, 2) := by decide +kernel
theorem d_R_removeAll_28 : decode prog_1_method_44_code 28 = .ok (.iload 4, 2) := by decide +kernel
theorem d_R_removeAll_30 : decode prog_1_method_44_code 30 = .ok (.bipush 24, 2) := by decide +kernel
theorem d_R_removeAll_32 : decode prog_1_method_44_code 32 = .ok (.if_icmp .ge 28, 3) := by decide +kernel
theorem d_R_removeAll_35 : decode prog_1_method_44_code 35 = .ok (.iload_n 3, 1) := by decide +kernel
theorem d_R_removeAll_36 : decode prog_1_method_44_code 36 = .ok (.iload 4, 2) := by decide +kernel
theorem d_R_removeAll_38 : decode prog_1_method_44_code 38 = .ok (.invokestatic 296, 3) := by decide +kernel
theorem d_R_removeAll_41 : decode prog_1_method_44_code 41 = .ok (.ifCond .eq 13, 3) := by decide +kernel
theorem d_R_removeAll_44 : decode prog_1_method_44_code 44 = .ok (.aload_n 0, 1) := by decide +kernel
theorem d_R_removeAll_45 : decode prog_1_method_44_code 45 = .ok (.getfield 19, 3) := by decide +kernel
theorem d_R_removeAll_48 : decode prog_1_method_44_code 48 = .ok (.iload_n 2, 1) := by decide +kernel
theorem d_R_removeAll_49 : decode prog_1_method_44_code 49 = .ok (.iload 4, 2) := by decide +kernel
theorem d_R_removeAll_51 : decode prog_1_method_44_code 51 = .ok (.invokevirtual 209, 3) := by decide +kernel
theorem d_R_removeAll_54 : decode prog_1_method_44_code 54 = .ok (.iinc 4 1, 3) := by decide +kernel
theorem d_R_removeAll_57 : decode prog_1_method_44_code 57 = .ok (.goto (-29), 3) := by decide +kernel
theorem d_R_removeAll_60 : decode prog_1_method_44_code 60 = .ok (.iinc 2 1, 3) := by decide +kernel
theorem d_R_removeAll_63 : decode prog_1_method_44_code 63 = .ok (.goto (-61), 3) := by decide +kernel
theorem d_R_removeAll_66 : decode prog_1_method_44_code 66 = .ok (.iconst 0, 1) := by decide +kernel
theorem d_R_removeAll_67 : decode prog_1_method_44_code 67 = .ok (.istore_n 2, 1) := by decide +kernel
theorem d_R_removeAll_68 : decode prog_1_method_44_code 68 = .ok (.iload_n 2, 1) := by decide +kernel
theorem d_R_removeAll_69 : decode prog_1_method_44_code 69 = .ok (.bipush 24, 2) := by decide +kernel
theorem d_R_removeAll_71 : decode prog_1_method_44_code 71 = .ok (.if_icmp .ge 25, 3) := by decide +kernel
theorem d_R_removeAll_74 : decode prog_1_method_44_code 74 = .ok (.iload_n 1, 1) := by decide +kernel
theorem d_R_removeAll_75 : decode prog_1_method_44_code 75 = .ok (.iload_n 2, 1) := by decide +kernel
theorem d_R_removeAll_76 : decode prog_1_method_44_code 76 = .ok (.invokestatic 296, 3) := by decide +kernel
theorem d_R_removeAll_79 : decode prog_1_method_44_code 79 = .ok (.ifCond .eq 11, 3) := by decide +kernel
theorem d_R_removeAll_82 : decode prog_1_method_44_code 82 = .ok (.aload_n 0, 1) := by decide +kernel
theorem d_R_removeAll_83 : decode prog_1_method_44_code 83 = .ok (.getfield 19, 3) := by decide +kernel
theorem d_R_removeAll_86 : decode prog_1_method_44_code 86 = .ok (.iload_n 2, 1) := by decide +kernel
theorem d_R_removeAll_87 : decode prog_1_method_44_code 87 = .ok (.invokevirtual 317, 3) := by decide +kernel
theorem d_R_removeAll_90 : decode prog_1_method_44_code 90 = .ok (.iinc 2 1, 3) := by decide +kernel
theorem d_R_removeAll_93 : decode prog_1_method_44_code 93 = .ok (.goto (-25), 3) := by decide +kernel
theorem d_R_removeAll_96 : decode prog_1_method_44_code 96 = .ok (.return_, 1) := by decide +kernel
theorem d_R_members_0 : decode prog_1_method_16_code 0 = .ok (.aload_n 0, 1) := by decide +kernel
theorem d_R_members_1 : decode prog_1_method_16_code 1 = .ok (.iload_n 1, 1) := by decide +kernel
theorem d_R_members_2 : decode prog_1_method_16_code 2 = .ok (.invokevirtual 133, 3) := by decide +kernel
theorem d_R_members_5 : decode prog_1_method_16_code 5 = .ok (.aload_n 0, 1) := by decide +kernel
theorem d_R_members_6 : decode prog_1_method_16_code 6 = .ok (.getfield 19, 3) := by decide +kernel
theorem d_R_members_9 : decode prog_1_method_16_code 9 = .ok (.iload_n 1, 1) := by decide +kernel
theorem d_R_members_10 : decode prog_1_method_16_code 10 = .ok (.aload_n 0, 1) := by decide +kernel
theorem d_R_members_11 : decode prog_1_method_16_code 11 = .ok (.iload_n 1, 1) := by decide +kernel
theorem d_R_members_12 : decode prog_1_method_16_code 12 = .ok (.invokevirtual 147, 3) := by decide +kernel
theorem d_R_members_15 : decode prog_1_method_16_code 15 = .ok (.invokevirtual 240, 3) := by decide +kernel
theorem d_R_members_18 : decode prog_1_method_16_code 18 = .ok (.ireturn, 1) := by decide +kernel
theorem d_R_owner_0 : decode prog_1_method_17_code 0 = .ok (.aload_n 0, 1) := by decide +kernel
theorem d_R_owner_1 : decode prog_1_method_17_code 1 = .ok (.iload_n 1, 1) := by decide +kernel
theorem d_R_owner_2 : decode prog_1_method_17_code 2 = .ok (.invokevirtual 133, 3) := by decide +kernel
theorem d_R_owner_5 : decode prog_1_method_17_code 5 = .ok (.aload_n 0, 1) := by decide +kernel
theorem d_R_owner_6 : decode prog_1_method_17_code 6 = .ok (.getfield 19, 3) := by decide +kernel
theorem d_R_owner_9 : decode prog_1_method_17_code 9 = .ok (.aload_n 0, 1) := by decide +kernel
theorem d_R_owner_10 : decode prog_1_method_17_code 10 = .ok (.getfield 19, 3) := by decide +kernel
theorem d_R_owner_13 : decode prog_1_method_17_code 13 = .ok (.getfield 243, 3) := by decide +kernel
theorem d_R_owner_16 : decode prog_1_method_17_code 16 = .ok (.iload_n 1, 1) := by decide +kernel
theorem d_R_owner_17 : decode prog_1_method_17_code 17 = .ok (.aaload, 1) := by decide +kernel
theorem d_R_owner_18 : decode prog_1_method_17_code 18 = .ok (.aload_n 0, 1) := by decide +kernel
theorem d_R_owner_19 : decode prog_1_method_17_code 19 = .ok (.iload_n 2, 1) := by decide +kernel
theorem d_R_owner_20 : decode prog_1_method_17_code 20 = .ok (.invokevirtual 118, 3) := by decide +kernel
theorem d_R_owner_23 : decode prog_1_method_17_code 23 = .ok (.iaload, 1) := by decide +kernel
theorem d_R_owner_24 : decode prog_1_method_17_code 24 = .ok (.invokevirtual 164, 3) := by decide +kernel
theorem d_R_owner_27 : decode prog_1_method_17_code 27 = .ok (.ireturn, 1) := by decide +kernel
