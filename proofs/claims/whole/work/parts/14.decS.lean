theorem d_S_init_0 : decode prog_4_method_1_code 0 = .ok (.aload_n 0, 1) := by decide +kernel
theorem d_S_init_1 : decode prog_4_method_1_code 1 = .ok (.invokespecial 3, 3) := by decide +kernel
theorem d_S_init_4 : decode prog_4_method_1_code 4 = .ok (.aload_n 0, 1) := by decide +kernel
theorem d_S_init_5 : decode prog_4_method_1_code 5 = .ok (.iconst (-1), 1) := by decide +kernel
theorem d_S_init_6 : decode prog_4_method_1_code 6 = .ok (.putfield 9, 3) := by decide +kernel
theorem d_S_init_9 : decode prog_4_method_1_code 9 = .ok (.aload_n 0, 1) := by decide +kernel
theorem d_S_init_10 : decode prog_4_method_1_code 10 = .ok (.iconst 4, 1) := by decide +kernel
theorem d_S_init_11 : decode prog_4_method_1_code 11 = .ok (.newarray .int, 2) := by decide +kernel
theorem d_S_init_13 : decode prog_4_method_1_code 13 = .ok (.putfield 15, 3) := by decide +kernel
theorem d_S_init_16 : decode prog_4_method_1_code 16 = .ok (.aload_n 0, 1) := by decide +kernel
theorem d_S_init_17 : decode prog_4_method_1_code 17 = .ok (.iconst 5, 1) := by decide +kernel
theorem d_S_init_18 : decode prog_4_method_1_code 18 = .ok (.newarray .int, 2) := by decide +kernel
theorem d_S_init_20 : decode prog_4_method_1_code 20 = .ok (.putfield 19, 3) := by decide +kernel
theorem d_S_init_23 : decode prog_4_method_1_code 23 = .ok (.aload_n 0, 1) := by decide +kernel
theorem d_S_init_24 : decode prog_4_method_1_code 24 = .ok (.invokevirtual 22, 3) := by decide +kernel
theorem d_S_init_27 : decode prog_4_method_1_code 27 = .ok (.return_, 1) := by decide +kernel
theorem d_S_clear_0 : decode prog_4_method_2_code 0 = .ok (.aload_n 0, 1) := by decide +kernel
theorem d_S_clear_1 : decode prog_4_method_2_code 1 = .ok (.iconst (-1), 1) := by decide +kernel
theorem d_S_clear_2 : decode prog_4_method_2_code 2 = .ok (.putfield 9, 3) := by decide +kernel
theorem d_S_clear_5 : decode prog_4_method_2_code 5 = .ok (.iconst 0, 1) := by decide +kernel
theorem d_S_clear_6 : decode prog_4_method_2_code 6 = .ok (.istore_n 1, 1) := by decide +kernel
theorem d_S_clear_7 : decode prog_4_method_2_code 7 = .ok (.iload_n 1, 1) := by decide +kernel
theorem d_S_clear_8 : decode prog_4_method_2_code 8 = .ok (.iconst 4, 1) := by decide +kernel
theorem d_S_clear_9 : decode prog_4_method_2_code 9 = .ok (.if_icmp .ge 16, 3) := by decide +kernel
theorem d_S_clear_12 : decode prog_4_method_2_code 12 = .ok (.aload_n 0, 1) := by decide +kernel
theorem d_S_clear_13 : decode prog_4_method_2_code 13 = .ok (.getfield 15, 3) := by decide +kernel
theorem d_S_clear_16 : decode prog_4_method_2_code 16 = .ok (.iload_n 1, 1) := by decide +kernel
theorem d_S_clear_17 : decode prog_4_method_2_code 17 = .ok (.iconst (-1), 1) := by decide +kernel
theorem d_S_clear_18 : decode prog_4_method_2_code 18 = .ok (.iastore, 1) := by decide +kernel
theorem d_S_clear_19 : decode prog_4_method_2_code 19 = .ok (.iinc 1 1, 3) := by decide +kernel
theorem d_S_clear_22 : decode prog_4_method_2_code 22 = .ok (.goto (-15), 3) := by decide +kernel
theorem d_S_clear_25 : decode prog_4_method_2_code 25 = .ok (.iconst 0, 1) := by decide +kernel
theorem d_S_clear_26 : decode prog_4_method_2_code 26 = .ok (.istore_n 1, 1) := by decide +kernel
theorem d_S_clear_27 : decode prog_4_method_2_code 27 = .ok (.iload_n 1, 1) := by decide +kernel
theorem d_S_clear_28 : decode prog_4_method_2_code 28 = .ok (.iconst 5, 1) := by decide +kernel
theorem d_S_clear_29 : decode prog_4_method_2_code 29 = .ok (.if_icmp .ge 16, 3) := by decide +kernel
theorem d_S_clear_32 : decode prog_4_method_2_code 32 = .ok (.aload_n 0, 1) := by decide +kernel
theorem d_S_clear_33 : decode prog_4_method_2_code 33 = .ok (.getfield 19, 3) := by decide +kernel
theorem d_S_clear_36 : decode prog_4_method_2_code 36 = .ok (.iload_n 1, 1) := by decide +kernel
theorem d_S_clear_37 : decode prog_4_method_2_code 37 = .ok (.iconst (-1), 1) := by decide +kernel
theorem d_S_clear_38 : decode prog_4_method_2_code 38 = .ok (.iastore, 1) := by decide +kernel
theorem d_S_clear_39 : decode prog_4_method_2_code 39 = .ok (.iinc 1 1, 3) := by decide +kernel
theorem d_S_clear_42 : decode prog_4_method_2_code 42 = .ok (.goto (-15), 3) := by decide +kernel
theorem d_S_clear_45 : decode prog_4_method_2_code 45 = .ok (.return_, 1) := by decide +kernel
