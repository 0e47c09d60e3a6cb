theorem d_P_init_0 : decode prog_3_method_1_code 0 = .ok (.aload_n 0, 1) := by decide +kernel
theorem d_P_init_1 : decode prog_3_method_1_code 1 = .ok (.invokespecial 3, 3) := by decide +kernel
theorem d_P_init_4 : decode prog_3_method_1_code 4 = .ok (.aload_n 0, 1) := by decide +kernel
theorem d_P_init_5 : decode prog_3_method_1_code 5 = .ok (.iconst 0, 1) := by decide +kernel
theorem d_P_init_6 : decode prog_3_method_1_code 6 = .ok (.putfield 9, 3) := by decide +kernel
theorem d_P_init_9 : decode prog_3_method_1_code 9 = .ok (.aload_n 0, 1) := by decide +kernel
theorem d_P_init_10 : decode prog_3_method_1_code 10 = .ok (.iconst 0, 1) := by decide +kernel
theorem d_P_init_11 : decode prog_3_method_1_code 11 = .ok (.putfield 15, 3) := by decide +kernel
theorem d_P_init_14 : decode prog_3_method_1_code 14 = .ok (.aload_n 0, 1) := by decide +kernel
theorem d_P_init_15 : decode prog_3_method_1_code 15 = .ok (.iconst 4, 1) := by decide +kernel
theorem d_P_init_16 : decode prog_3_method_1_code 16 = .ok (.newarray .int, 2) := by decide +kernel
theorem d_P_init_18 : decode prog_3_method_1_code 18 = .ok (.putfield 18, 3) := by decide +kernel
theorem d_P_init_21 : decode prog_3_method_1_code 21 = .ok (.aload_n 0, 1) := by decide +kernel
theorem d_P_init_22 : decode prog_3_method_1_code 22 = .ok (.iconst 5, 1) := by decide +kernel
theorem d_P_init_23 : decode prog_3_method_1_code 23 = .ok (.newarray .int, 2) := by decide +kernel
theorem d_P_init_25 : decode prog_3_method_1_code 25 = .ok (.putfield 22, 3) := by decide +kernel
theorem d_P_init_28 : decode prog_3_method_1_code 28 = .ok (.aload_n 0, 1) := by decide +kernel
theorem d_P_init_29 : decode prog_3_method_1_code 29 = .ok (.iconst 5, 1) := by decide +kernel
theorem d_P_init_30 : decode prog_3_method_1_code 30 = .ok (.newarray .int, 2) := by decide +kernel
theorem d_P_init_32 : decode prog_3_method_1_code 32 = .ok (.putfield 25, 3) := by decide +kernel
theorem d_P_init_35 : decode prog_3_method_1_code 35 = .ok (.aload_n 0, 1) := by decide +kernel
theorem d_P_init_36 : decode prog_3_method_1_code 36 = .ok (.iconst 5, 1) := by decide +kernel
theorem d_P_init_37 : decode prog_3_method_1_code 37 = .ok (.newarray .int, 2) := by decide +kernel
theorem d_P_init_39 : decode prog_3_method_1_code 39 = .ok (.putfield 28, 3) := by decide +kernel
theorem d_P_init_42 : decode prog_3_method_1_code 42 = .ok (.aload_n 0, 1) := by decide +kernel
theorem d_P_init_43 : decode prog_3_method_1_code 43 = .ok (.iconst 5, 1) := by decide +kernel
theorem d_P_init_44 : decode prog_3_method_1_code 44 = .ok (.newarray .int, 2) := by decide +kernel
theorem d_P_init_46 : decode prog_3_method_1_code 46 = .ok (.putfield 31, 3) := by decide +kernel
theorem d_P_init_49 : decode prog_3_method_1_code 49 = .ok (.return_, 1) := by decide +kernel
theorem d_P_addType_0 : decode prog_3_method_6_code 0 = .ok (.aload_n 0, 1) := by decide +kernel
theorem d_P_addType_1 : decode prog_3_method_6_code 1 = .ok (.getfield 18, 3) := by decide +kernel
theorem d_P_addType_4 : decode prog_3_method_6_code 4 = .ok (.aload_n 0, 1) := by decide +kernel
theorem d_P_addType_5 : decode prog_3_method_6_code 5 = .ok (.getfield 9, 3) := by decide +kernel
theorem d_P_addType_8 : decode prog_3_method_6_code 8 = .ok (.iload_n 1, 1) := by decide +kernel
theorem d_P_addType_9 : decode prog_3_method_6_code 9 = .ok (.iastore, 1) := by decide +kernel
theorem d_P_addType_10 : decode prog_3_method_6_code 10 = .ok (.aload_n 0, 1) := by decide +kernel
theorem d_P_addType_11 : decode prog_3_method_6_code 11 = .ok (.dup, 1) := by decide +kernel
theorem d_P_addType_12 : decode prog_3_method_6_code 12 = .ok (.getfield 9, 3) := by decide +kernel
theorem d_P_addType_15 : decode prog_3_method_6_code 15 = .ok (.iconst 1, 1) := by decide +kernel
theorem d_P_addType_16 : decode prog_3_method_6_code 16 = .ok (.iadd, 1) := by decide +kernel
theorem d_P_addType_17 : decode prog_3_method_6_code 17 = .ok (.putfield 9, 3) := by decide +kernel
theorem d_P_addType_20 : decode prog_3_method_6_code 20 = .ok (.aload_n 0, 1) := by decide +kernel
theorem d_P_addType_21 : decode prog_3_method_6_code 21 = .ok (.getfield 9, 3) := by decide +kernel
theorem d_P_addType_24 : decode prog_3_method_6_code 24 = .ok (.iconst 1, 1) := by decide +kernel
theorem d_P_addType_25 : decode prog_3_method_6_code 25 = .ok (.isub, 1) := by decide +kernel
theorem d_P_addType_26 : decode prog_3_method_6_code 26 = .ok (.ireturn, 1) := by decide +kernel
theorem d_P_hasType_0 : decode prog_3_method_2_code 0 = .ok (.iload_n 1, 1) := by decide +kernel
theorem d_P_hasType_1 : decode prog_3_method_2_code 1 = .ok (.ifCond .lt 15, 3) := by decide +kernel
theorem d_P_hasType_4 : decode prog_3_method_2_code 4 = .ok (.iload_n 1, 1) := by decide +kernel
theorem d_P_hasType_5 : decode prog_3_method_2_code 5 = .ok (.aload_n 0, 1) := by decide +kernel
theorem d_P_hasType_6 : decode prog_3_method_2_code 6 = .ok (.getfield 9, 3) := by decide +kernel
theorem d_P_hasType_9 : decode prog_3_method_2_code 9 = .ok (.if_icmp .ge 7, 3) := by decide +kernel
theorem d_P_hasType_12 : decode prog_3_method_2_code 12 = .ok (.iconst 1, 1) := by decide +kernel
theorem d_P_hasType_13 : decode prog_3_method_2_code 13 = .ok (.goto 4, 3) := by decide +kernel
theorem d_P_hasType_16 : decode prog_3_method_2_code 16 = .ok (.iconst 0, 1) := by decide +kernel
theorem d_P_hasType_17 : decode prog_3_method_2_code 17 = .ok (.ireturn, 1) := by decide +kernel
theorem d_P_isOrder_0 : decode prog_3_method_5_code 0 = .ok (.iload_n 1, 1) := by decide +kernel
theorem d_P_isOrder_1 : decode prog_3_method_5_code 1 = .ok (.ifCond .lt 10, 3) := by decide +kernel
theorem d_P_isOrder_4 : decode prog_3_method_5_code 4 = .ok (.iload_n 1, 1) := by decide +kernel
theorem d_P_isOrder_5 : decode prog_3_method_5_code 5 = .ok (.iconst 3, 1) := by decide +kernel
theorem d_P_isOrder_6 : decode prog_3_method_5_code 6 = .ok (.if_icmp .gt 5, 3) := by decide +kernel
theorem d_P_isOrder_9 : decode prog_3_method_5_code 9 = .ok (.iconst 1, 1) := by decide +kernel
theorem d_P_isOrder_10 : decode prog_3_method_5_code 10 = .ok (.ireturn, 1) := by decide +kernel
theorem d_P_isOrder_11 : decode prog_3_method_5_code 11 = .ok (.iload_n 1, 1) := by decide +kernel
theorem d_P_isOrder_12 : decode prog_3_method_5_code 12 = .ok (.bipush 10, 2) := by decide +kernel
theorem d_P_isOrder_14 : decode prog_3_method_5_code 14 = .ok (.if_icmp .lt 25, 3) := by decide +kernel
theorem d_P_isOrder_17 : decode prog_3_method_5_code 17 = .ok (.iload_n 1, 1) := by decide +kernel
theorem d_P_isOrder_18 : decode prog_3_method_5_code 18 = .ok (.bipush 40, 2) := by decide +kernel
theorem d_P_isOrder_20 : decode prog_3_method_5_code 20 = .ok (.if_icmp .ge 19, 3) := by decide +kernel
theorem d_P_isOrder_23 : decode prog_3_method_5_code 23 = .ok (.aload_n 0, 1) := by decide +kernel
theorem d_P_isOrder_24 : decode prog_3_method_5_code 24 = .ok (.iload_n 2, 1) := by decide +kernel
theorem d_P_isOrder_25 : decode prog_3_method_5_code 25 = .ok (.iload_n 1, 1) := by decide +kernel
theorem d_P_isOrder_26 : decode prog_3_method_5_code 26 = .ok (.bipush 10, 2) := by decide +kernel
theorem d_P_isOrder_28 : decode prog_3_method_5_code 28 = .ok (.irem, 1) := by decide +kernel
theorem d_P_isOrder_29 : decode prog_3_method_5_code 29 = .ok (.invokevirtual 38, 3) := by decide +kernel
theorem d_P_isOrder_32 : decode prog_3_method_5_code 32 = .ok (.ifCond .eq 7, 3) := by decide +kernel
theorem d_P_isOrder_35 : decode prog_3_method_5_code 35 = .ok (.iconst 1, 1) := by decide +kernel
theorem d_P_isOrder_36 : decode prog_3_method_5_code 36 = .ok (.goto 4, 3) := by decide +kernel
theorem d_P_isOrder_39 : decode prog_3_method_5_code 39 = .ok (.iconst 0, 1) := by decide +kernel
theorem d_P_isOrder_40 : decode prog_3_method_5_code 40 = .ok (.ireturn, 1) := by decide +kernel
theorem d_P_hasField_0 : decode prog_3_method_4_code 0 = .ok (.aload_n 0, 1) := by decide +kernel
theorem d_P_hasField_1 : decode prog_3_method_4_code 1 = .ok (.iload_n 1, 1) := by decide +kernel
theorem d_P_hasField_2 : decode prog_3_method_4_code 2 = .ok (.invokevirtual 34, 3) := by decide +kernel
theorem d_P_hasField_5 : decode prog_3_method_4_code 5 = .ok (.ifCond .eq 21, 3) := by decide +kernel
theorem d_P_hasField_8 : decode prog_3_method_4_code 8 = .ok (.iload_n 2, 1) := by decide +kernel
theorem d_P_hasField_9 : decode prog_3_method_4_code 9 = .ok (.ifCond .lt 17, 3) := by decide +kernel
theorem d_P_hasField_12 : decode prog_3_method_4_code 12 = .ok (.iload_n 2, 1) := by decide +kernel
theorem d_P_hasField_13 : decode prog_3_method_4_code 13 = .ok (.aload_n 0, 1) := by decide +kernel
theorem d_P_hasField_14 : decode prog_3_method_4_code 14 = .ok (.getfield 18, 3) := by decide +kernel
theorem d_P_hasField_17 : decode prog_3_method_4_code 17 = .ok (.iload_n 1, 1) := by decide +kernel
theorem d_P_hasField_18 : decode prog_3_method_4_code 18 = .ok (.iaload, 1) := by decide +kernel
theorem d_P_hasField_19 : decode prog_3_method_4_code 19 = .ok (.if_icmp .ge 7, 3) := by decide +kernel
theorem d_P_hasField_22 : decode prog_3_method_4_code 22 = .ok (.iconst 1, 1) := by decide +kernel
theorem d_P_hasField_23 : decode prog_3_method_4_code 23 = .ok (.goto 4, 3) := by decide +kernel
theorem d_P_hasField_26 : decode prog_3_method_4_code 26 = .ok (.iconst 0, 1) := by decide +kernel
theorem d_P_hasField_27 : decode prog_3_method_4_code 27 = .ok (.ireturn, 1) := by decide +kernel
theorem d_P_addSet_0 : decode prog_3_method_7_code 0 = .ok (.aload_n 0, 1) := by decide +kernel
theorem d_P_addSet_1 : decode prog_3_method_7_code 1 = .ok (.getfield 22, 3) := by decide +kernel
theorem d_P_addSet_4 : decode prog_3_method_7_code 4 = .ok (.aload_n 0, 1) := by decide +kernel
theorem d_P_addSet_5 : decode prog_3_method_7_code 5 = .ok (.getfield 15, 3) := by decide +kernel
theorem d_P_addSet_8 : decode prog_3_method_7_code 8 = .ok (.iload_n 1, 1) := by decide +kernel
theorem d_P_addSet_9 : decode prog_3_method_7_code 9 = .ok (.iastore, 1) := by decide +kernel
theorem d_P_addSet_10 : decode prog_3_method_7_code 10 = .ok (.aload_n 0, 1) := by decide +kernel
theorem d_P_addSet_11 : decode prog_3_method_7_code 11 = .ok (.getfield 25, 3) := by decide +kernel
theorem d_P_addSet_14 : decode prog_3_method_7_code 14 = .ok (.aload_n 0, 1) := by decide +kernel
theorem d_P_addSet_15 : decode prog_3_method_7_code 15 = .ok (.getfield 15, 3) := by decide +kernel
theorem d_P_addSet_18 : decode prog_3_method_7_code 18 = .ok (.iload_n 2, 1) := by decide +kernel
theorem d_P_addSet_19 : decode prog_3_method_7_code 19 = .ok (.iastore, 1) := by decide +kernel
theorem d_P_addSet_20 : decode prog_3_method_7_code 20 = .ok (.aload_n 0, 1) := by decide +kernel
theorem d_P_addSet_21 : decode prog_3_method_7_code 21 = .ok (.getfield 28, 3) := by decide +kernel
theorem d_P_addSet_24 : decode prog_3_method_7_code 24 = .ok (.aload_n 0, 1) := by decide +kernel
theorem d_P_addSet_25 : decode prog_3_method_7_code 25 = .ok (.getfield 15, 3) := by decide +kernel
theorem d_P_addSet_28 : decode prog_3_method_7_code 28 = .ok (.iload_n 3, 1) := by decide +kernel
theorem d_P_addSet_29 : decode prog_3_method_7_code 29 = .ok (.iastore, 1) := by decide +kernel
theorem d_P_addSet_30 : decode prog_3_method_7_code 30 = .ok (.aload_n 0, 1) := by decide +kernel
theorem d_P_addSet_31 : decode prog_3_method_7_code 31 = .ok (.getfield 31, 3) := by decide +kernel
theorem d_P_addSet_34 : decode prog_3_method_7_code 34 = .ok (.aload_n 0, 1) := by decide +kernel
theorem d_P_addSet_35 : decode prog_3_method_7_code 35 = .ok (.getfield 15, 3) := by decide +kernel
theorem d_P_addSet_38 : decode prog_3_method_7_code 38 = .ok (.iload 4, 2) := by decide +kernel
theorem d_P_addSet_40 : decode prog_3_method_7_code 40 = .ok (.iastore, 1) := by decide +kernel
theorem d_P_addSet_41 : decode prog_3_method_7_code 41 = .ok (.aload_n 0, 1) := by decide +kernel
theorem d_P_addSet_42 : decode prog_3_method_7_code 42 = .ok (.dup, 1) := by decide +kernel
theorem d_P_addSet_43 : decode prog_3_method_7_code 43 = .ok (.getfield 15, 3) := by decide +kernel
theorem d_P_addSet_46 : decode prog_3_method_7_code 46 = .ok (.iconst 1, 1) := by decide +kernel
theorem d_P_addSet_47 : decode prog_3_method_7_code 47 = .ok (.iadd, 1) := by decide +kernel
theorem d_P_addSet_48 : decode prog_3_method_7_code 48 = .ok (.putfield 15, 3) := by decide +kernel
theorem d_P_addSet_51 : decode prog_3_method_7_code 51 = .ok (.aload_n 0, 1) := by decide +kernel
theorem d_P_addSet_52 : decode prog_3_method_7_code 52 = .ok (.getfield 15, 3) := by decide +kernel
theorem d_P_addSet_55 : decode prog_3_method_7_code 55 = .ok (.iconst 1, 1) := by decide +kernel
theorem d_P_addSet_56 : decode prog_3_method_7_code 56 = .ok (.isub, 1) := by decide +kernel
theorem d_P_addSet_57 : decode prog_3_method_7_code 57 = .ok (.ireturn, 1) := by decide +kernel
theorem d_P_joinsWhenStored_0 : decode prog_3_method_8_code 0 = .ok (.aload_n 0, 1) := by decide +kernel
theorem d_P_joinsWhenStored_1 : decode prog_3_method_8_code 1 = .ok (.getfield 25, 3) := by decide +kernel
theorem d_P_joinsWhenStored_4 : decode prog_3_method_8_code 4 = .ok (.iload_n 1, 1) := by decide +kernel
theorem d_P_joinsWhenStored_5 : decode prog_3_method_8_code 5 = .ok (.iaload, 1) := by decide +kernel
theorem d_P_joinsWhenStored_6 : decode prog_3_method_8_code 6 = .ok (.iload_n 2, 1) := by decide +kernel
theorem d_P_joinsWhenStored_7 : decode prog_3_method_8_code 7 = .ok (.if_icmp .ne 17, 3) := by decide +kernel
theorem d_P_joinsWhenStored_10 : decode prog_3_method_8_code 10 = .ok (.aload_n 0, 1) := by decide +kernel
theorem d_P_joinsWhenStored_11 : decode prog_3_method_8_code 11 = .ok (.getfield 31, 3) := by decide +kernel
theorem d_P_joinsWhenStored_14 : decode prog_3_method_8_code 14 = .ok (.iload_n 1, 1) := by decide +kernel
theorem d_P_joinsWhenStored_15 : decode prog_3_method_8_code 15 = .ok (.iaload, 1) := by decide +kernel
theorem d_P_joinsWhenStored_16 : decode prog_3_method_8_code 16 = .ok (.iconst 3, 1) := by decide +kernel
theorem d_P_joinsWhenStored_17 : decode prog_3_method_8_code 17 = .ok (.if_icmp .lt 7, 3) := by decide +kernel
theorem d_P_joinsWhenStored_20 : decode prog_3_method_8_code 20 = .ok (.iconst 1, 1) := by decide +kernel
theorem d_P_joinsWhenStored_21 : decode prog_3_method_8_code 21 = .ok (.goto 4, 3) := by decide +kernel
theorem d_P_joinsWhenStored_24 : decode prog_3_method_8_code 24 = .ok (.iconst 0, 1) := by decide +kernel
theorem d_P_joinsWhenStored_25 : decode prog_3_method_8_code 25 = .ok (.ireturn, 1) := by decide +kernel
theorem d_P_isSorted_0 : decode prog_3_method_11_code 0 = .ok (.aload_n 0, 1) := by decide +kernel
theorem d_P_isSorted_1 : decode prog_3_method_11_code 1 = .ok (.getfield 28, 3) := by decide +kernel
theorem d_P_isSorted_4 : decode prog_3_method_11_code 4 = .ok (.iload_n 1, 1) := by decide +kernel
theorem d_P_isSorted_5 : decode prog_3_method_11_code 5 = .ok (.iaload, 1) := by decide +kernel
theorem d_P_isSorted_6 : decode prog_3_method_11_code 6 = .ok (.bipush 10, 2) := by decide +kernel
theorem d_P_isSorted_8 : decode prog_3_method_11_code 8 = .ok (.if_icmp .lt 7, 3) := by decide +kernel
theorem d_P_isSorted_11 : decode prog_3_method_11_code 11 = .ok (.iconst 1, 1) := by decide +kernel
theorem d_P_isSorted_12 : decode prog_3_method_11_code 12 = .ok (.goto 4, 3) := by decide +kernel
theorem d_P_isSorted_15 : decode prog_3_method_11_code 15 = .ok (.iconst 0, 1) := by decide +kernel
theorem d_P_isSorted_16 : decode prog_3_method_11_code 16 = .ok (.ireturn, 1) := by decide +kernel
theorem d_P_sortField_0 : decode prog_3_method_12_code 0 = .ok (.aload_n 0, 1) := by decide +kernel
theorem d_P_sortField_1 : decode prog_3_method_12_code 1 = .ok (.getfield 28, 3) := by decide +kernel
theorem d_P_sortField_4 : decode prog_3_method_12_code 4 = .ok (.iload_n 1, 1) := by decide +kernel
theorem d_P_sortField_5 : decode prog_3_method_12_code 5 = .ok (.iaload, 1) := by decide +kernel
theorem d_P_sortField_6 : decode prog_3_method_12_code 6 = .ok (.bipush 10, 2) := by decide +kernel
theorem d_P_sortField_8 : decode prog_3_method_12_code 8 = .ok (.irem, 1) := by decide +kernel
theorem d_P_sortField_9 : decode prog_3_method_12_code 9 = .ok (.ireturn, 1) := by decide +kernel
theorem d_P_hasSet_0 : decode prog_3_method_3_code 0 = .ok (.iload_n 1, 1) := by decide +kernel
theorem d_P_hasSet_1 : decode prog_3_method_3_code 1 = .ok (.ifCond .lt 15, 3) := by decide +kernel
theorem d_P_hasSet_4 : decode prog_3_method_3_code 4 = .ok (.iload_n 1, 1) := by decide +kernel
theorem d_P_hasSet_5 : decode prog_3_method_3_code 5 = .ok (.aload_n 0, 1) := by decide +kernel
theorem d_P_hasSet_6 : decode prog_3_method_3_code 6 = .ok (.getfield 15, 3) := by decide +kernel
theorem d_P_hasSet_9 : decode prog_3_method_3_code 9 = .ok (.if_icmp .ge 7, 3) := by decide +kernel
theorem d_P_hasSet_12 : decode prog_3_method_3_code 12 = .ok (.iconst 1, 1) := by decide +kernel
theorem d_P_hasSet_13 : decode prog_3_method_3_code 13 = .ok (.goto 4, 3) := by decide +kernel
theorem d_P_hasSet_16 : decode prog_3_method_3_code 16 = .ok (.iconst 0, 1) := by decide +kernel
theorem d_P_hasSet_17 : decode prog_3_method_3_code 17 = .ok (.ireturn, 1) := by decide +kernel
theorem d_P_isSortedBy_0 : decode prog_3_method_13_code 0 = .ok (.aload_n 0, 1) := by decide +kernel
theorem d_P_isSortedBy_1 : decode prog_3_method_13_code 1 = .ok (.iload_n 1, 1) := by decide +kernel
theorem d_P_isSortedBy_2 : decode prog_3_method_13_code 2 = .ok (.invokevirtual 46, 3) := by decide +kernel
theorem d_P_isSortedBy_5 : decode prog_3_method_13_code 5 = .ok (.ifCond .eq 16, 3) := by decide +kernel
theorem d_P_isSortedBy_8 : decode prog_3_method_13_code 8 = .ok (.aload_n 0, 1) := by decide +kernel
theorem d_P_isSortedBy_9 : decode prog_3_method_13_code 9 = .ok (.iload_n 1, 1) := by decide +kernel
theorem d_P_isSortedBy_10 : decode prog_3_method_13_code 10 = .ok (.invokevirtual 49, 3) := by decide +kernel
theorem d_P_isSortedBy_13 : decode prog_3_method_13_code 13 = .ok (.iload_n 2, 1) := by decide +kernel
theorem d_P_isSortedBy_14 : decode prog_3_method_13_code 14 = .ok (.if_icmp .ne 7, 3) := by decide +kernel
theorem d_P_isSortedBy_17 : decode prog_3_method_13_code 17 = .ok (.iconst 1, 1) := by decide +kernel
theorem d_P_isSortedBy_18 : decode prog_3_method_13_code 18 = .ok (.goto 4, 3) := by decide +kernel
theorem d_P_isSortedBy_21 : decode prog_3_method_13_code 21 = .ok (.iconst 0, 1) := by decide +kernel
theorem d_P_isSortedBy_22 : decode prog_3_method_13_code 22 = .ok (.ireturn, 1) := by decide +kernel
theorem d_P_hold_0 : decode prog_3_method_9_code 0 = .ok (.aload_n 0, 1) := by decide +kernel
theorem d_P_hold_1 : decode prog_3_method_9_code 1 = .ok (.getfield 31, 3) := by decide +kernel
theorem d_P_hold_4 : decode prog_3_method_9_code 4 = .ok (.iload_n 1, 1) := by decide +kernel
theorem d_P_hold_5 : decode prog_3_method_9_code 5 = .ok (.iaload, 1) := by decide +kernel
theorem d_P_hold_6 : decode prog_3_method_9_code 6 = .ok (.iconst 3, 1) := by decide +kernel
theorem d_P_hold_7 : decode prog_3_method_9_code 7 = .ok (.irem, 1) := by decide +kernel
theorem d_P_hold_8 : decode prog_3_method_9_code 8 = .ok (.ireturn, 1) := by decide +kernel
theorem d_P_goesWithOwner_0 : decode prog_3_method_10_code 0 = .ok (.aload_n 0, 1) := by decide +kernel
theorem d_P_goesWithOwner_1 : decode prog_3_method_10_code 1 = .ok (.iload_n 1, 1) := by decide +kernel
theorem d_P_goesWithOwner_2 : decode prog_3_method_10_code 2 = .ok (.invokevirtual 42, 3) := by decide +kernel
theorem d_P_goesWithOwner_5 : decode prog_3_method_10_code 5 = .ok (.iload_n 2, 1) := by decide +kernel
theorem d_P_goesWithOwner_6 : decode prog_3_method_10_code 6 = .ok (.if_icmp .ge 7, 3) := by decide +kernel
theorem d_P_goesWithOwner_9 : decode prog_3_method_10_code 9 = .ok (.iconst 1, 1) := by decide +kernel
theorem d_P_goesWithOwner_10 : decode prog_3_method_10_code 10 = .ok (.goto 4, 3) := by decide +kernel
theorem d_P_goesWithOwner_13 : decode prog_3_method_10_code 13 = .ok (.iconst 0, 1) := by decide +kernel
theorem d_P_goesWithOwner_14 : decode prog_3_method_10_code 14 = .ok (.ireturn, 1) := by decide +kernel
