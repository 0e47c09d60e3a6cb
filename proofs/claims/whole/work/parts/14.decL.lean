theorem d_L_type_0 : decode method_3_code 0 = .ok (.aload_n 2, 1) := by decide +kernel
theorem d_L_type_1 : decode method_3_code 1 = .ok (.iconst 0, 1) := by decide +kernel
theorem d_L_type_2 : decode method_3_code 2 = .ok (.aload_n 0, 1) := by decide +kernel
theorem d_L_type_3 : decode method_3_code 3 = .ok (.iload_n 1, 1) := by decide +kernel
theorem d_L_type_4 : decode method_3_code 4 = .ok (.invokevirtual 7, 3) := by decide +kernel
theorem d_L_type_7 : decode method_3_code 7 = .ok (.i2l, 1) := by decide +kernel
theorem d_L_type_8 : decode method_3_code 8 = .ok (.lastore, 1) := by decide +kernel
theorem d_L_type_9 : decode method_3_code 9 = .ok (.goto 9, 3) := by decide +kernel
theorem d_L_type_12 : decode method_3_code 12 = .ok (.astore_n 3, 1) := by decide +kernel
theorem d_L_type_13 : decode method_3_code 13 = .ok (.iconst 1, 1) := by decide +kernel
theorem d_L_type_14 : decode method_3_code 14 = .ok (.ireturn, 1) := by decide +kernel
theorem d_L_type_15 : decode method_3_code 15 = .ok (.astore_n 3, 1) := by decide +kernel
theorem d_L_type_16 : decode method_3_code 16 = .ok (.iconst 2, 1) := by decide +kernel
theorem d_L_type_17 : decode method_3_code 17 = .ok (.ireturn, 1) := by decide +kernel
theorem d_L_type_18 : decode method_3_code 18 = .ok (.iconst 0, 1) := by decide +kernel
theorem d_L_type_19 : decode method_3_code 19 = .ok (.ireturn, 1) := by decide +kernel
theorem d_L_set_0 : decode method_4_code 0 = .ok (.aload 5, 2) := by decide +kernel
theorem d_L_set_2 : decode method_4_code 2 = .ok (.iconst 0, 1) := by decide +kernel
theorem d_L_set_3 : decode method_4_code 3 = .ok (.aload_n 0, 1) := by decide +kernel
theorem d_L_set_4 : decode method_4_code 4 = .ok (.iload_n 1, 1) := by decide +kernel
theorem d_L_set_5 : decode method_4_code 5 = .ok (.iload_n 2, 1) := by decide +kernel
theorem d_L_set_6 : decode method_4_code 6 = .ok (.iload_n 3, 1) := by decide +kernel
theorem d_L_set_7 : decode method_4_code 7 = .ok (.iload 4, 2) := by decide +kernel
theorem d_L_set_9 : decode method_4_code 9 = .ok (.invokevirtual 17, 3) := by decide +kernel
theorem d_L_set_12 : decode method_4_code 12 = .ok (.i2l, 1) := by decide +kernel
theorem d_L_set_13 : decode method_4_code 13 = .ok (.lastore, 1) := by decide +kernel
theorem d_L_set_14 : decode method_4_code 14 = .ok (.goto 11, 3) := by decide +kernel
theorem d_L_set_17 : decode method_4_code 17 = .ok (.astore 6, 2) := by decide +kernel
theorem d_L_set_19 : decode method_4_code 19 = .ok (.iconst 1, 1) := by decide +kernel
theorem d_L_set_20 : decode method_4_code 20 = .ok (.ireturn, 1) := by decide +kernel
theorem d_L_set_21 : decode method_4_code 21 = .ok (.astore 6, 2) := by decide +kernel
theorem d_L_set_23 : decode method_4_code 23 = .ok (.iconst 2, 1) := by decide +kernel
theorem d_L_set_24 : decode method_4_code 24 = .ok (.ireturn, 1) := by decide +kernel
theorem d_L_set_25 : decode method_4_code 25 = .ok (.iconst 0, 1) := by decide +kernel
theorem d_L_set_26 : decode method_4_code 26 = .ok (.ireturn, 1) := by decide +kernel
theorem d_L_store_0 : decode method_5_code 0 = .ok (.aload 5, 2) := by decide +kernel
theorem d_L_store_2 : decode method_5_code 2 = .ok (.iconst 0, 1) := by decide +kernel
theorem d_L_store_3 : decode method_5_code 3 = .ok (.aload_n 0, 1) := by decide +kernel
theorem d_L_store_4 : decode method_5_code 4 = .ok (.iload_n 1, 1) := by decide +kernel
theorem d_L_store_5 : decode method_5_code 5 = .ok (.iload_n 2, 1) := by decide +kernel
theorem d_L_store_6 : decode method_5_code 6 = .ok (.iload_n 3, 1) := by decide +kernel
theorem d_L_store_7 : decode method_5_code 7 = .ok (.iload 4, 2) := by decide +kernel
theorem d_L_store_9 : decode method_5_code 9 = .ok (.invokevirtual 21, 3) := by decide +kernel
theorem d_L_store_12 : decode method_5_code 12 = .ok (.i2l, 1) := by decide +kernel
theorem d_L_store_13 : decode method_5_code 13 = .ok (.lastore, 1) := by decide +kernel
theorem d_L_store_14 : decode method_5_code 14 = .ok (.goto 15, 3) := by decide +kernel
theorem d_L_store_17 : decode method_5_code 17 = .ok (.astore 6, 2) := by decide +kernel
theorem d_L_store_19 : decode method_5_code 19 = .ok (.iconst 1, 1) := by decide +kernel
theorem d_L_store_20 : decode method_5_code 20 = .ok (.ireturn, 1) := by decide +kernel
theorem d_L_store_21 : decode method_5_code 21 = .ok (.astore 6, 2) := by decide +kernel
theorem d_L_store_23 : decode method_5_code 23 = .ok (.iconst 2, 1) := by decide +kernel
theorem d_L_store_24 : decode method_5_code 24 = .ok (.ireturn, 1) := by decide +kernel
theorem d_L_store_25 : decode method_5_code 25 = .ok (.astore 6, 2) := by decide +kernel
theorem d_L_store_27 : decode method_5_code 27 = .ok (.iconst 3, 1) := by decide +kernel
theorem d_L_store_28 : decode method_5_code 28 = .ok (.ireturn, 1) := by decide +kernel
theorem d_L_store_29 : decode method_5_code 29 = .ok (.iconst 0, 1) := by decide +kernel
theorem d_L_store_30 : decode method_5_code 30 = .ok (.ireturn, 1) := by decide +kernel
theorem d_L_find_0 : decode method_6_code 0 = .ok (.aload_n 0, 1) := by decide +kernel
theorem d_L_find_1 : decode method_6_code 1 = .ok (.iload_n 1, 1) := by decide +kernel
theorem d_L_find_2 : decode method_6_code 2 = .ok (.iload_n 2, 1) := by decide +kernel
theorem d_L_find_3 : decode method_6_code 3 = .ok (.invokevirtual 26, 3) := by decide +kernel
theorem d_L_find_6 : decode method_6_code 6 = .ok (.goto 6, 3) := by decide +kernel
theorem d_L_find_9 : decode method_6_code 9 = .ok (.astore_n 3, 1) := by decide +kernel
theorem d_L_find_10 : decode method_6_code 10 = .ok (.iconst 1, 1) := by decide +kernel
theorem d_L_find_11 : decode method_6_code 11 = .ok (.ireturn, 1) := by decide +kernel
theorem d_L_find_12 : decode method_6_code 12 = .ok (.iconst 0, 1) := by decide +kernel
theorem d_L_find_13 : decode method_6_code 13 = .ok (.ireturn, 1) := by decide +kernel
theorem d_L_seek_0 : decode method_7_code 0 = .ok (.aload 4, 2) := by decide +kernel
theorem d_L_seek_2 : decode method_7_code 2 = .ok (.iconst 0, 1) := by decide +kernel
theorem d_L_seek_3 : decode method_7_code 3 = .ok (.aload_n 0, 1) := by decide +kernel
theorem d_L_seek_4 : decode method_7_code 4 = .ok (.iload_n 1, 1) := by decide +kernel
theorem d_L_seek_5 : decode method_7_code 5 = .ok (.iload_n 2, 1) := by decide +kernel
theorem d_L_seek_6 : decode method_7_code 6 = .ok (.iload_n 3, 1) := by decide +kernel
theorem d_L_seek_7 : decode method_7_code 7 = .ok (.invokevirtual 30, 3) := by decide +kernel
theorem d_L_seek_10 : decode method_7_code 10 = .ok (.i2l, 1) := by decide +kernel
theorem d_L_seek_11 : decode method_7_code 11 = .ok (.lastore, 1) := by decide +kernel
theorem d_L_seek_12 : decode method_7_code 12 = .ok (.goto 11, 3) := by decide +kernel
theorem d_L_seek_15 : decode method_7_code 15 = .ok (.astore 5, 2) := by decide +kernel
theorem d_L_seek_17 : decode method_7_code 17 = .ok (.iconst 1, 1) := by decide +kernel
theorem d_L_seek_18 : decode method_7_code 18 = .ok (.ireturn, 1) := by decide +kernel
theorem d_L_seek_19 : decode method_7_code 19 = .ok (.astore 5, 2) := by decide +kernel
theorem d_L_seek_21 : decode method_7_code 21 = .ok (.iconst 2, 1) := by decide +kernel
theorem d_L_seek_22 : decode method_7_code 22 = .ok (.ireturn, 1) := by decide +kernel
theorem d_L_seek_23 : decode method_7_code 23 = .ok (.iconst 0, 1) := by decide +kernel
theorem d_L_seek_24 : decode method_7_code 24 = .ok (.ireturn, 1) := by decide +kernel
theorem d_L_move_0 : decode method_8_code 0 = .ok (.aload_n 3, 1) := by decide +kernel
theorem d_L_move_1 : decode method_8_code 1 = .ok (.iconst 0, 1) := by decide +kernel
theorem d_L_move_2 : decode method_8_code 2 = .ok (.aload_n 0, 1) := by decide +kernel
theorem d_L_move_3 : decode method_8_code 3 = .ok (.iload_n 1, 1) := by decide +kernel
theorem d_L_move_4 : decode method_8_code 4 = .ok (.iload_n 2, 1) := by decide +kernel
theorem d_L_move_5 : decode method_8_code 5 = .ok (.invokevirtual 34, 3) := by decide +kernel
theorem d_L_move_8 : decode method_8_code 8 = .ok (.i2l, 1) := by decide +kernel
theorem d_L_move_9 : decode method_8_code 9 = .ok (.lastore, 1) := by decide +kernel
theorem d_L_move_10 : decode method_8_code 10 = .ok (.goto 11, 3) := by decide +kernel
theorem d_L_move_13 : decode method_8_code 13 = .ok (.astore 4, 2) := by decide +kernel
theorem d_L_move_15 : decode method_8_code 15 = .ok (.iconst 1, 1) := by decide +kernel
theorem d_L_move_16 : decode method_8_code 16 = .ok (.ireturn, 1) := by decide +kernel
theorem d_L_move_17 : decode method_8_code 17 = .ok (.astore 4, 2) := by decide +kernel
theorem d_L_move_19 : decode method_8_code 19 = .ok (.iconst 2, 1) := by decide +kernel
theorem d_L_move_20 : decode method_8_code 20 = .ok (.ireturn, 1) := by decide +kernel
theorem d_L_move_21 : decode method_8_code 21 = .ok (.iconst 0, 1) := by decide +kernel
theorem d_L_move_22 : decode method_8_code 22 = .ok (.ireturn, 1) := by decide +kernel
theorem d_L_scan_0 : decode method_9_code 0 = .ok (.aload 4, 2) := by decide +kernel
theorem d_L_scan_2 : decode method_9_code 2 = .ok (.iconst 0, 1) := by decide +kernel
theorem d_L_scan_3 : decode method_9_code 3 = .ok (.aload_n 0, 1) := by decide +kernel
theorem d_L_scan_4 : decode method_9_code 4 = .ok (.iload_n 1, 1) := by decide +kernel
theorem d_L_scan_5 : decode method_9_code 5 = .ok (.iload_n 2, 1) := by decide +kernel
theorem d_L_scan_6 : decode method_9_code 6 = .ok (.iload_n 3, 1) := by decide +kernel
theorem d_L_scan_7 : decode method_9_code 7 = .ok (.invokevirtual 38, 3) := by decide +kernel
theorem d_L_scan_10 : decode method_9_code 10 = .ok (.i2l, 1) := by decide +kernel
theorem d_L_scan_11 : decode method_9_code 11 = .ok (.lastore, 1) := by decide +kernel
theorem d_L_scan_12 : decode method_9_code 12 = .ok (.goto 11, 3) := by decide +kernel
theorem d_L_scan_15 : decode method_9_code 15 = .ok (.astore 5, 2) := by decide +kernel
theorem d_L_scan_17 : decode method_9_code 17 = .ok (.iconst 1, 1) := by decide +kernel
theorem d_L_scan_18 : decode method_9_code 18 = .ok (.ireturn, 1) := by decide +kernel
theorem d_L_scan_19 : decode method_9_code 19 = .ok (.astore 5, 2) := by decide +kernel
theorem d_L_scan_21 : decode method_9_code 21 = .ok (.iconst 2, 1) := by decide +kernel
theorem d_L_scan_22 : decode method_9_code 22 = .ok (.ireturn, 1) := by decide +kernel
theorem d_L_scan_23 : decode method_9_code 23 = .ok (.iconst 0, 1) := by decide +kernel
theorem d_L_scan_24 : decode method_9_code 24 = .ok (.ireturn, 1) := by decide +kernel
theorem d_L_current_0 : decode method_10_code 0 = .ok (.aload_n 3, 1) := by decide +kernel
theorem d_L_current_1 : decode method_10_code 1 = .ok (.iconst 0, 1) := by decide +kernel
theorem d_L_current_2 : decode method_10_code 2 = .ok (.aload_n 0, 1) := by decide +kernel
theorem d_L_current_3 : decode method_10_code 3 = .ok (.iload_n 1, 1) := by decide +kernel
theorem d_L_current_4 : decode method_10_code 4 = .ok (.iload_n 2, 1) := by decide +kernel
theorem d_L_current_5 : decode method_10_code 5 = .ok (.invokevirtual 41, 3) := by decide +kernel
theorem d_L_current_8 : decode method_10_code 8 = .ok (.i2l, 1) := by decide +kernel
theorem d_L_current_9 : decode method_10_code 9 = .ok (.lastore, 1) := by decide +kernel
theorem d_L_current_10 : decode method_10_code 10 = .ok (.goto 7, 3) := by decide +kernel
theorem d_L_current_13 : decode method_10_code 13 = .ok (.astore 4, 2) := by decide +kernel
theorem d_L_current_15 : decode method_10_code 15 = .ok (.iconst 1, 1) := by decide +kernel
theorem d_L_current_16 : decode method_10_code 16 = .ok (.ireturn, 1) := by decide +kernel
theorem d_L_current_17 : decode method_10_code 17 = .ok (.iconst 0, 1) := by decide +kernel
theorem d_L_current_18 : decode method_10_code 18 = .ok (.ireturn, 1) := by decide +kernel
theorem d_L_get_0 : decode method_11_code 0 = .ok (.aload_n 2, 1) := by decide +kernel
theorem d_L_get_1 : decode method_11_code 1 = .ok (.iconst 0, 1) := by decide +kernel
theorem d_L_get_2 : decode method_11_code 2 = .ok (.aload_n 0, 1) := by decide +kernel
theorem d_L_get_3 : decode method_11_code 3 = .ok (.iload_n 1, 1) := by decide +kernel
theorem d_L_get_4 : decode method_11_code 4 = .ok (.invokevirtual 44, 3) := by decide +kernel
theorem d_L_get_7 : decode method_11_code 7 = .ok (.i2l, 1) := by decide +kernel
theorem d_L_get_8 : decode method_11_code 8 = .ok (.lastore, 1) := by decide +kernel
theorem d_L_get_9 : decode method_11_code 9 = .ok (.goto 9, 3) := by decide +kernel
theorem d_L_get_12 : decode method_11_code 12 = .ok (.astore_n 3, 1) := by decide +kernel
theorem d_L_get_13 : decode method_11_code 13 = .ok (.iconst 1, 1) := by decide +kernel
theorem d_L_get_14 : decode method_11_code 14 = .ok (.ireturn, 1) := by decide +kernel
theorem d_L_get_15 : decode method_11_code 15 = .ok (.astore_n 3, 1) := by decide +kernel
theorem d_L_get_16 : decode method_11_code 16 = .ok (.iconst 2, 1) := by decide +kernel
theorem d_L_get_17 : decode method_11_code 17 = .ok (.ireturn, 1) := by decide +kernel
theorem d_L_get_18 : decode method_11_code 18 = .ok (.iconst 0, 1) := by decide +kernel
theorem d_L_get_19 : decode method_11_code 19 = .ok (.ireturn, 1) := by decide +kernel
theorem d_L_modify_0 : decode method_12_code 0 = .ok (.aload_n 0, 1) := by decide +kernel
theorem d_L_modify_1 : decode method_12_code 1 = .ok (.iload_n 1, 1) := by decide +kernel
theorem d_L_modify_2 : decode method_12_code 2 = .ok (.iload_n 2, 1) := by decide +kernel
theorem d_L_modify_3 : decode method_12_code 3 = .ok (.invokevirtual 47, 3) := by decide +kernel
theorem d_L_modify_6 : decode method_12_code 6 = .ok (.goto 12, 3) := by decide +kernel
theorem d_L_modify_9 : decode method_12_code 9 = .ok (.astore_n 3, 1) := by decide +kernel
theorem d_L_modify_10 : decode method_12_code 10 = .ok (.iconst 1, 1) := by decide +kernel
theorem d_L_modify_11 : decode method_12_code 11 = .ok (.ireturn, 1) := by decide +kernel
theorem d_L_modify_12 : decode method_12_code 12 = .ok (.astore_n 3, 1) := by decide +kernel
theorem d_L_modify_13 : decode method_12_code 13 = .ok (.iconst 2, 1) := by decide +kernel
theorem d_L_modify_14 : decode method_12_code 14 = .ok (.ireturn, 1) := by decide +kernel
theorem d_L_modify_15 : decode method_12_code 15 = .ok (.astore_n 3, 1) := by decide +kernel
theorem d_L_modify_16 : decode method_12_code 16 = .ok (.iconst 3, 1) := by decide +kernel
theorem d_L_modify_17 : decode method_12_code 17 = .ok (.ireturn, 1) := by decide +kernel
theorem d_L_modify_18 : decode method_12_code 18 = .ok (.iconst 0, 1) := by decide +kernel
theorem d_L_modify_19 : decode method_12_code 19 = .ok (.ireturn, 1) := by decide +kernel
theorem d_L_connect_0 : decode method_13_code 0 = .ok (.aload_n 0, 1) := by decide +kernel
theorem d_L_connect_1 : decode method_13_code 1 = .ok (.iload_n 1, 1) := by decide +kernel
theorem d_L_connect_2 : decode method_13_code 2 = .ok (.invokevirtual 50, 3) := by decide +kernel
theorem d_L_connect_5 : decode method_13_code 5 = .ok (.goto 12, 3) := by decide +kernel
theorem d_L_connect_8 : decode method_13_code 8 = .ok (.astore_n 2, 1) := by decide +kernel
theorem d_L_connect_9 : decode method_13_code 9 = .ok (.iconst 1, 1) := by decide +kernel
theorem d_L_connect_10 : decode method_13_code 10 = .ok (.ireturn, 1) := by decide +kernel
theorem d_L_connect_11 : decode method_13_code 11 = .ok (.astore_n 2, 1) := by decide +kernel
theorem d_L_connect_12 : decode method_13_code 12 = .ok (.iconst 2, 1) := by decide +kernel
theorem d_L_connect_13 : decode method_13_code 13 = .ok (.ireturn, 1) := by decide +kernel
theorem d_L_connect_14 : decode method_13_code 14 = .ok (.astore_n 2, 1) := by decide +kernel
theorem d_L_connect_15 : decode method_13_code 15 = .ok (.iconst 3, 1) := by decide +kernel
theorem d_L_connect_16 : decode method_13_code 16 = .ok (.ireturn, 1) := by decide +kernel
theorem d_L_connect_17 : decode method_13_code 17 = .ok (.iconst 0, 1) := by decide +kernel
theorem d_L_connect_18 : decode method_13_code 18 = .ok (.ireturn, 1) := by decide +kernel
theorem d_L_disconnect_0 : decode method_14_code 0 = .ok (.aload_n 0, 1) := by decide +kernel
theorem d_L_disconnect_1 : decode method_14_code 1 = .ok (.iload_n 1, 1) := by decide +kernel
theorem d_L_disconnect_2 : decode method_14_code 2 = .ok (.invokevirtual 54, 3) := by decide +kernel
theorem d_L_disconnect_5 : decode method_14_code 5 = .ok (.goto 12, 3) := by decide +kernel
theorem d_L_disconnect_8 : decode method_14_code 8 = .ok (.astore_n 2, 1) := by decide +kernel
theorem d_L_disconnect_9 : decode method_14_code 9 = .ok (.iconst 1, 1) := by decide +kernel
theorem d_L_disconnect_10 : decode method_14_code 10 = .ok (.ireturn, 1) := by decide +kernel
theorem d_L_disconnect_11 : decode method_14_code 11 = .ok (.astore_n 2, 1) := by decide +kernel
theorem d_L_disconnect_12 : decode method_14_code 12 = .ok (.iconst 2, 1) := by decide +kernel
theorem d_L_disconnect_13 : decode method_14_code 13 = .ok (.ireturn, 1) := by decide +kernel
theorem d_L_disconnect_14 : decode method_14_code 14 = .ok (.astore_n 2, 1) := by decide +kernel
theorem d_L_disconnect_15 : decode method_14_code 15 = .ok (.iconst 3, 1) := by decide +kernel
theorem d_L_disconnect_16 : decode method_14_code 16 = .ok (.ireturn, 1) := by decide +kernel
theorem d_L_disconnect_17 : decode method_14_code 17 = .ok (.iconst 0, 1) := by decide +kernel
theorem d_L_disconnect_18 : decode method_14_code 18 = .ok (.ireturn, 1) := by decide +kernel
theorem d_L_reconnect_0 : decode method_15_code 0 = .ok (.aload_n 0, 1) := by decide +kernel
theorem d_L_reconnect_1 : decode method_15_code 1 = .ok (.iload_n 1, 1) := by decide +kernel
theorem d_L_reconnect_2 : decode method_15_code 2 = .ok (.invokevirtual 57, 3) := by decide +kernel
theorem d_L_reconnect_5 : decode method_15_code 5 = .ok (.goto 12, 3) := by decide +kernel
theorem d_L_reconnect_8 : decode method_15_code 8 = .ok (.astore_n 2, 1) := by decide +kernel
theorem d_L_reconnect_9 : decode method_15_code 9 = .ok (.iconst 1, 1) := by decide +kernel
theorem d_L_reconnect_10 : decode method_15_code 10 = .ok (.ireturn, 1) := by decide +kernel
theorem d_L_reconnect_11 : decode method_15_code 11 = .ok (.astore_n 2, 1) := by decide +kernel
theorem d_L_reconnect_12 : decode method_15_code 12 = .ok (.iconst 2, 1) := by decide +kernel
theorem d_L_reconnect_13 : decode method_15_code 13 = .ok (.ireturn, 1) := by decide +kernel
theorem d_L_reconnect_14 : decode method_15_code 14 = .ok (.astore_n 2, 1) := by decide +kernel
theorem d_L_reconnect_15 : decode method_15_code 15 = .ok (.iconst 3, 1) := by decide +kernel
theorem d_L_reconnect_16 : decode method_15_code 16 = .ok (.ireturn, 1) := by decide +kernel
theorem d_L_reconnect_17 : decode method_15_code 17 = .ok (.iconst 0, 1) := by decide +kernel
theorem d_L_reconnect_18 : decode method_15_code 18 = .ok (.ireturn, 1) := by decide +kernel
theorem d_L_erase_0 : decode method_16_code 0 = .ok (.aload_n 2, 1) := by decide +kernel
theorem d_L_erase_1 : decode method_16_code 1 = .ok (.iconst 0, 1) := by decide +kernel
theorem d_L_erase_2 : decode method_16_code 2 = .ok (.aload_n 0, 1) := by decide +kernel
theorem d_L_erase_3 : decode method_16_code 3 = .ok (.iload_n 1, 1) := by decide +kernel
theorem d_L_erase_4 : decode method_16_code 4 = .ok (.invokevirtual 60, 3) := by decide +kernel
theorem d_L_erase_7 : decode method_16_code 7 = .ok (.i2l, 1) := by decide +kernel
theorem d_L_erase_8 : decode method_16_code 8 = .ok (.lastore, 1) := by decide +kernel
theorem d_L_erase_9 : decode method_16_code 9 = .ok (.goto 12, 3) := by decide +kernel
theorem d_L_erase_12 : decode method_16_code 12 = .ok (.astore_n 3, 1) := by decide +kernel
theorem d_L_erase_13 : decode method_16_code 13 = .ok (.iconst 1, 1) := by decide +kernel
theorem d_L_erase_14 : decode method_16_code 14 = .ok (.ireturn, 1) := by decide +kernel
theorem d_L_erase_15 : decode method_16_code 15 = .ok (.astore_n 3, 1) := by decide +kernel
theorem d_L_erase_16 : decode method_16_code 16 = .ok (.iconst 2, 1) := by decide +kernel
theorem d_L_erase_17 : decode method_16_code 17 = .ok (.ireturn, 1) := by decide +kernel
theorem d_L_erase_18 : decode method_16_code 18 = .ok (.astore_n 3, 1) := by decide +kernel
theorem d_L_erase_19 : decode method_16_code 19 = .ok (.iconst 3, 1) := by decide +kernel
theorem d_L_erase_20 : decode method_16_code 20 = .ok (.ireturn, 1) := by decide +kernel
theorem d_L_erase_21 : decode method_16_code 21 = .ok (.iconst 0, 1) := by decide +kernel
theorem d_L_erase_22 : decode method_16_code 22 = .ok (.ireturn, 1) := by decide +kernel
theorem d_L_members_0 : decode method_17_code 0 = .ok (.aload_n 2, 1) := by decide +kernel
theorem d_L_members_1 : decode method_17_code 1 = .ok (.iconst 0, 1) := by decide +kernel
theorem d_L_members_2 : decode method_17_code 2 = .ok (.aload_n 0, 1) := by decide +kernel
theorem d_L_members_3 : decode method_17_code 3 = .ok (.iload_n 1, 1) := by decide +kernel
theorem d_L_members_4 : decode method_17_code 4 = .ok (.invokevirtual 63, 3) := by decide +kernel
theorem d_L_members_7 : decode method_17_code 7 = .ok (.i2l, 1) := by decide +kernel
theorem d_L_members_8 : decode method_17_code 8 = .ok (.lastore, 1) := by decide +kernel
theorem d_L_members_9 : decode method_17_code 9 = .ok (.goto 9, 3) := by decide +kernel
theorem d_L_members_12 : decode method_17_code 12 = .ok (.astore_n 3, 1) := by decide +kernel
theorem d_L_members_13 : decode method_17_code 13 = .ok (.iconst 1, 1) := by decide +kernel
theorem d_L_members_14 : decode method_17_code 14 = .ok (.ireturn, 1) := by decide +kernel
theorem d_L_members_15 : decode method_17_code 15 = .ok (.astore_n 3, 1) := by decide +kernel
theorem d_L_members_16 : decode method_17_code 16 = .ok (.iconst 2, 1) := by decide +kernel
theorem d_L_members_17 : decode method_17_code 17 = .ok (.ireturn, 1) := by decide +kernel
theorem d_L_members_18 : decode method_17_code 18 = .ok (.iconst 0, 1) := by decide +kernel
theorem d_L_members_19 : decode method_17_code 19 = .ok (.ireturn, 1) := by decide +kernel
theorem d_L_owner_0 : decode method_18_code 0 = .ok (.aload_n 3, 1) := by decide +kernel
theorem d_L_owner_1 : decode method_18_code 1 = .ok (.iconst 0, 1) := by decide +kernel
theorem d_L_owner_2 : decode method_18_code 2 = .ok (.aload_n 0, 1) := by decide +kernel
theorem d_L_owner_3 : decode method_18_code 3 = .ok (.iload_n 1, 1) := by decide +kernel
theorem d_L_owner_4 : decode method_18_code 4 = .ok (.iload_n 2, 1) := by decide +kernel
theorem d_L_owner_5 : decode method_18_code 5 = .ok (.invokevirtual 66, 3) := by decide +kernel
theorem d_L_owner_8 : decode method_18_code 8 = .ok (.i2l, 1) := by decide +kernel
theorem d_L_owner_9 : decode method_18_code 9 = .ok (.lastore, 1) := by decide +kernel
theorem d_L_owner_10 : decode method_18_code 10 = .ok (.goto 11, 3) := by decide +kernel
theorem d_L_owner_13 : decode method_18_code 13 = .ok (.astore 4, 2) := by decide +kernel
theorem d_L_owner_15 : decode method_18_code 15 = .ok (.iconst 1, 1) := by decide +kernel
theorem d_L_owner_16 : decode method_18_code 16 = .ok (.ireturn, 1) := by decide +kernel
theorem d_L_owner_17 : decode method_18_code 17 = .ok (.astore 4, 2) := by decide +kernel
theorem d_L_owner_19 : decode method_18_code 19 = .ok (.iconst 2, 1) := by decide +kernel
theorem d_L_owner_20 : decode method_18_code 20 = .ok (.ireturn, 1) := by decide +kernel
theorem d_L_owner_21 : decode method_18_code 21 = .ok (.iconst 0, 1) := by decide +kernel
theorem d_L_owner_22 : decode method_18_code 22 = .ok (.ireturn, 1) := by decide +kernel
