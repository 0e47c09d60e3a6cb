theorem d_M_init_0 : decode prog_6_method_1_code 0 = .ok (.aload_n 0, 1) := by decide +kernel
theorem d_M_init_1 : decode prog_6_method_1_code 1 = .ok (.invokespecial 1, 3) := by decide +kernel
theorem d_M_init_4 : decode prog_6_method_1_code 4 = .ok (.aload_n 0, 1) := by decide +kernel
theorem d_M_init_5 : decode prog_6_method_1_code 5 = .ok (.iconst 4, 1) := by decide +kernel
theorem d_M_init_6 : decode prog_6_method_1_code 6 = .ok (.newarray .int, 2) := by decide +kernel
theorem d_M_init_8 : decode prog_6_method_1_code 8 = .ok (.putfield 7, 3) := by decide +kernel
theorem d_M_init_11 : decode prog_6_method_1_code 11 = .ok (.aload_n 0, 1) := by decide +kernel
theorem d_M_init_12 : decode prog_6_method_1_code 12 = .ok (.iconst 5, 1) := by decide +kernel
theorem d_M_init_13 : decode prog_6_method_1_code 13 = .ok (.newarray .int, 2) := by decide +kernel
theorem d_M_init_15 : decode prog_6_method_1_code 15 = .ok (.putfield 13, 3) := by decide +kernel
theorem d_M_init_18 : decode prog_6_method_1_code 18 = .ok (.aload_n 0, 1) := by decide +kernel
theorem d_M_init_19 : decode prog_6_method_1_code 19 = .ok (.iconst 5, 1) := by decide +kernel
theorem d_M_init_20 : decode prog_6_method_1_code 20 = .ok (.newarray .int, 2) := by decide +kernel
theorem d_M_init_22 : decode prog_6_method_1_code 22 = .ok (.putfield 16, 3) := by decide +kernel
theorem d_M_init_25 : decode prog_6_method_1_code 25 = .ok (.aload_n 0, 1) := by decide +kernel
theorem d_M_init_26 : decode prog_6_method_1_code 26 = .ok (.iconst 5, 1) := by decide +kernel
theorem d_M_init_27 : decode prog_6_method_1_code 27 = .ok (.newarray .int, 2) := by decide +kernel
theorem d_M_init_29 : decode prog_6_method_1_code 29 = .ok (.putfield 19, 3) := by decide +kernel
theorem d_M_init_32 : decode prog_6_method_1_code 32 = .ok (.aload_n 0, 1) := by decide +kernel
theorem d_M_init_33 : decode prog_6_method_1_code 33 = .ok (.iconst 5, 1) := by decide +kernel
theorem d_M_init_34 : decode prog_6_method_1_code 34 = .ok (.newarray .int, 2) := by decide +kernel
theorem d_M_init_36 : decode prog_6_method_1_code 36 = .ok (.putfield 22, 3) := by decide +kernel
theorem d_M_init_39 : decode prog_6_method_1_code 39 = .ok (.aload_n 0, 1) := by decide +kernel
theorem d_M_init_40 : decode prog_6_method_1_code 40 = .ok (.iconst 1, 1) := by decide +kernel
theorem d_M_init_41 : decode prog_6_method_1_code 41 = .ok (.putfield 25, 3) := by decide +kernel
theorem d_M_init_44 : decode prog_6_method_1_code 44 = .ok (.aload_n 0, 1) := by decide +kernel
theorem d_M_init_45 : decode prog_6_method_1_code 45 = .ok (.bipush 24, 2) := by decide +kernel
theorem d_M_init_47 : decode prog_6_method_1_code 47 = .ok (.newarray .int, 2) := by decide +kernel
theorem d_M_init_49 : decode prog_6_method_1_code 49 = .ok (.putfield 29, 3) := by decide +kernel
theorem d_M_init_52 : decode prog_6_method_1_code 52 = .ok (.aload_n 0, 1) := by decide +kernel
theorem d_M_init_53 : decode prog_6_method_1_code 53 = .ok (.bipush 24, 2) := by decide +kernel
theorem d_M_init_55 : decode prog_6_method_1_code 55 = .ok (.newarray .int, 2) := by decide +kernel
theorem d_M_init_57 : decode prog_6_method_1_code 57 = .ok (.putfield 32, 3) := by decide +kernel
theorem d_M_init_60 : decode prog_6_method_1_code 60 = .ok (.aload_n 0, 1) := by decide +kernel
theorem d_M_init_61 : decode prog_6_method_1_code 61 = .ok (.bipush 72, 2) := by decide +kernel
theorem d_M_init_63 : decode prog_6_method_1_code 63 = .ok (.newarray .int, 2) := by decide +kernel
theorem d_M_init_65 : decode prog_6_method_1_code 65 = .ok (.putfield 35, 3) := by decide +kernel
theorem d_M_init_68 : decode prog_6_method_1_code 68 = .ok (.aload_n 0, 1) := by decide +kernel
theorem d_M_init_69 : decode prog_6_method_1_code 69 = .ok (.bipush 120, 2) := by decide +kernel
theorem d_M_init_71 : decode prog_6_method_1_code 71 = .ok (.newarray .int, 2) := by decide +kernel
theorem d_M_init_73 : decode prog_6_method_1_code 73 = .ok (.putfield 38, 3) := by decide +kernel
theorem d_M_init_76 : decode prog_6_method_1_code 76 = .ok (.aload_n 0, 1) := by decide +kernel
theorem d_M_init_77 : decode prog_6_method_1_code 77 = .ok (.bipush 120, 2) := by decide +kernel
theorem d_M_init_79 : decode prog_6_method_1_code 79 = .ok (.newarray .int, 2) := by decide +kernel
theorem d_M_init_81 : decode prog_6_method_1_code 81 = .ok (.putfield 41, 3) := by decide +kernel
theorem d_M_init_84 : decode prog_6_method_1_code 84 = .ok (.aload_n 0, 1) := by decide +kernel
theorem d_M_init_85 : decode prog_6_method_1_code 85 = .ok (.iconst 5, 1) := by decide +kernel
theorem d_M_init_86 : decode prog_6_method_1_code 86 = .ok (.newarray .int, 2) := by decide +kernel
theorem d_M_init_88 : decode prog_6_method_1_code 88 = .ok (.putfield 44, 3) := by decide +kernel
theorem d_M_init_91 : decode prog_6_method_1_code 91 = .ok (.aload_n 0, 1) := by decide +kernel
theorem d_M_init_92 : decode prog_6_method_1_code 92 = .ok (.iconst (-1), 1) := by decide +kernel
theorem d_M_init_93 : decode prog_6_method_1_code 93 = .ok (.putfield 47, 3) := by decide +kernel
theorem d_M_init_96 : decode prog_6_method_1_code 96 = .ok (.aload_n 0, 1) := by decide +kernel
theorem d_M_init_97 : decode prog_6_method_1_code 97 = .ok (.iconst 4, 1) := by decide +kernel
theorem d_M_init_98 : decode prog_6_method_1_code 98 = .ok (.newarray .int, 2) := by decide +kernel
theorem d_M_init_100 : decode prog_6_method_1_code 100 = .ok (.putfield 50, 3) := by decide +kernel
theorem d_M_init_103 : decode prog_6_method_1_code 103 = .ok (.aload_n 0, 1) := by decide +kernel
theorem d_M_init_104 : decode prog_6_method_1_code 104 = .ok (.iconst 5, 1) := by decide +kernel
theorem d_M_init_105 : decode prog_6_method_1_code 105 = .ok (.newarray .int, 2) := by decide +kernel
theorem d_M_init_107 : decode prog_6_method_1_code 107 = .ok (.putfield 53, 3) := by decide +kernel
theorem d_M_init_110 : decode prog_6_method_1_code 110 = .ok (.aload_n 0, 1) := by decide +kernel
theorem d_M_init_111 : decode prog_6_method_1_code 111 = .ok (.bipush 24, 2) := by decide +kernel
theorem d_M_init_113 : decode prog_6_method_1_code 113 = .ok (.newarray .boolean, 2) := by decide +kernel
theorem d_M_init_115 : decode prog_6_method_1_code 115 = .ok (.putfield 56, 3) := by decide +kernel
theorem d_M_init_118 : decode prog_6_method_1_code 118 = .ok (.aload_n 0, 1) := by decide +kernel
theorem d_M_init_119 : decode prog_6_method_1_code 119 = .ok (.iconst 1, 1) := by decide +kernel
theorem d_M_init_120 : decode prog_6_method_1_code 120 = .ok (.putfield 60, 3) := by decide +kernel
theorem d_M_init_123 : decode prog_6_method_1_code 123 = .ok (.aload_n 0, 1) := by decide +kernel
theorem d_M_init_124 : decode prog_6_method_1_code 124 = .ok (.bipush 24, 2) := by decide +kernel
theorem d_M_init_126 : decode prog_6_method_1_code 126 = .ok (.newarray .int, 2) := by decide +kernel
theorem d_M_init_128 : decode prog_6_method_1_code 128 = .ok (.putfield 63, 3) := by decide +kernel
theorem d_M_init_131 : decode prog_6_method_1_code 131 = .ok (.aload_n 0, 1) := by decide +kernel
theorem d_M_init_132 : decode prog_6_method_1_code 132 = .ok (.bipush 24, 2) := by decide +kernel
theorem d_M_init_134 : decode prog_6_method_1_code 134 = .ok (.newarray .int, 2) := by decide +kernel
theorem d_M_init_136 : decode prog_6_method_1_code 136 = .ok (.putfield 66, 3) := by decide +kernel
theorem d_M_init_139 : decode prog_6_method_1_code 139 = .ok (.aload_n 0, 1) := by decide +kernel
theorem d_M_init_140 : decode prog_6_method_1_code 140 = .ok (.bipush 72, 2) := by decide +kernel
theorem d_M_init_142 : decode prog_6_method_1_code 142 = .ok (.newarray .int, 2) := by decide +kernel
theorem d_M_init_144 : decode prog_6_method_1_code 144 = .ok (.putfield 69, 3) := by decide +kernel
theorem d_M_init_147 : decode prog_6_method_1_code 147 = .ok (.aload_n 0, 1) := by decide +kernel
theorem d_M_init_148 : decode prog_6_method_1_code 148 = .ok (.bipush 120, 2) := by decide +kernel
theorem d_M_init_150 : decode prog_6_method_1_code 150 = .ok (.newarray .int, 2) := by decide +kernel
theorem d_M_init_152 : decode prog_6_method_1_code 152 = .ok (.putfield 72, 3) := by decide +kernel
theorem d_M_init_155 : decode prog_6_method_1_code 155 = .ok (.aload_n 0, 1) := by decide +kernel
theorem d_M_init_156 : decode prog_6_method_1_code 156 = .ok (.bipush 120, 2) := by decide +kernel
theorem d_M_init_158 : decode prog_6_method_1_code 158 = .ok (.newarray .int, 2) := by decide +kernel
theorem d_M_init_160 : decode prog_6_method_1_code 160 = .ok (.putfield 75, 3) := by decide +kernel
theorem d_M_init_163 : decode prog_6_method_1_code 163 = .ok (.aload_n 0, 1) := by decide +kernel
theorem d_M_init_164 : decode prog_6_method_1_code 164 = .ok (.iconst 5, 1) := by decide +kernel
theorem d_M_init_165 : decode prog_6_method_1_code 165 = .ok (.newarray .int, 2) := by decide +kernel
theorem d_M_init_167 : decode prog_6_method_1_code 167 = .ok (.putfield 78, 3) := by decide +kernel
theorem d_M_init_170 : decode prog_6_method_1_code 170 = .ok (.iconst 0, 1) := by decide +kernel
theorem d_M_init_171 : decode prog_6_method_1_code 171 = .ok (.istore_n 1, 1) := by decide +kernel
theorem d_M_init_172 : decode prog_6_method_1_code 172 = .ok (.iload_n 1, 1) := by decide +kernel
theorem d_M_init_173 : decode prog_6_method_1_code 173 = .ok (.bipush 120, 2) := by decide +kernel
theorem d_M_init_175 : decode prog_6_method_1_code 175 = .ok (.if_icmp .ge 23, 3) := by decide +kernel
theorem d_M_init_178 : decode prog_6_method_1_code 178 = .ok (.aload_n 0, 1) := by decide +kernel
theorem d_M_init_179 : decode prog_6_method_1_code 179 = .ok (.getfield 38, 3) := by decide +kernel
theorem d_M_init_182 : decode prog_6_method_1_code 182 = .ok (.iload_n 1, 1) := by decide +kernel
theorem d_M_init_183 : decode prog_6_method_1_code 183 = .ok (.iconst (-1), 1) := by decide +kernel
theorem d_M_init_184 : decode prog_6_method_1_code 184 = .ok (.iastore, 1) := by decide +kernel
theorem d_M_init_185 : decode prog_6_method_1_code 185 = .ok (.aload_n 0, 1) := by decide +kernel
theorem d_M_init_186 : decode prog_6_method_1_code 186 = .ok (.getfield 72, 3) := by decide +kernel
theorem d_M_init_189 : decode prog_6_method_1_code 189 = .ok (.iload_n 1, 1) := by decide +kernel
theorem d_M_init_190 : decode prog_6_method_1_code 190 = .ok (.iconst (-1), 1) := by decide +kernel
theorem d_M_init_191 : decode prog_6_method_1_code 191 = .ok (.iastore, 1) := by decide +kernel
theorem d_M_init_192 : decode prog_6_method_1_code 192 = .ok (.iinc 1 1, 3) := by decide +kernel
theorem d_M_init_195 : decode prog_6_method_1_code 195 = .ok (.goto (-23), 3) := by decide +kernel
theorem d_M_init_198 : decode prog_6_method_1_code 198 = .ok (.aload_n 0, 1) := by decide +kernel
theorem d_M_init_199 : decode prog_6_method_1_code 199 = .ok (.invokevirtual 81, 3) := by decide +kernel
theorem d_M_init_202 : decode prog_6_method_1_code 202 = .ok (.return_, 1) := by decide +kernel
theorem d_M_forget_0 : decode prog_6_method_2_code 0 = .ok (.aload_n 0, 1) := by decide +kernel
theorem d_M_forget_1 : decode prog_6_method_2_code 1 = .ok (.iconst (-1), 1) := by decide +kernel
theorem d_M_forget_2 : decode prog_6_method_2_code 2 = .ok (.putfield 47, 3) := by decide +kernel
theorem d_M_forget_5 : decode prog_6_method_2_code 5 = .ok (.iconst 0, 1) := by decide +kernel
theorem d_M_forget_6 : decode prog_6_method_2_code 6 = .ok (.istore_n 1, 1) := by decide +kernel
theorem d_M_forget_7 : decode prog_6_method_2_code 7 = .ok (.iload_n 1, 1) := by decide +kernel
theorem d_M_forget_8 : decode prog_6_method_2_code 8 = .ok (.iconst 4, 1) := by decide +kernel
theorem d_M_forget_9 : decode prog_6_method_2_code 9 = .ok (.if_icmp .ge 16, 3) := by decide +kernel
theorem d_M_forget_12 : decode prog_6_method_2_code 12 = .ok (.aload_n 0, 1) := by decide +kernel
theorem d_M_forget_13 : decode prog_6_method_2_code 13 = .ok (.getfield 50, 3) := by decide +kernel
theorem d_M_forget_16 : decode prog_6_method_2_code 16 = .ok (.iload_n 1, 1) := by decide +kernel
theorem d_M_forget_17 : decode prog_6_method_2_code 17 = .ok (.iconst (-1), 1) := by decide +kernel
theorem d_M_forget_18 : decode prog_6_method_2_code 18 = .ok (.iastore, 1) := by decide +kernel
theorem d_M_forget_19 : decode prog_6_method_2_code 19 = .ok (.iinc 1 1, 3) := by decide +kernel
theorem d_M_forget_22 : decode prog_6_method_2_code 22 = .ok (.goto (-15), 3) := by decide +kernel
theorem d_M_forget_25 : decode prog_6_method_2_code 25 = .ok (.iconst 0, 1) := by decide +kernel
theorem d_M_forget_26 : decode prog_6_method_2_code 26 = .ok (.istore_n 1, 1) := by decide +kernel
theorem d_M_forget_27 : decode prog_6_method_2_code 27 = .ok (.iload_n 1, 1) := by decide +kernel
theorem d_M_forget_28 : decode prog_6_method_2_code 28 = .ok (.iconst 5, 1) := by decide +kernel
theorem d_M_forget_29 : decode prog_6_method_2_code 29 = .ok (.if_icmp .ge 16, 3) := by decide +kernel
theorem d_M_forget_32 : decode prog_6_method_2_code 32 = .ok (.aload_n 0, 1) := by decide +kernel
theorem d_M_forget_33 : decode prog_6_method_2_code 33 = .ok (.getfield 53, 3) := by decide +kernel
theorem d_M_forget_36 : decode prog_6_method_2_code 36 = .ok (.iload_n 1, 1) := by decide +kernel
theorem d_M_forget_37 : decode prog_6_method_2_code 37 = .ok (.iconst (-1), 1) := by decide +kernel
theorem d_M_forget_38 : decode prog_6_method_2_code 38 = .ok (.iastore, 1) := by decide +kernel
theorem d_M_forget_39 : decode prog_6_method_2_code 39 = .ok (.iinc 1 1, 3) := by decide +kernel
theorem d_M_forget_42 : decode prog_6_method_2_code 42 = .ok (.goto (-15), 3) := by decide +kernel
theorem d_M_forget_45 : decode prog_6_method_2_code 45 = .ok (.return_, 1) := by decide +kernel
theorem d_M_thrown_0 : decode prog_6_method_3_code 0 = .ok (.aload_n 0, 1) := by decide +kernel
theorem d_M_thrown_1 : decode prog_6_method_3_code 1 = .ok (.getfield 84, 3) := by decide +kernel
theorem d_M_thrown_4 : decode prog_6_method_3_code 4 = .ok (.ireturn, 1) := by decide +kernel
theorem d_M_type_0 : decode prog_6_method_6_code 0 = .ok (.aload_n 0, 1) := by decide +kernel
theorem d_M_type_1 : decode prog_6_method_6_code 1 = .ok (.iload_n 1, 1) := by decide +kernel
theorem d_M_type_2 : decode prog_6_method_6_code 2 = .ok (.iconst 1, 1) := by decide +kernel
theorem d_M_type_3 : decode prog_6_method_6_code 3 = .ok (.if_icmp .lt 8, 3) := by decide +kernel
theorem d_M_type_6 : decode prog_6_method_6_code 6 = .ok (.iload_n 1, 1) := by decide +kernel
theorem d_M_type_7 : decode prog_6_method_6_code 7 = .ok (.iconst 3, 1) := by decide +kernel
theorem d_M_type_8 : decode prog_6_method_6_code 8 = .ok (.if_icmp .le 7, 3) := by decide +kernel
theorem d_M_type_11 : decode prog_6_method_6_code 11 = .ok (.iconst 1, 1) := by decide +kernel
theorem d_M_type_12 : decode prog_6_method_6_code 12 = .ok (.goto 23, 3) := by decide +kernel
theorem d_M_type_15 : decode prog_6_method_6_code 15 = .ok (.aload_n 0, 1) := by decide +kernel
theorem d_M_type_16 : decode prog_6_method_6_code 16 = .ok (.getfield 87, 3) := by decide +kernel
theorem d_M_type_19 : decode prog_6_method_6_code 19 = .ok (.iconst 4, 1) := by decide +kernel
theorem d_M_type_20 : decode prog_6_method_6_code 20 = .ok (.if_icmp .eq 10, 3) := by decide +kernel
theorem d_M_type_23 : decode prog_6_method_6_code 23 = .ok (.aload_n 0, 1) := by decide +kernel
theorem d_M_type_24 : decode prog_6_method_6_code 24 = .ok (.getfield 93, 3) := by decide +kernel
theorem d_M_type_27 : decode prog_6_method_6_code 27 = .ok (.ifCond .eq 7, 3) := by decide +kernel
theorem d_M_type_30 : decode prog_6_method_6_code 30 = .ok (.iconst 2, 1) := by decide +kernel
theorem d_M_type_31 : decode prog_6_method_6_code 31 = .ok (.goto 4, 3) := by decide +kernel
theorem d_M_type_34 : decode prog_6_method_6_code 34 = .ok (.iconst 0, 1) := by decide +kernel
theorem d_M_type_35 : decode prog_6_method_6_code 35 = .ok (.putfield 84, 3) := by decide +kernel
theorem d_M_type_38 : decode prog_6_method_6_code 38 = .ok (.aload_n 0, 1) := by decide +kernel
theorem d_M_type_39 : decode prog_6_method_6_code 39 = .ok (.getfield 84, 3) := by decide +kernel
theorem d_M_type_42 : decode prog_6_method_6_code 42 = .ok (.ifCond .le 5, 3) := by decide +kernel
theorem d_M_type_45 : decode prog_6_method_6_code 45 = .ok (.iconst 0, 1) := by decide +kernel
theorem d_M_type_46 : decode prog_6_method_6_code 46 = .ok (.ireturn, 1) := by decide +kernel
theorem d_M_type_47 : decode prog_6_method_6_code 47 = .ok (.aload_n 0, 1) := by decide +kernel
theorem d_M_type_48 : decode prog_6_method_6_code 48 = .ok (.getfield 7, 3) := by decide +kernel
theorem d_M_type_51 : decode prog_6_method_6_code 51 = .ok (.aload_n 0, 1) := by decide +kernel
theorem d_M_type_52 : decode prog_6_method_6_code 52 = .ok (.getfield 87, 3) := by decide +kernel
theorem d_M_type_55 : decode prog_6_method_6_code 55 = .ok (.iload_n 1, 1) := by decide +kernel
theorem d_M_type_56 : decode prog_6_method_6_code 56 = .ok (.iastore, 1) := by decide +kernel
theorem d_M_type_57 : decode prog_6_method_6_code 57 = .ok (.aload_n 0, 1) := by decide +kernel
theorem d_M_type_58 : decode prog_6_method_6_code 58 = .ok (.dup, 1) := by decide +kernel
theorem d_M_type_59 : decode prog_6_method_6_code 59 = .ok (.getfield 87, 3) := by decide +kernel
theorem d_M_type_62 : decode prog_6_method_6_code 62 = .ok (.iconst 1, 1) := by decide +kernel
theorem d_M_type_63 : decode prog_6_method_6_code 63 = .ok (.iadd, 1) := by decide +kernel
theorem d_M_type_64 : decode prog_6_method_6_code 64 = .ok (.putfield 87, 3) := by decide +kernel
theorem d_M_type_67 : decode prog_6_method_6_code 67 = .ok (.aload_n 0, 1) := by decide +kernel
theorem d_M_type_68 : decode prog_6_method_6_code 68 = .ok (.getfield 87, 3) := by decide +kernel
theorem d_M_type_71 : decode prog_6_method_6_code 71 = .ok (.iconst 1, 1) := by decide +kernel
theorem d_M_type_72 : decode prog_6_method_6_code 72 = .ok (.isub, 1) := by decide +kernel
theorem d_M_type_73 : decode prog_6_method_6_code 73 = .ok (.ireturn, 1) := by decide +kernel
theorem d_M_set_0 : decode prog_6_method_8_code 0 = .ok (.aload_n 0, 1) := by decide +kernel
theorem d_M_set_1 : decode prog_6_method_8_code 1 = .ok (.iload_n 1, 1) := by decide +kernel
theorem d_M_set_2 : decode prog_6_method_8_code 2 = .ok (.invokevirtual 97, 3) := by decide +kernel
theorem d_M_set_5 : decode prog_6_method_8_code 5 = .ok (.ifCond .eq 31, 3) := by decide +kernel
theorem d_M_set_8 : decode prog_6_method_8_code 8 = .ok (.aload_n 0, 1) := by decide +kernel
theorem d_M_set_9 : decode prog_6_method_8_code 9 = .ok (.iload_n 2, 1) := by decide +kernel
theorem d_M_set_10 : decode prog_6_method_8_code 10 = .ok (.invokevirtual 97, 3) := by decide +kernel
theorem d_M_set_13 : decode prog_6_method_8_code 13 = .ok (.ifCond .eq 23, 3) := by decide +kernel
theorem d_M_set_16 : decode prog_6_method_8_code 16 = .ok (.iload_n 1, 1) := by decide +kernel
theorem d_M_set_17 : decode prog_6_method_8_code 17 = .ok (.iload_n 2, 1) := by decide +kernel
theorem d_M_set_18 : decode prog_6_method_8_code 18 = .ok (.if_icmp .eq 18, 3) := by decide +kernel
theorem d_M_set_21 : decode prog_6_method_8_code 21 = .ok (.iload 4, 2) := by decide +kernel
theorem d_M_set_23 : decode prog_6_method_8_code 23 = .ok (.ifCond .lt 13, 3) := by decide +kernel
theorem d_M_set_26 : decode prog_6_method_8_code 26 = .ok (.iload 4, 2) := by decide +kernel
theorem d_M_set_28 : decode prog_6_method_8_code 28 = .ok (.iconst 5, 1) := by decide +kernel
theorem d_M_set_29 : decode prog_6_method_8_code 29 = .ok (.if_icmp .gt 7, 3) := by decide +kernel
theorem d_M_set_32 : decode prog_6_method_8_code 32 = .ok (.iconst 1, 1) := by decide +kernel
theorem d_M_set_33 : decode prog_6_method_8_code 33 = .ok (.goto 4, 3) := by decide +kernel
theorem d_M_set_36 : decode prog_6_method_8_code 36 = .ok (.iconst 0, 1) := by decide +kernel
theorem d_M_set_37 : decode prog_6_method_8_code 37 = .ok (.istore 5, 2) := by decide +kernel
theorem d_M_set_39 : decode prog_6_method_8_code 39 = .ok (.aload_n 0, 1) := by decide +kernel
theorem d_M_set_40 : decode prog_6_method_8_code 40 = .ok (.iload 5, 2) := by decide +kernel
theorem d_M_set_42 : decode prog_6_method_8_code 42 = .ok (.ifCond .ne 7, 3) := by decide +kernel
theorem d_M_set_45 : decode prog_6_method_8_code 45 = .ok (.iconst 1, 1) := by decide +kernel
theorem d_M_set_46 : decode prog_6_method_8_code 46 = .ok (.goto 40, 3) := by decide +kernel
theorem d_M_set_49 : decode prog_6_method_8_code 49 = .ok (.iload_n 3, 1) := by decide +kernel
theorem d_M_set_50 : decode prog_6_method_8_code 50 = .ok (.aload_n 0, 1) := by decide +kernel
theorem d_M_set_51 : decode prog_6_method_8_code 51 = .ok (.getfield 7, 3) := by decide +kernel
theorem d_M_set_54 : decode prog_6_method_8_code 54 = .ok (.iload_n 2, 1) := by decide +kernel
theorem d_M_set_55 : decode prog_6_method_8_code 55 = .ok (.iaload, 1) := by decide +kernel
theorem d_M_set_56 : decode prog_6_method_8_code 56 = .ok (.invokestatic 101, 3) := by decide +kernel
theorem d_M_set_59 : decode prog_6_method_8_code 59 = .ok (.ifCond .ne 7, 3) := by decide +kernel
theorem d_M_set_62 : decode prog_6_method_8_code 62 = .ok (.iconst 1, 1) := by decide +kernel
theorem d_M_set_63 : decode prog_6_method_8_code 63 = .ok (.goto 23, 3) := by decide +kernel
theorem d_M_set_66 : decode prog_6_method_8_code 66 = .ok (.aload_n 0, 1) := by decide +kernel
theorem d_M_set_67 : decode prog_6_method_8_code 67 = .ok (.getfield 90, 3) := by decide +kernel
theorem d_M_set_70 : decode prog_6_method_8_code 70 = .ok (.iconst 5, 1) := by decide +kernel
theorem d_M_set_71 : decode prog_6_method_8_code 71 = .ok (.if_icmp .eq 10, 3) := by decide +kernel
theorem d_M_set_74 : decode prog_6_method_8_code 74 = .ok (.aload_n 0, 1) := by decide +kernel
theorem d_M_set_75 : decode prog_6_method_8_code 75 = .ok (.getfield 93, 3) := by decide +kernel
theorem d_M_set_78 : decode prog_6_method_8_code 78 = .ok (.ifCond .eq 7, 3) := by decide +kernel
theorem d_M_set_81 : decode prog_6_method_8_code 81 = .ok (.iconst 2, 1) := by decide +kernel
theorem d_M_set_82 : decode prog_6_method_8_code 82 = .ok (.goto 4, 3) := by decide +kernel
theorem d_M_set_85 : decode prog_6_method_8_code 85 = .ok (.iconst 0, 1) := by decide +kernel
theorem d_M_set_86 : decode prog_6_method_8_code 86 = .ok (.putfield 84, 3) := by decide +kernel
theorem d_M_set_89 : decode prog_6_method_8_code 89 = .ok (.aload_n 0, 1) := by decide +kernel
theorem d_M_set_90 : decode prog_6_method_8_code 90 = .ok (.getfield 84, 3) := by decide +kernel
theorem d_M_set_93 : decode prog_6_method_8_code 93 = .ok (.ifCond .le 5, 3) := by decide +kernel
theorem d_M_set_96 : decode prog_6_method_8_code 96 = .ok (.iconst 0, 1) := by decide +kernel
theorem d_M_set_97 : decode prog_6_method_8_code 97 = .ok (.ireturn, 1) := by decide +kernel
theorem d_M_set_98 : decode prog_6_method_8_code 98 = .ok (.aload_n 0, 1) := by decide +kernel
theorem d_M_set_99 : decode prog_6_method_8_code 99 = .ok (.getfield 13, 3) := by decide +kernel
theorem d_M_set_102 : decode prog_6_method_8_code 102 = .ok (.aload_n 0, 1) := by decide +kernel
theorem d_M_set_103 : decode prog_6_method_8_code 103 = .ok (.getfield 90, 3) := by decide +kernel
theorem d_M_set_106 : decode prog_6_method_8_code 106 = .ok (.iload_n 1, 1) := by decide +kernel
theorem d_M_set_107 : decode prog_6_method_8_code 107 = .ok (.iastore, 1) := by decide +kernel
theorem d_M_set_108 : decode prog_6_method_8_code 108 = .ok (.aload_n 0, 1) := by decide +kernel
theorem d_M_set_109 : decode prog_6_method_8_code 109 = .ok (.getfield 16, 3) := by decide +kernel
theorem d_M_set_112 : decode prog_6_method_8_code 112 = .ok (.aload_n 0, 1) := by decide +kernel
theorem d_M_set_113 : decode prog_6_method_8_code 113 = .ok (.getfield 90, 3) := by decide +kernel
theorem d_M_set_116 : decode prog_6_method_8_code 116 = .ok (.iload_n 2, 1) := by decide +kernel
theorem d_M_set_117 : decode prog_6_method_8_code 117 = .ok (.iastore, 1) := by decide +kernel
theorem d_M_set_118 : decode prog_6_method_8_code 118 = .ok (.aload_n 0, 1) := by decide +kernel
theorem d_M_set_119 : decode prog_6_method_8_code 119 = .ok (.getfield 19, 3) := by decide +kernel
theorem d_M_set_122 : decode prog_6_method_8_code 122 = .ok (.aload_n 0, 1) := by decide +kernel
theorem d_M_set_123 : decode prog_6_method_8_code 123 = .ok (.getfield 90, 3) := by decide +kernel
theorem d_M_set_126 : decode prog_6_method_8_code 126 = .ok (.iload_n 3, 1) := by decide +kernel
theorem d_M_set_127 : decode prog_6_method_8_code 127 = .ok (.iastore, 1) := by decide +kernel
theorem d_M_set_128 : decode prog_6_method_8_code 128 = .ok (.aload_n 0, 1) := by decide +kernel
theorem d_M_set_129 : decode prog_6_method_8_code 129 = .ok (.getfield 22, 3) := by decide +kernel
theorem d_M_set_132 : decode prog_6_method_8_code 132 = .ok (.aload_n 0, 1) := by decide +kernel
theorem d_M_set_133 : decode prog_6_method_8_code 133 = .ok (.getfield 90, 3) := by decide +kernel
theorem d_M_set_136 : decode prog_6_method_8_code 136 = .ok (.iload 4, 2) := by decide +kernel
theorem d_M_set_138 : decode prog_6_method_8_code 138 = .ok (.iastore, 1) := by decide +kernel
theorem d_M_set_139 : decode prog_6_method_8_code 139 = .ok (.aload_n 0, 1) := by decide +kernel
theorem d_M_set_140 : decode prog_6_method_8_code 140 = .ok (.dup, 1) := by decide +kernel
theorem d_M_set_141 : decode prog_6_method_8_code 141 = .ok (.getfield 90, 3) := by decide +kernel
theorem d_M_set_144 : decode prog_6_method_8_code 144 = .ok (.iconst 1, 1) := by decide +kernel
theorem d_M_set_145 : decode prog_6_method_8_code 145 = .ok (.iadd, 1) := by decide +kernel
theorem d_M_set_146 : decode prog_6_method_8_code 146 = .ok (.putfield 90, 3) := by decide +kernel
theorem d_M_set_149 : decode prog_6_method_8_code 149 = .ok (.aload_n 0, 1) := by decide +kernel
theorem d_M_set_150 : decode prog_6_method_8_code 150 = .ok (.getfield 90, 3) := by decide +kernel
theorem d_M_set_153 : decode prog_6_method_8_code 153 = .ok (.iconst 1, 1) := by decide +kernel
theorem d_M_set_154 : decode prog_6_method_8_code 154 = .ok (.isub, 1) := by decide +kernel
theorem d_M_set_155 : decode prog_6_method_8_code 155 = .ok (.ireturn, 1) := by decide +kernel
theorem d_M_isType_0 : decode prog_6_method_4_code 0 = .ok (.iload_n 1, 1) := by decide +kernel
theorem d_M_isType_1 : decode prog_6_method_4_code 1 = .ok (.ifCond .lt 15, 3) := by decide +kernel
theorem d_M_isType_4 : decode prog_6_method_4_code 4 = .ok (.iload_n 1, 1) := by decide +kernel
theorem d_M_isType_5 : decode prog_6_method_4_code 5 = .ok (.aload_n 0, 1) := by decide +kernel
theorem d_M_isType_6 : decode prog_6_method_4_code 6 = .ok (.getfield 87, 3) := by decide +kernel
theorem d_M_isType_9 : decode prog_6_method_4_code 9 = .ok (.if_icmp .ge 7, 3) := by decide +kernel
theorem d_M_isType_12 : decode prog_6_method_4_code 12 = .ok (.iconst 1, 1) := by decide +kernel
theorem d_M_isType_13 : decode prog_6_method_4_code 13 = .ok (.goto 4, 3) := by decide +kernel
theorem d_M_isType_16 : decode prog_6_method_4_code 16 = .ok (.iconst 0, 1) := by decide +kernel
theorem d_M_isType_17 : decode prog_6_method_4_code 17 = .ok (.ireturn, 1) := by decide +kernel
theorem d_M_isOrder_0 : decode prog_6_method_7_code 0 = .ok (.iload_n 0, 1) := by decide +kernel
theorem d_M_isOrder_1 : decode prog_6_method_7_code 1 = .ok (.bipush 10, 2) := by decide +kernel
theorem d_M_isOrder_3 : decode prog_6_method_7_code 3 = .ok (.if_icmp .lt 29, 3) := by decide +kernel
theorem d_M_isOrder_6 : decode prog_6_method_7_code 6 = .ok (.iload_n 0, 1) := by decide +kernel
theorem d_M_isOrder_7 : decode prog_6_method_7_code 7 = .ok (.bipush 32, 2) := by decide +kernel
theorem d_M_isOrder_9 : decode prog_6_method_7_code 9 = .ok (.if_icmp .gt 23, 3) := by decide +kernel
theorem d_M_isOrder_12 : decode prog_6_method_7_code 12 = .ok (.iload_n 0, 1) := by decide +kernel
theorem d_M_isOrder_13 : decode prog_6_method_7_code 13 = .ok (.bipush 10, 2) := by decide +kernel
theorem d_M_isOrder_15 : decode prog_6_method_7_code 15 = .ok (.irem, 1) := by decide +kernel
theorem d_M_isOrder_16 : decode prog_6_method_7_code 16 = .ok (.iconst 3, 1) := by decide +kernel
theorem d_M_isOrder_17 : decode prog_6_method_7_code 17 = .ok (.if_icmp .ge 15, 3) := by decide +kernel
theorem d_M_isOrder_20 : decode prog_6_method_7_code 20 = .ok (.iload_n 0, 1) := by decide +kernel
theorem d_M_isOrder_21 : decode prog_6_method_7_code 21 = .ok (.bipush 10, 2) := by decide +kernel
theorem d_M_isOrder_23 : decode prog_6_method_7_code 23 = .ok (.irem, 1) := by decide +kernel
theorem d_M_isOrder_24 : decode prog_6_method_7_code 24 = .ok (.iload_n 1, 1) := by decide +kernel
theorem d_M_isOrder_25 : decode prog_6_method_7_code 25 = .ok (.if_icmp .ge 7, 3) := by decide +kernel
theorem d_M_isOrder_28 : decode prog_6_method_7_code 28 = .ok (.iconst 1, 1) := by decide +kernel
theorem d_M_isOrder_29 : decode prog_6_method_7_code 29 = .ok (.goto 4, 3) := by decide +kernel
theorem d_M_isOrder_32 : decode prog_6_method_7_code 32 = .ok (.iconst 0, 1) := by decide +kernel
theorem d_M_isOrder_33 : decode prog_6_method_7_code 33 = .ok (.istore_n 2, 1) := by decide +kernel
theorem d_M_isOrder_34 : decode prog_6_method_7_code 34 = .ok (.iload_n 0, 1) := by decide +kernel
theorem d_M_isOrder_35 : decode prog_6_method_7_code 35 = .ok (.ifCond .lt 8, 3) := by decide +kernel
theorem d_M_isOrder_38 : decode prog_6_method_7_code 38 = .ok (.iload_n 0, 1) := by decide +kernel
theorem d_M_isOrder_39 : decode prog_6_method_7_code 39 = .ok (.iconst 3, 1) := by decide +kernel
theorem d_M_isOrder_40 : decode prog_6_method_7_code 40 = .ok (.if_icmp .le 7, 3) := by decide +kernel
theorem d_M_isOrder_43 : decode prog_6_method_7_code 43 = .ok (.iload_n 2, 1) := by decide +kernel
theorem d_M_isOrder_44 : decode prog_6_method_7_code 44 = .ok (.ifCond .eq 7, 3) := by decide +kernel
theorem d_M_isOrder_47 : decode prog_6_method_7_code 47 = .ok (.iconst 1, 1) := by decide +kernel
theorem d_M_isOrder_48 : decode prog_6_method_7_code 48 = .ok (.goto 4, 3) := by decide +kernel
theorem d_M_isOrder_51 : decode prog_6_method_7_code 51 = .ok (.iconst 0, 1) := by decide +kernel
theorem d_M_isOrder_52 : decode prog_6_method_7_code 52 = .ok (.ireturn, 1) := by decide +kernel
theorem d_M_store_0 : decode prog_6_method_22_code 0 = .ok (.aload_n 0, 1) := by decide +kernel
theorem d_M_store_1 : decode prog_6_method_22_code 1 = .ok (.aload_n 0, 1) := by decide +kernel
theorem d_M_store_2 : decode prog_6_method_22_code 2 = .ok (.iload_n 1, 1) := by decide +kernel
theorem d_M_store_3 : decode prog_6_method_22_code 3 = .ok (.invokevirtual 97, 3) := by decide +kernel
theorem d_M_store_6 : decode prog_6_method_22_code 6 = .ok (.ifCond .eq 7, 3) := by decide +kernel
theorem d_M_store_9 : decode prog_6_method_22_code 9 = .ok (.iconst 0, 1) := by decide +kernel
theorem d_M_store_10 : decode prog_6_method_22_code 10 = .ok (.goto 4, 3) := by decide +kernel
theorem d_M_store_13 : decode prog_6_method_22_code 13 = .ok (.iconst 1, 1) := by decide +kernel
theorem d_M_store_14 : decode prog_6_method_22_code 14 = .ok (.putfield 84, 3) := by decide +kernel
theorem d_M_store_17 : decode prog_6_method_22_code 17 = .ok (.aload_n 0, 1) := by decide +kernel
theorem d_M_store_18 : decode prog_6_method_22_code 18 = .ok (.getfield 84, 3) := by decide +kernel
theorem d_M_store_21 : decode prog_6_method_22_code 21 = .ok (.ifCond .le 5, 3) := by decide +kernel
theorem d_M_store_24 : decode prog_6_method_22_code 24 = .ok (.iconst 0, 1) := by decide +kernel
theorem d_M_store_25 : decode prog_6_method_22_code 25 = .ok (.ireturn, 1) := by decide +kernel
theorem d_M_store_26 : decode prog_6_method_22_code 26 = .ok (.iconst 0, 1) := by decide +kernel
theorem d_M_store_27 : decode prog_6_method_22_code 27 = .ok (.istore 5, 2) := by decide +kernel
theorem d_M_store_29 : decode prog_6_method_22_code 29 = .ok (.iload 5, 2) := by decide +kernel
theorem d_M_store_31 : decode prog_6_method_22_code 31 = .ok (.bipush 23, 2) := by decide +kernel
theorem d_M_store_33 : decode prog_6_method_22_code 33 = .ok (.if_icmp .ge 19, 3) := by decide +kernel
theorem d_M_store_36 : decode prog_6_method_22_code 36 = .ok (.aload_n 0, 1) := by decide +kernel
theorem d_M_store_37 : decode prog_6_method_22_code 37 = .ok (.getfield 29, 3) := by decide +kernel
theorem d_M_store_40 : decode prog_6_method_22_code 40 = .ok (.iload 5, 2) := by decide +kernel
theorem d_M_store_42 : decode prog_6_method_22_code 42 = .ok (.iaload, 1) := by decide +kernel
theorem d_M_store_43 : decode prog_6_method_22_code 43 = .ok (.ifCond .le 9, 3) := by decide +kernel
theorem d_M_store_46 : decode prog_6_method_22_code 46 = .ok (.iinc 5 1, 3) := by decide +kernel
theorem d_M_store_49 : decode prog_6_method_22_code 49 = .ok (.goto (-20), 3) := by decide +kernel
theorem d_M_store_52 : decode prog_6_method_22_code 52 = .ok (.aload_n 0, 1) := by decide +kernel
theorem d_M_store_53 : decode prog_6_method_22_code 53 = .ok (.getfield 29, 3) := by decide +kernel
theorem d_M_store_56 : decode prog_6_method_22_code 56 = .ok (.iload 5, 2) := by decide +kernel
theorem d_M_store_58 : decode prog_6_method_22_code 58 = .ok (.iaload, 1) := by decide +kernel
theorem d_M_store_59 : decode prog_6_method_22_code 59 = .ok (.ifCond .le 7, 3) := by decide +kernel
theorem d_M_store_62 : decode prog_6_method_22_code 62 = .ok (.iconst 1, 1) := by decide +kernel
theorem d_M_store_63 : decode prog_6_method_22_code 63 = .ok (.goto 4, 3) := by decide +kernel
theorem d_M_store_66 : decode prog_6_method_22_code 66 = .ok (.iconst 0, 1) := by decide +kernel
theorem d_M_store_67 : decode prog_6_method_22_code 67 = .ok (.istore 6, 2) := by decide +kernel
theorem d_M_store_69 : decode prog_6_method_22_code 69 = .ok (.aload_n 0, 1) := by decide +kernel
theorem d_M_store_70 : decode prog_6_method_22_code 70 = .ok (.getfield 35, 3) := by decide +kernel
theorem d_M_store_73 : decode prog_6_method_22_code 73 = .ok (.iconst 3, 1) := by decide +kernel
theorem d_M_store_74 : decode prog_6_method_22_code 74 = .ok (.iload 5, 2) := by decide +kernel
theorem d_M_store_76 : decode prog_6_method_22_code 76 = .ok (.imul, 1) := by decide +kernel
theorem d_M_store_77 : decode prog_6_method_22_code 77 = .ok (.iaload, 1) := by decide +kernel
theorem d_M_store_78 : decode prog_6_method_22_code 78 = .ok (.istore 7, 2) := by decide +kernel
theorem d_M_store_80 : decode prog_6_method_22_code 80 = .ok (.aload_n 0, 1) := by decide +kernel
theorem d_M_store_81 : decode prog_6_method_22_code 81 = .ok (.getfield 35, 3) := by decide +kernel
theorem d_M_store_84 : decode prog_6_method_22_code 84 = .ok (.iconst 3, 1) := by decide +kernel
theorem d_M_store_85 : decode prog_6_method_22_code 85 = .ok (.iload 5, 2) := by decide +kernel
theorem d_M_store_87 : decode prog_6_method_22_code 87 = .ok (.imul, 1) := by decide +kernel
theorem d_M_store_88 : decode prog_6_method_22_code 88 = .ok (.iconst 1, 1) := by decide +kernel
theorem d_M_store_89 : decode prog_6_method_22_code 89 = .ok (.iadd, 1) := by decide +kernel
theorem d_M_store_90 : decode prog_6_method_22_code 90 = .ok (.iaload, 1) := by decide +kernel
theorem d_M_store_91 : decode prog_6_method_22_code 91 = .ok (.istore 8, 2) := by decide +kernel
theorem d_M_store_93 : decode prog_6_method_22_code 93 = .ok (.aload_n 0, 1) := by decide +kernel
theorem d_M_store_94 : decode prog_6_method_22_code 94 = .ok (.getfield 35, 3) := by decide +kernel
theorem d_M_store_97 : decode prog_6_method_22_code 97 = .ok (.iconst 3, 1) := by decide +kernel
theorem d_M_store_98 : decode prog_6_method_22_code 98 = .ok (.iload 5, 2) := by decide +kernel
theorem d_M_store_100 : decode prog_6_method_22_code 100 = .ok (.imul, 1) := by decide +kernel
theorem d_M_store_101 : decode prog_6_method_22_code 101 = .ok (.iconst 2, 1) := by decide +kernel
theorem d_M_store_102 : decode prog_6_method_22_code 102 = .ok (.iadd, 1) := by decide +kernel
theorem d_M_store_103 : decode prog_6_method_22_code 103 = .ok (.iaload, 1) := by decide +kernel
theorem d_M_store_104 : decode prog_6_method_22_code 104 = .ok (.istore 9, 2) := by decide +kernel
theorem d_M_store_106 : decode prog_6_method_22_code 106 = .ok (.aload_n 0, 1) := by decide +kernel
theorem d_M_store_107 : decode prog_6_method_22_code 107 = .ok (.getfield 35, 3) := by decide +kernel
theorem d_M_store_110 : decode prog_6_method_22_code 110 = .ok (.iconst 3, 1) := by decide +kernel
theorem d_M_store_111 : decode prog_6_method_22_code 111 = .ok (.iload 5, 2) := by decide +kernel
theorem d_M_store_113 : decode prog_6_method_22_code 113 = .ok (.imul, 1) := by decide +kernel
theorem d_M_store_114 : decode prog_6_method_22_code 114 = .ok (.iload_n 2, 1) := by decide +kernel
theorem d_M_store_115 : decode prog_6_method_22_code 115 = .ok (.iastore, 1) := by decide +kernel
theorem d_M_store_116 : decode prog_6_method_22_code 116 = .ok (.aload_n 0, 1) := by decide +kernel
theorem d_M_store_117 : decode prog_6_method_22_code 117 = .ok (.getfield 35, 3) := by decide +kernel
theorem d_M_store_120 : decode prog_6_method_22_code 120 = .ok (.iconst 3, 1) := by decide +kernel
theorem d_M_store_121 : decode prog_6_method_22_code 121 = .ok (.iload 5, 2) := by decide +kernel
theorem d_M_store_123 : decode prog_6_method_22_code 123 = .ok (.imul, 1) := by decide +kernel
theorem d_M_store_124 : decode prog_6_method_22_code 124 = .ok (.iconst 1, 1) := by decide +kernel
theorem d_M_store_125 : decode prog_6_method_22_code 125 = .ok (.iadd, 1) := by decide +kernel
theorem d_M_store_126 : decode prog_6_method_22_code 126 = .ok (.aload_n 0, 1) := by decide +kernel
theorem d_M_store_127 : decode prog_6_method_22_code 127 = .ok (.getfield 7, 3) := by decide +kernel
theorem d_M_store_130 : decode prog_6_method_22_code 130 = .ok (.iload_n 1, 1) := by decide +kernel
theorem d_M_store_131 : decode prog_6_method_22_code 131 = .ok (.iaload, 1) := by decide +kernel
theorem d_M_store_132 : decode prog_6_method_22_code 132 = .ok (.iconst 1, 1) := by decide +kernel
theorem d_M_store_133 : decode prog_6_method_22_code 133 = .ok (.if_icmp .le 7, 3) := by decide +kernel
theorem d_M_store_136 : decode prog_6_method_22_code 136 = .ok (.iload_n 3, 1) := by decide +kernel
theorem d_M_store_137 : decode prog_6_method_22_code 137 = .ok (.goto 4, 3) := by decide +kernel
theorem d_M_store_140 : decode prog_6_method_22_code 140 = .ok (.iconst 0, 1) := by decide +kernel
theorem d_M_store_141 : decode prog_6_method_22_code 141 = .ok (.iastore, 1) := by decide +kernel
theorem d_M_store_142 : decode prog_6_method_22_code 142 = .ok (.aload_n 0, 1) := by decide +kernel
theorem d_M_store_143 : decode prog_6_method_22_code 143 = .ok (.getfield 35, 3) := by decide +kernel
theorem d_M_store_146 : decode prog_6_method_22_code 146 = .ok (.iconst 3, 1) := by decide +kernel
theorem d_M_store_147 : decode prog_6_method_22_code 147 = .ok (.iload 5, 2) := by decide +kernel
theorem d_M_store_149 : decode prog_6_method_22_code 149 = .ok (.imul, 1) := by decide +kernel
theorem d_M_store_150 : decode prog_6_method_22_code 150 = .ok (.iconst 2, 1) := by decide +kernel
theorem d_M_store_151 : decode prog_6_method_22_code 151 = .ok (.iadd, 1) := by decide +kernel
theorem d_M_store_152 : decode prog_6_method_22_code 152 = .ok (.aload_n 0, 1) := by decide +kernel
theorem d_M_store_153 : decode prog_6_method_22_code 153 = .ok (.getfield 7, 3) := by decide +kernel
theorem d_M_store_156 : decode prog_6_method_22_code 156 = .ok (.iload_n 1, 1) := by decide +kernel
theorem d_M_store_157 : decode prog_6_method_22_code 157 = .ok (.iaload, 1) := by decide +kernel
theorem d_M_store_158 : decode prog_6_method_22_code 158 = .ok (.iconst 2, 1) := by decide +kernel
theorem d_M_store_159 : decode prog_6_method_22_code 159 = .ok (.if_icmp .le 8, 3) := by decide +kernel
theorem d_M_store_162 : decode prog_6_method_22_code 162 = .ok (.iload 4, 2) := by decide +kernel
theorem d_M_store_164 : decode prog_6_method_22_code 164 = .ok (.goto 4, 3) := by decide +kernel
theorem d_M_store_167 : decode prog_6_method_22_code 167 = .ok (.iconst 0, 1) := by decide +kernel
theorem d_M_store_168 : decode prog_6_method_22_code 168 = .ok (.iastore, 1) := by decide +kernel
theorem d_M_store_169 : decode prog_6_method_22_code 169 = .ok (.aload_n 0, 1) := by decide +kernel
theorem d_M_store_170 : decode prog_6_method_22_code 170 = .ok (.iload_n 1, 1) := by decide +kernel
theorem d_M_store_171 : decode prog_6_method_22_code 171 = .ok (.iload 5, 2) := by decide +kernel
theorem d_M_store_173 : decode prog_6_method_22_code 173 = .ok (.invokevirtual 128, 3) := by decide +kernel
theorem d_M_store_176 : decode prog_6_method_22_code 176 = .ok (.istore 10, 2) := by decide +kernel
theorem d_M_store_178 : decode prog_6_method_22_code 178 = .ok (.aload_n 0, 1) := by decide +kernel
theorem d_M_store_179 : decode prog_6_method_22_code 179 = .ok (.iload 10, 2) := by decide +kernel
theorem d_M_store_181 : decode prog_6_method_22_code 181 = .ok (.iconst 2, 1) := by decide +kernel
theorem d_M_store_182 : decode prog_6_method_22_code 182 = .ok (.if_icmp .ne 7, 3) := by decide +kernel
theorem d_M_store_185 : decode prog_6_method_22_code 185 = .ok (.iconst 2, 1) := by decide +kernel
theorem d_M_store_186 : decode prog_6_method_22_code 186 = .ok (.goto 19, 3) := by decide +kernel
theorem d_M_store_189 : decode prog_6_method_22_code 189 = .ok (.iload 6, 2) := by decide +kernel
theorem d_M_store_191 : decode prog_6_method_22_code 191 = .ok (.ifCond .ne 9, 3) := by decide +kernel
theorem d_M_store_194 : decode prog_6_method_22_code 194 = .ok (.iload 10, 2) := by decide +kernel
theorem d_M_store_196 : decode prog_6_method_22_code 196 = .ok (.iconst 3, 1) := by decide +kernel
theorem d_M_store_197 : decode prog_6_method_22_code 197 = .ok (.if_icmp .ne 7, 3) := by decide +kernel
theorem d_M_store_200 : decode prog_6_method_22_code 200 = .ok (.iconst 3, 1) := by decide +kernel
theorem d_M_store_201 : decode prog_6_method_22_code 201 = .ok (.goto 4, 3) := by decide +kernel
theorem d_M_store_204 : decode prog_6_method_22_code 204 = .ok (.iconst 0, 1) := by decide +kernel
theorem d_M_store_205 : decode prog_6_method_22_code 205 = .ok (.putfield 84, 3) := by decide +kernel
theorem d_M_store_208 : decode prog_6_method_22_code 208 = .ok (.aload_n 0, 1) := by decide +kernel
theorem d_M_store_209 : decode prog_6_method_22_code 209 = .ok (.getfield 84, 3) := by decide +kernel
theorem d_M_store_212 : decode prog_6_method_22_code 212 = .ok (.ifCond .le 42, 3) := by decide +kernel
theorem d_M_store_215 : decode prog_6_method_22_code 215 = .ok (.aload_n 0, 1) := by decide +kernel
theorem d_M_store_216 : decode prog_6_method_22_code 216 = .ok (.getfield 35, 3) := by decide +kernel
theorem d_M_store_219 : decode prog_6_method_22_code 219 = .ok (.iconst 3, 1) := by decide +kernel
theorem d_M_store_220 : decode prog_6_method_22_code 220 = .ok (.iload 5, 2) := by decide +kernel
theorem d_M_store_222 : decode prog_6_method_22_code 222 = .ok (.imul, 1) := by decide +kernel
theorem d_M_store_223 : decode prog_6_method_22_code 223 = .ok (.iload 7, 2) := by decide +kernel
theorem d_M_store_225 : decode prog_6_method_22_code 225 = .ok (.iastore, 1) := by decide +kernel
theorem d_M_store_226 : decode prog_6_method_22_code 226 = .ok (.aload_n 0, 1) := by decide +kernel
theorem d_M_store_227 : decode prog_6_method_22_code 227 = .ok (.getfield 35, 3) := by decide +kernel
theorem d_M_store_230 : decode prog_6_method_22_code 230 = .ok (.iconst 3, 1) := by decide +kernel
theorem d_M_store_231 : decode prog_6_method_22_code 231 = .ok (.iload 5, 2) := by decide +kernel
theorem d_M_store_233 : decode prog_6_method_22_code 233 = .ok (.imul, 1) := by decide +kernel
theorem d_M_store_234 : decode prog_6_method_22_code 234 = .ok (.iconst 1, 1) := by decide +kernel
theorem d_M_store_235 : decode prog_6_method_22_code 235 = .ok (.iadd, 1) := by decide +kernel
theorem d_M_store_236 : decode prog_6_method_22_code 236 = .ok (.iload 8, 2) := by decide +kernel
theorem d_M_store_238 : decode prog_6_method_22_code 238 = .ok (.iastore, 1) := by decide +kernel
theorem d_M_store_239 : decode prog_6_method_22_code 239 = .ok (.aload_n 0, 1) := by decide +kernel
theorem d_M_store_240 : decode prog_6_method_22_code 240 = .ok (.getfield 35, 3) := by decide +kernel
theorem d_M_store_243 : decode prog_6_method_22_code 243 = .ok (.iconst 3, 1) := by decide +kernel
theorem d_M_store_244 : decode prog_6_method_22_code 244 = .ok (.iload 5, 2) := by decide +kernel
theorem d_M_store_246 : decode prog_6_method_22_code 246 = .ok (.imul, 1) := by decide +kernel
theorem d_M_store_247 : decode prog_6_method_22_code 247 = .ok (.iconst 2, 1) := by decide +kernel
theorem d_M_store_248 : decode prog_6_method_22_code 248 = .ok (.iadd, 1) := by decide +kernel
theorem d_M_store_249 : decode prog_6_method_22_code 249 = .ok (.iload 9, 2) := by decide +kernel
theorem d_M_store_251 : decode prog_6_method_22_code 251 = .ok (.iastore, 1) := by decide +kernel
theorem d_M_store_252 : decode prog_6_method_22_code 252 = .ok (.iconst 0, 1) := by decide +kernel
theorem d_M_store_253 : decode prog_6_method_22_code 253 = .ok (.ireturn, 1) := by decide +kernel
theorem d_M_store_254 : decode prog_6_method_22_code 254 = .ok (.aload_n 0, 1) := by decide +kernel
theorem d_M_store_255 : decode prog_6_method_22_code 255 = .ok (.getfield 29, 3) := by decide +kernel
theorem d_M_store_258 : decode prog_6_method_22_code 258 = .ok (.iload 5, 2) := by decide +kernel
theorem d_M_store_260 : decode prog_6_method_22_code 260 = .ok (.aload_n 0, 1) := by decide +kernel
theorem d_M_store_261 : decode prog_6_method_22_code 261 = .ok (.getfield 25, 3) := by decide +kernel
theorem d_M_store_264 : decode prog_6_method_22_code 264 = .ok (.iastore, 1) := by decide +kernel
theorem d_M_store_265 : decode prog_6_method_22_code 265 = .ok (.aload_n 0, 1) := by decide +kernel
theorem d_M_store_266 : decode prog_6_method_22_code 266 = .ok (.dup, 1) := by decide +kernel
theorem d_M_store_267 : decode prog_6_method_22_code 267 = .ok (.getfield 25, 3) := by decide +kernel
theorem d_M_store_270 : decode prog_6_method_22_code 270 = .ok (.iconst 1, 1) := by decide +kernel
theorem d_M_store_271 : decode prog_6_method_22_code 271 = .ok (.iadd, 1) := by decide +kernel
theorem d_M_store_272 : decode prog_6_method_22_code 272 = .ok (.putfield 25, 3) := by decide +kernel
theorem d_M_store_275 : decode prog_6_method_22_code 275 = .ok (.aload_n 0, 1) := by decide +kernel
theorem d_M_store_276 : decode prog_6_method_22_code 276 = .ok (.getfield 32, 3) := by decide +kernel
theorem d_M_store_279 : decode prog_6_method_22_code 279 = .ok (.iload 5, 2) := by decide +kernel
theorem d_M_store_281 : decode prog_6_method_22_code 281 = .ok (.iload_n 1, 1) := by decide +kernel
theorem d_M_store_282 : decode prog_6_method_22_code 282 = .ok (.iastore, 1) := by decide +kernel
theorem d_M_store_283 : decode prog_6_method_22_code 283 = .ok (.aload_n 0, 1) := by decide +kernel
theorem d_M_store_284 : decode prog_6_method_22_code 284 = .ok (.iconst 1, 1) := by decide +kernel
theorem d_M_store_285 : decode prog_6_method_22_code 285 = .ok (.putfield 93, 3) := by decide +kernel
theorem d_M_store_288 : decode prog_6_method_22_code 288 = .ok (.iconst 0, 1) := by decide +kernel
theorem d_M_store_289 : decode prog_6_method_22_code 289 = .ok (.istore 11, 2) := by decide +kernel
theorem d_M_store_291 : decode prog_6_method_22_code 291 = .ok (.iload 11, 2) := by decide +kernel
theorem d_M_store_293 : decode prog_6_method_22_code 293 = .ok (.aload_n 0, 1) := by decide +kernel
theorem d_M_store_294 : decode prog_6_method_22_code 294 = .ok (.getfield 90, 3) := by decide +kernel
theorem d_M_store_297 : decode prog_6_method_22_code 297 = .ok (.if_icmp .ge 45, 3) := by decide +kernel
theorem d_M_store_300 : decode prog_6_method_22_code 300 = .ok (.aload_n 0, 1) := by decide +kernel
theorem d_M_store_301 : decode prog_6_method_22_code 301 = .ok (.getfield 16, 3) := by decide +kernel
theorem d_M_store_304 : decode prog_6_method_22_code 304 = .ok (.iload 11, 2) := by decide +kernel
theorem d_M_store_306 : decode prog_6_method_22_code 306 = .ok (.iaload, 1) := by decide +kernel
theorem d_M_store_307 : decode prog_6_method_22_code 307 = .ok (.iload_n 1, 1) := by decide +kernel
theorem d_M_store_308 : decode prog_6_method_22_code 308 = .ok (.if_icmp .ne 28, 3) := by decide +kernel
theorem d_M_store_311 : decode prog_6_method_22_code 311 = .ok (.aload_n 0, 1) := by decide +kernel
theorem d_M_store_312 : decode prog_6_method_22_code 312 = .ok (.getfield 22, 3) := by decide +kernel
theorem d_M_store_315 : decode prog_6_method_22_code 315 = .ok (.iload 11, 2) := by decide +kernel
theorem d_M_store_317 : decode prog_6_method_22_code 317 = .ok (.iaload, 1) := by decide +kernel
theorem d_M_store_318 : decode prog_6_method_22_code 318 = .ok (.iconst 2, 1) := by decide +kernel
theorem d_M_store_319 : decode prog_6_method_22_code 319 = .ok (.if_icmp .le 17, 3) := by decide +kernel
theorem d_M_store_322 : decode prog_6_method_22_code 322 = .ok (.aload_n 0, 1) := by decide +kernel
theorem d_M_store_323 : decode prog_6_method_22_code 323 = .ok (.iload 11, 2) := by decide +kernel
theorem d_M_store_325 : decode prog_6_method_22_code 325 = .ok (.aload_n 0, 1) := by decide +kernel
theorem d_M_store_326 : decode prog_6_method_22_code 326 = .ok (.iload 11, 2) := by decide +kernel
theorem d_M_store_328 : decode prog_6_method_22_code 328 = .ok (.invokevirtual 120, 3) := by decide +kernel
theorem d_M_store_331 : decode prog_6_method_22_code 331 = .ok (.iload 5, 2) := by decide +kernel
theorem d_M_store_333 : decode prog_6_method_22_code 333 = .ok (.invokevirtual 131, 3) := by decide +kernel
theorem d_M_store_336 : decode prog_6_method_22_code 336 = .ok (.iinc 11 1, 3) := by decide +kernel
theorem d_M_store_339 : decode prog_6_method_22_code 339 = .ok (.goto (-48), 3) := by decide +kernel
theorem d_M_store_342 : decode prog_6_method_22_code 342 = .ok (.aload_n 0, 1) := by decide +kernel
theorem d_M_store_343 : decode prog_6_method_22_code 343 = .ok (.iload 5, 2) := by decide +kernel
theorem d_M_store_345 : decode prog_6_method_22_code 345 = .ok (.iconst 0, 1) := by decide +kernel
theorem d_M_store_346 : decode prog_6_method_22_code 346 = .ok (.invokevirtual 135, 3) := by decide +kernel
theorem d_M_store_349 : decode prog_6_method_22_code 349 = .ok (.aload_n 0, 1) := by decide +kernel
theorem d_M_store_350 : decode prog_6_method_22_code 350 = .ok (.getfield 29, 3) := by decide +kernel
theorem d_M_store_353 : decode prog_6_method_22_code 353 = .ok (.iload 5, 2) := by decide +kernel
theorem d_M_store_355 : decode prog_6_method_22_code 355 = .ok (.iaload, 1) := by decide +kernel
theorem d_M_store_356 : decode prog_6_method_22_code 356 = .ok (.ireturn, 1) := by decide +kernel
theorem d_M_objection_0 : decode prog_6_method_21_code 0 = .ok (.iconst 0, 1) := by decide +kernel
theorem d_M_objection_1 : decode prog_6_method_21_code 1 = .ok (.istore_n 3, 1) := by decide +kernel
theorem d_M_objection_2 : decode prog_6_method_21_code 2 = .ok (.iconst 0, 1) := by decide +kernel
theorem d_M_objection_3 : decode prog_6_method_21_code 3 = .ok (.istore 4, 2) := by decide +kernel
theorem d_M_objection_5 : decode prog_6_method_21_code 5 = .ok (.iload 4, 2) := by decide +kernel
theorem d_M_objection_7 : decode prog_6_method_21_code 7 = .ok (.aload_n 0, 1) := by decide +kernel
theorem d_M_objection_8 : decode prog_6_method_21_code 8 = .ok (.getfield 90, 3) := by decide +kernel
theorem d_M_objection_11 : decode prog_6_method_21_code 11 = .ok (.if_icmp .ge 110, 3) := by decide +kernel
theorem d_M_objection_14 : decode prog_6_method_21_code 14 = .ok (.aload_n 0, 1) := by decide +kernel
theorem d_M_objection_15 : decode prog_6_method_21_code 15 = .ok (.getfield 16, 3) := by decide +kernel
theorem d_M_objection_18 : decode prog_6_method_21_code 18 = .ok (.iload 4, 2) := by decide +kernel
theorem d_M_objection_20 : decode prog_6_method_21_code 20 = .ok (.iaload, 1) := by decide +kernel
theorem d_M_objection_21 : decode prog_6_method_21_code 21 = .ok (.iload_n 1, 1) := by decide +kernel
theorem d_M_objection_22 : decode prog_6_method_21_code 22 = .ok (.if_icmp .ne 93, 3) := by decide +kernel
theorem d_M_objection_25 : decode prog_6_method_21_code 25 = .ok (.aload_n 0, 1) := by decide +kernel
theorem d_M_objection_26 : decode prog_6_method_21_code 26 = .ok (.getfield 22, 3) := by decide +kernel
theorem d_M_objection_29 : decode prog_6_method_21_code 29 = .ok (.iload 4, 2) := by decide +kernel
theorem d_M_objection_31 : decode prog_6_method_21_code 31 = .ok (.iaload, 1) := by decide +kernel
theorem d_M_objection_32 : decode prog_6_method_21_code 32 = .ok (.iconst 2, 1) := by decide +kernel
theorem d_M_objection_33 : decode prog_6_method_21_code 33 = .ok (.if_icmp .le 82, 3) := by decide +kernel
theorem d_M_objection_36 : decode prog_6_method_21_code 36 = .ok (.aload_n 0, 1) := by decide +kernel
theorem d_M_objection_37 : decode prog_6_method_21_code 37 = .ok (.iload 4, 2) := by decide +kernel
theorem d_M_objection_39 : decode prog_6_method_21_code 39 = .ok (.invokevirtual 120, 3) := by decide +kernel
theorem d_M_objection_42 : decode prog_6_method_21_code 42 = .ok (.istore 5, 2) := by decide +kernel
theorem d_M_objection_44 : decode prog_6_method_21_code 44 = .ok (.aload_n 0, 1) := by decide +kernel
theorem d_M_objection_45 : decode prog_6_method_21_code 45 = .ok (.getfield 19, 3) := by decide +kernel
theorem d_M_objection_48 : decode prog_6_method_21_code 48 = .ok (.iload 4, 2) := by decide +kernel
theorem d_M_objection_50 : decode prog_6_method_21_code 50 = .ok (.iaload, 1) := by decide +kernel
theorem d_M_objection_51 : decode prog_6_method_21_code 51 = .ok (.bipush 10, 2) := by decide +kernel
theorem d_M_objection_53 : decode prog_6_method_21_code 53 = .ok (.if_icmp .ge 7, 3) := by decide +kernel
theorem d_M_objection_56 : decode prog_6_method_21_code 56 = .ok (.iconst 0, 1) := by decide +kernel
theorem d_M_objection_57 : decode prog_6_method_21_code 57 = .ok (.goto 22, 3) := by decide +kernel
theorem d_M_objection_60 : decode prog_6_method_21_code 60 = .ok (.aload_n 0, 1) := by decide +kernel
theorem d_M_objection_61 : decode prog_6_method_21_code 61 = .ok (.getfield 35, 3) := by decide +kernel
theorem d_M_objection_64 : decode prog_6_method_21_code 64 = .ok (.iconst 3, 1) := by decide +kernel
theorem d_M_objection_65 : decode prog_6_method_21_code 65 = .ok (.iload_n 2, 1) := by decide +kernel
theorem d_M_objection_66 : decode prog_6_method_21_code 66 = .ok (.imul, 1) := by decide +kernel
theorem d_M_objection_67 : decode prog_6_method_21_code 67 = .ok (.aload_n 0, 1) := by decide +kernel
theorem d_M_objection_68 : decode prog_6_method_21_code 68 = .ok (.getfield 19, 3) := by decide +kernel
theorem d_M_objection_71 : decode prog_6_method_21_code 71 = .ok (.iload 4, 2) := by decide +kernel
theorem d_M_objection_73 : decode prog_6_method_21_code 73 = .ok (.iaload, 1) := by decide +kernel
theorem d_M_objection_74 : decode prog_6_method_21_code 74 = .ok (.bipush 10, 2) := by decide +kernel
theorem d_M_objection_76 : decode prog_6_method_21_code 76 = .ok (.irem, 1) := by decide +kernel
theorem d_M_objection_77 : decode prog_6_method_21_code 77 = .ok (.iadd, 1) := by decide +kernel
theorem d_M_objection_78 : decode prog_6_method_21_code 78 = .ok (.iaload, 1) := by decide +kernel
theorem d_M_objection_79 : decode prog_6_method_21_code 79 = .ok (.istore 6, 2) := by decide +kernel
theorem d_M_objection_81 : decode prog_6_method_21_code 81 = .ok (.iload 5, 2) := by decide +kernel
theorem d_M_objection_83 : decode prog_6_method_21_code 83 = .ok (.ifCond .lt 8, 3) := by decide +kernel
theorem d_M_objection_86 : decode prog_6_method_21_code 86 = .ok (.iload_n 3, 1) := by decide +kernel
theorem d_M_objection_87 : decode prog_6_method_21_code 87 = .ok (.iconst 2, 1) := by decide +kernel
theorem d_M_objection_88 : decode prog_6_method_21_code 88 = .ok (.if_icmp .ne 7, 3) := by decide +kernel
theorem d_M_objection_91 : decode prog_6_method_21_code 91 = .ok (.iconst 2, 1) := by decide +kernel
theorem d_M_objection_92 : decode prog_6_method_21_code 92 = .ok (.goto 22, 3) := by decide +kernel
theorem d_M_objection_95 : decode prog_6_method_21_code 95 = .ok (.aload_n 0, 1) := by decide +kernel
theorem d_M_objection_96 : decode prog_6_method_21_code 96 = .ok (.iload 4, 2) := by decide +kernel
theorem d_M_objection_98 : decode prog_6_method_21_code 98 = .ok (.iload 5, 2) := by decide +kernel
theorem d_M_objection_100 : decode prog_6_method_21_code 100 = .ok (.iload_n 2, 1) := by decide +kernel
theorem d_M_objection_101 : decode prog_6_method_21_code 101 = .ok (.iload 6, 2) := by decide +kernel
theorem d_M_objection_103 : decode prog_6_method_21_code 103 = .ok (.invokevirtual 124, 3) := by decide +kernel
theorem d_M_objection_106 : decode prog_6_method_21_code 106 = .ok (.ifCond .eq 7, 3) := by decide +kernel
theorem d_M_objection_109 : decode prog_6_method_21_code 109 = .ok (.iconst 3, 1) := by decide +kernel
theorem d_M_objection_110 : decode prog_6_method_21_code 110 = .ok (.goto 4, 3) := by decide +kernel
theorem d_M_objection_113 : decode prog_6_method_21_code 113 = .ok (.iload_n 3, 1) := by decide +kernel
theorem d_M_objection_114 : decode prog_6_method_21_code 114 = .ok (.istore_n 3, 1) := by decide +kernel
theorem d_M_objection_115 : decode prog_6_method_21_code 115 = .ok (.iinc 4 1, 3) := by decide +kernel
theorem d_M_objection_118 : decode prog_6_method_21_code 118 = .ok (.goto (-113), 3) := by decide +kernel
theorem d_M_objection_121 : decode prog_6_method_21_code 121 = .ok (.iload_n 3, 1) := by decide +kernel
theorem d_M_objection_122 : decode prog_6_method_21_code 122 = .ok (.ireturn, 1) := by decide +kernel
theorem d_M_currentOwner_0 : decode prog_6_method_11_code 0 = .ok (.aload_n 0, 1) := by decide +kernel
theorem d_M_currentOwner_1 : decode prog_6_method_11_code 1 = .ok (.getfield 53, 3) := by decide +kernel
theorem d_M_currentOwner_4 : decode prog_6_method_11_code 4 = .ok (.iload_n 1, 1) := by decide +kernel
theorem d_M_currentOwner_5 : decode prog_6_method_11_code 5 = .ok (.iaload, 1) := by decide +kernel
theorem d_M_currentOwner_6 : decode prog_6_method_11_code 6 = .ok (.istore_n 2, 1) := by decide +kernel
theorem d_M_currentOwner_7 : decode prog_6_method_11_code 7 = .ok (.iload_n 2, 1) := by decide +kernel
theorem d_M_currentOwner_8 : decode prog_6_method_11_code 8 = .ok (.ifCond .lt 18, 3) := by decide +kernel
theorem d_M_currentOwner_11 : decode prog_6_method_11_code 11 = .ok (.aload_n 0, 1) := by decide +kernel
theorem d_M_currentOwner_12 : decode prog_6_method_11_code 12 = .ok (.getfield 32, 3) := by decide +kernel
theorem d_M_currentOwner_15 : decode prog_6_method_11_code 15 = .ok (.iload_n 2, 1) := by decide +kernel
theorem d_M_currentOwner_16 : decode prog_6_method_11_code 16 = .ok (.iaload, 1) := by decide +kernel
theorem d_M_currentOwner_17 : decode prog_6_method_11_code 17 = .ok (.aload_n 0, 1) := by decide +kernel
theorem d_M_currentOwner_18 : decode prog_6_method_11_code 18 = .ok (.getfield 13, 3) := by decide +kernel
theorem d_M_currentOwner_21 : decode prog_6_method_11_code 21 = .ok (.iload_n 1, 1) := by decide +kernel
theorem d_M_currentOwner_22 : decode prog_6_method_11_code 22 = .ok (.iaload, 1) := by decide +kernel
theorem d_M_currentOwner_23 : decode prog_6_method_11_code 23 = .ok (.if_icmp .ne 7, 3) := by decide +kernel
theorem d_M_currentOwner_26 : decode prog_6_method_11_code 26 = .ok (.iload_n 2, 1) := by decide +kernel
theorem d_M_currentOwner_27 : decode prog_6_method_11_code 27 = .ok (.goto 14, 3) := by decide +kernel
theorem d_M_currentOwner_30 : decode prog_6_method_11_code 30 = .ok (.aload_n 0, 1) := by decide +kernel
theorem d_M_currentOwner_31 : decode prog_6_method_11_code 31 = .ok (.getfield 38, 3) := by decide +kernel
theorem d_M_currentOwner_34 : decode prog_6_method_11_code 34 = .ok (.bipush 24, 2) := by decide +kernel
theorem d_M_currentOwner_36 : decode prog_6_method_11_code 36 = .ok (.iload_n 1, 1) := by decide +kernel
theorem d_M_currentOwner_37 : decode prog_6_method_11_code 37 = .ok (.imul, 1) := by decide +kernel
theorem d_M_currentOwner_38 : decode prog_6_method_11_code 38 = .ok (.iload_n 2, 1) := by decide +kernel
theorem d_M_currentOwner_39 : decode prog_6_method_11_code 39 = .ok (.iadd, 1) := by decide +kernel
theorem d_M_currentOwner_40 : decode prog_6_method_11_code 40 = .ok (.iaload, 1) := by decide +kernel
theorem d_M_currentOwner_41 : decode prog_6_method_11_code 41 = .ok (.ireturn, 1) := by decide +kernel
theorem d_M_isRefused_0 : decode prog_6_method_17_code 0 = .ok (.iconst 0, 1) := by decide +kernel
theorem d_M_isRefused_1 : decode prog_6_method_17_code 1 = .ok (.istore 5, 2) := by decide +kernel
theorem d_M_isRefused_3 : decode prog_6_method_17_code 3 = .ok (.iconst 0, 1) := by decide +kernel
theorem d_M_isRefused_4 : decode prog_6_method_17_code 4 = .ok (.istore 6, 2) := by decide +kernel
theorem d_M_isRefused_6 : decode prog_6_method_17_code 6 = .ok (.iload 6, 2) := by decide +kernel
theorem d_M_isRefused_8 : decode prog_6_method_17_code 8 = .ok (.bipush 24, 2) := by decide +kernel
theorem d_M_isRefused_10 : decode prog_6_method_17_code 10 = .ok (.if_icmp .ge 88, 3) := by decide +kernel
theorem d_M_isRefused_13 : decode prog_6_method_17_code 13 = .ok (.iload 5, 2) := by decide +kernel
theorem d_M_isRefused_15 : decode prog_6_method_17_code 15 = .ok (.ifCond .ne 70, 3) := by decide +kernel
theorem d_M_isRefused_18 : decode prog_6_method_17_code 18 = .ok (.aload_n 0, 1) := by decide +kernel
theorem d_M_isRefused_19 : decode prog_6_method_17_code 19 = .ok (.getfield 19, 3) := by decide +kernel
theorem d_M_isRefused_22 : decode prog_6_method_17_code 22 = .ok (.iload_n 1, 1) := by decide +kernel
theorem d_M_isRefused_23 : decode prog_6_method_17_code 23 = .ok (.iaload, 1) := by decide +kernel
theorem d_M_isRefused_24 : decode prog_6_method_17_code 24 = .ok (.bipush 30, 2) := by decide +kernel
theorem d_M_isRefused_26 : decode prog_6_method_17_code 26 = .ok (.if_icmp .lt 63, 3) := by decide +kernel
theorem d_M_isRefused_29 : decode prog_6_method_17_code 29 = .ok (.aload_n 0, 1) := by decide +kernel
theorem d_M_isRefused_30 : decode prog_6_method_17_code 30 = .ok (.getfield 29, 3) := by decide +kernel
theorem d_M_isRefused_33 : decode prog_6_method_17_code 33 = .ok (.iload 6, 2) := by decide +kernel
theorem d_M_isRefused_35 : decode prog_6_method_17_code 35 = .ok (.iaload, 1) := by decide +kernel
theorem d_M_isRefused_36 : decode prog_6_method_17_code 36 = .ok (.ifCond .le 53, 3) := by decide +kernel
theorem d_M_isRefused_39 : decode prog_6_method_17_code 39 = .ok (.iload 6, 2) := by decide +kernel
theorem d_M_isRefused_41 : decode prog_6_method_17_code 41 = .ok (.iload_n 3, 1) := by decide +kernel
theorem d_M_isRefused_42 : decode prog_6_method_17_code 42 = .ok (.if_icmp .eq 47, 3) := by decide +kernel
theorem d_M_isRefused_45 : decode prog_6_method_17_code 45 = .ok (.aload_n 0, 1) := by decide +kernel
theorem d_M_isRefused_46 : decode prog_6_method_17_code 46 = .ok (.getfield 38, 3) := by decide +kernel
theorem d_M_isRefused_49 : decode prog_6_method_17_code 49 = .ok (.bipush 24, 2) := by decide +kernel
theorem d_M_isRefused_51 : decode prog_6_method_17_code 51 = .ok (.iload_n 1, 1) := by decide +kernel
theorem d_M_isRefused_52 : decode prog_6_method_17_code 52 = .ok (.imul, 1) := by decide +kernel
theorem d_M_isRefused_53 : decode prog_6_method_17_code 53 = .ok (.iload 6, 2) := by decide +kernel
theorem d_M_isRefused_55 : decode prog_6_method_17_code 55 = .ok (.iadd, 1) := by decide +kernel
theorem d_M_isRefused_56 : decode prog_6_method_17_code 56 = .ok (.iaload, 1) := by decide +kernel
theorem d_M_isRefused_57 : decode prog_6_method_17_code 57 = .ok (.iload_n 2, 1) := by decide +kernel
theorem d_M_isRefused_58 : decode prog_6_method_17_code 58 = .ok (.if_icmp .ne 31, 3) := by decide +kernel
theorem d_M_isRefused_61 : decode prog_6_method_17_code 61 = .ok (.aload_n 0, 1) := by decide +kernel
theorem d_M_isRefused_62 : decode prog_6_method_17_code 62 = .ok (.getfield 35, 3) := by decide +kernel
theorem d_M_isRefused_65 : decode prog_6_method_17_code 65 = .ok (.iconst 3, 1) := by decide +kernel
theorem d_M_isRefused_66 : decode prog_6_method_17_code 66 = .ok (.iload 6, 2) := by decide +kernel
theorem d_M_isRefused_68 : decode prog_6_method_17_code 68 = .ok (.imul, 1) := by decide +kernel
theorem d_M_isRefused_69 : decode prog_6_method_17_code 69 = .ok (.aload_n 0, 1) := by decide +kernel
theorem d_M_isRefused_70 : decode prog_6_method_17_code 70 = .ok (.getfield 19, 3) := by decide +kernel
theorem d_M_isRefused_73 : decode prog_6_method_17_code 73 = .ok (.iload_n 1, 1) := by decide +kernel
theorem d_M_isRefused_74 : decode prog_6_method_17_code 74 = .ok (.iaload, 1) := by decide +kernel
theorem d_M_isRefused_75 : decode prog_6_method_17_code 75 = .ok (.bipush 10, 2) := by decide +kernel
theorem d_M_isRefused_77 : decode prog_6_method_17_code 77 = .ok (.irem, 1) := by decide +kernel
theorem d_M_isRefused_78 : decode prog_6_method_17_code 78 = .ok (.iadd, 1) := by decide +kernel
theorem d_M_isRefused_79 : decode prog_6_method_17_code 79 = .ok (.iaload, 1) := by decide +kernel
theorem d_M_isRefused_80 : decode prog_6_method_17_code 80 = .ok (.iload 4, 2) := by decide +kernel
theorem d_M_isRefused_82 : decode prog_6_method_17_code 82 = .ok (.if_icmp .ne 7, 3) := by decide +kernel
theorem d_M_isRefused_85 : decode prog_6_method_17_code 85 = .ok (.iconst 1, 1) := by decide +kernel
theorem d_M_isRefused_86 : decode prog_6_method_17_code 86 = .ok (.goto 4, 3) := by decide +kernel
theorem d_M_isRefused_89 : decode prog_6_method_17_code 89 = .ok (.iconst 0, 1) := by decide +kernel
theorem d_M_isRefused_90 : decode prog_6_method_17_code 90 = .ok (.istore 5, 2) := by decide +kernel
theorem d_M_isRefused_92 : decode prog_6_method_17_code 92 = .ok (.iinc 6 1, 3) := by decide +kernel
theorem d_M_isRefused_95 : decode prog_6_method_17_code 95 = .ok (.goto (-89), 3) := by decide +kernel
theorem d_M_isRefused_98 : decode prog_6_method_17_code 98 = .ok (.iload 5, 2) := by decide +kernel
theorem d_M_isRefused_100 : decode prog_6_method_17_code 100 = .ok (.ireturn, 1) := by decide +kernel
theorem d_M_join_0 : decode prog_6_method_19_code 0 = .ok (.aload_n 0, 1) := by decide +kernel
theorem d_M_join_1 : decode prog_6_method_19_code 1 = .ok (.iload_n 1, 1) := by decide +kernel
theorem d_M_join_2 : decode prog_6_method_19_code 2 = .ok (.iload_n 2, 1) := by decide +kernel
theorem d_M_join_3 : decode prog_6_method_19_code 3 = .ok (.iload_n 3, 1) := by decide +kernel
theorem d_M_join_4 : decode prog_6_method_19_code 4 = .ok (.invokevirtual 116, 3) := by decide +kernel
theorem d_M_join_7 : decode prog_6_method_19_code 7 = .ok (.istore 4, 2) := by decide +kernel
theorem d_M_join_9 : decode prog_6_method_19_code 9 = .ok (.aload_n 0, 1) := by decide +kernel
theorem d_M_join_10 : decode prog_6_method_19_code 10 = .ok (.getfield 44, 3) := by decide +kernel
theorem d_M_join_13 : decode prog_6_method_19_code 13 = .ok (.iload_n 1, 1) := by decide +kernel
theorem d_M_join_14 : decode prog_6_method_19_code 14 = .ok (.iaload, 1) := by decide +kernel
theorem d_M_join_15 : decode prog_6_method_19_code 15 = .ok (.istore 5, 2) := by decide +kernel
theorem d_M_join_17 : decode prog_6_method_19_code 17 = .ok (.iload 5, 2) := by decide +kernel
theorem d_M_join_19 : decode prog_6_method_19_code 19 = .ok (.iload 4, 2) := by decide +kernel
theorem d_M_join_21 : decode prog_6_method_19_code 21 = .ok (.if_icmp .le 35, 3) := by decide +kernel
theorem d_M_join_24 : decode prog_6_method_19_code 24 = .ok (.aload_n 0, 1) := by decide +kernel
theorem d_M_join_25 : decode prog_6_method_19_code 25 = .ok (.getfield 41, 3) := by decide +kernel
theorem d_M_join_28 : decode prog_6_method_19_code 28 = .ok (.bipush 24, 2) := by decide +kernel
theorem d_M_join_30 : decode prog_6_method_19_code 30 = .ok (.iload_n 1, 1) := by decide +kernel
theorem d_M_join_31 : decode prog_6_method_19_code 31 = .ok (.imul, 1) := by decide +kernel
theorem d_M_join_32 : decode prog_6_method_19_code 32 = .ok (.iload 5, 2) := by decide +kernel
theorem d_M_join_34 : decode prog_6_method_19_code 34 = .ok (.iadd, 1) := by decide +kernel
theorem d_M_join_35 : decode prog_6_method_19_code 35 = .ok (.aload_n 0, 1) := by decide +kernel
theorem d_M_join_36 : decode prog_6_method_19_code 36 = .ok (.getfield 41, 3) := by decide +kernel
theorem d_M_join_39 : decode prog_6_method_19_code 39 = .ok (.bipush 24, 2) := by decide +kernel
theorem d_M_join_41 : decode prog_6_method_19_code 41 = .ok (.iload_n 1, 1) := by decide +kernel
theorem d_M_join_42 : decode prog_6_method_19_code 42 = .ok (.imul, 1) := by decide +kernel
theorem d_M_join_43 : decode prog_6_method_19_code 43 = .ok (.iload 5, 2) := by decide +kernel
theorem d_M_join_45 : decode prog_6_method_19_code 45 = .ok (.iadd, 1) := by decide +kernel
theorem d_M_join_46 : decode prog_6_method_19_code 46 = .ok (.iconst 1, 1) := by decide +kernel
theorem d_M_join_47 : decode prog_6_method_19_code 47 = .ok (.isub, 1) := by decide +kernel
theorem d_M_join_48 : decode prog_6_method_19_code 48 = .ok (.iaload, 1) := by decide +kernel
theorem d_M_join_49 : decode prog_6_method_19_code 49 = .ok (.iastore, 1) := by decide +kernel
theorem d_M_join_50 : decode prog_6_method_19_code 50 = .ok (.iinc 5 (-1), 3) := by decide +kernel
theorem d_M_join_53 : decode prog_6_method_19_code 53 = .ok (.goto (-36), 3) := by decide +kernel
theorem d_M_join_56 : decode prog_6_method_19_code 56 = .ok (.aload_n 0, 1) := by decide +kernel
theorem d_M_join_57 : decode prog_6_method_19_code 57 = .ok (.getfield 41, 3) := by decide +kernel
theorem d_M_join_60 : decode prog_6_method_19_code 60 = .ok (.bipush 24, 2) := by decide +kernel
theorem d_M_join_62 : decode prog_6_method_19_code 62 = .ok (.iload_n 1, 1) := by decide +kernel
theorem d_M_join_63 : decode prog_6_method_19_code 63 = .ok (.imul, 1) := by decide +kernel
theorem d_M_join_64 : decode prog_6_method_19_code 64 = .ok (.iload 4, 2) := by decide +kernel
theorem d_M_join_66 : decode prog_6_method_19_code 66 = .ok (.iadd, 1) := by decide +kernel
theorem d_M_join_67 : decode prog_6_method_19_code 67 = .ok (.iload_n 3, 1) := by decide +kernel
theorem d_M_join_68 : decode prog_6_method_19_code 68 = .ok (.iastore, 1) := by decide +kernel
theorem d_M_join_69 : decode prog_6_method_19_code 69 = .ok (.aload_n 0, 1) := by decide +kernel
theorem d_M_join_70 : decode prog_6_method_19_code 70 = .ok (.getfield 44, 3) := by decide +kernel
theorem d_M_join_73 : decode prog_6_method_19_code 73 = .ok (.iload_n 1, 1) := by decide +kernel
theorem d_M_join_74 : decode prog_6_method_19_code 74 = .ok (.dup2, 1) := by decide +kernel
theorem d_M_join_75 : decode prog_6_method_19_code 75 = .ok (.iaload, 1) := by decide +kernel
theorem d_M_join_76 : decode prog_6_method_19_code 76 = .ok (.iconst 1, 1) := by decide +kernel
theorem d_M_join_77 : decode prog_6_method_19_code 77 = .ok (.iadd, 1) := by decide +kernel
theorem d_M_join_78 : decode prog_6_method_19_code 78 = .ok (.iastore, 1) := by decide +kernel
theorem d_M_join_79 : decode prog_6_method_19_code 79 = .ok (.aload_n 0, 1) := by decide +kernel
theorem d_M_join_80 : decode prog_6_method_19_code 80 = .ok (.getfield 38, 3) := by decide +kernel
theorem d_M_join_83 : decode prog_6_method_19_code 83 = .ok (.bipush 24, 2) := by decide +kernel
theorem d_M_join_85 : decode prog_6_method_19_code 85 = .ok (.iload_n 1, 1) := by decide +kernel
theorem d_M_join_86 : decode prog_6_method_19_code 86 = .ok (.imul, 1) := by decide +kernel
theorem d_M_join_87 : decode prog_6_method_19_code 87 = .ok (.iload_n 3, 1) := by decide +kernel
theorem d_M_join_88 : decode prog_6_method_19_code 88 = .ok (.iadd, 1) := by decide +kernel
theorem d_M_join_89 : decode prog_6_method_19_code 89 = .ok (.iload_n 2, 1) := by decide +kernel
theorem d_M_join_90 : decode prog_6_method_19_code 90 = .ok (.iastore, 1) := by decide +kernel
theorem d_M_join_91 : decode prog_6_method_19_code 91 = .ok (.return_, 1) := by decide +kernel
theorem d_M_placeFor_0 : decode prog_6_method_18_code 0 = .ok (.aload_n 0, 1) := by decide +kernel
theorem d_M_placeFor_1 : decode prog_6_method_18_code 1 = .ok (.getfield 19, 3) := by decide +kernel
theorem d_M_placeFor_4 : decode prog_6_method_18_code 4 = .ok (.iload_n 1, 1) := by decide +kernel
theorem d_M_placeFor_5 : decode prog_6_method_18_code 5 = .ok (.iaload, 1) := by decide +kernel
theorem d_M_placeFor_6 : decode prog_6_method_18_code 6 = .ok (.istore 4, 2) := by decide +kernel
theorem d_M_placeFor_8 : decode prog_6_method_18_code 8 = .ok (.aload_n 0, 1) := by decide +kernel
theorem d_M_placeFor_9 : decode prog_6_method_18_code 9 = .ok (.getfield 53, 3) := by decide +kernel
theorem d_M_placeFor_12 : decode prog_6_method_18_code 12 = .ok (.iload_n 1, 1) := by decide +kernel
theorem d_M_placeFor_13 : decode prog_6_method_18_code 13 = .ok (.iaload, 1) := by decide +kernel
theorem d_M_placeFor_14 : decode prog_6_method_18_code 14 = .ok (.istore 5, 2) := by decide +kernel
theorem d_M_placeFor_16 : decode prog_6_method_18_code 16 = .ok (.iload 5, 2) := by decide +kernel
theorem d_M_placeFor_18 : decode prog_6_method_18_code 18 = .ok (.ifCond .lt 23, 3) := by decide +kernel
theorem d_M_placeFor_21 : decode prog_6_method_18_code 21 = .ok (.aload_n 0, 1) := by decide +kernel
theorem d_M_placeFor_22 : decode prog_6_method_18_code 22 = .ok (.getfield 38, 3) := by decide +kernel
theorem d_M_placeFor_25 : decode prog_6_method_18_code 25 = .ok (.bipush 24, 2) := by decide +kernel
theorem d_M_placeFor_27 : decode prog_6_method_18_code 27 = .ok (.iload_n 1, 1) := by decide +kernel
theorem d_M_placeFor_28 : decode prog_6_method_18_code 28 = .ok (.imul, 1) := by decide +kernel
theorem d_M_placeFor_29 : decode prog_6_method_18_code 29 = .ok (.iload 5, 2) := by decide +kernel
theorem d_M_placeFor_31 : decode prog_6_method_18_code 31 = .ok (.iadd, 1) := by decide +kernel
theorem d_M_placeFor_32 : decode prog_6_method_18_code 32 = .ok (.iaload, 1) := by decide +kernel
theorem d_M_placeFor_33 : decode prog_6_method_18_code 33 = .ok (.iload_n 2, 1) := by decide +kernel
theorem d_M_placeFor_34 : decode prog_6_method_18_code 34 = .ok (.if_icmp .ne 7, 3) := by decide +kernel
theorem d_M_placeFor_37 : decode prog_6_method_18_code 37 = .ok (.iconst 1, 1) := by decide +kernel
theorem d_M_placeFor_38 : decode prog_6_method_18_code 38 = .ok (.goto 4, 3) := by decide +kernel
theorem d_M_placeFor_41 : decode prog_6_method_18_code 41 = .ok (.iconst 0, 1) := by decide +kernel
theorem d_M_placeFor_42 : decode prog_6_method_18_code 42 = .ok (.istore 6, 2) := by decide +kernel
theorem d_M_placeFor_44 : decode prog_6_method_18_code 44 = .ok (.iload 6, 2) := by decide +kernel
theorem d_M_placeFor_46 : decode prog_6_method_18_code 46 = .ok (.ifCond .eq 35, 3) := by decide +kernel
theorem d_M_placeFor_49 : decode prog_6_method_18_code 49 = .ok (.iload 4, 2) := by decide +kernel
theorem d_M_placeFor_51 : decode prog_6_method_18_code 51 = .ok (.iconst 2, 1) := by decide +kernel
theorem d_M_placeFor_52 : decode prog_6_method_18_code 52 = .ok (.if_icmp .eq 9, 3) := by decide +kernel
theorem d_M_placeFor_55 : decode prog_6_method_18_code 55 = .ok (.iload 4, 2) := by decide +kernel
theorem d_M_placeFor_57 : decode prog_6_method_18_code 57 = .ok (.iconst 3, 1) := by decide +kernel
theorem d_M_placeFor_58 : decode prog_6_method_18_code 58 = .ok (.if_icmp .ne 23, 3) := by decide +kernel
theorem d_M_placeFor_61 : decode prog_6_method_18_code 61 = .ok (.aload_n 0, 1) := by decide +kernel
theorem d_M_placeFor_62 : decode prog_6_method_18_code 62 = .ok (.iload_n 1, 1) := by decide +kernel
theorem d_M_placeFor_63 : decode prog_6_method_18_code 63 = .ok (.iload 5, 2) := by decide +kernel
theorem d_M_placeFor_65 : decode prog_6_method_18_code 65 = .ok (.invokevirtual 109, 3) := by decide +kernel
theorem d_M_placeFor_68 : decode prog_6_method_18_code 68 = .ok (.iload 4, 2) := by decide +kernel
theorem d_M_placeFor_70 : decode prog_6_method_18_code 70 = .ok (.iconst 2, 1) := by decide +kernel
theorem d_M_placeFor_71 : decode prog_6_method_18_code 71 = .ok (.if_icmp .ne 7, 3) := by decide +kernel
theorem d_M_placeFor_74 : decode prog_6_method_18_code 74 = .ok (.iconst 1, 1) := by decide +kernel
theorem d_M_placeFor_75 : decode prog_6_method_18_code 75 = .ok (.goto 4, 3) := by decide +kernel
theorem d_M_placeFor_78 : decode prog_6_method_18_code 78 = .ok (.iconst 0, 1) := by decide +kernel
theorem d_M_placeFor_79 : decode prog_6_method_18_code 79 = .ok (.iadd, 1) := by decide +kernel
theorem d_M_placeFor_80 : decode prog_6_method_18_code 80 = .ok (.ireturn, 1) := by decide +kernel
theorem d_M_placeFor_81 : decode prog_6_method_18_code 81 = .ok (.iload 4, 2) := by decide +kernel
theorem d_M_placeFor_83 : decode prog_6_method_18_code 83 = .ok (.ifCond .eq 9, 3) := by decide +kernel
theorem d_M_placeFor_86 : decode prog_6_method_18_code 86 = .ok (.iload 4, 2) := by decide +kernel
theorem d_M_placeFor_88 : decode prog_6_method_18_code 88 = .ok (.iconst 2, 1) := by decide +kernel
theorem d_M_placeFor_89 : decode prog_6_method_18_code 89 = .ok (.if_icmp .ne 33, 3) := by decide +kernel
theorem d_M_placeFor_92 : decode prog_6_method_18_code 92 = .ok (.aload_n 0, 1) := by decide +kernel
theorem d_M_placeFor_93 : decode prog_6_method_18_code 93 = .ok (.iload_n 1, 1) := by decide +kernel
theorem d_M_placeFor_94 : decode prog_6_method_18_code 94 = .ok (.iload_n 2, 1) := by decide +kernel
theorem d_M_placeFor_95 : decode prog_6_method_18_code 95 = .ok (.invokevirtual 113, 3) := by decide +kernel
theorem d_M_placeFor_98 : decode prog_6_method_18_code 98 = .ok (.istore 7, 2) := by decide +kernel
theorem d_M_placeFor_100 : decode prog_6_method_18_code 100 = .ok (.iload 7, 2) := by decide +kernel
theorem d_M_placeFor_102 : decode prog_6_method_18_code 102 = .ok (.ifCond .ge 12, 3) := by decide +kernel
theorem d_M_placeFor_105 : decode prog_6_method_18_code 105 = .ok (.aload_n 0, 1) := by decide +kernel
theorem d_M_placeFor_106 : decode prog_6_method_18_code 106 = .ok (.getfield 44, 3) := by decide +kernel
theorem d_M_placeFor_109 : decode prog_6_method_18_code 109 = .ok (.iload_n 1, 1) := by decide +kernel
theorem d_M_placeFor_110 : decode prog_6_method_18_code 110 = .ok (.iaload, 1) := by decide +kernel
theorem d_M_placeFor_111 : decode prog_6_method_18_code 111 = .ok (.goto 10, 3) := by decide +kernel
theorem d_M_placeFor_114 : decode prog_6_method_18_code 114 = .ok (.aload_n 0, 1) := by decide +kernel
theorem d_M_placeFor_115 : decode prog_6_method_18_code 115 = .ok (.iload_n 1, 1) := by decide +kernel
theorem d_M_placeFor_116 : decode prog_6_method_18_code 116 = .ok (.iload 7, 2) := by decide +kernel
theorem d_M_placeFor_118 : decode prog_6_method_18_code 118 = .ok (.invokevirtual 109, 3) := by decide +kernel
theorem d_M_placeFor_121 : decode prog_6_method_18_code 121 = .ok (.ireturn, 1) := by decide +kernel
theorem d_M_placeFor_122 : decode prog_6_method_18_code 122 = .ok (.iload 4, 2) := by decide +kernel
theorem d_M_placeFor_124 : decode prog_6_method_18_code 124 = .ok (.bipush 10, 2) := by decide +kernel
theorem d_M_placeFor_126 : decode prog_6_method_18_code 126 = .ok (.if_icmp .ge 10, 3) := by decide +kernel
theorem d_M_placeFor_129 : decode prog_6_method_18_code 129 = .ok (.aload_n 0, 1) := by decide +kernel
theorem d_M_placeFor_130 : decode prog_6_method_18_code 130 = .ok (.getfield 44, 3) := by decide +kernel
theorem d_M_placeFor_133 : decode prog_6_method_18_code 133 = .ok (.iload_n 1, 1) := by decide +kernel
theorem d_M_placeFor_134 : decode prog_6_method_18_code 134 = .ok (.iaload, 1) := by decide +kernel
theorem d_M_placeFor_135 : decode prog_6_method_18_code 135 = .ok (.ireturn, 1) := by decide +kernel
theorem d_M_placeFor_136 : decode prog_6_method_18_code 136 = .ok (.aload_n 0, 1) := by decide +kernel
theorem d_M_placeFor_137 : decode prog_6_method_18_code 137 = .ok (.getfield 35, 3) := by decide +kernel
theorem d_M_placeFor_140 : decode prog_6_method_18_code 140 = .ok (.iconst 3, 1) := by decide +kernel
theorem d_M_placeFor_141 : decode prog_6_method_18_code 141 = .ok (.iload_n 3, 1) := by decide +kernel
theorem d_M_placeFor_142 : decode prog_6_method_18_code 142 = .ok (.imul, 1) := by decide +kernel
theorem d_M_placeFor_143 : decode prog_6_method_18_code 143 = .ok (.iload 4, 2) := by decide +kernel
theorem d_M_placeFor_145 : decode prog_6_method_18_code 145 = .ok (.bipush 10, 2) := by decide +kernel
theorem d_M_placeFor_147 : decode prog_6_method_18_code 147 = .ok (.irem, 1) := by decide +kernel
theorem d_M_placeFor_148 : decode prog_6_method_18_code 148 = .ok (.iadd, 1) := by decide +kernel
theorem d_M_placeFor_149 : decode prog_6_method_18_code 149 = .ok (.iaload, 1) := by decide +kernel
theorem d_M_placeFor_150 : decode prog_6_method_18_code 150 = .ok (.istore 7, 2) := by decide +kernel
theorem d_M_placeFor_152 : decode prog_6_method_18_code 152 = .ok (.iconst 0, 1) := by decide +kernel
theorem d_M_placeFor_153 : decode prog_6_method_18_code 153 = .ok (.istore 8, 2) := by decide +kernel
theorem d_M_placeFor_155 : decode prog_6_method_18_code 155 = .ok (.iload 8, 2) := by decide +kernel
theorem d_M_placeFor_157 : decode prog_6_method_18_code 157 = .ok (.aload_n 0, 1) := by decide +kernel
theorem d_M_placeFor_158 : decode prog_6_method_18_code 158 = .ok (.getfield 44, 3) := by decide +kernel
theorem d_M_placeFor_161 : decode prog_6_method_18_code 161 = .ok (.iload_n 1, 1) := by decide +kernel
theorem d_M_placeFor_162 : decode prog_6_method_18_code 162 = .ok (.iaload, 1) := by decide +kernel
theorem d_M_placeFor_163 : decode prog_6_method_18_code 163 = .ok (.if_icmp .ge 80, 3) := by decide +kernel
theorem d_M_placeFor_166 : decode prog_6_method_18_code 166 = .ok (.aload_n 0, 1) := by decide +kernel
theorem d_M_placeFor_167 : decode prog_6_method_18_code 167 = .ok (.getfield 41, 3) := by decide +kernel
theorem d_M_placeFor_170 : decode prog_6_method_18_code 170 = .ok (.bipush 24, 2) := by decide +kernel
theorem d_M_placeFor_172 : decode prog_6_method_18_code 172 = .ok (.iload_n 1, 1) := by decide +kernel
theorem d_M_placeFor_173 : decode prog_6_method_18_code 173 = .ok (.imul, 1) := by decide +kernel
theorem d_M_placeFor_174 : decode prog_6_method_18_code 174 = .ok (.iload 8, 2) := by decide +kernel
theorem d_M_placeFor_176 : decode prog_6_method_18_code 176 = .ok (.iadd, 1) := by decide +kernel
theorem d_M_placeFor_177 : decode prog_6_method_18_code 177 = .ok (.iaload, 1) := by decide +kernel
theorem d_M_placeFor_178 : decode prog_6_method_18_code 178 = .ok (.istore 9, 2) := by decide +kernel
theorem d_M_placeFor_180 : decode prog_6_method_18_code 180 = .ok (.aload_n 0, 1) := by decide +kernel
theorem d_M_placeFor_181 : decode prog_6_method_18_code 181 = .ok (.getfield 35, 3) := by decide +kernel
theorem d_M_placeFor_184 : decode prog_6_method_18_code 184 = .ok (.iconst 3, 1) := by decide +kernel
theorem d_M_placeFor_185 : decode prog_6_method_18_code 185 = .ok (.iload 9, 2) := by decide +kernel
theorem d_M_placeFor_187 : decode prog_6_method_18_code 187 = .ok (.imul, 1) := by decide +kernel
theorem d_M_placeFor_188 : decode prog_6_method_18_code 188 = .ok (.iload 4, 2) := by decide +kernel
theorem d_M_placeFor_190 : decode prog_6_method_18_code 190 = .ok (.bipush 10, 2) := by decide +kernel
theorem d_M_placeFor_192 : decode prog_6_method_18_code 192 = .ok (.irem, 1) := by decide +kernel
theorem d_M_placeFor_193 : decode prog_6_method_18_code 193 = .ok (.iadd, 1) := by decide +kernel
theorem d_M_placeFor_194 : decode prog_6_method_18_code 194 = .ok (.iaload, 1) := by decide +kernel
theorem d_M_placeFor_195 : decode prog_6_method_18_code 195 = .ok (.istore 10, 2) := by decide +kernel
theorem d_M_placeFor_197 : decode prog_6_method_18_code 197 = .ok (.aload_n 0, 1) := by decide +kernel
theorem d_M_placeFor_198 : decode prog_6_method_18_code 198 = .ok (.getfield 38, 3) := by decide +kernel
theorem d_M_placeFor_201 : decode prog_6_method_18_code 201 = .ok (.bipush 24, 2) := by decide +kernel
theorem d_M_placeFor_203 : decode prog_6_method_18_code 203 = .ok (.iload_n 1, 1) := by decide +kernel
theorem d_M_placeFor_204 : decode prog_6_method_18_code 204 = .ok (.imul, 1) := by decide +kernel
theorem d_M_placeFor_205 : decode prog_6_method_18_code 205 = .ok (.iload 9, 2) := by decide +kernel
theorem d_M_placeFor_207 : decode prog_6_method_18_code 207 = .ok (.iadd, 1) := by decide +kernel
theorem d_M_placeFor_208 : decode prog_6_method_18_code 208 = .ok (.iaload, 1) := by decide +kernel
theorem d_M_placeFor_209 : decode prog_6_method_18_code 209 = .ok (.iload_n 2, 1) := by decide +kernel
theorem d_M_placeFor_210 : decode prog_6_method_18_code 210 = .ok (.if_icmp .ne 27, 3) := by decide +kernel
theorem d_M_placeFor_213 : decode prog_6_method_18_code 213 = .ok (.iload 10, 2) := by decide +kernel
theorem d_M_placeFor_215 : decode prog_6_method_18_code 215 = .ok (.iload 7, 2) := by decide +kernel
theorem d_M_placeFor_217 : decode prog_6_method_18_code 217 = .ok (.if_icmp .gt 17, 3) := by decide +kernel
theorem d_M_placeFor_220 : decode prog_6_method_18_code 220 = .ok (.iload 10, 2) := by decide +kernel
theorem d_M_placeFor_222 : decode prog_6_method_18_code 222 = .ok (.iload 7, 2) := by decide +kernel
theorem d_M_placeFor_224 : decode prog_6_method_18_code 224 = .ok (.if_icmp .ne 13, 3) := by decide +kernel
theorem d_M_placeFor_227 : decode prog_6_method_18_code 227 = .ok (.iload 4, 2) := by decide +kernel
theorem d_M_placeFor_229 : decode prog_6_method_18_code 229 = .ok (.bipush 20, 2) := by decide +kernel
theorem d_M_placeFor_231 : decode prog_6_method_18_code 231 = .ok (.if_icmp .ge 6, 3) := by decide +kernel
theorem d_M_placeFor_234 : decode prog_6_method_18_code 234 = .ok (.iload 8, 2) := by decide +kernel
theorem d_M_placeFor_236 : decode prog_6_method_18_code 236 = .ok (.ireturn, 1) := by decide +kernel
theorem d_M_placeFor_237 : decode prog_6_method_18_code 237 = .ok (.iinc 8 1, 3) := by decide +kernel
theorem d_M_placeFor_240 : decode prog_6_method_18_code 240 = .ok (.goto (-85), 3) := by decide +kernel
theorem d_M_placeFor_243 : decode prog_6_method_18_code 243 = .ok (.aload_n 0, 1) := by decide +kernel
theorem d_M_placeFor_244 : decode prog_6_method_18_code 244 = .ok (.getfield 44, 3) := by decide +kernel
theorem d_M_placeFor_247 : decode prog_6_method_18_code 247 = .ok (.iload_n 1, 1) := by decide +kernel
theorem d_M_placeFor_248 : decode prog_6_method_18_code 248 = .ok (.iaload, 1) := by decide +kernel
theorem d_M_placeFor_249 : decode prog_6_method_18_code 249 = .ok (.ireturn, 1) := by decide +kernel
theorem d_M_placeOf_0 : decode prog_6_method_13_code 0 = .ok (.iconst (-1), 1) := by decide +kernel
theorem d_M_placeOf_1 : decode prog_6_method_13_code 1 = .ok (.istore_n 3, 1) := by decide +kernel
theorem d_M_placeOf_2 : decode prog_6_method_13_code 2 = .ok (.iconst 0, 1) := by decide +kernel
theorem d_M_placeOf_3 : decode prog_6_method_13_code 3 = .ok (.istore 4, 2) := by decide +kernel
theorem d_M_placeOf_5 : decode prog_6_method_13_code 5 = .ok (.iload 4, 2) := by decide +kernel
theorem d_M_placeOf_7 : decode prog_6_method_13_code 7 = .ok (.aload_n 0, 1) := by decide +kernel
theorem d_M_placeOf_8 : decode prog_6_method_13_code 8 = .ok (.getfield 44, 3) := by decide +kernel
theorem d_M_placeOf_11 : decode prog_6_method_13_code 11 = .ok (.iload_n 1, 1) := by decide +kernel
theorem d_M_placeOf_12 : decode prog_6_method_13_code 12 = .ok (.iaload, 1) := by decide +kernel
theorem d_M_placeOf_13 : decode prog_6_method_13_code 13 = .ok (.if_icmp .ge 32, 3) := by decide +kernel
theorem d_M_placeOf_16 : decode prog_6_method_13_code 16 = .ok (.aload_n 0, 1) := by decide +kernel
theorem d_M_placeOf_17 : decode prog_6_method_13_code 17 = .ok (.getfield 41, 3) := by decide +kernel
theorem d_M_placeOf_20 : decode prog_6_method_13_code 20 = .ok (.bipush 24, 2) := by decide +kernel
theorem d_M_placeOf_22 : decode prog_6_method_13_code 22 = .ok (.iload_n 1, 1) := by decide +kernel
theorem d_M_placeOf_23 : decode prog_6_method_13_code 23 = .ok (.imul, 1) := by decide +kernel
theorem d_M_placeOf_24 : decode prog_6_method_13_code 24 = .ok (.iload 4, 2) := by decide +kernel
theorem d_M_placeOf_26 : decode prog_6_method_13_code 26 = .ok (.iadd, 1) := by decide +kernel
theorem d_M_placeOf_27 : decode prog_6_method_13_code 27 = .ok (.iaload, 1) := by decide +kernel
theorem d_M_placeOf_28 : decode prog_6_method_13_code 28 = .ok (.iload_n 2, 1) := by decide +kernel
theorem d_M_placeOf_29 : decode prog_6_method_13_code 29 = .ok (.if_icmp .ne 8, 3) := by decide +kernel
theorem d_M_placeOf_32 : decode prog_6_method_13_code 32 = .ok (.iload 4, 2) := by decide +kernel
theorem d_M_placeOf_34 : decode prog_6_method_13_code 34 = .ok (.goto 4, 3) := by decide +kernel
theorem d_M_placeOf_37 : decode prog_6_method_13_code 37 = .ok (.iload_n 3, 1) := by decide +kernel
theorem d_M_placeOf_38 : decode prog_6_method_13_code 38 = .ok (.istore_n 3, 1) := by decide +kernel
theorem d_M_placeOf_39 : decode prog_6_method_13_code 39 = .ok (.iinc 4 1, 3) := by decide +kernel
theorem d_M_placeOf_42 : decode prog_6_method_13_code 42 = .ok (.goto (-37), 3) := by decide +kernel
theorem d_M_placeOf_45 : decode prog_6_method_13_code 45 = .ok (.iload_n 3, 1) := by decide +kernel
theorem d_M_placeOf_46 : decode prog_6_method_13_code 46 = .ok (.ireturn, 1) := by decide +kernel
theorem d_M_firstOf_0 : decode prog_6_method_15_code 0 = .ok (.aload_n 0, 1) := by decide +kernel
theorem d_M_firstOf_1 : decode prog_6_method_15_code 1 = .ok (.iload_n 1, 1) := by decide +kernel
theorem d_M_firstOf_2 : decode prog_6_method_15_code 2 = .ok (.iload_n 2, 1) := by decide +kernel
theorem d_M_firstOf_3 : decode prog_6_method_15_code 3 = .ok (.iconst 0, 1) := by decide +kernel
theorem d_M_firstOf_4 : decode prog_6_method_15_code 4 = .ok (.iconst 1, 1) := by decide +kernel
theorem d_M_firstOf_5 : decode prog_6_method_15_code 5 = .ok (.invokevirtual 105, 3) := by decide +kernel
theorem d_M_firstOf_8 : decode prog_6_method_15_code 8 = .ok (.ireturn, 1) := by decide +kernel
theorem d_M_nextIn_0 : decode prog_6_method_14_code 0 = .ok (.iload_n 3, 1) := by decide +kernel
theorem d_M_nextIn_1 : decode prog_6_method_14_code 1 = .ok (.istore 5, 2) := by decide +kernel
theorem d_M_nextIn_3 : decode prog_6_method_14_code 3 = .ok (.iload 5, 2) := by decide +kernel
theorem d_M_nextIn_5 : decode prog_6_method_14_code 5 = .ok (.ifCond .lt 63, 3) := by decide +kernel
theorem d_M_nextIn_8 : decode prog_6_method_14_code 8 = .ok (.iload 5, 2) := by decide +kernel
theorem d_M_nextIn_10 : decode prog_6_method_14_code 10 = .ok (.aload_n 0, 1) := by decide +kernel
theorem d_M_nextIn_11 : decode prog_6_method_14_code 11 = .ok (.getfield 44, 3) := by decide +kernel
theorem d_M_nextIn_14 : decode prog_6_method_14_code 14 = .ok (.iload_n 1, 1) := by decide +kernel
theorem d_M_nextIn_15 : decode prog_6_method_14_code 15 = .ok (.iaload, 1) := by decide +kernel
theorem d_M_nextIn_16 : decode prog_6_method_14_code 16 = .ok (.if_icmp .ge 52, 3) := by decide +kernel
theorem d_M_nextIn_19 : decode prog_6_method_14_code 19 = .ok (.aload_n 0, 1) := by decide +kernel
theorem d_M_nextIn_20 : decode prog_6_method_14_code 20 = .ok (.getfield 38, 3) := by decide +kernel
theorem d_M_nextIn_23 : decode prog_6_method_14_code 23 = .ok (.bipush 24, 2) := by decide +kernel
theorem d_M_nextIn_25 : decode prog_6_method_14_code 25 = .ok (.iload_n 1, 1) := by decide +kernel
theorem d_M_nextIn_26 : decode prog_6_method_14_code 26 = .ok (.imul, 1) := by decide +kernel
theorem d_M_nextIn_27 : decode prog_6_method_14_code 27 = .ok (.aload_n 0, 1) := by decide +kernel
theorem d_M_nextIn_28 : decode prog_6_method_14_code 28 = .ok (.getfield 41, 3) := by decide +kernel
theorem d_M_nextIn_31 : decode prog_6_method_14_code 31 = .ok (.bipush 24, 2) := by decide +kernel
theorem d_M_nextIn_33 : decode prog_6_method_14_code 33 = .ok (.iload_n 1, 1) := by decide +kernel
theorem d_M_nextIn_34 : decode prog_6_method_14_code 34 = .ok (.imul, 1) := by decide +kernel
theorem d_M_nextIn_35 : decode prog_6_method_14_code 35 = .ok (.iload 5, 2) := by decide +kernel
theorem d_M_nextIn_37 : decode prog_6_method_14_code 37 = .ok (.iadd, 1) := by decide +kernel
theorem d_M_nextIn_38 : decode prog_6_method_14_code 38 = .ok (.iaload, 1) := by decide +kernel
theorem d_M_nextIn_39 : decode prog_6_method_14_code 39 = .ok (.iadd, 1) := by decide +kernel
theorem d_M_nextIn_40 : decode prog_6_method_14_code 40 = .ok (.iaload, 1) := by decide +kernel
theorem d_M_nextIn_41 : decode prog_6_method_14_code 41 = .ok (.iload_n 2, 1) := by decide +kernel
theorem d_M_nextIn_42 : decode prog_6_method_14_code 42 = .ok (.if_icmp .ne 16, 3) := by decide +kernel
theorem d_M_nextIn_45 : decode prog_6_method_14_code 45 = .ok (.aload_n 0, 1) := by decide +kernel
theorem d_M_nextIn_46 : decode prog_6_method_14_code 46 = .ok (.getfield 41, 3) := by decide +kernel
theorem d_M_nextIn_49 : decode prog_6_method_14_code 49 = .ok (.bipush 24, 2) := by decide +kernel
theorem d_M_nextIn_51 : decode prog_6_method_14_code 51 = .ok (.iload_n 1, 1) := by decide +kernel
theorem d_M_nextIn_52 : decode prog_6_method_14_code 52 = .ok (.imul, 1) := by decide +kernel
theorem d_M_nextIn_53 : decode prog_6_method_14_code 53 = .ok (.iload 5, 2) := by decide +kernel
theorem d_M_nextIn_55 : decode prog_6_method_14_code 55 = .ok (.iadd, 1) := by decide +kernel
theorem d_M_nextIn_56 : decode prog_6_method_14_code 56 = .ok (.iaload, 1) := by decide +kernel
theorem d_M_nextIn_57 : decode prog_6_method_14_code 57 = .ok (.ireturn, 1) := by decide +kernel
theorem d_M_nextIn_58 : decode prog_6_method_14_code 58 = .ok (.iload 5, 2) := by decide +kernel
theorem d_M_nextIn_60 : decode prog_6_method_14_code 60 = .ok (.iload 4, 2) := by decide +kernel
theorem d_M_nextIn_62 : decode prog_6_method_14_code 62 = .ok (.iadd, 1) := by decide +kernel
theorem d_M_nextIn_63 : decode prog_6_method_14_code 63 = .ok (.istore 5, 2) := by decide +kernel
theorem d_M_nextIn_65 : decode prog_6_method_14_code 65 = .ok (.goto (-62), 3) := by decide +kernel
theorem d_M_nextIn_68 : decode prog_6_method_14_code 68 = .ok (.iconst (-1), 1) := by decide +kernel
theorem d_M_nextIn_69 : decode prog_6_method_14_code 69 = .ok (.ireturn, 1) := by decide +kernel
theorem d_M_come_0 : decode prog_6_method_12_code 0 = .ok (.aload_n 0, 1) := by decide +kernel
theorem d_M_come_1 : decode prog_6_method_12_code 1 = .ok (.iload_n 1, 1) := by decide +kernel
theorem d_M_come_2 : decode prog_6_method_12_code 2 = .ok (.putfield 47, 3) := by decide +kernel
theorem d_M_come_5 : decode prog_6_method_12_code 5 = .ok (.aload_n 0, 1) := by decide +kernel
theorem d_M_come_6 : decode prog_6_method_12_code 6 = .ok (.getfield 50, 3) := by decide +kernel
theorem d_M_come_9 : decode prog_6_method_12_code 9 = .ok (.aload_n 0, 1) := by decide +kernel
theorem d_M_come_10 : decode prog_6_method_12_code 10 = .ok (.getfield 32, 3) := by decide +kernel
theorem d_M_come_13 : decode prog_6_method_12_code 13 = .ok (.iload_n 1, 1) := by decide +kernel
theorem d_M_come_14 : decode prog_6_method_12_code 14 = .ok (.iaload, 1) := by decide +kernel
theorem d_M_come_15 : decode prog_6_method_12_code 15 = .ok (.iload_n 1, 1) := by decide +kernel
theorem d_M_come_16 : decode prog_6_method_12_code 16 = .ok (.iastore, 1) := by decide +kernel
theorem d_M_come_17 : decode prog_6_method_12_code 17 = .ok (.iconst 0, 1) := by decide +kernel
theorem d_M_come_18 : decode prog_6_method_12_code 18 = .ok (.istore_n 3, 1) := by decide +kernel
theorem d_M_come_19 : decode prog_6_method_12_code 19 = .ok (.iload_n 3, 1) := by decide +kernel
theorem d_M_come_20 : decode prog_6_method_12_code 20 = .ok (.aload_n 0, 1) := by decide +kernel
theorem d_M_come_21 : decode prog_6_method_12_code 21 = .ok (.getfield 90, 3) := by decide +kernel
theorem d_M_come_24 : decode prog_6_method_12_code 24 = .ok (.if_icmp .ge 74, 3) := by decide +kernel
theorem d_M_come_27 : decode prog_6_method_12_code 27 = .ok (.aload_n 0, 1) := by decide +kernel
theorem d_M_come_28 : decode prog_6_method_12_code 28 = .ok (.getfield 32, 3) := by decide +kernel
theorem d_M_come_31 : decode prog_6_method_12_code 31 = .ok (.iload_n 1, 1) := by decide +kernel
theorem d_M_come_32 : decode prog_6_method_12_code 32 = .ok (.iaload, 1) := by decide +kernel
theorem d_M_come_33 : decode prog_6_method_12_code 33 = .ok (.aload_n 0, 1) := by decide +kernel
theorem d_M_come_34 : decode prog_6_method_12_code 34 = .ok (.getfield 13, 3) := by decide +kernel
theorem d_M_come_37 : decode prog_6_method_12_code 37 = .ok (.iload_n 3, 1) := by decide +kernel
theorem d_M_come_38 : decode prog_6_method_12_code 38 = .ok (.iaload, 1) := by decide +kernel
theorem d_M_come_39 : decode prog_6_method_12_code 39 = .ok (.if_icmp .eq 17, 3) := by decide +kernel
theorem d_M_come_42 : decode prog_6_method_12_code 42 = .ok (.aload_n 0, 1) := by decide +kernel
theorem d_M_come_43 : decode prog_6_method_12_code 43 = .ok (.getfield 38, 3) := by decide +kernel
theorem d_M_come_46 : decode prog_6_method_12_code 46 = .ok (.bipush 24, 2) := by decide +kernel
theorem d_M_come_48 : decode prog_6_method_12_code 48 = .ok (.iload_n 3, 1) := by decide +kernel
theorem d_M_come_49 : decode prog_6_method_12_code 49 = .ok (.imul, 1) := by decide +kernel
theorem d_M_come_50 : decode prog_6_method_12_code 50 = .ok (.iload_n 1, 1) := by decide +kernel
theorem d_M_come_51 : decode prog_6_method_12_code 51 = .ok (.iadd, 1) := by decide +kernel
theorem d_M_come_52 : decode prog_6_method_12_code 52 = .ok (.iaload, 1) := by decide +kernel
theorem d_M_come_53 : decode prog_6_method_12_code 53 = .ok (.ifCond .lt 7, 3) := by decide +kernel
theorem d_M_come_56 : decode prog_6_method_12_code 56 = .ok (.iconst 1, 1) := by decide +kernel
theorem d_M_come_57 : decode prog_6_method_12_code 57 = .ok (.goto 4, 3) := by decide +kernel
theorem d_M_come_60 : decode prog_6_method_12_code 60 = .ok (.iconst 0, 1) := by decide +kernel
theorem d_M_come_61 : decode prog_6_method_12_code 61 = .ok (.istore 4, 2) := by decide +kernel
theorem d_M_come_63 : decode prog_6_method_12_code 63 = .ok (.aload_n 0, 1) := by decide +kernel
theorem d_M_come_64 : decode prog_6_method_12_code 64 = .ok (.getfield 53, 3) := by decide +kernel
theorem d_M_come_67 : decode prog_6_method_12_code 67 = .ok (.iload_n 3, 1) := by decide +kernel
theorem d_M_come_68 : decode prog_6_method_12_code 68 = .ok (.iload 4, 2) := by decide +kernel
theorem d_M_come_70 : decode prog_6_method_12_code 70 = .ok (.ifCond .eq 15, 3) := by decide +kernel
theorem d_M_come_73 : decode prog_6_method_12_code 73 = .ok (.iload_n 2, 1) := by decide +kernel
theorem d_M_come_74 : decode prog_6_method_12_code 74 = .ok (.iload_n 3, 1) := by decide +kernel
theorem d_M_come_75 : decode prog_6_method_12_code 75 = .ok (.ishr, 1) := by decide +kernel
theorem d_M_come_76 : decode prog_6_method_12_code 76 = .ok (.iconst 1, 1) := by decide +kernel
theorem d_M_come_77 : decode prog_6_method_12_code 77 = .ok (.iand, 1) := by decide +kernel
theorem d_M_come_78 : decode prog_6_method_12_code 78 = .ok (.ifCond .ne 7, 3) := by decide +kernel
theorem d_M_come_81 : decode prog_6_method_12_code 81 = .ok (.iload_n 1, 1) := by decide +kernel
theorem d_M_come_82 : decode prog_6_method_12_code 82 = .ok (.goto 9, 3) := by decide +kernel
theorem d_M_come_85 : decode prog_6_method_12_code 85 = .ok (.aload_n 0, 1) := by decide +kernel
theorem d_M_come_86 : decode prog_6_method_12_code 86 = .ok (.getfield 53, 3) := by decide +kernel
theorem d_M_come_89 : decode prog_6_method_12_code 89 = .ok (.iload_n 3, 1) := by decide +kernel
theorem d_M_come_90 : decode prog_6_method_12_code 90 = .ok (.iaload, 1) := by decide +kernel
theorem d_M_come_91 : decode prog_6_method_12_code 91 = .ok (.iastore, 1) := by decide +kernel
theorem d_M_come_92 : decode prog_6_method_12_code 92 = .ok (.iinc 3 1, 3) := by decide +kernel
theorem d_M_come_95 : decode prog_6_method_12_code 95 = .ok (.goto (-76), 3) := by decide +kernel
theorem d_M_come_98 : decode prog_6_method_12_code 98 = .ok (.return_, 1) := by decide +kernel
theorem d_M_find_0 : decode prog_6_method_23_code 0 = .ok (.aload_n 0, 1) := by decide +kernel
theorem d_M_find_1 : decode prog_6_method_23_code 1 = .ok (.aload_n 0, 1) := by decide +kernel
theorem d_M_find_2 : decode prog_6_method_23_code 2 = .ok (.iload_n 1, 1) := by decide +kernel
theorem d_M_find_3 : decode prog_6_method_23_code 3 = .ok (.invokevirtual 139, 3) := by decide +kernel
theorem d_M_find_6 : decode prog_6_method_23_code 6 = .ok (.ifCond .ge 7, 3) := by decide +kernel
theorem d_M_find_9 : decode prog_6_method_23_code 9 = .ok (.iconst 1, 1) := by decide +kernel
theorem d_M_find_10 : decode prog_6_method_23_code 10 = .ok (.goto 4, 3) := by decide +kernel
theorem d_M_find_13 : decode prog_6_method_23_code 13 = .ok (.iconst 0, 1) := by decide +kernel
theorem d_M_find_14 : decode prog_6_method_23_code 14 = .ok (.putfield 84, 3) := by decide +kernel
theorem d_M_find_17 : decode prog_6_method_23_code 17 = .ok (.aload_n 0, 1) := by decide +kernel
theorem d_M_find_18 : decode prog_6_method_23_code 18 = .ok (.getfield 84, 3) := by decide +kernel
theorem d_M_find_21 : decode prog_6_method_23_code 21 = .ok (.ifCond .ne 13, 3) := by decide +kernel
theorem d_M_find_24 : decode prog_6_method_23_code 24 = .ok (.aload_n 0, 1) := by decide +kernel
theorem d_M_find_25 : decode prog_6_method_23_code 25 = .ok (.aload_n 0, 1) := by decide +kernel
theorem d_M_find_26 : decode prog_6_method_23_code 26 = .ok (.iload_n 1, 1) := by decide +kernel
theorem d_M_find_27 : decode prog_6_method_23_code 27 = .ok (.invokevirtual 139, 3) := by decide +kernel
theorem d_M_find_30 : decode prog_6_method_23_code 30 = .ok (.iload_n 2, 1) := by decide +kernel
theorem d_M_find_31 : decode prog_6_method_23_code 31 = .ok (.invokevirtual 135, 3) := by decide +kernel
theorem d_M_find_34 : decode prog_6_method_23_code 34 = .ok (.return_, 1) := by decide +kernel
theorem d_M_recordWith_0 : decode prog_6_method_9_code 0 = .ok (.iconst (-1), 1) := by decide +kernel
theorem d_M_recordWith_1 : decode prog_6_method_9_code 1 = .ok (.istore_n 2, 1) := by decide +kernel
theorem d_M_recordWith_2 : decode prog_6_method_9_code 2 = .ok (.iconst 0, 1) := by decide +kernel
theorem d_M_recordWith_3 : decode prog_6_method_9_code 3 = .ok (.istore_n 3, 1) := by decide +kernel
theorem d_M_recordWith_4 : decode prog_6_method_9_code 4 = .ok (.iload_n 3, 1) := by decide +kernel
theorem d_M_recordWith_5 : decode prog_6_method_9_code 5 = .ok (.bipush 24, 2) := by decide +kernel
theorem d_M_recordWith_7 : decode prog_6_method_9_code 7 = .ok (.if_icmp .ge 29, 3) := by decide +kernel
theorem d_M_recordWith_10 : decode prog_6_method_9_code 10 = .ok (.iload_n 1, 1) := by decide +kernel
theorem d_M_recordWith_11 : decode prog_6_method_9_code 11 = .ok (.ifCond .le 17, 3) := by decide +kernel
theorem d_M_recordWith_14 : decode prog_6_method_9_code 14 = .ok (.aload_n 0, 1) := by decide +kernel
theorem d_M_recordWith_15 : decode prog_6_method_9_code 15 = .ok (.getfield 29, 3) := by decide +kernel
theorem d_M_recordWith_18 : decode prog_6_method_9_code 18 = .ok (.iload_n 3, 1) := by decide +kernel
theorem d_M_recordWith_19 : decode prog_6_method_9_code 19 = .ok (.iaload, 1) := by decide +kernel
theorem d_M_recordWith_20 : decode prog_6_method_9_code 20 = .ok (.iload_n 1, 1) := by decide +kernel
theorem d_M_recordWith_21 : decode prog_6_method_9_code 21 = .ok (.if_icmp .ne 7, 3) := by decide +kernel
theorem d_M_recordWith_24 : decode prog_6_method_9_code 24 = .ok (.iload_n 3, 1) := by decide +kernel
theorem d_M_recordWith_25 : decode prog_6_method_9_code 25 = .ok (.goto 4, 3) := by decide +kernel
theorem d_M_recordWith_28 : decode prog_6_method_9_code 28 = .ok (.iload_n 2, 1) := by decide +kernel
theorem d_M_recordWith_29 : decode prog_6_method_9_code 29 = .ok (.istore_n 2, 1) := by decide +kernel
theorem d_M_recordWith_30 : decode prog_6_method_9_code 30 = .ok (.iinc 3 1, 3) := by decide +kernel
theorem d_M_recordWith_33 : decode prog_6_method_9_code 33 = .ok (.goto (-29), 3) := by decide +kernel
theorem d_M_recordWith_36 : decode prog_6_method_9_code 36 = .ok (.iload_n 2, 1) := by decide +kernel
theorem d_M_recordWith_37 : decode prog_6_method_9_code 37 = .ok (.ireturn, 1) := by decide +kernel
theorem d_M_seek_0 : decode prog_6_method_25_code 0 = .ok (.aload_n 0, 1) := by decide +kernel
theorem d_M_seek_1 : decode prog_6_method_25_code 1 = .ok (.aload_n 0, 1) := by decide +kernel
theorem d_M_seek_2 : decode prog_6_method_25_code 2 = .ok (.iload_n 1, 1) := by decide +kernel
theorem d_M_seek_3 : decode prog_6_method_25_code 3 = .ok (.invokevirtual 97, 3) := by decide +kernel
theorem d_M_seek_6 : decode prog_6_method_25_code 6 = .ok (.ifCond .eq 17, 3) := by decide +kernel
theorem d_M_seek_9 : decode prog_6_method_25_code 9 = .ok (.iload_n 2, 1) := by decide +kernel
theorem d_M_seek_10 : decode prog_6_method_25_code 10 = .ok (.ifCond .lt 13, 3) := by decide +kernel
theorem d_M_seek_13 : decode prog_6_method_25_code 13 = .ok (.iload_n 2, 1) := by decide +kernel
theorem d_M_seek_14 : decode prog_6_method_25_code 14 = .ok (.aload_n 0, 1) := by decide +kernel
theorem d_M_seek_15 : decode prog_6_method_25_code 15 = .ok (.getfield 7, 3) := by decide +kernel
theorem d_M_seek_18 : decode prog_6_method_25_code 18 = .ok (.iload_n 1, 1) := by decide +kernel
theorem d_M_seek_19 : decode prog_6_method_25_code 19 = .ok (.iaload, 1) := by decide +kernel
theorem d_M_seek_20 : decode prog_6_method_25_code 20 = .ok (.if_icmp .lt 7, 3) := by decide +kernel
theorem d_M_seek_23 : decode prog_6_method_25_code 23 = .ok (.iconst 1, 1) := by decide +kernel
theorem d_M_seek_24 : decode prog_6_method_25_code 24 = .ok (.goto 4, 3) := by decide +kernel
theorem d_M_seek_27 : decode prog_6_method_25_code 27 = .ok (.iconst 0, 1) := by decide +kernel
theorem d_M_seek_28 : decode prog_6_method_25_code 28 = .ok (.putfield 84, 3) := by decide +kernel
theorem d_M_seek_31 : decode prog_6_method_25_code 31 = .ok (.aload_n 0, 1) := by decide +kernel
theorem d_M_seek_32 : decode prog_6_method_25_code 32 = .ok (.getfield 84, 3) := by decide +kernel
theorem d_M_seek_35 : decode prog_6_method_25_code 35 = .ok (.ifCond .le 5, 3) := by decide +kernel
theorem d_M_seek_38 : decode prog_6_method_25_code 38 = .ok (.iconst 0, 1) := by decide +kernel
theorem d_M_seek_39 : decode prog_6_method_25_code 39 = .ok (.ireturn, 1) := by decide +kernel
theorem d_M_seek_40 : decode prog_6_method_25_code 40 = .ok (.iconst (-1), 1) := by decide +kernel
theorem d_M_seek_41 : decode prog_6_method_25_code 41 = .ok (.istore 4, 2) := by decide +kernel
theorem d_M_seek_43 : decode prog_6_method_25_code 43 = .ok (.iconst 0, 1) := by decide +kernel
theorem d_M_seek_44 : decode prog_6_method_25_code 44 = .ok (.istore 5, 2) := by decide +kernel
theorem d_M_seek_46 : decode prog_6_method_25_code 46 = .ok (.iload 5, 2) := by decide +kernel
theorem d_M_seek_48 : decode prog_6_method_25_code 48 = .ok (.bipush 24, 2) := by decide +kernel
theorem d_M_seek_50 : decode prog_6_method_25_code 50 = .ok (.if_icmp .ge 88, 3) := by decide +kernel
theorem d_M_seek_53 : decode prog_6_method_25_code 53 = .ok (.aload_n 0, 1) := by decide +kernel
theorem d_M_seek_54 : decode prog_6_method_25_code 54 = .ok (.getfield 29, 3) := by decide +kernel
theorem d_M_seek_57 : decode prog_6_method_25_code 57 = .ok (.iload 5, 2) := by decide +kernel
theorem d_M_seek_59 : decode prog_6_method_25_code 59 = .ok (.iaload, 1) := by decide +kernel
theorem d_M_seek_60 : decode prog_6_method_25_code 60 = .ok (.ifCond .le 33, 3) := by decide +kernel
theorem d_M_seek_63 : decode prog_6_method_25_code 63 = .ok (.aload_n 0, 1) := by decide +kernel
theorem d_M_seek_64 : decode prog_6_method_25_code 64 = .ok (.getfield 32, 3) := by decide +kernel
theorem d_M_seek_67 : decode prog_6_method_25_code 67 = .ok (.iload 5, 2) := by decide +kernel
theorem d_M_seek_69 : decode prog_6_method_25_code 69 = .ok (.iaload, 1) := by decide +kernel
theorem d_M_seek_70 : decode prog_6_method_25_code 70 = .ok (.iload_n 1, 1) := by decide +kernel
theorem d_M_seek_71 : decode prog_6_method_25_code 71 = .ok (.if_icmp .ne 22, 3) := by decide +kernel
theorem d_M_seek_74 : decode prog_6_method_25_code 74 = .ok (.aload_n 0, 1) := by decide +kernel
theorem d_M_seek_75 : decode prog_6_method_25_code 75 = .ok (.getfield 35, 3) := by decide +kernel
theorem d_M_seek_78 : decode prog_6_method_25_code 78 = .ok (.iconst 3, 1) := by decide +kernel
theorem d_M_seek_79 : decode prog_6_method_25_code 79 = .ok (.iload 5, 2) := by decide +kernel
theorem d_M_seek_81 : decode prog_6_method_25_code 81 = .ok (.imul, 1) := by decide +kernel
theorem d_M_seek_82 : decode prog_6_method_25_code 82 = .ok (.iload_n 2, 1) := by decide +kernel
theorem d_M_seek_83 : decode prog_6_method_25_code 83 = .ok (.iadd, 1) := by decide +kernel
theorem d_M_seek_84 : decode prog_6_method_25_code 84 = .ok (.iaload, 1) := by decide +kernel
theorem d_M_seek_85 : decode prog_6_method_25_code 85 = .ok (.iload_n 3, 1) := by decide +kernel
theorem d_M_seek_86 : decode prog_6_method_25_code 86 = .ok (.if_icmp .ne 7, 3) := by decide +kernel
theorem d_M_seek_89 : decode prog_6_method_25_code 89 = .ok (.iconst 1, 1) := by decide +kernel
theorem d_M_seek_90 : decode prog_6_method_25_code 90 = .ok (.goto 4, 3) := by decide +kernel
theorem d_M_seek_93 : decode prog_6_method_25_code 93 = .ok (.iconst 0, 1) := by decide +kernel
theorem d_M_seek_94 : decode prog_6_method_25_code 94 = .ok (.istore 6, 2) := by decide +kernel
theorem d_M_seek_96 : decode prog_6_method_25_code 96 = .ok (.iload 6, 2) := by decide +kernel
theorem d_M_seek_98 : decode prog_6_method_25_code 98 = .ok (.ifCond .eq 30, 3) := by decide +kernel
theorem d_M_seek_101 : decode prog_6_method_25_code 101 = .ok (.iload 4, 2) := by decide +kernel
theorem d_M_seek_103 : decode prog_6_method_25_code 103 = .ok (.ifCond .lt 20, 3) := by decide +kernel
theorem d_M_seek_106 : decode prog_6_method_25_code 106 = .ok (.aload_n 0, 1) := by decide +kernel
theorem d_M_seek_107 : decode prog_6_method_25_code 107 = .ok (.getfield 29, 3) := by decide +kernel
theorem d_M_seek_110 : decode prog_6_method_25_code 110 = .ok (.iload 5, 2) := by decide +kernel
theorem d_M_seek_112 : decode prog_6_method_25_code 112 = .ok (.iaload, 1) := by decide +kernel
theorem d_M_seek_113 : decode prog_6_method_25_code 113 = .ok (.aload_n 0, 1) := by decide +kernel
theorem d_M_seek_114 : decode prog_6_method_25_code 114 = .ok (.getfield 29, 3) := by decide +kernel
theorem d_M_seek_117 : decode prog_6_method_25_code 117 = .ok (.iload 4, 2) := by decide +kernel
theorem d_M_seek_119 : decode prog_6_method_25_code 119 = .ok (.iaload, 1) := by decide +kernel
theorem d_M_seek_120 : decode prog_6_method_25_code 120 = .ok (.if_icmp .ge 8, 3) := by decide +kernel
theorem d_M_seek_123 : decode prog_6_method_25_code 123 = .ok (.iload 5, 2) := by decide +kernel
theorem d_M_seek_125 : decode prog_6_method_25_code 125 = .ok (.goto 5, 3) := by decide +kernel
theorem d_M_seek_128 : decode prog_6_method_25_code 128 = .ok (.iload 4, 2) := by decide +kernel
theorem d_M_seek_130 : decode prog_6_method_25_code 130 = .ok (.istore 4, 2) := by decide +kernel
theorem d_M_seek_132 : decode prog_6_method_25_code 132 = .ok (.iinc 5 1, 3) := by decide +kernel
theorem d_M_seek_135 : decode prog_6_method_25_code 135 = .ok (.goto (-89), 3) := by decide +kernel
theorem d_M_seek_138 : decode prog_6_method_25_code 138 = .ok (.aload_n 0, 1) := by decide +kernel
theorem d_M_seek_139 : decode prog_6_method_25_code 139 = .ok (.iload 4, 2) := by decide +kernel
theorem d_M_seek_141 : decode prog_6_method_25_code 141 = .ok (.iconst 2, 1) := by decide +kernel
theorem d_M_seek_142 : decode prog_6_method_25_code 142 = .ok (.invokevirtual 142, 3) := by decide +kernel
theorem d_M_seek_145 : decode prog_6_method_25_code 145 = .ok (.ireturn, 1) := by decide +kernel
theorem d_M_comeTo_0 : decode prog_6_method_24_code 0 = .ok (.aload_n 0, 1) := by decide +kernel
theorem d_M_comeTo_1 : decode prog_6_method_24_code 1 = .ok (.iload_n 1, 1) := by decide +kernel
theorem d_M_comeTo_2 : decode prog_6_method_24_code 2 = .ok (.ifCond .ge 7, 3) := by decide +kernel
theorem d_M_comeTo_5 : decode prog_6_method_24_code 5 = .ok (.iload_n 2, 1) := by decide +kernel
theorem d_M_comeTo_6 : decode prog_6_method_24_code 6 = .ok (.goto 4, 3) := by decide +kernel
theorem d_M_comeTo_9 : decode prog_6_method_24_code 9 = .ok (.iconst 0, 1) := by decide +kernel
theorem d_M_comeTo_10 : decode prog_6_method_24_code 10 = .ok (.putfield 84, 3) := by decide +kernel
theorem d_M_comeTo_13 : decode prog_6_method_24_code 13 = .ok (.aload_n 0, 1) := by decide +kernel
theorem d_M_comeTo_14 : decode prog_6_method_24_code 14 = .ok (.getfield 84, 3) := by decide +kernel
theorem d_M_comeTo_17 : decode prog_6_method_24_code 17 = .ok (.ifCond .le 5, 3) := by decide +kernel
theorem d_M_comeTo_20 : decode prog_6_method_24_code 20 = .ok (.iconst 0, 1) := by decide +kernel
theorem d_M_comeTo_21 : decode prog_6_method_24_code 21 = .ok (.ireturn, 1) := by decide +kernel
theorem d_M_comeTo_22 : decode prog_6_method_24_code 22 = .ok (.aload_n 0, 1) := by decide +kernel
theorem d_M_comeTo_23 : decode prog_6_method_24_code 23 = .ok (.iload_n 1, 1) := by decide +kernel
theorem d_M_comeTo_24 : decode prog_6_method_24_code 24 = .ok (.iconst 0, 1) := by decide +kernel
theorem d_M_comeTo_25 : decode prog_6_method_24_code 25 = .ok (.invokevirtual 135, 3) := by decide +kernel
theorem d_M_comeTo_28 : decode prog_6_method_24_code 28 = .ok (.aload_n 0, 1) := by decide +kernel
theorem d_M_comeTo_29 : decode prog_6_method_24_code 29 = .ok (.getfield 29, 3) := by decide +kernel
theorem d_M_comeTo_32 : decode prog_6_method_24_code 32 = .ok (.iload_n 1, 1) := by decide +kernel
theorem d_M_comeTo_33 : decode prog_6_method_24_code 33 = .ok (.iaload, 1) := by decide +kernel
theorem d_M_comeTo_34 : decode prog_6_method_24_code 34 = .ok (.ireturn, 1) := by decide +kernel
theorem d_M_move_0 : decode prog_6_method_27_code 0 = .ok (.aload_n 0, 1) := by decide +kernel
theorem d_M_move_1 : decode prog_6_method_27_code 1 = .ok (.aload_n 0, 1) := by decide +kernel
theorem d_M_move_2 : decode prog_6_method_27_code 2 = .ok (.iload_n 1, 1) := by decide +kernel
theorem d_M_move_3 : decode prog_6_method_27_code 3 = .ok (.invokevirtual 148, 3) := by decide +kernel
theorem d_M_move_6 : decode prog_6_method_27_code 6 = .ok (.ifCond .eq 12, 3) := by decide +kernel
theorem d_M_move_9 : decode prog_6_method_27_code 9 = .ok (.iload_n 2, 1) := by decide +kernel
theorem d_M_move_10 : decode prog_6_method_27_code 10 = .ok (.ifCond .lt 8, 3) := by decide +kernel
theorem d_M_move_13 : decode prog_6_method_27_code 13 = .ok (.iload_n 2, 1) := by decide +kernel
theorem d_M_move_14 : decode prog_6_method_27_code 14 = .ok (.iconst 4, 1) := by decide +kernel
theorem d_M_move_15 : decode prog_6_method_27_code 15 = .ok (.if_icmp .le 7, 3) := by decide +kernel
theorem d_M_move_18 : decode prog_6_method_27_code 18 = .ok (.iconst 1, 1) := by decide +kernel
theorem d_M_move_19 : decode prog_6_method_27_code 19 = .ok (.goto 4, 3) := by decide +kernel
theorem d_M_move_22 : decode prog_6_method_27_code 22 = .ok (.iconst 0, 1) := by decide +kernel
theorem d_M_move_23 : decode prog_6_method_27_code 23 = .ok (.putfield 84, 3) := by decide +kernel
theorem d_M_move_26 : decode prog_6_method_27_code 26 = .ok (.aload_n 0, 1) := by decide +kernel
theorem d_M_move_27 : decode prog_6_method_27_code 27 = .ok (.getfield 84, 3) := by decide +kernel
theorem d_M_move_30 : decode prog_6_method_27_code 30 = .ok (.ifCond .le 5, 3) := by decide +kernel
theorem d_M_move_33 : decode prog_6_method_27_code 33 = .ok (.iconst 0, 1) := by decide +kernel
theorem d_M_move_34 : decode prog_6_method_27_code 34 = .ok (.ireturn, 1) := by decide +kernel
theorem d_M_move_35 : decode prog_6_method_27_code 35 = .ok (.aload_n 0, 1) := by decide +kernel
theorem d_M_move_36 : decode prog_6_method_27_code 36 = .ok (.iload_n 1, 1) := by decide +kernel
theorem d_M_move_37 : decode prog_6_method_27_code 37 = .ok (.invokevirtual 120, 3) := by decide +kernel
theorem d_M_move_40 : decode prog_6_method_27_code 40 = .ok (.istore_n 3, 1) := by decide +kernel
theorem d_M_move_41 : decode prog_6_method_27_code 41 = .ok (.iconst (-1), 1) := by decide +kernel
theorem d_M_move_42 : decode prog_6_method_27_code 42 = .ok (.istore 4, 2) := by decide +kernel
theorem d_M_move_44 : decode prog_6_method_27_code 44 = .ok (.iload_n 3, 1) := by decide +kernel
theorem d_M_move_45 : decode prog_6_method_27_code 45 = .ok (.ifCond .lt 56, 3) := by decide +kernel
theorem d_M_move_48 : decode prog_6_method_27_code 48 = .ok (.iload_n 2, 1) := by decide +kernel
theorem d_M_move_49 : decode prog_6_method_27_code 49 = .ok (.ifCond .ne 12, 3) := by decide +kernel
theorem d_M_move_52 : decode prog_6_method_27_code 52 = .ok (.aload_n 0, 1) := by decide +kernel
theorem d_M_move_53 : decode prog_6_method_27_code 53 = .ok (.iload_n 1, 1) := by decide +kernel
theorem d_M_move_54 : decode prog_6_method_27_code 54 = .ok (.iload_n 3, 1) := by decide +kernel
theorem d_M_move_55 : decode prog_6_method_27_code 55 = .ok (.invokevirtual 113, 3) := by decide +kernel
theorem d_M_move_58 : decode prog_6_method_27_code 58 = .ok (.goto 41, 3) := by decide +kernel
theorem d_M_move_61 : decode prog_6_method_27_code 61 = .ok (.iload_n 2, 1) := by decide +kernel
theorem d_M_move_62 : decode prog_6_method_27_code 62 = .ok (.iconst 1, 1) := by decide +kernel
theorem d_M_move_63 : decode prog_6_method_27_code 63 = .ok (.if_icmp .ne 12, 3) := by decide +kernel
theorem d_M_move_66 : decode prog_6_method_27_code 66 = .ok (.aload_n 0, 1) := by decide +kernel
theorem d_M_move_67 : decode prog_6_method_27_code 67 = .ok (.iload_n 1, 1) := by decide +kernel
theorem d_M_move_68 : decode prog_6_method_27_code 68 = .ok (.iload_n 3, 1) := by decide +kernel
theorem d_M_move_69 : decode prog_6_method_27_code 69 = .ok (.invokevirtual 145, 3) := by decide +kernel
theorem d_M_move_72 : decode prog_6_method_27_code 72 = .ok (.goto 27, 3) := by decide +kernel
theorem d_M_move_75 : decode prog_6_method_27_code 75 = .ok (.iload_n 2, 1) := by decide +kernel
theorem d_M_move_76 : decode prog_6_method_27_code 76 = .ok (.iconst 4, 1) := by decide +kernel
theorem d_M_move_77 : decode prog_6_method_27_code 77 = .ok (.if_icmp .ne 7, 3) := by decide +kernel
theorem d_M_move_80 : decode prog_6_method_27_code 80 = .ok (.iload_n 3, 1) := by decide +kernel
theorem d_M_move_81 : decode prog_6_method_27_code 81 = .ok (.goto 18, 3) := by decide +kernel
theorem d_M_move_84 : decode prog_6_method_27_code 84 = .ok (.aload_n 0, 1) := by decide +kernel
theorem d_M_move_85 : decode prog_6_method_27_code 85 = .ok (.iload_n 1, 1) := by decide +kernel
theorem d_M_move_86 : decode prog_6_method_27_code 86 = .ok (.iload_n 2, 1) := by decide +kernel
theorem d_M_move_87 : decode prog_6_method_27_code 87 = .ok (.iconst 2, 1) := by decide +kernel
theorem d_M_move_88 : decode prog_6_method_27_code 88 = .ok (.if_icmp .ne 7, 3) := by decide +kernel
theorem d_M_move_91 : decode prog_6_method_27_code 91 = .ok (.iconst 1, 1) := by decide +kernel
theorem d_M_move_92 : decode prog_6_method_27_code 92 = .ok (.goto 4, 3) := by decide +kernel
theorem d_M_move_95 : decode prog_6_method_27_code 95 = .ok (.iconst (-1), 1) := by decide +kernel
theorem d_M_move_96 : decode prog_6_method_27_code 96 = .ok (.invokevirtual 151, 3) := by decide +kernel
theorem d_M_move_99 : decode prog_6_method_27_code 99 = .ok (.istore 4, 2) := by decide +kernel
theorem d_M_move_101 : decode prog_6_method_27_code 101 = .ok (.aload_n 0, 1) := by decide +kernel
theorem d_M_move_102 : decode prog_6_method_27_code 102 = .ok (.iload 4, 2) := by decide +kernel
theorem d_M_move_104 : decode prog_6_method_27_code 104 = .ok (.iconst 2, 1) := by decide +kernel
theorem d_M_move_105 : decode prog_6_method_27_code 105 = .ok (.invokevirtual 142, 3) := by decide +kernel
theorem d_M_move_108 : decode prog_6_method_27_code 108 = .ok (.ireturn, 1) := by decide +kernel
theorem d_M_isSet_0 : decode prog_6_method_5_code 0 = .ok (.iload_n 1, 1) := by decide +kernel
theorem d_M_isSet_1 : decode prog_6_method_5_code 1 = .ok (.ifCond .lt 15, 3) := by decide +kernel
theorem d_M_isSet_4 : decode prog_6_method_5_code 4 = .ok (.iload_n 1, 1) := by decide +kernel
theorem d_M_isSet_5 : decode prog_6_method_5_code 5 = .ok (.aload_n 0, 1) := by decide +kernel
theorem d_M_isSet_6 : decode prog_6_method_5_code 6 = .ok (.getfield 90, 3) := by decide +kernel
theorem d_M_isSet_9 : decode prog_6_method_5_code 9 = .ok (.if_icmp .ge 7, 3) := by decide +kernel
theorem d_M_isSet_12 : decode prog_6_method_5_code 12 = .ok (.iconst 1, 1) := by decide +kernel
theorem d_M_isSet_13 : decode prog_6_method_5_code 13 = .ok (.goto 4, 3) := by decide +kernel
theorem d_M_isSet_16 : decode prog_6_method_5_code 16 = .ok (.iconst 0, 1) := by decide +kernel
theorem d_M_isSet_17 : decode prog_6_method_5_code 17 = .ok (.ireturn, 1) := by decide +kernel
theorem d_M_lastOf_0 : decode prog_6_method_16_code 0 = .ok (.aload_n 0, 1) := by decide +kernel
theorem d_M_lastOf_1 : decode prog_6_method_16_code 1 = .ok (.iload_n 1, 1) := by decide +kernel
theorem d_M_lastOf_2 : decode prog_6_method_16_code 2 = .ok (.iload_n 2, 1) := by decide +kernel
theorem d_M_lastOf_3 : decode prog_6_method_16_code 3 = .ok (.aload_n 0, 1) := by decide +kernel
theorem d_M_lastOf_4 : decode prog_6_method_16_code 4 = .ok (.getfield 44, 3) := by decide +kernel
theorem d_M_lastOf_7 : decode prog_6_method_16_code 7 = .ok (.iload_n 1, 1) := by decide +kernel
theorem d_M_lastOf_8 : decode prog_6_method_16_code 8 = .ok (.iaload, 1) := by decide +kernel
theorem d_M_lastOf_9 : decode prog_6_method_16_code 9 = .ok (.iconst 1, 1) := by decide +kernel
theorem d_M_lastOf_10 : decode prog_6_method_16_code 10 = .ok (.isub, 1) := by decide +kernel
theorem d_M_lastOf_11 : decode prog_6_method_16_code 11 = .ok (.iconst (-1), 1) := by decide +kernel
theorem d_M_lastOf_12 : decode prog_6_method_16_code 12 = .ok (.invokevirtual 105, 3) := by decide +kernel
theorem d_M_lastOf_15 : decode prog_6_method_16_code 15 = .ok (.ireturn, 1) := by decide +kernel
theorem d_M_beside_0 : decode prog_6_method_26_code 0 = .ok (.aload_n 0, 1) := by decide +kernel
theorem d_M_beside_1 : decode prog_6_method_26_code 1 = .ok (.getfield 53, 3) := by decide +kernel
theorem d_M_beside_4 : decode prog_6_method_26_code 4 = .ok (.iload_n 1, 1) := by decide +kernel
theorem d_M_beside_5 : decode prog_6_method_26_code 5 = .ok (.iaload, 1) := by decide +kernel
theorem d_M_beside_6 : decode prog_6_method_26_code 6 = .ok (.istore_n 3, 1) := by decide +kernel
theorem d_M_beside_7 : decode prog_6_method_26_code 7 = .ok (.iload_n 3, 1) := by decide +kernel
theorem d_M_beside_8 : decode prog_6_method_26_code 8 = .ok (.ifCond .ge 5, 3) := by decide +kernel
theorem d_M_beside_11 : decode prog_6_method_26_code 11 = .ok (.iconst (-1), 1) := by decide +kernel
theorem d_M_beside_12 : decode prog_6_method_26_code 12 = .ok (.ireturn, 1) := by decide +kernel
theorem d_M_beside_13 : decode prog_6_method_26_code 13 = .ok (.aload_n 0, 1) := by decide +kernel
theorem d_M_beside_14 : decode prog_6_method_26_code 14 = .ok (.iload_n 1, 1) := by decide +kernel
theorem d_M_beside_15 : decode prog_6_method_26_code 15 = .ok (.invokevirtual 120, 3) := by decide +kernel
theorem d_M_beside_18 : decode prog_6_method_26_code 18 = .ok (.istore 4, 2) := by decide +kernel
theorem d_M_beside_20 : decode prog_6_method_26_code 20 = .ok (.iload_n 3, 1) := by decide +kernel
theorem d_M_beside_21 : decode prog_6_method_26_code 21 = .ok (.iload 4, 2) := by decide +kernel
theorem d_M_beside_23 : decode prog_6_method_26_code 23 = .ok (.if_icmp .ne 25, 3) := by decide +kernel
theorem d_M_beside_26 : decode prog_6_method_26_code 26 = .ok (.iload_n 2, 1) := by decide +kernel
theorem d_M_beside_27 : decode prog_6_method_26_code 27 = .ok (.ifCond .le 13, 3) := by decide +kernel
theorem d_M_beside_30 : decode prog_6_method_26_code 30 = .ok (.aload_n 0, 1) := by decide +kernel
theorem d_M_beside_31 : decode prog_6_method_26_code 31 = .ok (.iload_n 1, 1) := by decide +kernel
theorem d_M_beside_32 : decode prog_6_method_26_code 32 = .ok (.iload 4, 2) := by decide +kernel
theorem d_M_beside_34 : decode prog_6_method_26_code 34 = .ok (.invokevirtual 113, 3) := by decide +kernel
theorem d_M_beside_37 : decode prog_6_method_26_code 37 = .ok (.goto 10, 3) := by decide +kernel
theorem d_M_beside_40 : decode prog_6_method_26_code 40 = .ok (.aload_n 0, 1) := by decide +kernel
theorem d_M_beside_41 : decode prog_6_method_26_code 41 = .ok (.iload_n 1, 1) := by decide +kernel
theorem d_M_beside_42 : decode prog_6_method_26_code 42 = .ok (.iload 4, 2) := by decide +kernel
theorem d_M_beside_44 : decode prog_6_method_26_code 44 = .ok (.invokevirtual 145, 3) := by decide +kernel
theorem d_M_beside_47 : decode prog_6_method_26_code 47 = .ok (.ireturn, 1) := by decide +kernel
theorem d_M_beside_48 : decode prog_6_method_26_code 48 = .ok (.aload_n 0, 1) := by decide +kernel
theorem d_M_beside_49 : decode prog_6_method_26_code 49 = .ok (.iload_n 1, 1) := by decide +kernel
theorem d_M_beside_50 : decode prog_6_method_26_code 50 = .ok (.iload 4, 2) := by decide +kernel
theorem d_M_beside_52 : decode prog_6_method_26_code 52 = .ok (.aload_n 0, 1) := by decide +kernel
theorem d_M_beside_53 : decode prog_6_method_26_code 53 = .ok (.iload_n 1, 1) := by decide +kernel
theorem d_M_beside_54 : decode prog_6_method_26_code 54 = .ok (.iload_n 3, 1) := by decide +kernel
theorem d_M_beside_55 : decode prog_6_method_26_code 55 = .ok (.invokevirtual 109, 3) := by decide +kernel
theorem d_M_beside_58 : decode prog_6_method_26_code 58 = .ok (.iload_n 2, 1) := by decide +kernel
theorem d_M_beside_59 : decode prog_6_method_26_code 59 = .ok (.iadd, 1) := by decide +kernel
theorem d_M_beside_60 : decode prog_6_method_26_code 60 = .ok (.iload_n 2, 1) := by decide +kernel
theorem d_M_beside_61 : decode prog_6_method_26_code 61 = .ok (.invokevirtual 105, 3) := by decide +kernel
theorem d_M_beside_64 : decode prog_6_method_26_code 64 = .ok (.ireturn, 1) := by decide +kernel
theorem d_M_scan_0 : decode prog_6_method_28_code 0 = .ok (.aload_n 0, 1) := by decide +kernel
theorem d_M_scan_1 : decode prog_6_method_28_code 1 = .ok (.aload_n 0, 1) := by decide +kernel
theorem d_M_scan_2 : decode prog_6_method_28_code 2 = .ok (.iload_n 1, 1) := by decide +kernel
theorem d_M_scan_3 : decode prog_6_method_28_code 3 = .ok (.invokevirtual 148, 3) := by decide +kernel
theorem d_M_scan_6 : decode prog_6_method_28_code 6 = .ok (.ifCond .eq 7, 3) := by decide +kernel
theorem d_M_scan_9 : decode prog_6_method_28_code 9 = .ok (.iload_n 2, 1) := by decide +kernel
theorem d_M_scan_10 : decode prog_6_method_28_code 10 = .ok (.ifCond .ge 7, 3) := by decide +kernel
theorem d_M_scan_13 : decode prog_6_method_28_code 13 = .ok (.iconst 1, 1) := by decide +kernel
theorem d_M_scan_14 : decode prog_6_method_28_code 14 = .ok (.goto 4, 3) := by decide +kernel
theorem d_M_scan_17 : decode prog_6_method_28_code 17 = .ok (.iconst 0, 1) := by decide +kernel
theorem d_M_scan_18 : decode prog_6_method_28_code 18 = .ok (.putfield 84, 3) := by decide +kernel
theorem d_M_scan_21 : decode prog_6_method_28_code 21 = .ok (.aload_n 0, 1) := by decide +kernel
theorem d_M_scan_22 : decode prog_6_method_28_code 22 = .ok (.getfield 84, 3) := by decide +kernel
theorem d_M_scan_25 : decode prog_6_method_28_code 25 = .ok (.ifCond .ne 27, 3) := by decide +kernel
theorem d_M_scan_28 : decode prog_6_method_28_code 28 = .ok (.aload_n 0, 1) := by decide +kernel
theorem d_M_scan_29 : decode prog_6_method_28_code 29 = .ok (.iload_n 2, 1) := by decide +kernel
theorem d_M_scan_30 : decode prog_6_method_28_code 30 = .ok (.aload_n 0, 1) := by decide +kernel
theorem d_M_scan_31 : decode prog_6_method_28_code 31 = .ok (.getfield 7, 3) := by decide +kernel
theorem d_M_scan_34 : decode prog_6_method_28_code 34 = .ok (.aload_n 0, 1) := by decide +kernel
theorem d_M_scan_35 : decode prog_6_method_28_code 35 = .ok (.getfield 16, 3) := by decide +kernel
theorem d_M_scan_38 : decode prog_6_method_28_code 38 = .ok (.iload_n 1, 1) := by decide +kernel
theorem d_M_scan_39 : decode prog_6_method_28_code 39 = .ok (.iaload, 1) := by decide +kernel
theorem d_M_scan_40 : decode prog_6_method_28_code 40 = .ok (.iaload, 1) := by decide +kernel
theorem d_M_scan_41 : decode prog_6_method_28_code 41 = .ok (.if_icmp .lt 7, 3) := by decide +kernel
theorem d_M_scan_44 : decode prog_6_method_28_code 44 = .ok (.iconst 1, 1) := by decide +kernel
theorem d_M_scan_45 : decode prog_6_method_28_code 45 = .ok (.goto 4, 3) := by decide +kernel
theorem d_M_scan_48 : decode prog_6_method_28_code 48 = .ok (.iconst 0, 1) := by decide +kernel
theorem d_M_scan_49 : decode prog_6_method_28_code 49 = .ok (.putfield 84, 3) := by decide +kernel
theorem d_M_scan_52 : decode prog_6_method_28_code 52 = .ok (.aload_n 0, 1) := by decide +kernel
theorem d_M_scan_53 : decode prog_6_method_28_code 53 = .ok (.getfield 84, 3) := by decide +kernel
theorem d_M_scan_56 : decode prog_6_method_28_code 56 = .ok (.ifCond .le 5, 3) := by decide +kernel
theorem d_M_scan_59 : decode prog_6_method_28_code 59 = .ok (.iconst 0, 1) := by decide +kernel
theorem d_M_scan_60 : decode prog_6_method_28_code 60 = .ok (.ireturn, 1) := by decide +kernel
theorem d_M_scan_61 : decode prog_6_method_28_code 61 = .ok (.aload_n 0, 1) := by decide +kernel
theorem d_M_scan_62 : decode prog_6_method_28_code 62 = .ok (.iload_n 1, 1) := by decide +kernel
theorem d_M_scan_63 : decode prog_6_method_28_code 63 = .ok (.invokevirtual 120, 3) := by decide +kernel
theorem d_M_scan_66 : decode prog_6_method_28_code 66 = .ok (.istore 4, 2) := by decide +kernel
theorem d_M_scan_68 : decode prog_6_method_28_code 68 = .ok (.aload_n 0, 1) := by decide +kernel
theorem d_M_scan_69 : decode prog_6_method_28_code 69 = .ok (.iload_n 1, 1) := by decide +kernel
theorem d_M_scan_70 : decode prog_6_method_28_code 70 = .ok (.iconst 1, 1) := by decide +kernel
theorem d_M_scan_71 : decode prog_6_method_28_code 71 = .ok (.invokevirtual 151, 3) := by decide +kernel
theorem d_M_scan_74 : decode prog_6_method_28_code 74 = .ok (.istore 5, 2) := by decide +kernel
theorem d_M_scan_76 : decode prog_6_method_28_code 76 = .ok (.iload 5, 2) := by decide +kernel
theorem d_M_scan_78 : decode prog_6_method_28_code 78 = .ok (.ifCond .lt 40, 3) := by decide +kernel
theorem d_M_scan_81 : decode prog_6_method_28_code 81 = .ok (.aload_n 0, 1) := by decide +kernel
theorem d_M_scan_82 : decode prog_6_method_28_code 82 = .ok (.getfield 35, 3) := by decide +kernel
theorem d_M_scan_85 : decode prog_6_method_28_code 85 = .ok (.iconst 3, 1) := by decide +kernel
theorem d_M_scan_86 : decode prog_6_method_28_code 86 = .ok (.iload 5, 2) := by decide +kernel
theorem d_M_scan_88 : decode prog_6_method_28_code 88 = .ok (.imul, 1) := by decide +kernel
theorem d_M_scan_89 : decode prog_6_method_28_code 89 = .ok (.iload_n 2, 1) := by decide +kernel
theorem d_M_scan_90 : decode prog_6_method_28_code 90 = .ok (.iadd, 1) := by decide +kernel
theorem d_M_scan_91 : decode prog_6_method_28_code 91 = .ok (.iaload, 1) := by decide +kernel
theorem d_M_scan_92 : decode prog_6_method_28_code 92 = .ok (.iload_n 3, 1) := by decide +kernel
theorem d_M_scan_93 : decode prog_6_method_28_code 93 = .ok (.if_icmp .eq 25, 3) := by decide +kernel
theorem d_M_scan_96 : decode prog_6_method_28_code 96 = .ok (.aload_n 0, 1) := by decide +kernel
theorem d_M_scan_97 : decode prog_6_method_28_code 97 = .ok (.iload_n 1, 1) := by decide +kernel
theorem d_M_scan_98 : decode prog_6_method_28_code 98 = .ok (.iload 4, 2) := by decide +kernel
theorem d_M_scan_100 : decode prog_6_method_28_code 100 = .ok (.aload_n 0, 1) := by decide +kernel
theorem d_M_scan_101 : decode prog_6_method_28_code 101 = .ok (.iload_n 1, 1) := by decide +kernel
theorem d_M_scan_102 : decode prog_6_method_28_code 102 = .ok (.iload 5, 2) := by decide +kernel
theorem d_M_scan_104 : decode prog_6_method_28_code 104 = .ok (.invokevirtual 109, 3) := by decide +kernel
theorem d_M_scan_107 : decode prog_6_method_28_code 107 = .ok (.iconst 1, 1) := by decide +kernel
theorem d_M_scan_108 : decode prog_6_method_28_code 108 = .ok (.iadd, 1) := by decide +kernel
theorem d_M_scan_109 : decode prog_6_method_28_code 109 = .ok (.iconst 1, 1) := by decide +kernel
theorem d_M_scan_110 : decode prog_6_method_28_code 110 = .ok (.invokevirtual 105, 3) := by decide +kernel
theorem d_M_scan_113 : decode prog_6_method_28_code 113 = .ok (.istore 5, 2) := by decide +kernel
theorem d_M_scan_115 : decode prog_6_method_28_code 115 = .ok (.goto (-39), 3) := by decide +kernel
theorem d_M_scan_118 : decode prog_6_method_28_code 118 = .ok (.aload_n 0, 1) := by decide +kernel
theorem d_M_scan_119 : decode prog_6_method_28_code 119 = .ok (.iload 5, 2) := by decide +kernel
theorem d_M_scan_121 : decode prog_6_method_28_code 121 = .ok (.iconst 2, 1) := by decide +kernel
theorem d_M_scan_122 : decode prog_6_method_28_code 122 = .ok (.invokevirtual 142, 3) := by decide +kernel
theorem d_M_scan_125 : decode prog_6_method_28_code 125 = .ok (.ireturn, 1) := by decide +kernel
theorem d_M_current_0 : decode prog_6_method_29_code 0 = .ok (.iload_n 1, 1) := by decide +kernel
theorem d_M_current_1 : decode prog_6_method_29_code 1 = .ok (.ifCond .eq 29, 3) := by decide +kernel
theorem d_M_current_4 : decode prog_6_method_29_code 4 = .ok (.iload_n 1, 1) := by decide +kernel
theorem d_M_current_5 : decode prog_6_method_29_code 5 = .ok (.iconst 1, 1) := by decide +kernel
theorem d_M_current_6 : decode prog_6_method_29_code 6 = .ok (.if_icmp .ne 11, 3) := by decide +kernel
theorem d_M_current_9 : decode prog_6_method_29_code 9 = .ok (.aload_n 0, 1) := by decide +kernel
theorem d_M_current_10 : decode prog_6_method_29_code 10 = .ok (.iload_n 2, 1) := by decide +kernel
theorem d_M_current_11 : decode prog_6_method_29_code 11 = .ok (.invokevirtual 97, 3) := by decide +kernel
theorem d_M_current_14 : decode prog_6_method_29_code 14 = .ok (.ifCond .ne 16, 3) := by decide +kernel
theorem d_M_current_17 : decode prog_6_method_29_code 17 = .ok (.iload_n 1, 1) := by decide +kernel
theorem d_M_current_18 : decode prog_6_method_29_code 18 = .ok (.iconst 2, 1) := by decide +kernel
theorem d_M_current_19 : decode prog_6_method_29_code 19 = .ok (.if_icmp .ne 15, 3) := by decide +kernel
theorem d_M_current_22 : decode prog_6_method_29_code 22 = .ok (.aload_n 0, 1) := by decide +kernel
theorem d_M_current_23 : decode prog_6_method_29_code 23 = .ok (.iload_n 2, 1) := by decide +kernel
theorem d_M_current_24 : decode prog_6_method_29_code 24 = .ok (.invokevirtual 148, 3) := by decide +kernel
theorem d_M_current_27 : decode prog_6_method_29_code 27 = .ok (.ifCond .eq 7, 3) := by decide +kernel
theorem d_M_current_30 : decode prog_6_method_29_code 30 = .ok (.iconst 1, 1) := by decide +kernel
theorem d_M_current_31 : decode prog_6_method_29_code 31 = .ok (.goto 4, 3) := by decide +kernel
theorem d_M_current_34 : decode prog_6_method_29_code 34 = .ok (.iconst 0, 1) := by decide +kernel
theorem d_M_current_35 : decode prog_6_method_29_code 35 = .ok (.istore_n 3, 1) := by decide +kernel
theorem d_M_current_36 : decode prog_6_method_29_code 36 = .ok (.aload_n 0, 1) := by decide +kernel
theorem d_M_current_37 : decode prog_6_method_29_code 37 = .ok (.iload_n 3, 1) := by decide +kernel
theorem d_M_current_38 : decode prog_6_method_29_code 38 = .ok (.ifCond .eq 7, 3) := by decide +kernel
theorem d_M_current_41 : decode prog_6_method_29_code 41 = .ok (.iconst 0, 1) := by decide +kernel
theorem d_M_current_42 : decode prog_6_method_29_code 42 = .ok (.goto 4, 3) := by decide +kernel
theorem d_M_current_45 : decode prog_6_method_29_code 45 = .ok (.iconst 1, 1) := by decide +kernel
theorem d_M_current_46 : decode prog_6_method_29_code 46 = .ok (.putfield 84, 3) := by decide +kernel
theorem d_M_current_49 : decode prog_6_method_29_code 49 = .ok (.aload_n 0, 1) := by decide +kernel
theorem d_M_current_50 : decode prog_6_method_29_code 50 = .ok (.getfield 84, 3) := by decide +kernel
theorem d_M_current_53 : decode prog_6_method_29_code 53 = .ok (.ifCond .le 5, 3) := by decide +kernel
theorem d_M_current_56 : decode prog_6_method_29_code 56 = .ok (.iconst 0, 1) := by decide +kernel
theorem d_M_current_57 : decode prog_6_method_29_code 57 = .ok (.ireturn, 1) := by decide +kernel
theorem d_M_current_58 : decode prog_6_method_29_code 58 = .ok (.iload_n 1, 1) := by decide +kernel
theorem d_M_current_59 : decode prog_6_method_29_code 59 = .ok (.ifCond .ne 10, 3) := by decide +kernel
theorem d_M_current_62 : decode prog_6_method_29_code 62 = .ok (.aload_n 0, 1) := by decide +kernel
theorem d_M_current_63 : decode prog_6_method_29_code 63 = .ok (.getfield 47, 3) := by decide +kernel
theorem d_M_current_66 : decode prog_6_method_29_code 66 = .ok (.goto 23, 3) := by decide +kernel
theorem d_M_current_69 : decode prog_6_method_29_code 69 = .ok (.iload_n 1, 1) := by decide +kernel
theorem d_M_current_70 : decode prog_6_method_29_code 70 = .ok (.iconst 1, 1) := by decide +kernel
theorem d_M_current_71 : decode prog_6_method_29_code 71 = .ok (.if_icmp .ne 12, 3) := by decide +kernel
theorem d_M_current_74 : decode prog_6_method_29_code 74 = .ok (.aload_n 0, 1) := by decide +kernel
theorem d_M_current_75 : decode prog_6_method_29_code 75 = .ok (.getfield 50, 3) := by decide +kernel
theorem d_M_current_78 : decode prog_6_method_29_code 78 = .ok (.iload_n 2, 1) := by decide +kernel
theorem d_M_current_79 : decode prog_6_method_29_code 79 = .ok (.iaload, 1) := by decide +kernel
theorem d_M_current_80 : decode prog_6_method_29_code 80 = .ok (.goto 9, 3) := by decide +kernel
theorem d_M_current_83 : decode prog_6_method_29_code 83 = .ok (.aload_n 0, 1) := by decide +kernel
theorem d_M_current_84 : decode prog_6_method_29_code 84 = .ok (.getfield 53, 3) := by decide +kernel
theorem d_M_current_87 : decode prog_6_method_29_code 87 = .ok (.iload_n 2, 1) := by decide +kernel
theorem d_M_current_88 : decode prog_6_method_29_code 88 = .ok (.iaload, 1) := by decide +kernel
theorem d_M_current_89 : decode prog_6_method_29_code 89 = .ok (.istore 4, 2) := by decide +kernel
theorem d_M_current_91 : decode prog_6_method_29_code 91 = .ok (.iload 4, 2) := by decide +kernel
theorem d_M_current_93 : decode prog_6_method_29_code 93 = .ok (.ifCond .ge 7, 3) := by decide +kernel
theorem d_M_current_96 : decode prog_6_method_29_code 96 = .ok (.iconst 0, 1) := by decide +kernel
theorem d_M_current_97 : decode prog_6_method_29_code 97 = .ok (.goto 10, 3) := by decide +kernel
theorem d_M_current_100 : decode prog_6_method_29_code 100 = .ok (.aload_n 0, 1) := by decide +kernel
theorem d_M_current_101 : decode prog_6_method_29_code 101 = .ok (.getfield 29, 3) := by decide +kernel
theorem d_M_current_104 : decode prog_6_method_29_code 104 = .ok (.iload 4, 2) := by decide +kernel
theorem d_M_current_106 : decode prog_6_method_29_code 106 = .ok (.iaload, 1) := by decide +kernel
theorem d_M_current_107 : decode prog_6_method_29_code 107 = .ok (.ireturn, 1) := by decide +kernel
theorem d_M_get_0 : decode prog_6_method_30_code 0 = .ok (.aload_n 0, 1) := by decide +kernel
theorem d_M_get_1 : decode prog_6_method_30_code 1 = .ok (.aload_n 0, 1) := by decide +kernel
theorem d_M_get_2 : decode prog_6_method_30_code 2 = .ok (.getfield 47, 3) := by decide +kernel
theorem d_M_get_5 : decode prog_6_method_30_code 5 = .ok (.ifCond .ge 7, 3) := by decide +kernel
theorem d_M_get_8 : decode prog_6_method_30_code 8 = .ok (.iconst 1, 1) := by decide +kernel
theorem d_M_get_9 : decode prog_6_method_30_code 9 = .ok (.goto 30, 3) := by decide +kernel
theorem d_M_get_12 : decode prog_6_method_30_code 12 = .ok (.iload_n 1, 1) := by decide +kernel
theorem d_M_get_13 : decode prog_6_method_30_code 13 = .ok (.ifCond .lt 21, 3) := by decide +kernel
theorem d_M_get_16 : decode prog_6_method_30_code 16 = .ok (.iload_n 1, 1) := by decide +kernel
theorem d_M_get_17 : decode prog_6_method_30_code 17 = .ok (.aload_n 0, 1) := by decide +kernel
theorem d_M_get_18 : decode prog_6_method_30_code 18 = .ok (.getfield 7, 3) := by decide +kernel
theorem d_M_get_21 : decode prog_6_method_30_code 21 = .ok (.aload_n 0, 1) := by decide +kernel
theorem d_M_get_22 : decode prog_6_method_30_code 22 = .ok (.getfield 32, 3) := by decide +kernel
theorem d_M_get_25 : decode prog_6_method_30_code 25 = .ok (.aload_n 0, 1) := by decide +kernel
theorem d_M_get_26 : decode prog_6_method_30_code 26 = .ok (.getfield 47, 3) := by decide +kernel
theorem d_M_get_29 : decode prog_6_method_30_code 29 = .ok (.iaload, 1) := by decide +kernel
theorem d_M_get_30 : decode prog_6_method_30_code 30 = .ok (.iaload, 1) := by decide +kernel
theorem d_M_get_31 : decode prog_6_method_30_code 31 = .ok (.if_icmp .lt 7, 3) := by decide +kernel
theorem d_M_get_34 : decode prog_6_method_30_code 34 = .ok (.iconst 2, 1) := by decide +kernel
theorem d_M_get_35 : decode prog_6_method_30_code 35 = .ok (.goto 4, 3) := by decide +kernel
theorem d_M_get_38 : decode prog_6_method_30_code 38 = .ok (.iconst 0, 1) := by decide +kernel
theorem d_M_get_39 : decode prog_6_method_30_code 39 = .ok (.putfield 84, 3) := by decide +kernel
theorem d_M_get_42 : decode prog_6_method_30_code 42 = .ok (.aload_n 0, 1) := by decide +kernel
theorem d_M_get_43 : decode prog_6_method_30_code 43 = .ok (.getfield 84, 3) := by decide +kernel
theorem d_M_get_46 : decode prog_6_method_30_code 46 = .ok (.ifCond .le 7, 3) := by decide +kernel
theorem d_M_get_49 : decode prog_6_method_30_code 49 = .ok (.iconst 0, 1) := by decide +kernel
theorem d_M_get_50 : decode prog_6_method_30_code 50 = .ok (.goto 16, 3) := by decide +kernel
theorem d_M_get_53 : decode prog_6_method_30_code 53 = .ok (.aload_n 0, 1) := by decide +kernel
theorem d_M_get_54 : decode prog_6_method_30_code 54 = .ok (.getfield 35, 3) := by decide +kernel
theorem d_M_get_57 : decode prog_6_method_30_code 57 = .ok (.iconst 3, 1) := by decide +kernel
theorem d_M_get_58 : decode prog_6_method_30_code 58 = .ok (.aload_n 0, 1) := by decide +kernel
theorem d_M_get_59 : decode prog_6_method_30_code 59 = .ok (.getfield 47, 3) := by decide +kernel
theorem d_M_get_62 : decode prog_6_method_30_code 62 = .ok (.imul, 1) := by decide +kernel
theorem d_M_get_63 : decode prog_6_method_30_code 63 = .ok (.iload_n 1, 1) := by decide +kernel
theorem d_M_get_64 : decode prog_6_method_30_code 64 = .ok (.iadd, 1) := by decide +kernel
theorem d_M_get_65 : decode prog_6_method_30_code 65 = .ok (.iaload, 1) := by decide +kernel
theorem d_M_get_66 : decode prog_6_method_30_code 66 = .ok (.ireturn, 1) := by decide +kernel
theorem d_M_modify_0 : decode prog_6_method_32_code 0 = .ok (.aload_n 0, 1) := by decide +kernel
theorem d_M_modify_1 : decode prog_6_method_32_code 1 = .ok (.aload_n 0, 1) := by decide +kernel
theorem d_M_modify_2 : decode prog_6_method_32_code 2 = .ok (.getfield 47, 3) := by decide +kernel
theorem d_M_modify_5 : decode prog_6_method_32_code 5 = .ok (.ifCond .ge 7, 3) := by decide +kernel
theorem d_M_modify_8 : decode prog_6_method_32_code 8 = .ok (.iconst 1, 1) := by decide +kernel
theorem d_M_modify_9 : decode prog_6_method_32_code 9 = .ok (.goto 30, 3) := by decide +kernel
theorem d_M_modify_12 : decode prog_6_method_32_code 12 = .ok (.iload_n 1, 1) := by decide +kernel
theorem d_M_modify_13 : decode prog_6_method_32_code 13 = .ok (.ifCond .lt 21, 3) := by decide +kernel
theorem d_M_modify_16 : decode prog_6_method_32_code 16 = .ok (.iload_n 1, 1) := by decide +kernel
theorem d_M_modify_17 : decode prog_6_method_32_code 17 = .ok (.aload_n 0, 1) := by decide +kernel
theorem d_M_modify_18 : decode prog_6_method_32_code 18 = .ok (.getfield 7, 3) := by decide +kernel
theorem d_M_modify_21 : decode prog_6_method_32_code 21 = .ok (.aload_n 0, 1) := by decide +kernel
theorem d_M_modify_22 : decode prog_6_method_32_code 22 = .ok (.getfield 32, 3) := by decide +kernel
theorem d_M_modify_25 : decode prog_6_method_32_code 25 = .ok (.aload_n 0, 1) := by decide +kernel
theorem d_M_modify_26 : decode prog_6_method_32_code 26 = .ok (.getfield 47, 3) := by decide +kernel
theorem d_M_modify_29 : decode prog_6_method_32_code 29 = .ok (.iaload, 1) := by decide +kernel
theorem d_M_modify_30 : decode prog_6_method_32_code 30 = .ok (.iaload, 1) := by decide +kernel
theorem d_M_modify_31 : decode prog_6_method_32_code 31 = .ok (.if_icmp .lt 7, 3) := by decide +kernel
theorem d_M_modify_34 : decode prog_6_method_32_code 34 = .ok (.iconst 2, 1) := by decide +kernel
theorem d_M_modify_35 : decode prog_6_method_32_code 35 = .ok (.goto 4, 3) := by decide +kernel
theorem d_M_modify_38 : decode prog_6_method_32_code 38 = .ok (.iconst 0, 1) := by decide +kernel
theorem d_M_modify_39 : decode prog_6_method_32_code 39 = .ok (.putfield 84, 3) := by decide +kernel
theorem d_M_modify_42 : decode prog_6_method_32_code 42 = .ok (.aload_n 0, 1) := by decide +kernel
theorem d_M_modify_43 : decode prog_6_method_32_code 43 = .ok (.getfield 84, 3) := by decide +kernel
theorem d_M_modify_46 : decode prog_6_method_32_code 46 = .ok (.ifCond .le 4, 3) := by decide +kernel
theorem d_M_modify_49 : decode prog_6_method_32_code 49 = .ok (.return_, 1) := by decide +kernel
theorem d_M_modify_50 : decode prog_6_method_32_code 50 = .ok (.aload_n 0, 1) := by decide +kernel
theorem d_M_modify_51 : decode prog_6_method_32_code 51 = .ok (.getfield 47, 3) := by decide +kernel
theorem d_M_modify_54 : decode prog_6_method_32_code 54 = .ok (.istore_n 3, 1) := by decide +kernel
theorem d_M_modify_55 : decode prog_6_method_32_code 55 = .ok (.aload_n 0, 1) := by decide +kernel
theorem d_M_modify_56 : decode prog_6_method_32_code 56 = .ok (.getfield 35, 3) := by decide +kernel
theorem d_M_modify_59 : decode prog_6_method_32_code 59 = .ok (.iconst 3, 1) := by decide +kernel
theorem d_M_modify_60 : decode prog_6_method_32_code 60 = .ok (.iload_n 3, 1) := by decide +kernel
theorem d_M_modify_61 : decode prog_6_method_32_code 61 = .ok (.imul, 1) := by decide +kernel
theorem d_M_modify_62 : decode prog_6_method_32_code 62 = .ok (.iload_n 1, 1) := by decide +kernel
theorem d_M_modify_63 : decode prog_6_method_32_code 63 = .ok (.iadd, 1) := by decide +kernel
theorem d_M_modify_64 : decode prog_6_method_32_code 64 = .ok (.iaload, 1) := by decide +kernel
theorem d_M_modify_65 : decode prog_6_method_32_code 65 = .ok (.iload_n 2, 1) := by decide +kernel
theorem d_M_modify_66 : decode prog_6_method_32_code 66 = .ok (.if_icmp .ne 7, 3) := by decide +kernel
theorem d_M_modify_69 : decode prog_6_method_32_code 69 = .ok (.iconst 1, 1) := by decide +kernel
theorem d_M_modify_70 : decode prog_6_method_32_code 70 = .ok (.goto 4, 3) := by decide +kernel
theorem d_M_modify_73 : decode prog_6_method_32_code 73 = .ok (.iconst 0, 1) := by decide +kernel
theorem d_M_modify_74 : decode prog_6_method_32_code 74 = .ok (.istore 4, 2) := by decide +kernel
theorem d_M_modify_76 : decode prog_6_method_32_code 76 = .ok (.iconst 0, 1) := by decide +kernel
theorem d_M_modify_77 : decode prog_6_method_32_code 77 = .ok (.istore 5, 2) := by decide +kernel
theorem d_M_modify_79 : decode prog_6_method_32_code 79 = .ok (.iload 5, 2) := by decide +kernel
theorem d_M_modify_81 : decode prog_6_method_32_code 81 = .ok (.aload_n 0, 1) := by decide +kernel
theorem d_M_modify_82 : decode prog_6_method_32_code 82 = .ok (.getfield 90, 3) := by decide +kernel
theorem d_M_modify_85 : decode prog_6_method_32_code 85 = .ok (.if_icmp .ge 68, 3) := by decide +kernel
theorem d_M_modify_88 : decode prog_6_method_32_code 88 = .ok (.iload 4, 2) := by decide +kernel
theorem d_M_modify_90 : decode prog_6_method_32_code 90 = .ok (.ifCond .ne 63, 3) := by decide +kernel
theorem d_M_modify_93 : decode prog_6_method_32_code 93 = .ok (.aload_n 0, 1) := by decide +kernel
theorem d_M_modify_94 : decode prog_6_method_32_code 94 = .ok (.getfield 38, 3) := by decide +kernel
theorem d_M_modify_97 : decode prog_6_method_32_code 97 = .ok (.bipush 24, 2) := by decide +kernel
theorem d_M_modify_99 : decode prog_6_method_32_code 99 = .ok (.iload 5, 2) := by decide +kernel
theorem d_M_modify_101 : decode prog_6_method_32_code 101 = .ok (.imul, 1) := by decide +kernel
theorem d_M_modify_102 : decode prog_6_method_32_code 102 = .ok (.iload_n 3, 1) := by decide +kernel
theorem d_M_modify_103 : decode prog_6_method_32_code 103 = .ok (.iadd, 1) := by decide +kernel
theorem d_M_modify_104 : decode prog_6_method_32_code 104 = .ok (.iaload, 1) := by decide +kernel
theorem d_M_modify_105 : decode prog_6_method_32_code 105 = .ok (.istore 6, 2) := by decide +kernel
theorem d_M_modify_107 : decode prog_6_method_32_code 107 = .ok (.aload_n 0, 1) := by decide +kernel
theorem d_M_modify_108 : decode prog_6_method_32_code 108 = .ok (.iload 6, 2) := by decide +kernel
theorem d_M_modify_110 : decode prog_6_method_32_code 110 = .ok (.ifCond .lt 30, 3) := by decide +kernel
theorem d_M_modify_113 : decode prog_6_method_32_code 113 = .ok (.aload_n 0, 1) := by decide +kernel
theorem d_M_modify_114 : decode prog_6_method_32_code 114 = .ok (.iload 5, 2) := by decide +kernel
theorem d_M_modify_116 : decode prog_6_method_32_code 116 = .ok (.iload_n 1, 1) := by decide +kernel
theorem d_M_modify_117 : decode prog_6_method_32_code 117 = .ok (.invokevirtual 154, 3) := by decide +kernel
theorem d_M_modify_120 : decode prog_6_method_32_code 120 = .ok (.ifCond .eq 20, 3) := by decide +kernel
theorem d_M_modify_123 : decode prog_6_method_32_code 123 = .ok (.aload_n 0, 1) := by decide +kernel
theorem d_M_modify_124 : decode prog_6_method_32_code 124 = .ok (.iload 5, 2) := by decide +kernel
theorem d_M_modify_126 : decode prog_6_method_32_code 126 = .ok (.iload 6, 2) := by decide +kernel
theorem d_M_modify_128 : decode prog_6_method_32_code 128 = .ok (.iload_n 3, 1) := by decide +kernel
theorem d_M_modify_129 : decode prog_6_method_32_code 129 = .ok (.iload_n 2, 1) := by decide +kernel
theorem d_M_modify_130 : decode prog_6_method_32_code 130 = .ok (.invokevirtual 124, 3) := by decide +kernel
theorem d_M_modify_133 : decode prog_6_method_32_code 133 = .ok (.ifCond .eq 7, 3) := by decide +kernel
theorem d_M_modify_136 : decode prog_6_method_32_code 136 = .ok (.iconst 3, 1) := by decide +kernel
theorem d_M_modify_137 : decode prog_6_method_32_code 137 = .ok (.goto 7, 3) := by decide +kernel
theorem d_M_modify_140 : decode prog_6_method_32_code 140 = .ok (.aload_n 0, 1) := by decide +kernel
theorem d_M_modify_141 : decode prog_6_method_32_code 141 = .ok (.getfield 84, 3) := by decide +kernel
theorem d_M_modify_144 : decode prog_6_method_32_code 144 = .ok (.putfield 84, 3) := by decide +kernel
theorem d_M_modify_147 : decode prog_6_method_32_code 147 = .ok (.iinc 5 1, 3) := by decide +kernel
theorem d_M_modify_150 : decode prog_6_method_32_code 150 = .ok (.goto (-71), 3) := by decide +kernel
theorem d_M_modify_153 : decode prog_6_method_32_code 153 = .ok (.aload_n 0, 1) := by decide +kernel
theorem d_M_modify_154 : decode prog_6_method_32_code 154 = .ok (.getfield 84, 3) := by decide +kernel
theorem d_M_modify_157 : decode prog_6_method_32_code 157 = .ok (.ifCond .le 4, 3) := by decide +kernel
theorem d_M_modify_160 : decode prog_6_method_32_code 160 = .ok (.return_, 1) := by decide +kernel
theorem d_M_modify_161 : decode prog_6_method_32_code 161 = .ok (.aload_n 0, 1) := by decide +kernel
theorem d_M_modify_162 : decode prog_6_method_32_code 162 = .ok (.getfield 35, 3) := by decide +kernel
theorem d_M_modify_165 : decode prog_6_method_32_code 165 = .ok (.iconst 3, 1) := by decide +kernel
theorem d_M_modify_166 : decode prog_6_method_32_code 166 = .ok (.iload_n 3, 1) := by decide +kernel
theorem d_M_modify_167 : decode prog_6_method_32_code 167 = .ok (.imul, 1) := by decide +kernel
theorem d_M_modify_168 : decode prog_6_method_32_code 168 = .ok (.iload_n 1, 1) := by decide +kernel
theorem d_M_modify_169 : decode prog_6_method_32_code 169 = .ok (.iadd, 1) := by decide +kernel
theorem d_M_modify_170 : decode prog_6_method_32_code 170 = .ok (.iload_n 2, 1) := by decide +kernel
theorem d_M_modify_171 : decode prog_6_method_32_code 171 = .ok (.iastore, 1) := by decide +kernel
theorem d_M_modify_172 : decode prog_6_method_32_code 172 = .ok (.iconst 0, 1) := by decide +kernel
theorem d_M_modify_173 : decode prog_6_method_32_code 173 = .ok (.istore 5, 2) := by decide +kernel
theorem d_M_modify_175 : decode prog_6_method_32_code 175 = .ok (.iload 5, 2) := by decide +kernel
theorem d_M_modify_177 : decode prog_6_method_32_code 177 = .ok (.aload_n 0, 1) := by decide +kernel
theorem d_M_modify_178 : decode prog_6_method_32_code 178 = .ok (.getfield 90, 3) := by decide +kernel
theorem d_M_modify_181 : decode prog_6_method_32_code 181 = .ok (.if_icmp .ge 59, 3) := by decide +kernel
theorem d_M_modify_184 : decode prog_6_method_32_code 184 = .ok (.iload 4, 2) := by decide +kernel
theorem d_M_modify_186 : decode prog_6_method_32_code 186 = .ok (.ifCond .ne 54, 3) := by decide +kernel
theorem d_M_modify_189 : decode prog_6_method_32_code 189 = .ok (.aload_n 0, 1) := by decide +kernel
theorem d_M_modify_190 : decode prog_6_method_32_code 190 = .ok (.getfield 38, 3) := by decide +kernel
theorem d_M_modify_193 : decode prog_6_method_32_code 193 = .ok (.bipush 24, 2) := by decide +kernel
theorem d_M_modify_195 : decode prog_6_method_32_code 195 = .ok (.iload 5, 2) := by decide +kernel
theorem d_M_modify_197 : decode prog_6_method_32_code 197 = .ok (.imul, 1) := by decide +kernel
theorem d_M_modify_198 : decode prog_6_method_32_code 198 = .ok (.iload_n 3, 1) := by decide +kernel
theorem d_M_modify_199 : decode prog_6_method_32_code 199 = .ok (.iadd, 1) := by decide +kernel
theorem d_M_modify_200 : decode prog_6_method_32_code 200 = .ok (.iaload, 1) := by decide +kernel
theorem d_M_modify_201 : decode prog_6_method_32_code 201 = .ok (.istore 6, 2) := by decide +kernel
theorem d_M_modify_203 : decode prog_6_method_32_code 203 = .ok (.iload 6, 2) := by decide +kernel
theorem d_M_modify_205 : decode prog_6_method_32_code 205 = .ok (.ifCond .lt 29, 3) := by decide +kernel
theorem d_M_modify_208 : decode prog_6_method_32_code 208 = .ok (.aload_n 0, 1) := by decide +kernel
theorem d_M_modify_209 : decode prog_6_method_32_code 209 = .ok (.iload 5, 2) := by decide +kernel
theorem d_M_modify_211 : decode prog_6_method_32_code 211 = .ok (.iload_n 1, 1) := by decide +kernel
theorem d_M_modify_212 : decode prog_6_method_32_code 212 = .ok (.invokevirtual 154, 3) := by decide +kernel
theorem d_M_modify_215 : decode prog_6_method_32_code 215 = .ok (.ifCond .eq 19, 3) := by decide +kernel
theorem d_M_modify_218 : decode prog_6_method_32_code 218 = .ok (.aload_n 0, 1) := by decide +kernel
theorem d_M_modify_219 : decode prog_6_method_32_code 219 = .ok (.iload 5, 2) := by decide +kernel
theorem d_M_modify_221 : decode prog_6_method_32_code 221 = .ok (.iload_n 3, 1) := by decide +kernel
theorem d_M_modify_222 : decode prog_6_method_32_code 222 = .ok (.invokevirtual 157, 3) := by decide +kernel
theorem d_M_modify_225 : decode prog_6_method_32_code 225 = .ok (.aload_n 0, 1) := by decide +kernel
theorem d_M_modify_226 : decode prog_6_method_32_code 226 = .ok (.iload 5, 2) := by decide +kernel
theorem d_M_modify_228 : decode prog_6_method_32_code 228 = .ok (.iload 6, 2) := by decide +kernel
theorem d_M_modify_230 : decode prog_6_method_32_code 230 = .ok (.iload_n 3, 1) := by decide +kernel
theorem d_M_modify_231 : decode prog_6_method_32_code 231 = .ok (.invokevirtual 131, 3) := by decide +kernel
theorem d_M_modify_234 : decode prog_6_method_32_code 234 = .ok (.iinc 5 1, 3) := by decide +kernel
theorem d_M_modify_237 : decode prog_6_method_32_code 237 = .ok (.goto (-62), 3) := by decide +kernel
theorem d_M_modify_240 : decode prog_6_method_32_code 240 = .ok (.aload_n 0, 1) := by decide +kernel
theorem d_M_modify_241 : decode prog_6_method_32_code 241 = .ok (.iload_n 3, 1) := by decide +kernel
theorem d_M_modify_242 : decode prog_6_method_32_code 242 = .ok (.iconst 0, 1) := by decide +kernel
theorem d_M_modify_243 : decode prog_6_method_32_code 243 = .ok (.invokevirtual 135, 3) := by decide +kernel
theorem d_M_modify_246 : decode prog_6_method_32_code 246 = .ok (.return_, 1) := by decide +kernel
theorem d_M_isSortedBy_0 : decode prog_6_method_31_code 0 = .ok (.aload_n 0, 1) := by decide +kernel
theorem d_M_isSortedBy_1 : decode prog_6_method_31_code 1 = .ok (.getfield 19, 3) := by decide +kernel
theorem d_M_isSortedBy_4 : decode prog_6_method_31_code 4 = .ok (.iload_n 1, 1) := by decide +kernel
theorem d_M_isSortedBy_5 : decode prog_6_method_31_code 5 = .ok (.iaload, 1) := by decide +kernel
theorem d_M_isSortedBy_6 : decode prog_6_method_31_code 6 = .ok (.bipush 10, 2) := by decide +kernel
theorem d_M_isSortedBy_8 : decode prog_6_method_31_code 8 = .ok (.if_icmp .lt 20, 3) := by decide +kernel
theorem d_M_isSortedBy_11 : decode prog_6_method_31_code 11 = .ok (.aload_n 0, 1) := by decide +kernel
theorem d_M_isSortedBy_12 : decode prog_6_method_31_code 12 = .ok (.getfield 19, 3) := by decide +kernel
theorem d_M_isSortedBy_15 : decode prog_6_method_31_code 15 = .ok (.iload_n 1, 1) := by decide +kernel
theorem d_M_isSortedBy_16 : decode prog_6_method_31_code 16 = .ok (.iaload, 1) := by decide +kernel
theorem d_M_isSortedBy_17 : decode prog_6_method_31_code 17 = .ok (.bipush 10, 2) := by decide +kernel
theorem d_M_isSortedBy_19 : decode prog_6_method_31_code 19 = .ok (.irem, 1) := by decide +kernel
theorem d_M_isSortedBy_20 : decode prog_6_method_31_code 20 = .ok (.iload_n 2, 1) := by decide +kernel
theorem d_M_isSortedBy_21 : decode prog_6_method_31_code 21 = .ok (.if_icmp .ne 7, 3) := by decide +kernel
theorem d_M_isSortedBy_24 : decode prog_6_method_31_code 24 = .ok (.iconst 1, 1) := by decide +kernel
theorem d_M_isSortedBy_25 : decode prog_6_method_31_code 25 = .ok (.goto 4, 3) := by decide +kernel
theorem d_M_isSortedBy_28 : decode prog_6_method_31_code 28 = .ok (.iconst 0, 1) := by decide +kernel
theorem d_M_isSortedBy_29 : decode prog_6_method_31_code 29 = .ok (.ireturn, 1) := by decide +kernel
theorem d_M_leave_0 : decode prog_6_method_20_code 0 = .ok (.aload_n 0, 1) := by decide +kernel
theorem d_M_leave_1 : decode prog_6_method_20_code 1 = .ok (.iload_n 1, 1) := by decide +kernel
theorem d_M_leave_2 : decode prog_6_method_20_code 2 = .ok (.iload_n 2, 1) := by decide +kernel
theorem d_M_leave_3 : decode prog_6_method_20_code 3 = .ok (.invokevirtual 109, 3) := by decide +kernel
theorem d_M_leave_6 : decode prog_6_method_20_code 6 = .ok (.istore_n 3, 1) := by decide +kernel
theorem d_M_leave_7 : decode prog_6_method_20_code 7 = .ok (.aload_n 0, 1) := by decide +kernel
theorem d_M_leave_8 : decode prog_6_method_20_code 8 = .ok (.getfield 44, 3) := by decide +kernel
theorem d_M_leave_11 : decode prog_6_method_20_code 11 = .ok (.iload_n 1, 1) := by decide +kernel
theorem d_M_leave_12 : decode prog_6_method_20_code 12 = .ok (.dup2, 1) := by decide +kernel
theorem d_M_leave_13 : decode prog_6_method_20_code 13 = .ok (.iaload, 1) := by decide +kernel
theorem d_M_leave_14 : decode prog_6_method_20_code 14 = .ok (.iconst 1, 1) := by decide +kernel
theorem d_M_leave_15 : decode prog_6_method_20_code 15 = .ok (.isub, 1) := by decide +kernel
theorem d_M_leave_16 : decode prog_6_method_20_code 16 = .ok (.iastore, 1) := by decide +kernel
theorem d_M_leave_17 : decode prog_6_method_20_code 17 = .ok (.iload_n 3, 1) := by decide +kernel
theorem d_M_leave_18 : decode prog_6_method_20_code 18 = .ok (.istore 4, 2) := by decide +kernel
theorem d_M_leave_20 : decode prog_6_method_20_code 20 = .ok (.iload 4, 2) := by decide +kernel
theorem d_M_leave_22 : decode prog_6_method_20_code 22 = .ok (.aload_n 0, 1) := by decide +kernel
theorem d_M_leave_23 : decode prog_6_method_20_code 23 = .ok (.getfield 44, 3) := by decide +kernel
theorem d_M_leave_26 : decode prog_6_method_20_code 26 = .ok (.iload_n 1, 1) := by decide +kernel
theorem d_M_leave_27 : decode prog_6_method_20_code 27 = .ok (.iaload, 1) := by decide +kernel
theorem d_M_leave_28 : decode prog_6_method_20_code 28 = .ok (.if_icmp .ge 35, 3) := by decide +kernel
theorem d_M_leave_31 : decode prog_6_method_20_code 31 = .ok (.aload_n 0, 1) := by decide +kernel
theorem d_M_leave_32 : decode prog_6_method_20_code 32 = .ok (.getfield 41, 3) := by decide +kernel
theorem d_M_leave_35 : decode prog_6_method_20_code 35 = .ok (.bipush 24, 2) := by decide +kernel
theorem d_M_leave_37 : decode prog_6_method_20_code 37 = .ok (.iload_n 1, 1) := by decide +kernel
theorem d_M_leave_38 : decode prog_6_method_20_code 38 = .ok (.imul, 1) := by decide +kernel
theorem d_M_leave_39 : decode prog_6_method_20_code 39 = .ok (.iload 4, 2) := by decide +kernel
theorem d_M_leave_41 : decode prog_6_method_20_code 41 = .ok (.iadd, 1) := by decide +kernel
theorem d_M_leave_42 : decode prog_6_method_20_code 42 = .ok (.aload_n 0, 1) := by decide +kernel
theorem d_M_leave_43 : decode prog_6_method_20_code 43 = .ok (.getfield 41, 3) := by decide +kernel
theorem d_M_leave_46 : decode prog_6_method_20_code 46 = .ok (.bipush 24, 2) := by decide +kernel
theorem d_M_leave_48 : decode prog_6_method_20_code 48 = .ok (.iload_n 1, 1) := by decide +kernel
theorem d_M_leave_49 : decode prog_6_method_20_code 49 = .ok (.imul, 1) := by decide +kernel
theorem d_M_leave_50 : decode prog_6_method_20_code 50 = .ok (.iload 4, 2) := by decide +kernel
theorem d_M_leave_52 : decode prog_6_method_20_code 52 = .ok (.iadd, 1) := by decide +kernel
theorem d_M_leave_53 : decode prog_6_method_20_code 53 = .ok (.iconst 1, 1) := by decide +kernel
theorem d_M_leave_54 : decode prog_6_method_20_code 54 = .ok (.iadd, 1) := by decide +kernel
theorem d_M_leave_55 : decode prog_6_method_20_code 55 = .ok (.iaload, 1) := by decide +kernel
theorem d_M_leave_56 : decode prog_6_method_20_code 56 = .ok (.iastore, 1) := by decide +kernel
theorem d_M_leave_57 : decode prog_6_method_20_code 57 = .ok (.iinc 4 1, 3) := by decide +kernel
theorem d_M_leave_60 : decode prog_6_method_20_code 60 = .ok (.goto (-40), 3) := by decide +kernel
theorem d_M_leave_63 : decode prog_6_method_20_code 63 = .ok (.aload_n 0, 1) := by decide +kernel
theorem d_M_leave_64 : decode prog_6_method_20_code 64 = .ok (.getfield 38, 3) := by decide +kernel
theorem d_M_leave_67 : decode prog_6_method_20_code 67 = .ok (.bipush 24, 2) := by decide +kernel
theorem d_M_leave_69 : decode prog_6_method_20_code 69 = .ok (.iload_n 1, 1) := by decide +kernel
theorem d_M_leave_70 : decode prog_6_method_20_code 70 = .ok (.imul, 1) := by decide +kernel
theorem d_M_leave_71 : decode prog_6_method_20_code 71 = .ok (.iload_n 2, 1) := by decide +kernel
theorem d_M_leave_72 : decode prog_6_method_20_code 72 = .ok (.iadd, 1) := by decide +kernel
theorem d_M_leave_73 : decode prog_6_method_20_code 73 = .ok (.iconst (-1), 1) := by decide +kernel
theorem d_M_leave_74 : decode prog_6_method_20_code 74 = .ok (.iastore, 1) := by decide +kernel
theorem d_M_leave_75 : decode prog_6_method_20_code 75 = .ok (.return_, 1) := by decide +kernel
theorem d_M_connect_0 : decode prog_6_method_34_code 0 = .ok (.aload_n 0, 1) := by decide +kernel
theorem d_M_connect_1 : decode prog_6_method_34_code 1 = .ok (.aload_n 0, 1) := by decide +kernel
theorem d_M_connect_2 : decode prog_6_method_34_code 2 = .ok (.iload_n 1, 1) := by decide +kernel
theorem d_M_connect_3 : decode prog_6_method_34_code 3 = .ok (.invokevirtual 148, 3) := by decide +kernel
theorem d_M_connect_6 : decode prog_6_method_34_code 6 = .ok (.ifCond .ne 7, 3) := by decide +kernel
theorem d_M_connect_9 : decode prog_6_method_34_code 9 = .ok (.iconst 1, 1) := by decide +kernel
theorem d_M_connect_10 : decode prog_6_method_34_code 10 = .ok (.goto 27, 3) := by decide +kernel
theorem d_M_connect_13 : decode prog_6_method_34_code 13 = .ok (.aload_n 0, 1) := by decide +kernel
theorem d_M_connect_14 : decode prog_6_method_34_code 14 = .ok (.getfield 47, 3) := by decide +kernel
theorem d_M_connect_17 : decode prog_6_method_34_code 17 = .ok (.ifCond .ge 7, 3) := by decide +kernel
theorem d_M_connect_20 : decode prog_6_method_34_code 20 = .ok (.iconst 2, 1) := by decide +kernel
theorem d_M_connect_21 : decode prog_6_method_34_code 21 = .ok (.goto 16, 3) := by decide +kernel
theorem d_M_connect_24 : decode prog_6_method_34_code 24 = .ok (.aload_n 0, 1) := by decide +kernel
theorem d_M_connect_25 : decode prog_6_method_34_code 25 = .ok (.iload_n 1, 1) := by decide +kernel
theorem d_M_connect_26 : decode prog_6_method_34_code 26 = .ok (.invokevirtual 120, 3) := by decide +kernel
theorem d_M_connect_29 : decode prog_6_method_34_code 29 = .ok (.ifCond .ge 7, 3) := by decide +kernel
theorem d_M_connect_32 : decode prog_6_method_34_code 32 = .ok (.iconst 2, 1) := by decide +kernel
theorem d_M_connect_33 : decode prog_6_method_34_code 33 = .ok (.goto 4, 3) := by decide +kernel
theorem d_M_connect_36 : decode prog_6_method_34_code 36 = .ok (.iconst 0, 1) := by decide +kernel
theorem d_M_connect_37 : decode prog_6_method_34_code 37 = .ok (.putfield 84, 3) := by decide +kernel
theorem d_M_connect_40 : decode prog_6_method_34_code 40 = .ok (.aload_n 0, 1) := by decide +kernel
theorem d_M_connect_41 : decode prog_6_method_34_code 41 = .ok (.getfield 84, 3) := by decide +kernel
theorem d_M_connect_44 : decode prog_6_method_34_code 44 = .ok (.ifCond .le 4, 3) := by decide +kernel
theorem d_M_connect_47 : decode prog_6_method_34_code 47 = .ok (.return_, 1) := by decide +kernel
theorem d_M_connect_48 : decode prog_6_method_34_code 48 = .ok (.aload_n 0, 1) := by decide +kernel
theorem d_M_connect_49 : decode prog_6_method_34_code 49 = .ok (.iload_n 1, 1) := by decide +kernel
theorem d_M_connect_50 : decode prog_6_method_34_code 50 = .ok (.invokevirtual 120, 3) := by decide +kernel
theorem d_M_connect_53 : decode prog_6_method_34_code 53 = .ok (.istore_n 2, 1) := by decide +kernel
theorem d_M_connect_54 : decode prog_6_method_34_code 54 = .ok (.aload_n 0, 1) := by decide +kernel
theorem d_M_connect_55 : decode prog_6_method_34_code 55 = .ok (.aload_n 0, 1) := by decide +kernel
theorem d_M_connect_56 : decode prog_6_method_34_code 56 = .ok (.getfield 32, 3) := by decide +kernel
theorem d_M_connect_59 : decode prog_6_method_34_code 59 = .ok (.aload_n 0, 1) := by decide +kernel
theorem d_M_connect_60 : decode prog_6_method_34_code 60 = .ok (.getfield 47, 3) := by decide +kernel
theorem d_M_connect_63 : decode prog_6_method_34_code 63 = .ok (.iaload, 1) := by decide +kernel
theorem d_M_connect_64 : decode prog_6_method_34_code 64 = .ok (.aload_n 0, 1) := by decide +kernel
theorem d_M_connect_65 : decode prog_6_method_34_code 65 = .ok (.getfield 16, 3) := by decide +kernel
theorem d_M_connect_68 : decode prog_6_method_34_code 68 = .ok (.iload_n 1, 1) := by decide +kernel
theorem d_M_connect_69 : decode prog_6_method_34_code 69 = .ok (.iaload, 1) := by decide +kernel
theorem d_M_connect_70 : decode prog_6_method_34_code 70 = .ok (.if_icmp .ne 42, 3) := by decide +kernel
theorem d_M_connect_73 : decode prog_6_method_34_code 73 = .ok (.aload_n 0, 1) := by decide +kernel
theorem d_M_connect_74 : decode prog_6_method_34_code 74 = .ok (.getfield 38, 3) := by decide +kernel
theorem d_M_connect_77 : decode prog_6_method_34_code 77 = .ok (.bipush 24, 2) := by decide +kernel
theorem d_M_connect_79 : decode prog_6_method_34_code 79 = .ok (.iload_n 1, 1) := by decide +kernel
theorem d_M_connect_80 : decode prog_6_method_34_code 80 = .ok (.imul, 1) := by decide +kernel
theorem d_M_connect_81 : decode prog_6_method_34_code 81 = .ok (.aload_n 0, 1) := by decide +kernel
theorem d_M_connect_82 : decode prog_6_method_34_code 82 = .ok (.getfield 47, 3) := by decide +kernel
theorem d_M_connect_85 : decode prog_6_method_34_code 85 = .ok (.iadd, 1) := by decide +kernel
theorem d_M_connect_86 : decode prog_6_method_34_code 86 = .ok (.iaload, 1) := by decide +kernel
theorem d_M_connect_87 : decode prog_6_method_34_code 87 = .ok (.ifCond .ge 25, 3) := by decide +kernel
theorem d_M_connect_90 : decode prog_6_method_34_code 90 = .ok (.aload_n 0, 1) := by decide +kernel
theorem d_M_connect_91 : decode prog_6_method_34_code 91 = .ok (.iload_n 1, 1) := by decide +kernel
theorem d_M_connect_92 : decode prog_6_method_34_code 92 = .ok (.iload_n 2, 1) := by decide +kernel
theorem d_M_connect_93 : decode prog_6_method_34_code 93 = .ok (.aload_n 0, 1) := by decide +kernel
theorem d_M_connect_94 : decode prog_6_method_34_code 94 = .ok (.getfield 47, 3) := by decide +kernel
theorem d_M_connect_97 : decode prog_6_method_34_code 97 = .ok (.aload_n 0, 1) := by decide +kernel
theorem d_M_connect_98 : decode prog_6_method_34_code 98 = .ok (.iload_n 1, 1) := by decide +kernel
theorem d_M_connect_99 : decode prog_6_method_34_code 99 = .ok (.aload_n 0, 1) := by decide +kernel
theorem d_M_connect_100 : decode prog_6_method_34_code 100 = .ok (.getfield 47, 3) := by decide +kernel
theorem d_M_connect_103 : decode prog_6_method_34_code 103 = .ok (.invokevirtual 160, 3) := by decide +kernel
theorem d_M_connect_106 : decode prog_6_method_34_code 106 = .ok (.invokevirtual 124, 3) := by decide +kernel
theorem d_M_connect_109 : decode prog_6_method_34_code 109 = .ok (.ifCond .eq 7, 3) := by decide +kernel
theorem d_M_connect_112 : decode prog_6_method_34_code 112 = .ok (.iconst 3, 1) := by decide +kernel
theorem d_M_connect_113 : decode prog_6_method_34_code 113 = .ok (.goto 4, 3) := by decide +kernel
theorem d_M_connect_116 : decode prog_6_method_34_code 116 = .ok (.iconst 0, 1) := by decide +kernel
theorem d_M_connect_117 : decode prog_6_method_34_code 117 = .ok (.putfield 84, 3) := by decide +kernel
theorem d_M_connect_120 : decode prog_6_method_34_code 120 = .ok (.aload_n 0, 1) := by decide +kernel
theorem d_M_connect_121 : decode prog_6_method_34_code 121 = .ok (.getfield 84, 3) := by decide +kernel
theorem d_M_connect_124 : decode prog_6_method_34_code 124 = .ok (.ifCond .ne 22, 3) := by decide +kernel
theorem d_M_connect_127 : decode prog_6_method_34_code 127 = .ok (.aload_n 0, 1) := by decide +kernel
theorem d_M_connect_128 : decode prog_6_method_34_code 128 = .ok (.iload_n 1, 1) := by decide +kernel
theorem d_M_connect_129 : decode prog_6_method_34_code 129 = .ok (.iload_n 2, 1) := by decide +kernel
theorem d_M_connect_130 : decode prog_6_method_34_code 130 = .ok (.aload_n 0, 1) := by decide +kernel
theorem d_M_connect_131 : decode prog_6_method_34_code 131 = .ok (.getfield 47, 3) := by decide +kernel
theorem d_M_connect_134 : decode prog_6_method_34_code 134 = .ok (.invokevirtual 131, 3) := by decide +kernel
theorem d_M_connect_137 : decode prog_6_method_34_code 137 = .ok (.aload_n 0, 1) := by decide +kernel
theorem d_M_connect_138 : decode prog_6_method_34_code 138 = .ok (.aload_n 0, 1) := by decide +kernel
theorem d_M_connect_139 : decode prog_6_method_34_code 139 = .ok (.getfield 47, 3) := by decide +kernel
theorem d_M_connect_142 : decode prog_6_method_34_code 142 = .ok (.iconst 0, 1) := by decide +kernel
theorem d_M_connect_143 : decode prog_6_method_34_code 143 = .ok (.invokevirtual 135, 3) := by decide +kernel
theorem d_M_connect_146 : decode prog_6_method_34_code 146 = .ok (.return_, 1) := by decide +kernel
theorem d_M_valueIn_0 : decode prog_6_method_33_code 0 = .ok (.aload_n 0, 1) := by decide +kernel
theorem d_M_valueIn_1 : decode prog_6_method_33_code 1 = .ok (.getfield 19, 3) := by decide +kernel
theorem d_M_valueIn_4 : decode prog_6_method_33_code 4 = .ok (.iload_n 1, 1) := by decide +kernel
theorem d_M_valueIn_5 : decode prog_6_method_33_code 5 = .ok (.iaload, 1) := by decide +kernel
theorem d_M_valueIn_6 : decode prog_6_method_33_code 6 = .ok (.bipush 10, 2) := by decide +kernel
theorem d_M_valueIn_8 : decode prog_6_method_33_code 8 = .ok (.if_icmp .ge 7, 3) := by decide +kernel
theorem d_M_valueIn_11 : decode prog_6_method_33_code 11 = .ok (.iconst 0, 1) := by decide +kernel
theorem d_M_valueIn_12 : decode prog_6_method_33_code 12 = .ok (.goto 21, 3) := by decide +kernel
theorem d_M_valueIn_15 : decode prog_6_method_33_code 15 = .ok (.aload_n 0, 1) := by decide +kernel
theorem d_M_valueIn_16 : decode prog_6_method_33_code 16 = .ok (.getfield 35, 3) := by decide +kernel
theorem d_M_valueIn_19 : decode prog_6_method_33_code 19 = .ok (.iconst 3, 1) := by decide +kernel
theorem d_M_valueIn_20 : decode prog_6_method_33_code 20 = .ok (.iload_n 2, 1) := by decide +kernel
theorem d_M_valueIn_21 : decode prog_6_method_33_code 21 = .ok (.imul, 1) := by decide +kernel
theorem d_M_valueIn_22 : decode prog_6_method_33_code 22 = .ok (.aload_n 0, 1) := by decide +kernel
theorem d_M_valueIn_23 : decode prog_6_method_33_code 23 = .ok (.getfield 19, 3) := by decide +kernel
theorem d_M_valueIn_26 : decode prog_6_method_33_code 26 = .ok (.iload_n 1, 1) := by decide +kernel
theorem d_M_valueIn_27 : decode prog_6_method_33_code 27 = .ok (.iaload, 1) := by decide +kernel
theorem d_M_valueIn_28 : decode prog_6_method_33_code 28 = .ok (.bipush 10, 2) := by decide +kernel
theorem d_M_valueIn_30 : decode prog_6_method_33_code 30 = .ok (.irem, 1) := by decide +kernel
theorem d_M_valueIn_31 : decode prog_6_method_33_code 31 = .ok (.iadd, 1) := by decide +kernel
theorem d_M_valueIn_32 : decode prog_6_method_33_code 32 = .ok (.iaload, 1) := by decide +kernel
theorem d_M_valueIn_33 : decode prog_6_method_33_code 33 = .ok (.ireturn, 1) := by decide +kernel
theorem d_M_disconnect_0 : decode prog_6_method_35_code 0 = .ok (.aload_n 0, 1) := by decide +kernel
theorem d_M_disconnect_1 : decode prog_6_method_35_code 1 = .ok (.aload_n 0, 1) := by decide +kernel
theorem d_M_disconnect_2 : decode prog_6_method_35_code 2 = .ok (.iload_n 1, 1) := by decide +kernel
theorem d_M_disconnect_3 : decode prog_6_method_35_code 3 = .ok (.invokevirtual 148, 3) := by decide +kernel
theorem d_M_disconnect_6 : decode prog_6_method_35_code 6 = .ok (.ifCond .ne 7, 3) := by decide +kernel
theorem d_M_disconnect_9 : decode prog_6_method_35_code 9 = .ok (.iconst 1, 1) := by decide +kernel
theorem d_M_disconnect_10 : decode prog_6_method_35_code 10 = .ok (.goto 48, 3) := by decide +kernel
theorem d_M_disconnect_13 : decode prog_6_method_35_code 13 = .ok (.aload_n 0, 1) := by decide +kernel
theorem d_M_disconnect_14 : decode prog_6_method_35_code 14 = .ok (.getfield 47, 3) := by decide +kernel
theorem d_M_disconnect_17 : decode prog_6_method_35_code 17 = .ok (.ifCond .ge 7, 3) := by decide +kernel
theorem d_M_disconnect_20 : decode prog_6_method_35_code 20 = .ok (.iconst 2, 1) := by decide +kernel
theorem d_M_disconnect_21 : decode prog_6_method_35_code 21 = .ok (.goto 37, 3) := by decide +kernel
theorem d_M_disconnect_24 : decode prog_6_method_35_code 24 = .ok (.aload_n 0, 1) := by decide +kernel
theorem d_M_disconnect_25 : decode prog_6_method_35_code 25 = .ok (.getfield 38, 3) := by decide +kernel
theorem d_M_disconnect_28 : decode prog_6_method_35_code 28 = .ok (.bipush 24, 2) := by decide +kernel
theorem d_M_disconnect_30 : decode prog_6_method_35_code 30 = .ok (.iload_n 1, 1) := by decide +kernel
theorem d_M_disconnect_31 : decode prog_6_method_35_code 31 = .ok (.imul, 1) := by decide +kernel
theorem d_M_disconnect_32 : decode prog_6_method_35_code 32 = .ok (.aload_n 0, 1) := by decide +kernel
theorem d_M_disconnect_33 : decode prog_6_method_35_code 33 = .ok (.getfield 47, 3) := by decide +kernel
theorem d_M_disconnect_36 : decode prog_6_method_35_code 36 = .ok (.iadd, 1) := by decide +kernel
theorem d_M_disconnect_37 : decode prog_6_method_35_code 37 = .ok (.iaload, 1) := by decide +kernel
theorem d_M_disconnect_38 : decode prog_6_method_35_code 38 = .ok (.ifCond .lt 15, 3) := by decide +kernel
theorem d_M_disconnect_41 : decode prog_6_method_35_code 41 = .ok (.aload_n 0, 1) := by decide +kernel
theorem d_M_disconnect_42 : decode prog_6_method_35_code 42 = .ok (.getfield 22, 3) := by decide +kernel
theorem d_M_disconnect_45 : decode prog_6_method_35_code 45 = .ok (.iload_n 1, 1) := by decide +kernel
theorem d_M_disconnect_46 : decode prog_6_method_35_code 46 = .ok (.iaload, 1) := by decide +kernel
theorem d_M_disconnect_47 : decode prog_6_method_35_code 47 = .ok (.iconst 3, 1) := by decide +kernel
theorem d_M_disconnect_48 : decode prog_6_method_35_code 48 = .ok (.irem, 1) := by decide +kernel
theorem d_M_disconnect_49 : decode prog_6_method_35_code 49 = .ok (.iconst 2, 1) := by decide +kernel
theorem d_M_disconnect_50 : decode prog_6_method_35_code 50 = .ok (.if_icmp .eq 7, 3) := by decide +kernel
theorem d_M_disconnect_53 : decode prog_6_method_35_code 53 = .ok (.iconst 3, 1) := by decide +kernel
theorem d_M_disconnect_54 : decode prog_6_method_35_code 54 = .ok (.goto 4, 3) := by decide +kernel
theorem d_M_disconnect_57 : decode prog_6_method_35_code 57 = .ok (.iconst 0, 1) := by decide +kernel
theorem d_M_disconnect_58 : decode prog_6_method_35_code 58 = .ok (.putfield 84, 3) := by decide +kernel
theorem d_M_disconnect_61 : decode prog_6_method_35_code 61 = .ok (.aload_n 0, 1) := by decide +kernel
theorem d_M_disconnect_62 : decode prog_6_method_35_code 62 = .ok (.getfield 84, 3) := by decide +kernel
theorem d_M_disconnect_65 : decode prog_6_method_35_code 65 = .ok (.ifCond .le 4, 3) := by decide +kernel
theorem d_M_disconnect_68 : decode prog_6_method_35_code 68 = .ok (.return_, 1) := by decide +kernel
theorem d_M_disconnect_69 : decode prog_6_method_35_code 69 = .ok (.aload_n 0, 1) := by decide +kernel
theorem d_M_disconnect_70 : decode prog_6_method_35_code 70 = .ok (.getfield 53, 3) := by decide +kernel
theorem d_M_disconnect_73 : decode prog_6_method_35_code 73 = .ok (.iload_n 1, 1) := by decide +kernel
theorem d_M_disconnect_74 : decode prog_6_method_35_code 74 = .ok (.iaload, 1) := by decide +kernel
theorem d_M_disconnect_75 : decode prog_6_method_35_code 75 = .ok (.aload_n 0, 1) := by decide +kernel
theorem d_M_disconnect_76 : decode prog_6_method_35_code 76 = .ok (.getfield 47, 3) := by decide +kernel
theorem d_M_disconnect_79 : decode prog_6_method_35_code 79 = .ok (.if_icmp .ne 52, 3) := by decide +kernel
theorem d_M_disconnect_82 : decode prog_6_method_35_code 82 = .ok (.aload_n 0, 1) := by decide +kernel
theorem d_M_disconnect_83 : decode prog_6_method_35_code 83 = .ok (.getfield 38, 3) := by decide +kernel
theorem d_M_disconnect_86 : decode prog_6_method_35_code 86 = .ok (.bipush 24, 2) := by decide +kernel
theorem d_M_disconnect_88 : decode prog_6_method_35_code 88 = .ok (.iload_n 1, 1) := by decide +kernel
theorem d_M_disconnect_89 : decode prog_6_method_35_code 89 = .ok (.imul, 1) := by decide +kernel
theorem d_M_disconnect_90 : decode prog_6_method_35_code 90 = .ok (.aload_n 0, 1) := by decide +kernel
theorem d_M_disconnect_91 : decode prog_6_method_35_code 91 = .ok (.getfield 47, 3) := by decide +kernel
theorem d_M_disconnect_94 : decode prog_6_method_35_code 94 = .ok (.iadd, 1) := by decide +kernel
theorem d_M_disconnect_95 : decode prog_6_method_35_code 95 = .ok (.iaload, 1) := by decide +kernel
theorem d_M_disconnect_96 : decode prog_6_method_35_code 96 = .ok (.istore_n 2, 1) := by decide +kernel
theorem d_M_disconnect_97 : decode prog_6_method_35_code 97 = .ok (.aload_n 0, 1) := by decide +kernel
theorem d_M_disconnect_98 : decode prog_6_method_35_code 98 = .ok (.iload_n 1, 1) := by decide +kernel
theorem d_M_disconnect_99 : decode prog_6_method_35_code 99 = .ok (.iload_n 2, 1) := by decide +kernel
theorem d_M_disconnect_100 : decode prog_6_method_35_code 100 = .ok (.aload_n 0, 1) := by decide +kernel
theorem d_M_disconnect_101 : decode prog_6_method_35_code 101 = .ok (.iload_n 1, 1) := by decide +kernel
theorem d_M_disconnect_102 : decode prog_6_method_35_code 102 = .ok (.aload_n 0, 1) := by decide +kernel
theorem d_M_disconnect_103 : decode prog_6_method_35_code 103 = .ok (.getfield 47, 3) := by decide +kernel
theorem d_M_disconnect_106 : decode prog_6_method_35_code 106 = .ok (.invokevirtual 109, 3) := by decide +kernel
theorem d_M_disconnect_109 : decode prog_6_method_35_code 109 = .ok (.iconst 1, 1) := by decide +kernel
theorem d_M_disconnect_110 : decode prog_6_method_35_code 110 = .ok (.isub, 1) := by decide +kernel
theorem d_M_disconnect_111 : decode prog_6_method_35_code 111 = .ok (.iconst (-1), 1) := by decide +kernel
theorem d_M_disconnect_112 : decode prog_6_method_35_code 112 = .ok (.invokevirtual 105, 3) := by decide +kernel
theorem d_M_disconnect_115 : decode prog_6_method_35_code 115 = .ok (.istore_n 3, 1) := by decide +kernel
theorem d_M_disconnect_116 : decode prog_6_method_35_code 116 = .ok (.aload_n 0, 1) := by decide +kernel
theorem d_M_disconnect_117 : decode prog_6_method_35_code 117 = .ok (.getfield 53, 3) := by decide +kernel
theorem d_M_disconnect_120 : decode prog_6_method_35_code 120 = .ok (.iload_n 1, 1) := by decide +kernel
theorem d_M_disconnect_121 : decode prog_6_method_35_code 121 = .ok (.iload_n 3, 1) := by decide +kernel
theorem d_M_disconnect_122 : decode prog_6_method_35_code 122 = .ok (.ifCond .ge 7, 3) := by decide +kernel
theorem d_M_disconnect_125 : decode prog_6_method_35_code 125 = .ok (.iload_n 2, 1) := by decide +kernel
theorem d_M_disconnect_126 : decode prog_6_method_35_code 126 = .ok (.goto 4, 3) := by decide +kernel
theorem d_M_disconnect_129 : decode prog_6_method_35_code 129 = .ok (.iload_n 3, 1) := by decide +kernel
theorem d_M_disconnect_130 : decode prog_6_method_35_code 130 = .ok (.iastore, 1) := by decide +kernel
theorem d_M_disconnect_131 : decode prog_6_method_35_code 131 = .ok (.aload_n 0, 1) := by decide +kernel
theorem d_M_disconnect_132 : decode prog_6_method_35_code 132 = .ok (.iload_n 1, 1) := by decide +kernel
theorem d_M_disconnect_133 : decode prog_6_method_35_code 133 = .ok (.aload_n 0, 1) := by decide +kernel
theorem d_M_disconnect_134 : decode prog_6_method_35_code 134 = .ok (.getfield 47, 3) := by decide +kernel
theorem d_M_disconnect_137 : decode prog_6_method_35_code 137 = .ok (.invokevirtual 157, 3) := by decide +kernel
theorem d_M_disconnect_140 : decode prog_6_method_35_code 140 = .ok (.return_, 1) := by decide +kernel
theorem d_M_reconnect_0 : decode prog_6_method_36_code 0 = .ok (.aload_n 0, 1) := by decide +kernel
theorem d_M_reconnect_1 : decode prog_6_method_36_code 1 = .ok (.aload_n 0, 1) := by decide +kernel
theorem d_M_reconnect_2 : decode prog_6_method_36_code 2 = .ok (.iload_n 1, 1) := by decide +kernel
theorem d_M_reconnect_3 : decode prog_6_method_36_code 3 = .ok (.invokevirtual 148, 3) := by decide +kernel
theorem d_M_reconnect_6 : decode prog_6_method_36_code 6 = .ok (.ifCond .ne 7, 3) := by decide +kernel
theorem d_M_reconnect_9 : decode prog_6_method_36_code 9 = .ok (.iconst 1, 1) := by decide +kernel
theorem d_M_reconnect_10 : decode prog_6_method_36_code 10 = .ok (.goto 27, 3) := by decide +kernel
theorem d_M_reconnect_13 : decode prog_6_method_36_code 13 = .ok (.aload_n 0, 1) := by decide +kernel
theorem d_M_reconnect_14 : decode prog_6_method_36_code 14 = .ok (.getfield 47, 3) := by decide +kernel
theorem d_M_reconnect_17 : decode prog_6_method_36_code 17 = .ok (.ifCond .ge 7, 3) := by decide +kernel
theorem d_M_reconnect_20 : decode prog_6_method_36_code 20 = .ok (.iconst 2, 1) := by decide +kernel
theorem d_M_reconnect_21 : decode prog_6_method_36_code 21 = .ok (.goto 16, 3) := by decide +kernel
theorem d_M_reconnect_24 : decode prog_6_method_36_code 24 = .ok (.aload_n 0, 1) := by decide +kernel
theorem d_M_reconnect_25 : decode prog_6_method_36_code 25 = .ok (.iload_n 1, 1) := by decide +kernel
theorem d_M_reconnect_26 : decode prog_6_method_36_code 26 = .ok (.invokevirtual 120, 3) := by decide +kernel
theorem d_M_reconnect_29 : decode prog_6_method_36_code 29 = .ok (.ifCond .ge 7, 3) := by decide +kernel
theorem d_M_reconnect_32 : decode prog_6_method_36_code 32 = .ok (.iconst 2, 1) := by decide +kernel
theorem d_M_reconnect_33 : decode prog_6_method_36_code 33 = .ok (.goto 4, 3) := by decide +kernel
theorem d_M_reconnect_36 : decode prog_6_method_36_code 36 = .ok (.iconst 0, 1) := by decide +kernel
theorem d_M_reconnect_37 : decode prog_6_method_36_code 37 = .ok (.putfield 84, 3) := by decide +kernel
theorem d_M_reconnect_40 : decode prog_6_method_36_code 40 = .ok (.aload_n 0, 1) := by decide +kernel
theorem d_M_reconnect_41 : decode prog_6_method_36_code 41 = .ok (.getfield 84, 3) := by decide +kernel
theorem d_M_reconnect_44 : decode prog_6_method_36_code 44 = .ok (.ifCond .le 4, 3) := by decide +kernel
theorem d_M_reconnect_47 : decode prog_6_method_36_code 47 = .ok (.return_, 1) := by decide +kernel
theorem d_M_reconnect_48 : decode prog_6_method_36_code 48 = .ok (.aload_n 0, 1) := by decide +kernel
theorem d_M_reconnect_49 : decode prog_6_method_36_code 49 = .ok (.iload_n 1, 1) := by decide +kernel
theorem d_M_reconnect_50 : decode prog_6_method_36_code 50 = .ok (.invokevirtual 120, 3) := by decide +kernel
theorem d_M_reconnect_53 : decode prog_6_method_36_code 53 = .ok (.istore_n 2, 1) := by decide +kernel
theorem d_M_reconnect_54 : decode prog_6_method_36_code 54 = .ok (.aload_n 0, 1) := by decide +kernel
theorem d_M_reconnect_55 : decode prog_6_method_36_code 55 = .ok (.aload_n 0, 1) := by decide +kernel
theorem d_M_reconnect_56 : decode prog_6_method_36_code 56 = .ok (.getfield 38, 3) := by decide +kernel
theorem d_M_reconnect_59 : decode prog_6_method_36_code 59 = .ok (.bipush 24, 2) := by decide +kernel
theorem d_M_reconnect_61 : decode prog_6_method_36_code 61 = .ok (.iload_n 1, 1) := by decide +kernel
theorem d_M_reconnect_62 : decode prog_6_method_36_code 62 = .ok (.imul, 1) := by decide +kernel
theorem d_M_reconnect_63 : decode prog_6_method_36_code 63 = .ok (.aload_n 0, 1) := by decide +kernel
theorem d_M_reconnect_64 : decode prog_6_method_36_code 64 = .ok (.getfield 47, 3) := by decide +kernel
theorem d_M_reconnect_67 : decode prog_6_method_36_code 67 = .ok (.iadd, 1) := by decide +kernel
theorem d_M_reconnect_68 : decode prog_6_method_36_code 68 = .ok (.iaload, 1) := by decide +kernel
theorem d_M_reconnect_69 : decode prog_6_method_36_code 69 = .ok (.ifCond .lt 36, 3) := by decide +kernel
theorem d_M_reconnect_72 : decode prog_6_method_36_code 72 = .ok (.aload_n 0, 1) := by decide +kernel
theorem d_M_reconnect_73 : decode prog_6_method_36_code 73 = .ok (.getfield 22, 3) := by decide +kernel
theorem d_M_reconnect_76 : decode prog_6_method_36_code 76 = .ok (.iload_n 1, 1) := by decide +kernel
theorem d_M_reconnect_77 : decode prog_6_method_36_code 77 = .ok (.iaload, 1) := by decide +kernel
theorem d_M_reconnect_78 : decode prog_6_method_36_code 78 = .ok (.iconst 3, 1) := by decide +kernel
theorem d_M_reconnect_79 : decode prog_6_method_36_code 79 = .ok (.irem, 1) := by decide +kernel
theorem d_M_reconnect_80 : decode prog_6_method_36_code 80 = .ok (.ifCond .eq 25, 3) := by decide +kernel
theorem d_M_reconnect_83 : decode prog_6_method_36_code 83 = .ok (.aload_n 0, 1) := by decide +kernel
theorem d_M_reconnect_84 : decode prog_6_method_36_code 84 = .ok (.iload_n 1, 1) := by decide +kernel
theorem d_M_reconnect_85 : decode prog_6_method_36_code 85 = .ok (.iload_n 2, 1) := by decide +kernel
theorem d_M_reconnect_86 : decode prog_6_method_36_code 86 = .ok (.aload_n 0, 1) := by decide +kernel
theorem d_M_reconnect_87 : decode prog_6_method_36_code 87 = .ok (.getfield 47, 3) := by decide +kernel
theorem d_M_reconnect_90 : decode prog_6_method_36_code 90 = .ok (.aload_n 0, 1) := by decide +kernel
theorem d_M_reconnect_91 : decode prog_6_method_36_code 91 = .ok (.iload_n 1, 1) := by decide +kernel
theorem d_M_reconnect_92 : decode prog_6_method_36_code 92 = .ok (.aload_n 0, 1) := by decide +kernel
theorem d_M_reconnect_93 : decode prog_6_method_36_code 93 = .ok (.getfield 47, 3) := by decide +kernel
theorem d_M_reconnect_96 : decode prog_6_method_36_code 96 = .ok (.invokevirtual 160, 3) := by decide +kernel
theorem d_M_reconnect_99 : decode prog_6_method_36_code 99 = .ok (.invokevirtual 124, 3) := by decide +kernel
theorem d_M_reconnect_102 : decode prog_6_method_36_code 102 = .ok (.ifCond .eq 7, 3) := by decide +kernel
theorem d_M_reconnect_105 : decode prog_6_method_36_code 105 = .ok (.iconst 3, 1) := by decide +kernel
theorem d_M_reconnect_106 : decode prog_6_method_36_code 106 = .ok (.goto 4, 3) := by decide +kernel
theorem d_M_reconnect_109 : decode prog_6_method_36_code 109 = .ok (.iconst 0, 1) := by decide +kernel
theorem d_M_reconnect_110 : decode prog_6_method_36_code 110 = .ok (.putfield 84, 3) := by decide +kernel
theorem d_M_reconnect_113 : decode prog_6_method_36_code 113 = .ok (.aload_n 0, 1) := by decide +kernel
theorem d_M_reconnect_114 : decode prog_6_method_36_code 114 = .ok (.getfield 84, 3) := by decide +kernel
theorem d_M_reconnect_117 : decode prog_6_method_36_code 117 = .ok (.ifCond .ne 31, 3) := by decide +kernel
theorem d_M_reconnect_120 : decode prog_6_method_36_code 120 = .ok (.aload_n 0, 1) := by decide +kernel
theorem d_M_reconnect_121 : decode prog_6_method_36_code 121 = .ok (.iload_n 1, 1) := by decide +kernel
theorem d_M_reconnect_122 : decode prog_6_method_36_code 122 = .ok (.aload_n 0, 1) := by decide +kernel
theorem d_M_reconnect_123 : decode prog_6_method_36_code 123 = .ok (.getfield 47, 3) := by decide +kernel
theorem d_M_reconnect_126 : decode prog_6_method_36_code 126 = .ok (.invokevirtual 157, 3) := by decide +kernel
theorem d_M_reconnect_129 : decode prog_6_method_36_code 129 = .ok (.aload_n 0, 1) := by decide +kernel
theorem d_M_reconnect_130 : decode prog_6_method_36_code 130 = .ok (.iload_n 1, 1) := by decide +kernel
theorem d_M_reconnect_131 : decode prog_6_method_36_code 131 = .ok (.iload_n 2, 1) := by decide +kernel
theorem d_M_reconnect_132 : decode prog_6_method_36_code 132 = .ok (.aload_n 0, 1) := by decide +kernel
theorem d_M_reconnect_133 : decode prog_6_method_36_code 133 = .ok (.getfield 47, 3) := by decide +kernel
theorem d_M_reconnect_136 : decode prog_6_method_36_code 136 = .ok (.invokevirtual 131, 3) := by decide +kernel
theorem d_M_reconnect_139 : decode prog_6_method_36_code 139 = .ok (.aload_n 0, 1) := by decide +kernel
theorem d_M_reconnect_140 : decode prog_6_method_36_code 140 = .ok (.aload_n 0, 1) := by decide +kernel
theorem d_M_reconnect_141 : decode prog_6_method_36_code 141 = .ok (.getfield 47, 3) := by decide +kernel
theorem d_M_reconnect_144 : decode prog_6_method_36_code 144 = .ok (.iconst 0, 1) := by decide +kernel
theorem d_M_reconnect_145 : decode prog_6_method_36_code 145 = .ok (.invokevirtual 135, 3) := by decide +kernel
theorem d_M_reconnect_148 : decode prog_6_method_36_code 148 = .ok (.return_, 1) := by decide +kernel
theorem d_M_erase_0 : decode prog_6_method_42_code 0 = .ok (.aload_n 0, 1) := by decide +kernel
theorem d_M_erase_1 : decode prog_6_method_42_code 1 = .ok (.iload_n 1, 1) := by decide +kernel
theorem d_M_erase_2 : decode prog_6_method_42_code 2 = .ok (.ifCond .lt 8, 3) := by decide +kernel
theorem d_M_erase_5 : decode prog_6_method_42_code 5 = .ok (.iload_n 1, 1) := by decide +kernel
theorem d_M_erase_6 : decode prog_6_method_42_code 6 = .ok (.iconst 3, 1) := by decide +kernel
theorem d_M_erase_7 : decode prog_6_method_42_code 7 = .ok (.if_icmp .le 7, 3) := by decide +kernel
theorem d_M_erase_10 : decode prog_6_method_42_code 10 = .ok (.iconst 1, 1) := by decide +kernel
theorem d_M_erase_11 : decode prog_6_method_42_code 11 = .ok (.goto 34, 3) := by decide +kernel
theorem d_M_erase_14 : decode prog_6_method_42_code 14 = .ok (.aload_n 0, 1) := by decide +kernel
theorem d_M_erase_15 : decode prog_6_method_42_code 15 = .ok (.getfield 47, 3) := by decide +kernel
theorem d_M_erase_18 : decode prog_6_method_42_code 18 = .ok (.ifCond .ge 7, 3) := by decide +kernel
theorem d_M_erase_21 : decode prog_6_method_42_code 21 = .ok (.iconst 2, 1) := by decide +kernel
theorem d_M_erase_22 : decode prog_6_method_42_code 22 = .ok (.goto 23, 3) := by decide +kernel
theorem d_M_erase_25 : decode prog_6_method_42_code 25 = .ok (.iload_n 1, 1) := by decide +kernel
theorem d_M_erase_26 : decode prog_6_method_42_code 26 = .ok (.ifCond .ne 18, 3) := by decide +kernel
theorem d_M_erase_29 : decode prog_6_method_42_code 29 = .ok (.aload_n 0, 1) := by decide +kernel
theorem d_M_erase_30 : decode prog_6_method_42_code 30 = .ok (.aload_n 0, 1) := by decide +kernel
theorem d_M_erase_31 : decode prog_6_method_42_code 31 = .ok (.getfield 47, 3) := by decide +kernel
theorem d_M_erase_34 : decode prog_6_method_42_code 34 = .ok (.invokevirtual 166, 3) := by decide +kernel
theorem d_M_erase_37 : decode prog_6_method_42_code 37 = .ok (.ifCond .le 7, 3) := by decide +kernel
theorem d_M_erase_40 : decode prog_6_method_42_code 40 = .ok (.iconst 3, 1) := by decide +kernel
theorem d_M_erase_41 : decode prog_6_method_42_code 41 = .ok (.goto 4, 3) := by decide +kernel
theorem d_M_erase_44 : decode prog_6_method_42_code 44 = .ok (.iconst 0, 1) := by decide +kernel
theorem d_M_erase_45 : decode prog_6_method_42_code 45 = .ok (.putfield 84, 3) := by decide +kernel
theorem d_M_erase_48 : decode prog_6_method_42_code 48 = .ok (.aload_n 0, 1) := by decide +kernel
theorem d_M_erase_49 : decode prog_6_method_42_code 49 = .ok (.getfield 84, 3) := by decide +kernel
theorem d_M_erase_52 : decode prog_6_method_42_code 52 = .ok (.ifCond .le 5, 3) := by decide +kernel
theorem d_M_erase_55 : decode prog_6_method_42_code 55 = .ok (.iconst 0, 1) := by decide +kernel
theorem d_M_erase_56 : decode prog_6_method_42_code 56 = .ok (.ireturn, 1) := by decide +kernel
theorem d_M_erase_57 : decode prog_6_method_42_code 57 = .ok (.iconst 0, 1) := by decide +kernel
theorem d_M_erase_58 : decode prog_6_method_42_code 58 = .ok (.istore_n 2, 1) := by decide +kernel
theorem d_M_erase_59 : decode prog_6_method_42_code 59 = .ok (.iload_n 2, 1) := by decide +kernel
theorem d_M_erase_60 : decode prog_6_method_42_code 60 = .ok (.bipush 24, 2) := by decide +kernel
theorem d_M_erase_62 : decode prog_6_method_42_code 62 = .ok (.if_icmp .ge 28, 3) := by decide +kernel
theorem d_M_erase_65 : decode prog_6_method_42_code 65 = .ok (.aload_n 0, 1) := by decide +kernel
theorem d_M_erase_66 : decode prog_6_method_42_code 66 = .ok (.getfield 56, 3) := by decide +kernel
theorem d_M_erase_69 : decode prog_6_method_42_code 69 = .ok (.iload_n 2, 1) := by decide +kernel
theorem d_M_erase_70 : decode prog_6_method_42_code 70 = .ok (.iload_n 2, 1) := by decide +kernel
theorem d_M_erase_71 : decode prog_6_method_42_code 71 = .ok (.aload_n 0, 1) := by decide +kernel
theorem d_M_erase_72 : decode prog_6_method_42_code 72 = .ok (.getfield 47, 3) := by decide +kernel
theorem d_M_erase_75 : decode prog_6_method_42_code 75 = .ok (.if_icmp .ne 7, 3) := by decide +kernel
theorem d_M_erase_78 : decode prog_6_method_42_code 78 = .ok (.iconst 1, 1) := by decide +kernel
theorem d_M_erase_79 : decode prog_6_method_42_code 79 = .ok (.goto 4, 3) := by decide +kernel
theorem d_M_erase_82 : decode prog_6_method_42_code 82 = .ok (.iconst 0, 1) := by decide +kernel
theorem d_M_erase_83 : decode prog_6_method_42_code 83 = .ok (.bastore, 1) := by decide +kernel
theorem d_M_erase_84 : decode prog_6_method_42_code 84 = .ok (.iinc 2 1, 3) := by decide +kernel
theorem d_M_erase_87 : decode prog_6_method_42_code 87 = .ok (.goto (-28), 3) := by decide +kernel
theorem d_M_erase_90 : decode prog_6_method_42_code 90 = .ok (.aload_n 0, 1) := by decide +kernel
theorem d_M_erase_91 : decode prog_6_method_42_code 91 = .ok (.iload_n 1, 1) := by decide +kernel
theorem d_M_erase_92 : decode prog_6_method_42_code 92 = .ok (.invokevirtual 169, 3) := by decide +kernel
theorem d_M_erase_95 : decode prog_6_method_42_code 95 = .ok (.aload_n 0, 1) := by decide +kernel
theorem d_M_erase_96 : decode prog_6_method_42_code 96 = .ok (.iload_n 1, 1) := by decide +kernel
theorem d_M_erase_97 : decode prog_6_method_42_code 97 = .ok (.iconst 1, 1) := by decide +kernel
theorem d_M_erase_98 : decode prog_6_method_42_code 98 = .ok (.if_icmp .ne 14, 3) := by decide +kernel
theorem d_M_erase_101 : decode prog_6_method_42_code 101 = .ok (.aload_n 0, 1) := by decide +kernel
theorem d_M_erase_102 : decode prog_6_method_42_code 102 = .ok (.invokevirtual 173, 3) := by decide +kernel
theorem d_M_erase_105 : decode prog_6_method_42_code 105 = .ok (.ifCond .eq 7, 3) := by decide +kernel
theorem d_M_erase_108 : decode prog_6_method_42_code 108 = .ok (.iconst 3, 1) := by decide +kernel
theorem d_M_erase_109 : decode prog_6_method_42_code 109 = .ok (.goto 4, 3) := by decide +kernel
theorem d_M_erase_112 : decode prog_6_method_42_code 112 = .ok (.iconst 0, 1) := by decide +kernel
theorem d_M_erase_113 : decode prog_6_method_42_code 113 = .ok (.putfield 84, 3) := by decide +kernel
theorem d_M_erase_116 : decode prog_6_method_42_code 116 = .ok (.aload_n 0, 1) := by decide +kernel
theorem d_M_erase_117 : decode prog_6_method_42_code 117 = .ok (.getfield 84, 3) := by decide +kernel
theorem d_M_erase_120 : decode prog_6_method_42_code 120 = .ok (.ifCond .le 5, 3) := by decide +kernel
theorem d_M_erase_123 : decode prog_6_method_42_code 123 = .ok (.iconst 0, 1) := by decide +kernel
theorem d_M_erase_124 : decode prog_6_method_42_code 124 = .ok (.ireturn, 1) := by decide +kernel
theorem d_M_erase_125 : decode prog_6_method_42_code 125 = .ok (.iconst 0, 1) := by decide +kernel
theorem d_M_erase_126 : decode prog_6_method_42_code 126 = .ok (.istore_n 2, 1) := by decide +kernel
theorem d_M_erase_127 : decode prog_6_method_42_code 127 = .ok (.iload_n 2, 1) := by decide +kernel
theorem d_M_erase_128 : decode prog_6_method_42_code 128 = .ok (.aload_n 0, 1) := by decide +kernel
theorem d_M_erase_129 : decode prog_6_method_42_code 129 = .ok (.getfield 90, 3) := by decide +kernel
theorem d_M_erase_132 : decode prog_6_method_42_code 132 = .ok (.if_icmp .ge 20, 3) := by decide +kernel
theorem d_M_erase_135 : decode prog_6_method_42_code 135 = .ok (.aload_n 0, 1) := by decide +kernel
theorem d_M_erase_136 : decode prog_6_method_42_code 136 = .ok (.getfield 53, 3) := by decide +kernel
theorem d_M_erase_139 : decode prog_6_method_42_code 139 = .ok (.iload_n 2, 1) := by decide +kernel
theorem d_M_erase_140 : decode prog_6_method_42_code 140 = .ok (.aload_n 0, 1) := by decide +kernel
theorem d_M_erase_141 : decode prog_6_method_42_code 141 = .ok (.iload_n 2, 1) := by decide +kernel
theorem d_M_erase_142 : decode prog_6_method_42_code 142 = .ok (.invokevirtual 177, 3) := by decide +kernel
theorem d_M_erase_145 : decode prog_6_method_42_code 145 = .ok (.iastore, 1) := by decide +kernel
theorem d_M_erase_146 : decode prog_6_method_42_code 146 = .ok (.iinc 2 1, 3) := by decide +kernel
theorem d_M_erase_149 : decode prog_6_method_42_code 149 = .ok (.goto (-22), 3) := by decide +kernel
theorem d_M_erase_152 : decode prog_6_method_42_code 152 = .ok (.iconst 0, 1) := by decide +kernel
theorem d_M_erase_153 : decode prog_6_method_42_code 153 = .ok (.istore_n 2, 1) := by decide +kernel
theorem d_M_erase_154 : decode prog_6_method_42_code 154 = .ok (.iload_n 2, 1) := by decide +kernel
theorem d_M_erase_155 : decode prog_6_method_42_code 155 = .ok (.aload_n 0, 1) := by decide +kernel
theorem d_M_erase_156 : decode prog_6_method_42_code 156 = .ok (.getfield 87, 3) := by decide +kernel
theorem d_M_erase_159 : decode prog_6_method_42_code 159 = .ok (.if_icmp .ge 48, 3) := by decide +kernel
theorem d_M_erase_162 : decode prog_6_method_42_code 162 = .ok (.aload_n 0, 1) := by decide +kernel
theorem d_M_erase_163 : decode prog_6_method_42_code 163 = .ok (.getfield 50, 3) := by decide +kernel
theorem d_M_erase_166 : decode prog_6_method_42_code 166 = .ok (.iload_n 2, 1) := by decide +kernel
theorem d_M_erase_167 : decode prog_6_method_42_code 167 = .ok (.aload_n 0, 1) := by decide +kernel
theorem d_M_erase_168 : decode prog_6_method_42_code 168 = .ok (.getfield 50, 3) := by decide +kernel
theorem d_M_erase_171 : decode prog_6_method_42_code 171 = .ok (.iload_n 2, 1) := by decide +kernel
theorem d_M_erase_172 : decode prog_6_method_42_code 172 = .ok (.iaload, 1) := by decide +kernel
theorem d_M_erase_173 : decode prog_6_method_42_code 173 = .ok (.ifCond .lt 21, 3) := by decide +kernel
theorem d_M_erase_176 : decode prog_6_method_42_code 176 = .ok (.aload_n 0, 1) := by decide +kernel
theorem d_M_erase_177 : decode prog_6_method_42_code 177 = .ok (.getfield 56, 3) := by decide +kernel
theorem d_M_erase_180 : decode prog_6_method_42_code 180 = .ok (.aload_n 0, 1) := by decide +kernel
theorem d_M_erase_181 : decode prog_6_method_42_code 181 = .ok (.getfield 50, 3) := by decide +kernel
theorem d_M_erase_184 : decode prog_6_method_42_code 184 = .ok (.iload_n 2, 1) := by decide +kernel
theorem d_M_erase_185 : decode prog_6_method_42_code 185 = .ok (.iaload, 1) := by decide +kernel
theorem d_M_erase_186 : decode prog_6_method_42_code 186 = .ok (.baload, 1) := by decide +kernel
theorem d_M_erase_187 : decode prog_6_method_42_code 187 = .ok (.ifCond .eq 7, 3) := by decide +kernel
theorem d_M_erase_190 : decode prog_6_method_42_code 190 = .ok (.iconst (-1), 1) := by decide +kernel
theorem d_M_erase_191 : decode prog_6_method_42_code 191 = .ok (.goto 9, 3) := by decide +kernel
theorem d_M_erase_194 : decode prog_6_method_42_code 194 = .ok (.aload_n 0, 1) := by decide +kernel
theorem d_M_erase_195 : decode prog_6_method_42_code 195 = .ok (.getfield 50, 3) := by decide +kernel
theorem d_M_erase_198 : decode prog_6_method_42_code 198 = .ok (.iload_n 2, 1) := by decide +kernel
theorem d_M_erase_199 : decode prog_6_method_42_code 199 = .ok (.iaload, 1) := by decide +kernel
theorem d_M_erase_200 : decode prog_6_method_42_code 200 = .ok (.iastore, 1) := by decide +kernel
theorem d_M_erase_201 : decode prog_6_method_42_code 201 = .ok (.iinc 2 1, 3) := by decide +kernel
theorem d_M_erase_204 : decode prog_6_method_42_code 204 = .ok (.goto (-50), 3) := by decide +kernel
theorem d_M_erase_207 : decode prog_6_method_42_code 207 = .ok (.aload_n 0, 1) := by decide +kernel
theorem d_M_erase_208 : decode prog_6_method_42_code 208 = .ok (.iconst (-1), 1) := by decide +kernel
theorem d_M_erase_209 : decode prog_6_method_42_code 209 = .ok (.putfield 47, 3) := by decide +kernel
theorem d_M_erase_212 : decode prog_6_method_42_code 212 = .ok (.aload_n 0, 1) := by decide +kernel
theorem d_M_erase_213 : decode prog_6_method_42_code 213 = .ok (.invokevirtual 180, 3) := by decide +kernel
theorem d_M_erase_216 : decode prog_6_method_42_code 216 = .ok (.ireturn, 1) := by decide +kernel
theorem d_M_ownedMembers_0 : decode prog_6_method_37_code 0 = .ok (.iconst 0, 1) := by decide +kernel
theorem d_M_ownedMembers_1 : decode prog_6_method_37_code 1 = .ok (.istore_n 2, 1) := by decide +kernel
theorem d_M_ownedMembers_2 : decode prog_6_method_37_code 2 = .ok (.iconst 0, 1) := by decide +kernel
theorem d_M_ownedMembers_3 : decode prog_6_method_37_code 3 = .ok (.istore_n 3, 1) := by decide +kernel
theorem d_M_ownedMembers_4 : decode prog_6_method_37_code 4 = .ok (.iload_n 3, 1) := by decide +kernel
theorem d_M_ownedMembers_5 : decode prog_6_method_37_code 5 = .ok (.bipush 24, 2) := by decide +kernel
theorem d_M_ownedMembers_7 : decode prog_6_method_37_code 7 = .ok (.aload_n 0, 1) := by decide +kernel
theorem d_M_ownedMembers_8 : decode prog_6_method_37_code 8 = .ok (.getfield 90, 3) := by decide +kernel
theorem d_M_ownedMembers_11 : decode prog_6_method_37_code 11 = .ok (.imul, 1) := by decide +kernel
theorem d_M_ownedMembers_12 : decode prog_6_method_37_code 12 = .ok (.if_icmp .ge 27, 3) := by decide +kernel
theorem d_M_ownedMembers_15 : decode prog_6_method_37_code 15 = .ok (.iload_n 2, 1) := by decide +kernel
theorem d_M_ownedMembers_16 : decode prog_6_method_37_code 16 = .ok (.aload_n 0, 1) := by decide +kernel
theorem d_M_ownedMembers_17 : decode prog_6_method_37_code 17 = .ok (.getfield 38, 3) := by decide +kernel
theorem d_M_ownedMembers_20 : decode prog_6_method_37_code 20 = .ok (.iload_n 3, 1) := by decide +kernel
theorem d_M_ownedMembers_21 : decode prog_6_method_37_code 21 = .ok (.iaload, 1) := by decide +kernel
theorem d_M_ownedMembers_22 : decode prog_6_method_37_code 22 = .ok (.iload_n 1, 1) := by decide +kernel
theorem d_M_ownedMembers_23 : decode prog_6_method_37_code 23 = .ok (.if_icmp .ne 7, 3) := by decide +kernel
theorem d_M_ownedMembers_26 : decode prog_6_method_37_code 26 = .ok (.iconst 1, 1) := by decide +kernel
theorem d_M_ownedMembers_27 : decode prog_6_method_37_code 27 = .ok (.goto 4, 3) := by decide +kernel
theorem d_M_ownedMembers_30 : decode prog_6_method_37_code 30 = .ok (.iconst 0, 1) := by decide +kernel
theorem d_M_ownedMembers_31 : decode prog_6_method_37_code 31 = .ok (.iadd, 1) := by decide +kernel
theorem d_M_ownedMembers_32 : decode prog_6_method_37_code 32 = .ok (.istore_n 2, 1) := by decide +kernel
theorem d_M_ownedMembers_33 : decode prog_6_method_37_code 33 = .ok (.iinc 3 1, 3) := by decide +kernel
theorem d_M_ownedMembers_36 : decode prog_6_method_37_code 36 = .ok (.goto (-32), 3) := by decide +kernel
theorem d_M_ownedMembers_39 : decode prog_6_method_37_code 39 = .ok (.iload_n 2, 1) := by decide +kernel
theorem d_M_ownedMembers_40 : decode prog_6_method_37_code 40 = .ok (.ireturn, 1) := by decide +kernel
theorem d_M_spread_0 : decode prog_6_method_39_code 0 = .ok (.iload_n 1, 1) := by decide +kernel
theorem d_M_spread_1 : decode prog_6_method_39_code 1 = .ok (.ifCond .le 7, 3) := by decide +kernel
theorem d_M_spread_4 : decode prog_6_method_39_code 4 = .ok (.iconst 1, 1) := by decide +kernel
theorem d_M_spread_5 : decode prog_6_method_39_code 5 = .ok (.goto 4, 3) := by decide +kernel
theorem d_M_spread_8 : decode prog_6_method_39_code 8 = .ok (.iconst 0, 1) := by decide +kernel
theorem d_M_spread_9 : decode prog_6_method_39_code 9 = .ok (.istore_n 2, 1) := by decide +kernel
theorem d_M_spread_10 : decode prog_6_method_39_code 10 = .ok (.iload_n 2, 1) := by decide +kernel
theorem d_M_spread_11 : decode prog_6_method_39_code 11 = .ok (.ifCond .eq 98, 3) := by decide +kernel
theorem d_M_spread_14 : decode prog_6_method_39_code 14 = .ok (.iconst 0, 1) := by decide +kernel
theorem d_M_spread_15 : decode prog_6_method_39_code 15 = .ok (.istore_n 2, 1) := by decide +kernel
theorem d_M_spread_16 : decode prog_6_method_39_code 16 = .ok (.iconst 0, 1) := by decide +kernel
theorem d_M_spread_17 : decode prog_6_method_39_code 17 = .ok (.istore_n 3, 1) := by decide +kernel
theorem d_M_spread_18 : decode prog_6_method_39_code 18 = .ok (.iload_n 3, 1) := by decide +kernel
theorem d_M_spread_19 : decode prog_6_method_39_code 19 = .ok (.aload_n 0, 1) := by decide +kernel
theorem d_M_spread_20 : decode prog_6_method_39_code 20 = .ok (.getfield 90, 3) := by decide +kernel
theorem d_M_spread_23 : decode prog_6_method_39_code 23 = .ok (.if_icmp .ge 83, 3) := by decide +kernel
theorem d_M_spread_26 : decode prog_6_method_39_code 26 = .ok (.iconst 0, 1) := by decide +kernel
theorem d_M_spread_27 : decode prog_6_method_39_code 27 = .ok (.istore 4, 2) := by decide +kernel
theorem d_M_spread_29 : decode prog_6_method_39_code 29 = .ok (.iload 4, 2) := by decide +kernel
theorem d_M_spread_31 : decode prog_6_method_39_code 31 = .ok (.bipush 24, 2) := by decide +kernel
theorem d_M_spread_33 : decode prog_6_method_39_code 33 = .ok (.if_icmp .ge 67, 3) := by decide +kernel
theorem d_M_spread_36 : decode prog_6_method_39_code 36 = .ok (.aload_n 0, 1) := by decide +kernel
theorem d_M_spread_37 : decode prog_6_method_39_code 37 = .ok (.getfield 38, 3) := by decide +kernel
theorem d_M_spread_40 : decode prog_6_method_39_code 40 = .ok (.bipush 24, 2) := by decide +kernel
theorem d_M_spread_42 : decode prog_6_method_39_code 42 = .ok (.iload_n 3, 1) := by decide +kernel
theorem d_M_spread_43 : decode prog_6_method_39_code 43 = .ok (.imul, 1) := by decide +kernel
theorem d_M_spread_44 : decode prog_6_method_39_code 44 = .ok (.iload 4, 2) := by decide +kernel
theorem d_M_spread_46 : decode prog_6_method_39_code 46 = .ok (.iadd, 1) := by decide +kernel
theorem d_M_spread_47 : decode prog_6_method_39_code 47 = .ok (.iaload, 1) := by decide +kernel
theorem d_M_spread_48 : decode prog_6_method_39_code 48 = .ok (.istore 5, 2) := by decide +kernel
theorem d_M_spread_50 : decode prog_6_method_39_code 50 = .ok (.iload 5, 2) := by decide +kernel
theorem d_M_spread_52 : decode prog_6_method_39_code 52 = .ok (.ifCond .lt 42, 3) := by decide +kernel
theorem d_M_spread_55 : decode prog_6_method_39_code 55 = .ok (.aload_n 0, 1) := by decide +kernel
theorem d_M_spread_56 : decode prog_6_method_39_code 56 = .ok (.getfield 56, 3) := by decide +kernel
theorem d_M_spread_59 : decode prog_6_method_39_code 59 = .ok (.iload 5, 2) := by decide +kernel
theorem d_M_spread_61 : decode prog_6_method_39_code 61 = .ok (.baload, 1) := by decide +kernel
theorem d_M_spread_62 : decode prog_6_method_39_code 62 = .ok (.ifCond .eq 32, 3) := by decide +kernel
theorem d_M_spread_65 : decode prog_6_method_39_code 65 = .ok (.aload_n 0, 1) := by decide +kernel
theorem d_M_spread_66 : decode prog_6_method_39_code 66 = .ok (.getfield 56, 3) := by decide +kernel
theorem d_M_spread_69 : decode prog_6_method_39_code 69 = .ok (.iload 4, 2) := by decide +kernel
theorem d_M_spread_71 : decode prog_6_method_39_code 71 = .ok (.baload, 1) := by decide +kernel
theorem d_M_spread_72 : decode prog_6_method_39_code 72 = .ok (.ifCond .ne 22, 3) := by decide +kernel
theorem d_M_spread_75 : decode prog_6_method_39_code 75 = .ok (.aload_n 0, 1) := by decide +kernel
theorem d_M_spread_76 : decode prog_6_method_39_code 76 = .ok (.iload_n 3, 1) := by decide +kernel
theorem d_M_spread_77 : decode prog_6_method_39_code 77 = .ok (.iload_n 1, 1) := by decide +kernel
theorem d_M_spread_78 : decode prog_6_method_39_code 78 = .ok (.invokevirtual 163, 3) := by decide +kernel
theorem d_M_spread_81 : decode prog_6_method_39_code 81 = .ok (.ifCond .eq 13, 3) := by decide +kernel
theorem d_M_spread_84 : decode prog_6_method_39_code 84 = .ok (.aload_n 0, 1) := by decide +kernel
theorem d_M_spread_85 : decode prog_6_method_39_code 85 = .ok (.getfield 56, 3) := by decide +kernel
theorem d_M_spread_88 : decode prog_6_method_39_code 88 = .ok (.iload 4, 2) := by decide +kernel
theorem d_M_spread_90 : decode prog_6_method_39_code 90 = .ok (.iconst 1, 1) := by decide +kernel
theorem d_M_spread_91 : decode prog_6_method_39_code 91 = .ok (.bastore, 1) := by decide +kernel
theorem d_M_spread_92 : decode prog_6_method_39_code 92 = .ok (.iconst 1, 1) := by decide +kernel
theorem d_M_spread_93 : decode prog_6_method_39_code 93 = .ok (.istore_n 2, 1) := by decide +kernel
theorem d_M_spread_94 : decode prog_6_method_39_code 94 = .ok (.iinc 4 1, 3) := by decide +kernel
theorem d_M_spread_97 : decode prog_6_method_39_code 97 = .ok (.goto (-68), 3) := by decide +kernel
theorem d_M_spread_100 : decode prog_6_method_39_code 100 = .ok (.iinc 3 1, 3) := by decide +kernel
theorem d_M_spread_103 : decode prog_6_method_39_code 103 = .ok (.goto (-85), 3) := by decide +kernel
theorem d_M_spread_106 : decode prog_6_method_39_code 106 = .ok (.goto (-96), 3) := by decide +kernel
theorem d_M_spread_109 : decode prog_6_method_39_code 109 = .ok (.return_, 1) := by decide +kernel
theorem d_M_takes_0 : decode prog_6_method_38_code 0 = .ok (.iload_n 2, 1) := by decide +kernel
theorem d_M_takes_1 : decode prog_6_method_38_code 1 = .ok (.iconst 3, 1) := by decide +kernel
theorem d_M_takes_2 : decode prog_6_method_38_code 2 = .ok (.if_icmp .eq 15, 3) := by decide +kernel
theorem d_M_takes_5 : decode prog_6_method_38_code 5 = .ok (.aload_n 0, 1) := by decide +kernel
theorem d_M_takes_6 : decode prog_6_method_38_code 6 = .ok (.getfield 22, 3) := by decide +kernel
theorem d_M_takes_9 : decode prog_6_method_38_code 9 = .ok (.iload_n 1, 1) := by decide +kernel
theorem d_M_takes_10 : decode prog_6_method_38_code 10 = .ok (.iaload, 1) := by decide +kernel
theorem d_M_takes_11 : decode prog_6_method_38_code 11 = .ok (.iconst 3, 1) := by decide +kernel
theorem d_M_takes_12 : decode prog_6_method_38_code 12 = .ok (.irem, 1) := by decide +kernel
theorem d_M_takes_13 : decode prog_6_method_38_code 13 = .ok (.iload_n 2, 1) := by decide +kernel
theorem d_M_takes_14 : decode prog_6_method_38_code 14 = .ok (.if_icmp .ge 7, 3) := by decide +kernel
theorem d_M_takes_17 : decode prog_6_method_38_code 17 = .ok (.iconst 1, 1) := by decide +kernel
theorem d_M_takes_18 : decode prog_6_method_38_code 18 = .ok (.goto 4, 3) := by decide +kernel
theorem d_M_takes_21 : decode prog_6_method_38_code 21 = .ok (.iconst 0, 1) := by decide +kernel
theorem d_M_takes_22 : decode prog_6_method_38_code 22 = .ok (.ireturn, 1) := by decide +kernel
theorem d_M_strands_0 : decode prog_6_method_40_code 0 = .ok (.iconst 0, 1) := by decide +kernel
theorem d_M_strands_1 : decode prog_6_method_40_code 1 = .ok (.istore_n 1, 1) := by decide +kernel
theorem d_M_strands_2 : decode prog_6_method_40_code 2 = .ok (.iconst 0, 1) := by decide +kernel
theorem d_M_strands_3 : decode prog_6_method_40_code 3 = .ok (.istore_n 2, 1) := by decide +kernel
theorem d_M_strands_4 : decode prog_6_method_40_code 4 = .ok (.iload_n 2, 1) := by decide +kernel
theorem d_M_strands_5 : decode prog_6_method_40_code 5 = .ok (.aload_n 0, 1) := by decide +kernel
theorem d_M_strands_6 : decode prog_6_method_40_code 6 = .ok (.getfield 90, 3) := by decide +kernel
theorem d_M_strands_9 : decode prog_6_method_40_code 9 = .ok (.if_icmp .ge 82, 3) := by decide +kernel
theorem d_M_strands_12 : decode prog_6_method_40_code 12 = .ok (.iconst 0, 1) := by decide +kernel
theorem d_M_strands_13 : decode prog_6_method_40_code 13 = .ok (.istore_n 3, 1) := by decide +kernel
theorem d_M_strands_14 : decode prog_6_method_40_code 14 = .ok (.iload_n 3, 1) := by decide +kernel
theorem d_M_strands_15 : decode prog_6_method_40_code 15 = .ok (.bipush 24, 2) := by decide +kernel
theorem d_M_strands_17 : decode prog_6_method_40_code 17 = .ok (.if_icmp .ge 68, 3) := by decide +kernel
theorem d_M_strands_20 : decode prog_6_method_40_code 20 = .ok (.aload_n 0, 1) := by decide +kernel
theorem d_M_strands_21 : decode prog_6_method_40_code 21 = .ok (.getfield 38, 3) := by decide +kernel
theorem d_M_strands_24 : decode prog_6_method_40_code 24 = .ok (.bipush 24, 2) := by decide +kernel
theorem d_M_strands_26 : decode prog_6_method_40_code 26 = .ok (.iload_n 2, 1) := by decide +kernel
theorem d_M_strands_27 : decode prog_6_method_40_code 27 = .ok (.imul, 1) := by decide +kernel
theorem d_M_strands_28 : decode prog_6_method_40_code 28 = .ok (.iload_n 3, 1) := by decide +kernel
theorem d_M_strands_29 : decode prog_6_method_40_code 29 = .ok (.iadd, 1) := by decide +kernel
theorem d_M_strands_30 : decode prog_6_method_40_code 30 = .ok (.iaload, 1) := by decide +kernel
theorem d_M_strands_31 : decode prog_6_method_40_code 31 = .ok (.istore 4, 2) := by decide +kernel
theorem d_M_strands_33 : decode prog_6_method_40_code 33 = .ok (.iload_n 1, 1) := by decide +kernel
theorem d_M_strands_34 : decode prog_6_method_40_code 34 = .ok (.ifCond .ne 39, 3) := by decide +kernel
theorem d_M_strands_37 : decode prog_6_method_40_code 37 = .ok (.iload 4, 2) := by decide +kernel
theorem d_M_strands_39 : decode prog_6_method_40_code 39 = .ok (.ifCond .lt 38, 3) := by decide +kernel
theorem d_M_strands_42 : decode prog_6_method_40_code 42 = .ok (.aload_n 0, 1) := by decide +kernel
theorem d_M_strands_43 : decode prog_6_method_40_code 43 = .ok (.getfield 56, 3) := by decide +kernel
theorem d_M_strands_46 : decode prog_6_method_40_code 46 = .ok (.iload 4, 2) := by decide +kernel
theorem d_M_strands_48 : decode prog_6_method_40_code 48 = .ok (.baload, 1) := by decide +kernel
theorem d_M_strands_49 : decode prog_6_method_40_code 49 = .ok (.ifCond .eq 28, 3) := by decide +kernel
theorem d_M_strands_52 : decode prog_6_method_40_code 52 = .ok (.aload_n 0, 1) := by decide +kernel
theorem d_M_strands_53 : decode prog_6_method_40_code 53 = .ok (.getfield 56, 3) := by decide +kernel
theorem d_M_strands_56 : decode prog_6_method_40_code 56 = .ok (.iload_n 3, 1) := by decide +kernel
theorem d_M_strands_57 : decode prog_6_method_40_code 57 = .ok (.baload, 1) := by decide +kernel
theorem d_M_strands_58 : decode prog_6_method_40_code 58 = .ok (.ifCond .ne 19, 3) := by decide +kernel
theorem d_M_strands_61 : decode prog_6_method_40_code 61 = .ok (.aload_n 0, 1) := by decide +kernel
theorem d_M_strands_62 : decode prog_6_method_40_code 62 = .ok (.getfield 22, 3) := by decide +kernel
theorem d_M_strands_65 : decode prog_6_method_40_code 65 = .ok (.iload_n 2, 1) := by decide +kernel
theorem d_M_strands_66 : decode prog_6_method_40_code 66 = .ok (.iaload, 1) := by decide +kernel
theorem d_M_strands_67 : decode prog_6_method_40_code 67 = .ok (.iconst 3, 1) := by decide +kernel
theorem d_M_strands_68 : decode prog_6_method_40_code 68 = .ok (.irem, 1) := by decide +kernel
theorem d_M_strands_69 : decode prog_6_method_40_code 69 = .ok (.iconst 1, 1) := by decide +kernel
theorem d_M_strands_70 : decode prog_6_method_40_code 70 = .ok (.if_icmp .ne 7, 3) := by decide +kernel
theorem d_M_strands_73 : decode prog_6_method_40_code 73 = .ok (.iconst 1, 1) := by decide +kernel
theorem d_M_strands_74 : decode prog_6_method_40_code 74 = .ok (.goto 4, 3) := by decide +kernel
theorem d_M_strands_77 : decode prog_6_method_40_code 77 = .ok (.iconst 0, 1) := by decide +kernel
theorem d_M_strands_78 : decode prog_6_method_40_code 78 = .ok (.istore_n 1, 1) := by decide +kernel
theorem d_M_strands_79 : decode prog_6_method_40_code 79 = .ok (.iinc 3 1, 3) := by decide +kernel
theorem d_M_strands_82 : decode prog_6_method_40_code 82 = .ok (.goto (-68), 3) := by decide +kernel
theorem d_M_strands_85 : decode prog_6_method_40_code 85 = .ok (.iinc 2 1, 3) := by decide +kernel
theorem d_M_strands_88 : decode prog_6_method_40_code 88 = .ok (.goto (-84), 3) := by decide +kernel
theorem d_M_strands_91 : decode prog_6_method_40_code 91 = .ok (.iload_n 1, 1) := by decide +kernel
theorem d_M_strands_92 : decode prog_6_method_40_code 92 = .ok (.ireturn, 1) := by decide +kernel
theorem d_M_heir_0 : decode prog_6_method_41_code 0 = .ok (.aload_n 0, 1) := by decide +kernel
theorem d_M_heir_1 : decode prog_6_method_41_code 1 = .ok (.getfield 53, 3) := by decide +kernel
theorem d_M_heir_4 : decode prog_6_method_41_code 4 = .ok (.iload_n 1, 1) := by decide +kernel
theorem d_M_heir_5 : decode prog_6_method_41_code 5 = .ok (.iaload, 1) := by decide +kernel
theorem d_M_heir_6 : decode prog_6_method_41_code 6 = .ok (.istore_n 2, 1) := by decide +kernel
theorem d_M_heir_7 : decode prog_6_method_41_code 7 = .ok (.iload_n 2, 1) := by decide +kernel
theorem d_M_heir_8 : decode prog_6_method_41_code 8 = .ok (.ifCond .lt 18, 3) := by decide +kernel
theorem d_M_heir_11 : decode prog_6_method_41_code 11 = .ok (.aload_n 0, 1) := by decide +kernel
theorem d_M_heir_12 : decode prog_6_method_41_code 12 = .ok (.getfield 32, 3) := by decide +kernel
theorem d_M_heir_15 : decode prog_6_method_41_code 15 = .ok (.iload_n 2, 1) := by decide +kernel
theorem d_M_heir_16 : decode prog_6_method_41_code 16 = .ok (.iaload, 1) := by decide +kernel
theorem d_M_heir_17 : decode prog_6_method_41_code 17 = .ok (.aload_n 0, 1) := by decide +kernel
theorem d_M_heir_18 : decode prog_6_method_41_code 18 = .ok (.getfield 13, 3) := by decide +kernel
theorem d_M_heir_21 : decode prog_6_method_41_code 21 = .ok (.iload_n 1, 1) := by decide +kernel
theorem d_M_heir_22 : decode prog_6_method_41_code 22 = .ok (.iaload, 1) := by decide +kernel
theorem d_M_heir_23 : decode prog_6_method_41_code 23 = .ok (.if_icmp .ne 22, 3) := by decide +kernel
theorem d_M_heir_26 : decode prog_6_method_41_code 26 = .ok (.iload_n 2, 1) := by decide +kernel
theorem d_M_heir_27 : decode prog_6_method_41_code 27 = .ok (.ifCond .lt 16, 3) := by decide +kernel
theorem d_M_heir_30 : decode prog_6_method_41_code 30 = .ok (.aload_n 0, 1) := by decide +kernel
theorem d_M_heir_31 : decode prog_6_method_41_code 31 = .ok (.getfield 56, 3) := by decide +kernel
theorem d_M_heir_34 : decode prog_6_method_41_code 34 = .ok (.iload_n 2, 1) := by decide +kernel
theorem d_M_heir_35 : decode prog_6_method_41_code 35 = .ok (.baload, 1) := by decide +kernel
theorem d_M_heir_36 : decode prog_6_method_41_code 36 = .ok (.ifCond .eq 7, 3) := by decide +kernel
theorem d_M_heir_39 : decode prog_6_method_41_code 39 = .ok (.iconst (-1), 1) := by decide +kernel
theorem d_M_heir_40 : decode prog_6_method_41_code 40 = .ok (.goto 4, 3) := by decide +kernel
theorem d_M_heir_43 : decode prog_6_method_41_code 43 = .ok (.iload_n 2, 1) := by decide +kernel
theorem d_M_heir_44 : decode prog_6_method_41_code 44 = .ok (.ireturn, 1) := by decide +kernel
theorem d_M_heir_45 : decode prog_6_method_41_code 45 = .ok (.aload_n 0, 1) := by decide +kernel
theorem d_M_heir_46 : decode prog_6_method_41_code 46 = .ok (.getfield 38, 3) := by decide +kernel
theorem d_M_heir_49 : decode prog_6_method_41_code 49 = .ok (.bipush 24, 2) := by decide +kernel
theorem d_M_heir_51 : decode prog_6_method_41_code 51 = .ok (.iload_n 1, 1) := by decide +kernel
theorem d_M_heir_52 : decode prog_6_method_41_code 52 = .ok (.imul, 1) := by decide +kernel
theorem d_M_heir_53 : decode prog_6_method_41_code 53 = .ok (.iload_n 2, 1) := by decide +kernel
theorem d_M_heir_54 : decode prog_6_method_41_code 54 = .ok (.iadd, 1) := by decide +kernel
theorem d_M_heir_55 : decode prog_6_method_41_code 55 = .ok (.iaload, 1) := by decide +kernel
theorem d_M_heir_56 : decode prog_6_method_41_code 56 = .ok (.istore_n 3, 1) := by decide +kernel
theorem d_M_heir_57 : decode prog_6_method_41_code 57 = .ok (.aload_n 0, 1) := by decide +kernel
theorem d_M_heir_58 : decode prog_6_method_41_code 58 = .ok (.getfield 56, 3) := by decide +kernel
theorem d_M_heir_61 : decode prog_6_method_41_code 61 = .ok (.iload_n 3, 1) := by decide +kernel
theorem d_M_heir_62 : decode prog_6_method_41_code 62 = .ok (.baload, 1) := by decide +kernel
theorem d_M_heir_63 : decode prog_6_method_41_code 63 = .ok (.ifCond .eq 5, 3) := by decide +kernel
theorem d_M_heir_66 : decode prog_6_method_41_code 66 = .ok (.iconst (-1), 1) := by decide +kernel
theorem d_M_heir_67 : decode prog_6_method_41_code 67 = .ok (.ireturn, 1) := by decide +kernel
theorem d_M_heir_68 : decode prog_6_method_41_code 68 = .ok (.iload_n 2, 1) := by decide +kernel
theorem d_M_heir_69 : decode prog_6_method_41_code 69 = .ok (.ifCond .lt 31, 3) := by decide +kernel
theorem d_M_heir_72 : decode prog_6_method_41_code 72 = .ok (.aload_n 0, 1) := by decide +kernel
theorem d_M_heir_73 : decode prog_6_method_41_code 73 = .ok (.getfield 56, 3) := by decide +kernel
theorem d_M_heir_76 : decode prog_6_method_41_code 76 = .ok (.iload_n 2, 1) := by decide +kernel
theorem d_M_heir_77 : decode prog_6_method_41_code 77 = .ok (.baload, 1) := by decide +kernel
theorem d_M_heir_78 : decode prog_6_method_41_code 78 = .ok (.ifCond .eq 22, 3) := by decide +kernel
theorem d_M_heir_81 : decode prog_6_method_41_code 81 = .ok (.aload_n 0, 1) := by decide +kernel
theorem d_M_heir_82 : decode prog_6_method_41_code 82 = .ok (.iload_n 1, 1) := by decide +kernel
theorem d_M_heir_83 : decode prog_6_method_41_code 83 = .ok (.iload_n 3, 1) := by decide +kernel
theorem d_M_heir_84 : decode prog_6_method_41_code 84 = .ok (.aload_n 0, 1) := by decide +kernel
theorem d_M_heir_85 : decode prog_6_method_41_code 85 = .ok (.iload_n 1, 1) := by decide +kernel
theorem d_M_heir_86 : decode prog_6_method_41_code 86 = .ok (.iload_n 2, 1) := by decide +kernel
theorem d_M_heir_87 : decode prog_6_method_41_code 87 = .ok (.invokevirtual 109, 3) := by decide +kernel
theorem d_M_heir_90 : decode prog_6_method_41_code 90 = .ok (.iconst 1, 1) := by decide +kernel
theorem d_M_heir_91 : decode prog_6_method_41_code 91 = .ok (.isub, 1) := by decide +kernel
theorem d_M_heir_92 : decode prog_6_method_41_code 92 = .ok (.iconst (-1), 1) := by decide +kernel
theorem d_M_heir_93 : decode prog_6_method_41_code 93 = .ok (.invokevirtual 105, 3) := by decide +kernel
theorem d_M_heir_96 : decode prog_6_method_41_code 96 = .ok (.istore_n 2, 1) := by decide +kernel
theorem d_M_heir_97 : decode prog_6_method_41_code 97 = .ok (.goto (-29), 3) := by decide +kernel
theorem d_M_heir_100 : decode prog_6_method_41_code 100 = .ok (.iload_n 2, 1) := by decide +kernel
theorem d_M_heir_101 : decode prog_6_method_41_code 101 = .ok (.ifCond .ge 7, 3) := by decide +kernel
theorem d_M_heir_104 : decode prog_6_method_41_code 104 = .ok (.iload_n 3, 1) := by decide +kernel
theorem d_M_heir_105 : decode prog_6_method_41_code 105 = .ok (.goto 4, 3) := by decide +kernel
theorem d_M_heir_108 : decode prog_6_method_41_code 108 = .ok (.iload_n 2, 1) := by decide +kernel
theorem d_M_heir_109 : decode prog_6_method_41_code 109 = .ok (.ireturn, 1) := by decide +kernel
theorem d_M_sweep_0 : decode prog_6_method_43_code 0 = .ok (.iconst 0, 1) := by decide +kernel
theorem d_M_sweep_1 : decode prog_6_method_43_code 1 = .ok (.istore_n 1, 1) := by decide +kernel
theorem d_M_sweep_2 : decode prog_6_method_43_code 2 = .ok (.iload_n 1, 1) := by decide +kernel
theorem d_M_sweep_3 : decode prog_6_method_43_code 3 = .ok (.aload_n 0, 1) := by decide +kernel
theorem d_M_sweep_4 : decode prog_6_method_43_code 4 = .ok (.getfield 90, 3) := by decide +kernel
theorem d_M_sweep_7 : decode prog_6_method_43_code 7 = .ok (.if_icmp .ge 63, 3) := by decide +kernel
theorem d_M_sweep_10 : decode prog_6_method_43_code 10 = .ok (.iconst 0, 1) := by decide +kernel
theorem d_M_sweep_11 : decode prog_6_method_43_code 11 = .ok (.istore_n 2, 1) := by decide +kernel
theorem d_M_sweep_12 : decode prog_6_method_43_code 12 = .ok (.iload_n 2, 1) := by decide +kernel
theorem d_M_sweep_13 : decode prog_6_method_43_code 13 = .ok (.bipush 24, 2) := by decide +kernel
theorem d_M_sweep_15 : decode prog_6_method_43_code 15 = .ok (.if_icmp .ge 49, 3) := by decide +kernel
theorem d_M_sweep_18 : decode prog_6_method_43_code 18 = .ok (.aload_n 0, 1) := by decide +kernel
theorem d_M_sweep_19 : decode prog_6_method_43_code 19 = .ok (.getfield 38, 3) := by decide +kernel
theorem d_M_sweep_22 : decode prog_6_method_43_code 22 = .ok (.bipush 24, 2) := by decide +kernel
theorem d_M_sweep_24 : decode prog_6_method_43_code 24 = .ok (.iload_n 1, 1) := by decide +kernel
theorem d_M_sweep_25 : decode prog_6_method_43_code 25 = .ok (.imul, 1) := by decide +kernel
theorem d_M_sweep_26 : decode prog_6_method_43_code 26 = .ok (.iload_n 2, 1) := by decide +kernel
theorem d_M_sweep_27 : decode prog_6_method_43_code 27 = .ok (.iadd, 1) := by decide +kernel
theorem d_M_sweep_28 : decode prog_6_method_43_code 28 = .ok (.iaload, 1) := by decide +kernel
theorem d_M_sweep_29 : decode prog_6_method_43_code 29 = .ok (.istore_n 3, 1) := by decide +kernel
theorem d_M_sweep_30 : decode prog_6_method_43_code 30 = .ok (.iload_n 3, 1) := by decide +kernel
theorem d_M_sweep_31 : decode prog_6_method_43_code 31 = .ok (.ifCond .lt 27, 3) := by decide +kernel
theorem d_M_sweep_34 : decode prog_6_method_43_code 34 = .ok (.aload_n 0, 1) := by decide +kernel
theorem d_M_sweep_35 : decode prog_6_method_43_code 35 = .ok (.getfield 56, 3) := by decide +kernel
theorem d_M_sweep_38 : decode prog_6_method_43_code 38 = .ok (.iload_n 2, 1) := by decide +kernel
theorem d_M_sweep_39 : decode prog_6_method_43_code 39 = .ok (.baload, 1) := by decide +kernel
theorem d_M_sweep_40 : decode prog_6_method_43_code 40 = .ok (.ifCond .ne 12, 3) := by decide +kernel
theorem d_M_sweep_43 : decode prog_6_method_43_code 43 = .ok (.aload_n 0, 1) := by decide +kernel
theorem d_M_sweep_44 : decode prog_6_method_43_code 44 = .ok (.getfield 56, 3) := by decide +kernel
theorem d_M_sweep_47 : decode prog_6_method_43_code 47 = .ok (.iload_n 3, 1) := by decide +kernel
theorem d_M_sweep_48 : decode prog_6_method_43_code 48 = .ok (.baload, 1) := by decide +kernel
theorem d_M_sweep_49 : decode prog_6_method_43_code 49 = .ok (.ifCond .eq 9, 3) := by decide +kernel
theorem d_M_sweep_52 : decode prog_6_method_43_code 52 = .ok (.aload_n 0, 1) := by decide +kernel
theorem d_M_sweep_53 : decode prog_6_method_43_code 53 = .ok (.iload_n 1, 1) := by decide +kernel
theorem d_M_sweep_54 : decode prog_6_method_43_code 54 = .ok (.iload_n 2, 1) := by decide +kernel
theorem d_M_sweep_55 : decode prog_6_method_43_code 55 = .ok (.invokevirtual 157, 3) := by decide +kernel
theorem d_M_sweep_58 : decode prog_6_method_43_code 58 = .ok (.iinc 2 1, 3) := by decide +kernel
theorem d_M_sweep_61 : decode prog_6_method_43_code 61 = .ok (.goto (-49), 3) := by decide +kernel
theorem d_M_sweep_64 : decode prog_6_method_43_code 64 = .ok (.iinc 1 1, 3) := by decide +kernel
theorem d_M_sweep_67 : decode prog_6_method_43_code 67 = .ok (.goto (-65), 3) := by decide +kernel
theorem d_M_sweep_70 : decode prog_6_method_43_code 70 = .ok (.iconst 0, 1) := by decide +kernel
theorem d_M_sweep_71 : decode prog_6_method_43_code 71 = .ok (.istore_n 1, 1) := by decide +kernel
theorem d_M_sweep_72 : decode prog_6_method_43_code 72 = .ok (.iconst 0, 1) := by decide +kernel
theorem d_M_sweep_73 : decode prog_6_method_43_code 73 = .ok (.istore_n 2, 1) := by decide +kernel
theorem d_M_sweep_74 : decode prog_6_method_43_code 74 = .ok (.iload_n 2, 1) := by decide +kernel
theorem d_M_sweep_75 : decode prog_6_method_43_code 75 = .ok (.bipush 24, 2) := by decide +kernel
theorem d_M_sweep_77 : decode prog_6_method_43_code 77 = .ok (.if_icmp .ge 51, 3) := by decide +kernel
theorem d_M_sweep_80 : decode prog_6_method_43_code 80 = .ok (.iload_n 1, 1) := by decide +kernel
theorem d_M_sweep_81 : decode prog_6_method_43_code 81 = .ok (.aload_n 0, 1) := by decide +kernel
theorem d_M_sweep_82 : decode prog_6_method_43_code 82 = .ok (.getfield 56, 3) := by decide +kernel
theorem d_M_sweep_85 : decode prog_6_method_43_code 85 = .ok (.iload_n 2, 1) := by decide +kernel
theorem d_M_sweep_86 : decode prog_6_method_43_code 86 = .ok (.baload, 1) := by decide +kernel
theorem d_M_sweep_87 : decode prog_6_method_43_code 87 = .ok (.ifCond .eq 7, 3) := by decide +kernel
theorem d_M_sweep_90 : decode prog_6_method_43_code 90 = .ok (.iconst 1, 1) := by decide +kernel
theorem d_M_sweep_91 : decode prog_6_method_43_code 91 = .ok (.goto 4, 3) := by decide +kernel
theorem d_M_sweep_94 : decode prog_6_method_43_code 94 = .ok (.iconst 0, 1) := by decide +kernel
theorem d_M_sweep_95 : decode prog_6_method_43_code 95 = .ok (.iadd, 1) := by decide +kernel
theorem d_M_sweep_96 : decode prog_6_method_43_code 96 = .ok (.istore_n 1, 1) := by decide +kernel
theorem d_M_sweep_97 : decode prog_6_method_43_code 97 = .ok (.aload_n 0, 1) := by decide +kernel
theorem d_M_sweep_98 : decode prog_6_method_43_code 98 = .ok (.getfield 29, 3) := by decide +kernel
theorem d_M_sweep_101 : decode prog_6_method_43_code 101 = .ok (.iload_n 2, 1) := by decide +kernel
theorem d_M_sweep_102 : decode prog_6_method_43_code 102 = .ok (.aload_n 0, 1) := by decide +kernel
theorem d_M_sweep_103 : decode prog_6_method_43_code 103 = .ok (.getfield 56, 3) := by decide +kernel
theorem d_M_sweep_106 : decode prog_6_method_43_code 106 = .ok (.iload_n 2, 1) := by decide +kernel
theorem d_M_sweep_107 : decode prog_6_method_43_code 107 = .ok (.baload, 1) := by decide +kernel
theorem d_M_sweep_108 : decode prog_6_method_43_code 108 = .ok (.ifCond .eq 7, 3) := by decide +kernel
theorem d_M_sweep_111 : decode prog_6_method_43_code 111 = .ok (.iconst 0, 1) := by decide +kernel
theorem d_M_sweep_112 : decode prog_6_method_43_code 112 = .ok (.goto 9, 3) := by decide +kernel
theorem d_M_sweep_115 : decode prog_6_method_43_code 115 = .ok (.aload_n 0, 1) := by decide +kernel
theorem d_M_sweep_116 : decode prog_6_method_43_code 116 = .ok (.getfield 29, 3) := by decide +kernel
theorem d_M_sweep_119 : decode prog_6_method_43_code 119 = .ok (.iload_n 2, 1) := by decide +kernel
theorem d_M_sweep_120 : decode prog_6_method_43_code 120 = .ok (.iaload, 1) := by decide +kernel
theorem d_M_sweep_121 : decode prog_6_method_43_code 121 = .ok (.iastore, 1) := by decide +kernel
theorem d_M_sweep_122 : decode prog_6_method_43_code 122 = .ok (.iinc 2 1, 3) := by decide +kernel
theorem d_M_sweep_125 : decode prog_6_method_43_code 125 = .ok (.goto (-51), 3) := by decide +kernel
theorem d_M_sweep_128 : decode prog_6_method_43_code 128 = .ok (.iload_n 1, 1) := by decide +kernel
theorem d_M_sweep_129 : decode prog_6_method_43_code 129 = .ok (.ireturn, 1) := by decide +kernel
theorem d_M_members_0 : decode prog_6_method_44_code 0 = .ok (.aload_n 0, 1) := by decide +kernel
theorem d_M_members_1 : decode prog_6_method_44_code 1 = .ok (.aload_n 0, 1) := by decide +kernel
theorem d_M_members_2 : decode prog_6_method_44_code 2 = .ok (.iload_n 1, 1) := by decide +kernel
theorem d_M_members_3 : decode prog_6_method_44_code 3 = .ok (.invokevirtual 148, 3) := by decide +kernel
theorem d_M_members_6 : decode prog_6_method_44_code 6 = .ok (.ifCond .ne 7, 3) := by decide +kernel
theorem d_M_members_9 : decode prog_6_method_44_code 9 = .ok (.iconst 1, 1) := by decide +kernel
theorem d_M_members_10 : decode prog_6_method_44_code 10 = .ok (.goto 16, 3) := by decide +kernel
theorem d_M_members_13 : decode prog_6_method_44_code 13 = .ok (.aload_n 0, 1) := by decide +kernel
theorem d_M_members_14 : decode prog_6_method_44_code 14 = .ok (.iload_n 1, 1) := by decide +kernel
theorem d_M_members_15 : decode prog_6_method_44_code 15 = .ok (.invokevirtual 120, 3) := by decide +kernel
theorem d_M_members_18 : decode prog_6_method_44_code 18 = .ok (.ifCond .ge 7, 3) := by decide +kernel
theorem d_M_members_21 : decode prog_6_method_44_code 21 = .ok (.iconst 2, 1) := by decide +kernel
theorem d_M_members_22 : decode prog_6_method_44_code 22 = .ok (.goto 4, 3) := by decide +kernel
theorem d_M_members_25 : decode prog_6_method_44_code 25 = .ok (.iconst 0, 1) := by decide +kernel
theorem d_M_members_26 : decode prog_6_method_44_code 26 = .ok (.putfield 84, 3) := by decide +kernel
theorem d_M_members_29 : decode prog_6_method_44_code 29 = .ok (.aload_n 0, 1) := by decide +kernel
theorem d_M_members_30 : decode prog_6_method_44_code 30 = .ok (.getfield 84, 3) := by decide +kernel
theorem d_M_members_33 : decode prog_6_method_44_code 33 = .ok (.ifCond .le 5, 3) := by decide +kernel
theorem d_M_members_36 : decode prog_6_method_44_code 36 = .ok (.iconst 0, 1) := by decide +kernel
theorem d_M_members_37 : decode prog_6_method_44_code 37 = .ok (.ireturn, 1) := by decide +kernel
theorem d_M_members_38 : decode prog_6_method_44_code 38 = .ok (.aload_n 0, 1) := by decide +kernel
theorem d_M_members_39 : decode prog_6_method_44_code 39 = .ok (.iload_n 1, 1) := by decide +kernel
theorem d_M_members_40 : decode prog_6_method_44_code 40 = .ok (.invokevirtual 120, 3) := by decide +kernel
theorem d_M_members_43 : decode prog_6_method_44_code 43 = .ok (.istore_n 2, 1) := by decide +kernel
theorem d_M_members_44 : decode prog_6_method_44_code 44 = .ok (.iconst 0, 1) := by decide +kernel
theorem d_M_members_45 : decode prog_6_method_44_code 45 = .ok (.istore_n 3, 1) := by decide +kernel
theorem d_M_members_46 : decode prog_6_method_44_code 46 = .ok (.iconst 0, 1) := by decide +kernel
theorem d_M_members_47 : decode prog_6_method_44_code 47 = .ok (.istore 4, 2) := by decide +kernel
theorem d_M_members_49 : decode prog_6_method_44_code 49 = .ok (.iload 4, 2) := by decide +kernel
theorem d_M_members_51 : decode prog_6_method_44_code 51 = .ok (.bipush 24, 2) := by decide +kernel
theorem d_M_members_53 : decode prog_6_method_44_code 53 = .ok (.if_icmp .ge 33, 3) := by decide +kernel
theorem d_M_members_56 : decode prog_6_method_44_code 56 = .ok (.iload_n 3, 1) := by decide +kernel
theorem d_M_members_57 : decode prog_6_method_44_code 57 = .ok (.aload_n 0, 1) := by decide +kernel
theorem d_M_members_58 : decode prog_6_method_44_code 58 = .ok (.getfield 38, 3) := by decide +kernel
theorem d_M_members_61 : decode prog_6_method_44_code 61 = .ok (.bipush 24, 2) := by decide +kernel
theorem d_M_members_63 : decode prog_6_method_44_code 63 = .ok (.iload_n 1, 1) := by decide +kernel
theorem d_M_members_64 : decode prog_6_method_44_code 64 = .ok (.imul, 1) := by decide +kernel
theorem d_M_members_65 : decode prog_6_method_44_code 65 = .ok (.iload 4, 2) := by decide +kernel
theorem d_M_members_67 : decode prog_6_method_44_code 67 = .ok (.iadd, 1) := by decide +kernel
theorem d_M_members_68 : decode prog_6_method_44_code 68 = .ok (.iaload, 1) := by decide +kernel
theorem d_M_members_69 : decode prog_6_method_44_code 69 = .ok (.iload_n 2, 1) := by decide +kernel
theorem d_M_members_70 : decode prog_6_method_44_code 70 = .ok (.if_icmp .ne 7, 3) := by decide +kernel
theorem d_M_members_73 : decode prog_6_method_44_code 73 = .ok (.iconst 1, 1) := by decide +kernel
theorem d_M_members_74 : decode prog_6_method_44_code 74 = .ok (.goto 4, 3) := by decide +kernel
theorem d_M_members_77 : decode prog_6_method_44_code 77 = .ok (.iconst 0, 1) := by decide +kernel
theorem d_M_members_78 : decode prog_6_method_44_code 78 = .ok (.iadd, 1) := by decide +kernel
theorem d_M_members_79 : decode prog_6_method_44_code 79 = .ok (.istore_n 3, 1) := by decide +kernel
theorem d_M_members_80 : decode prog_6_method_44_code 80 = .ok (.iinc 4 1, 3) := by decide +kernel
theorem d_M_members_83 : decode prog_6_method_44_code 83 = .ok (.goto (-34), 3) := by decide +kernel
theorem d_M_members_86 : decode prog_6_method_44_code 86 = .ok (.iload_n 3, 1) := by decide +kernel
theorem d_M_members_87 : decode prog_6_method_44_code 87 = .ok (.ireturn, 1) := by decide +kernel
theorem d_M_owner_0 : decode prog_6_method_45_code 0 = .ok (.aload_n 0, 1) := by decide +kernel
theorem d_M_owner_1 : decode prog_6_method_45_code 1 = .ok (.aload_n 0, 1) := by decide +kernel
theorem d_M_owner_2 : decode prog_6_method_45_code 2 = .ok (.iload_n 1, 1) := by decide +kernel
theorem d_M_owner_3 : decode prog_6_method_45_code 3 = .ok (.invokevirtual 148, 3) := by decide +kernel
theorem d_M_owner_6 : decode prog_6_method_45_code 6 = .ok (.ifCond .ne 7, 3) := by decide +kernel
theorem d_M_owner_9 : decode prog_6_method_45_code 9 = .ok (.iconst 1, 1) := by decide +kernel
theorem d_M_owner_10 : decode prog_6_method_45_code 10 = .ok (.goto 16, 3) := by decide +kernel
theorem d_M_owner_13 : decode prog_6_method_45_code 13 = .ok (.aload_n 0, 1) := by decide +kernel
theorem d_M_owner_14 : decode prog_6_method_45_code 14 = .ok (.iload_n 2, 1) := by decide +kernel
theorem d_M_owner_15 : decode prog_6_method_45_code 15 = .ok (.invokevirtual 139, 3) := by decide +kernel
theorem d_M_owner_18 : decode prog_6_method_45_code 18 = .ok (.ifCond .ge 7, 3) := by decide +kernel
theorem d_M_owner_21 : decode prog_6_method_45_code 21 = .ok (.iconst 2, 1) := by decide +kernel
theorem d_M_owner_22 : decode prog_6_method_45_code 22 = .ok (.goto 4, 3) := by decide +kernel
theorem d_M_owner_25 : decode prog_6_method_45_code 25 = .ok (.iconst 0, 1) := by decide +kernel
theorem d_M_owner_26 : decode prog_6_method_45_code 26 = .ok (.putfield 84, 3) := by decide +kernel
theorem d_M_owner_29 : decode prog_6_method_45_code 29 = .ok (.aload_n 0, 1) := by decide +kernel
theorem d_M_owner_30 : decode prog_6_method_45_code 30 = .ok (.getfield 84, 3) := by decide +kernel
theorem d_M_owner_33 : decode prog_6_method_45_code 33 = .ok (.ifCond .le 5, 3) := by decide +kernel
theorem d_M_owner_36 : decode prog_6_method_45_code 36 = .ok (.iconst 0, 1) := by decide +kernel
theorem d_M_owner_37 : decode prog_6_method_45_code 37 = .ok (.ireturn, 1) := by decide +kernel
theorem d_M_owner_38 : decode prog_6_method_45_code 38 = .ok (.aload_n 0, 1) := by decide +kernel
theorem d_M_owner_39 : decode prog_6_method_45_code 39 = .ok (.getfield 38, 3) := by decide +kernel
theorem d_M_owner_42 : decode prog_6_method_45_code 42 = .ok (.bipush 24, 2) := by decide +kernel
theorem d_M_owner_44 : decode prog_6_method_45_code 44 = .ok (.iload_n 1, 1) := by decide +kernel
theorem d_M_owner_45 : decode prog_6_method_45_code 45 = .ok (.imul, 1) := by decide +kernel
theorem d_M_owner_46 : decode prog_6_method_45_code 46 = .ok (.aload_n 0, 1) := by decide +kernel
theorem d_M_owner_47 : decode prog_6_method_45_code 47 = .ok (.iload_n 2, 1) := by decide +kernel
theorem d_M_owner_48 : decode prog_6_method_45_code 48 = .ok (.invokevirtual 139, 3) := by decide +kernel
theorem d_M_owner_51 : decode prog_6_method_45_code 51 = .ok (.iadd, 1) := by decide +kernel
theorem d_M_owner_52 : decode prog_6_method_45_code 52 = .ok (.iaload, 1) := by decide +kernel
theorem d_M_owner_53 : decode prog_6_method_45_code 53 = .ok (.istore_n 3, 1) := by decide +kernel
theorem d_M_owner_54 : decode prog_6_method_45_code 54 = .ok (.iload_n 3, 1) := by decide +kernel
theorem d_M_owner_55 : decode prog_6_method_45_code 55 = .ok (.ifCond .ge 7, 3) := by decide +kernel
theorem d_M_owner_58 : decode prog_6_method_45_code 58 = .ok (.iconst 0, 1) := by decide +kernel
theorem d_M_owner_59 : decode prog_6_method_45_code 59 = .ok (.goto 9, 3) := by decide +kernel
theorem d_M_owner_62 : decode prog_6_method_45_code 62 = .ok (.aload_n 0, 1) := by decide +kernel
theorem d_M_owner_63 : decode prog_6_method_45_code 63 = .ok (.getfield 29, 3) := by decide +kernel
theorem d_M_owner_66 : decode prog_6_method_45_code 66 = .ok (.iload_n 3, 1) := by decide +kernel
theorem d_M_owner_67 : decode prog_6_method_45_code 67 = .ok (.iaload, 1) := by decide +kernel
theorem d_M_owner_68 : decode prog_6_method_45_code 68 = .ok (.ireturn, 1) := by decide +kernel
theorem d_M_keep_0 : decode prog_6_method_46_code 0 = .ok (.aload_n 0, 1) := by decide +kernel
theorem d_M_keep_1 : decode prog_6_method_46_code 1 = .ok (.iconst 0, 1) := by decide +kernel
theorem d_M_keep_2 : decode prog_6_method_46_code 2 = .ok (.putfield 84, 3) := by decide +kernel
theorem d_M_keep_5 : decode prog_6_method_46_code 5 = .ok (.aload_n 0, 1) := by decide +kernel
theorem d_M_keep_6 : decode prog_6_method_46_code 6 = .ok (.aload_n 0, 1) := by decide +kernel
theorem d_M_keep_7 : decode prog_6_method_46_code 7 = .ok (.getfield 25, 3) := by decide +kernel
theorem d_M_keep_10 : decode prog_6_method_46_code 10 = .ok (.putfield 60, 3) := by decide +kernel
theorem d_M_keep_13 : decode prog_6_method_46_code 13 = .ok (.iconst 0, 1) := by decide +kernel
theorem d_M_keep_14 : decode prog_6_method_46_code 14 = .ok (.istore_n 1, 1) := by decide +kernel
theorem d_M_keep_15 : decode prog_6_method_46_code 15 = .ok (.iload_n 1, 1) := by decide +kernel
theorem d_M_keep_16 : decode prog_6_method_46_code 16 = .ok (.bipush 24, 2) := by decide +kernel
theorem d_M_keep_18 : decode prog_6_method_46_code 18 = .ok (.if_icmp .ge 33, 3) := by decide +kernel
theorem d_M_keep_21 : decode prog_6_method_46_code 21 = .ok (.aload_n 0, 1) := by decide +kernel
theorem d_M_keep_22 : decode prog_6_method_46_code 22 = .ok (.getfield 63, 3) := by decide +kernel
theorem d_M_keep_25 : decode prog_6_method_46_code 25 = .ok (.iload_n 1, 1) := by decide +kernel
theorem d_M_keep_26 : decode prog_6_method_46_code 26 = .ok (.aload_n 0, 1) := by decide +kernel
theorem d_M_keep_27 : decode prog_6_method_46_code 27 = .ok (.getfield 29, 3) := by decide +kernel
theorem d_M_keep_30 : decode prog_6_method_46_code 30 = .ok (.iload_n 1, 1) := by decide +kernel
theorem d_M_keep_31 : decode prog_6_method_46_code 31 = .ok (.iaload, 1) := by decide +kernel
theorem d_M_keep_32 : decode prog_6_method_46_code 32 = .ok (.iastore, 1) := by decide +kernel
theorem d_M_keep_33 : decode prog_6_method_46_code 33 = .ok (.aload_n 0, 1) := by decide +kernel
theorem d_M_keep_34 : decode prog_6_method_46_code 34 = .ok (.getfield 66, 3) := by decide +kernel
theorem d_M_keep_37 : decode prog_6_method_46_code 37 = .ok (.iload_n 1, 1) := by decide +kernel
theorem d_M_keep_38 : decode prog_6_method_46_code 38 = .ok (.aload_n 0, 1) := by decide +kernel
theorem d_M_keep_39 : decode prog_6_method_46_code 39 = .ok (.getfield 32, 3) := by decide +kernel
theorem d_M_keep_42 : decode prog_6_method_46_code 42 = .ok (.iload_n 1, 1) := by decide +kernel
theorem d_M_keep_43 : decode prog_6_method_46_code 43 = .ok (.iaload, 1) := by decide +kernel
theorem d_M_keep_44 : decode prog_6_method_46_code 44 = .ok (.iastore, 1) := by decide +kernel
theorem d_M_keep_45 : decode prog_6_method_46_code 45 = .ok (.iinc 1 1, 3) := by decide +kernel
theorem d_M_keep_48 : decode prog_6_method_46_code 48 = .ok (.goto (-33), 3) := by decide +kernel
theorem d_M_keep_51 : decode prog_6_method_46_code 51 = .ok (.iconst 0, 1) := by decide +kernel
theorem d_M_keep_52 : decode prog_6_method_46_code 52 = .ok (.istore_n 1, 1) := by decide +kernel
theorem d_M_keep_53 : decode prog_6_method_46_code 53 = .ok (.iload_n 1, 1) := by decide +kernel
theorem d_M_keep_54 : decode prog_6_method_46_code 54 = .ok (.bipush 72, 2) := by decide +kernel
theorem d_M_keep_56 : decode prog_6_method_46_code 56 = .ok (.if_icmp .ge 21, 3) := by decide +kernel
theorem d_M_keep_59 : decode prog_6_method_46_code 59 = .ok (.aload_n 0, 1) := by decide +kernel
theorem d_M_keep_60 : decode prog_6_method_46_code 60 = .ok (.getfield 69, 3) := by decide +kernel
theorem d_M_keep_63 : decode prog_6_method_46_code 63 = .ok (.iload_n 1, 1) := by decide +kernel
theorem d_M_keep_64 : decode prog_6_method_46_code 64 = .ok (.aload_n 0, 1) := by decide +kernel
theorem d_M_keep_65 : decode prog_6_method_46_code 65 = .ok (.getfield 35, 3) := by decide +kernel
theorem d_M_keep_68 : decode prog_6_method_46_code 68 = .ok (.iload_n 1, 1) := by decide +kernel
theorem d_M_keep_69 : decode prog_6_method_46_code 69 = .ok (.iaload, 1) := by decide +kernel
theorem d_M_keep_70 : decode prog_6_method_46_code 70 = .ok (.iastore, 1) := by decide +kernel
theorem d_M_keep_71 : decode prog_6_method_46_code 71 = .ok (.iinc 1 1, 3) := by decide +kernel
theorem d_M_keep_74 : decode prog_6_method_46_code 74 = .ok (.goto (-21), 3) := by decide +kernel
theorem d_M_keep_77 : decode prog_6_method_46_code 77 = .ok (.iconst 0, 1) := by decide +kernel
theorem d_M_keep_78 : decode prog_6_method_46_code 78 = .ok (.istore_n 1, 1) := by decide +kernel
theorem d_M_keep_79 : decode prog_6_method_46_code 79 = .ok (.iload_n 1, 1) := by decide +kernel
theorem d_M_keep_80 : decode prog_6_method_46_code 80 = .ok (.bipush 120, 2) := by decide +kernel
theorem d_M_keep_82 : decode prog_6_method_46_code 82 = .ok (.if_icmp .ge 33, 3) := by decide +kernel
theorem d_M_keep_85 : decode prog_6_method_46_code 85 = .ok (.aload_n 0, 1) := by decide +kernel
theorem d_M_keep_86 : decode prog_6_method_46_code 86 = .ok (.getfield 72, 3) := by decide +kernel
theorem d_M_keep_89 : decode prog_6_method_46_code 89 = .ok (.iload_n 1, 1) := by decide +kernel
theorem d_M_keep_90 : decode prog_6_method_46_code 90 = .ok (.aload_n 0, 1) := by decide +kernel
theorem d_M_keep_91 : decode prog_6_method_46_code 91 = .ok (.getfield 38, 3) := by decide +kernel
theorem d_M_keep_94 : decode prog_6_method_46_code 94 = .ok (.iload_n 1, 1) := by decide +kernel
theorem d_M_keep_95 : decode prog_6_method_46_code 95 = .ok (.iaload, 1) := by decide +kernel
theorem d_M_keep_96 : decode prog_6_method_46_code 96 = .ok (.iastore, 1) := by decide +kernel
theorem d_M_keep_97 : decode prog_6_method_46_code 97 = .ok (.aload_n 0, 1) := by decide +kernel
theorem d_M_keep_98 : decode prog_6_method_46_code 98 = .ok (.getfield 75, 3) := by decide +kernel
theorem d_M_keep_101 : decode prog_6_method_46_code 101 = .ok (.iload_n 1, 1) := by decide +kernel
theorem d_M_keep_102 : decode prog_6_method_46_code 102 = .ok (.aload_n 0, 1) := by decide +kernel
theorem d_M_keep_103 : decode prog_6_method_46_code 103 = .ok (.getfield 41, 3) := by decide +kernel
theorem d_M_keep_106 : decode prog_6_method_46_code 106 = .ok (.iload_n 1, 1) := by decide +kernel
theorem d_M_keep_107 : decode prog_6_method_46_code 107 = .ok (.iaload, 1) := by decide +kernel
theorem d_M_keep_108 : decode prog_6_method_46_code 108 = .ok (.iastore, 1) := by decide +kernel
theorem d_M_keep_109 : decode prog_6_method_46_code 109 = .ok (.iinc 1 1, 3) := by decide +kernel
theorem d_M_keep_112 : decode prog_6_method_46_code 112 = .ok (.goto (-33), 3) := by decide +kernel
theorem d_M_keep_115 : decode prog_6_method_46_code 115 = .ok (.iconst 0, 1) := by decide +kernel
theorem d_M_keep_116 : decode prog_6_method_46_code 116 = .ok (.istore_n 1, 1) := by decide +kernel
theorem d_M_keep_117 : decode prog_6_method_46_code 117 = .ok (.iload_n 1, 1) := by decide +kernel
theorem d_M_keep_118 : decode prog_6_method_46_code 118 = .ok (.iconst 5, 1) := by decide +kernel
theorem d_M_keep_119 : decode prog_6_method_46_code 119 = .ok (.if_icmp .ge 21, 3) := by decide +kernel
theorem d_M_keep_122 : decode prog_6_method_46_code 122 = .ok (.aload_n 0, 1) := by decide +kernel
theorem d_M_keep_123 : decode prog_6_method_46_code 123 = .ok (.getfield 78, 3) := by decide +kernel
theorem d_M_keep_126 : decode prog_6_method_46_code 126 = .ok (.iload_n 1, 1) := by decide +kernel
theorem d_M_keep_127 : decode prog_6_method_46_code 127 = .ok (.aload_n 0, 1) := by decide +kernel
theorem d_M_keep_128 : decode prog_6_method_46_code 128 = .ok (.getfield 44, 3) := by decide +kernel
theorem d_M_keep_131 : decode prog_6_method_46_code 131 = .ok (.iload_n 1, 1) := by decide +kernel
theorem d_M_keep_132 : decode prog_6_method_46_code 132 = .ok (.iaload, 1) := by decide +kernel
theorem d_M_keep_133 : decode prog_6_method_46_code 133 = .ok (.iastore, 1) := by decide +kernel
theorem d_M_keep_134 : decode prog_6_method_46_code 134 = .ok (.iinc 1 1, 3) := by decide +kernel
theorem d_M_keep_137 : decode prog_6_method_46_code 137 = .ok (.goto (-20), 3) := by decide +kernel
theorem d_M_keep_140 : decode prog_6_method_46_code 140 = .ok (.aload_n 0, 1) := by decide +kernel
theorem d_M_keep_141 : decode prog_6_method_46_code 141 = .ok (.invokevirtual 184, 3) := by decide +kernel
theorem d_M_keep_144 : decode prog_6_method_46_code 144 = .ok (.ireturn, 1) := by decide +kernel
theorem d_M_records_0 : decode prog_6_method_10_code 0 = .ok (.iconst 0, 1) := by decide +kernel
theorem d_M_records_1 : decode prog_6_method_10_code 1 = .ok (.istore_n 1, 1) := by decide +kernel
theorem d_M_records_2 : decode prog_6_method_10_code 2 = .ok (.iconst 0, 1) := by decide +kernel
theorem d_M_records_3 : decode prog_6_method_10_code 3 = .ok (.istore_n 2, 1) := by decide +kernel
theorem d_M_records_4 : decode prog_6_method_10_code 4 = .ok (.iload_n 2, 1) := by decide +kernel
theorem d_M_records_5 : decode prog_6_method_10_code 5 = .ok (.bipush 24, 2) := by decide +kernel
theorem d_M_records_7 : decode prog_6_method_10_code 7 = .ok (.if_icmp .ge 26, 3) := by decide +kernel
theorem d_M_records_10 : decode prog_6_method_10_code 10 = .ok (.iload_n 1, 1) := by decide +kernel
theorem d_M_records_11 : decode prog_6_method_10_code 11 = .ok (.aload_n 0, 1) := by decide +kernel
theorem d_M_records_12 : decode prog_6_method_10_code 12 = .ok (.getfield 29, 3) := by decide +kernel
theorem d_M_records_15 : decode prog_6_method_10_code 15 = .ok (.iload_n 2, 1) := by decide +kernel
theorem d_M_records_16 : decode prog_6_method_10_code 16 = .ok (.iaload, 1) := by decide +kernel
theorem d_M_records_17 : decode prog_6_method_10_code 17 = .ok (.ifCond .le 7, 3) := by decide +kernel
theorem d_M_records_20 : decode prog_6_method_10_code 20 = .ok (.iconst 1, 1) := by decide +kernel
theorem d_M_records_21 : decode prog_6_method_10_code 21 = .ok (.goto 4, 3) := by decide +kernel
theorem d_M_records_24 : decode prog_6_method_10_code 24 = .ok (.iconst 0, 1) := by decide +kernel
theorem d_M_records_25 : decode prog_6_method_10_code 25 = .ok (.iadd, 1) := by decide +kernel
theorem d_M_records_26 : decode prog_6_method_10_code 26 = .ok (.istore_n 1, 1) := by decide +kernel
theorem d_M_records_27 : decode prog_6_method_10_code 27 = .ok (.iinc 2 1, 3) := by decide +kernel
theorem d_M_records_30 : decode prog_6_method_10_code 30 = .ok (.goto (-26), 3) := by decide +kernel
theorem d_M_records_33 : decode prog_6_method_10_code 33 = .ok (.iload_n 1, 1) := by decide +kernel
theorem d_M_records_34 : decode prog_6_method_10_code 34 = .ok (.ireturn, 1) := by decide +kernel
theorem d_M_rollBack_0 : decode prog_6_method_47_code 0 = .ok (.aload_n 0, 1) := by decide +kernel
theorem d_M_rollBack_1 : decode prog_6_method_47_code 1 = .ok (.iconst 0, 1) := by decide +kernel
theorem d_M_rollBack_2 : decode prog_6_method_47_code 2 = .ok (.putfield 84, 3) := by decide +kernel
theorem d_M_rollBack_5 : decode prog_6_method_47_code 5 = .ok (.aload_n 0, 1) := by decide +kernel
theorem d_M_rollBack_6 : decode prog_6_method_47_code 6 = .ok (.aload_n 0, 1) := by decide +kernel
theorem d_M_rollBack_7 : decode prog_6_method_47_code 7 = .ok (.getfield 60, 3) := by decide +kernel
theorem d_M_rollBack_10 : decode prog_6_method_47_code 10 = .ok (.putfield 25, 3) := by decide +kernel
theorem d_M_rollBack_13 : decode prog_6_method_47_code 13 = .ok (.iconst 0, 1) := by decide +kernel
theorem d_M_rollBack_14 : decode prog_6_method_47_code 14 = .ok (.istore_n 1, 1) := by decide +kernel
theorem d_M_rollBack_15 : decode prog_6_method_47_code 15 = .ok (.iload_n 1, 1) := by decide +kernel
theorem d_M_rollBack_16 : decode prog_6_method_47_code 16 = .ok (.bipush 24, 2) := by decide +kernel
theorem d_M_rollBack_18 : decode prog_6_method_47_code 18 = .ok (.if_icmp .ge 33, 3) := by decide +kernel
theorem d_M_rollBack_21 : decode prog_6_method_47_code 21 = .ok (.aload_n 0, 1) := by decide +kernel
theorem d_M_rollBack_22 : decode prog_6_method_47_code 22 = .ok (.getfield 29, 3) := by decide +kernel
theorem d_M_rollBack_25 : decode prog_6_method_47_code 25 = .ok (.iload_n 1, 1) := by decide +kernel
theorem d_M_rollBack_26 : decode prog_6_method_47_code 26 = .ok (.aload_n 0, 1) := by decide +kernel
theorem d_M_rollBack_27 : decode prog_6_method_47_code 27 = .ok (.getfield 63, 3) := by decide +kernel
theorem d_M_rollBack_30 : decode prog_6_method_47_code 30 = .ok (.iload_n 1, 1) := by decide +kernel
theorem d_M_rollBack_31 : decode prog_6_method_47_code 31 = .ok (.iaload, 1) := by decide +kernel
theorem d_M_rollBack_32 : decode prog_6_method_47_code 32 = .ok (.iastore, 1) := by decide +kernel
theorem d_M_rollBack_33 : decode prog_6_method_47_code 33 = .ok (.aload_n 0, 1) := by decide +kernel
theorem d_M_rollBack_34 : decode prog_6_method_47_code 34 = .ok (.getfield 32, 3) := by decide +kernel
theorem d_M_rollBack_37 : decode prog_6_method_47_code 37 = .ok (.iload_n 1, 1) := by decide +kernel
theorem d_M_rollBack_38 : decode prog_6_method_47_code 38 = .ok (.aload_n 0, 1) := by decide +kernel
theorem d_M_rollBack_39 : decode prog_6_method_47_code 39 = .ok (.getfield 66, 3) := by decide +kernel
theorem d_M_rollBack_42 : decode prog_6_method_47_code 42 = .ok (.iload_n 1, 1) := by decide +kernel
theorem d_M_rollBack_43 : decode prog_6_method_47_code 43 = .ok (.iaload, 1) := by decide +kernel
theorem d_M_rollBack_44 : decode prog_6_method_47_code 44 = .ok (.iastore, 1) := by decide +kernel
theorem d_M_rollBack_45 : decode prog_6_method_47_code 45 = .ok (.iinc 1 1, 3) := by decide +kernel
theorem d_M_rollBack_48 : decode prog_6_method_47_code 48 = .ok (.goto (-33), 3) := by decide +kernel
theorem d_M_rollBack_51 : decode prog_6_method_47_code 51 = .ok (.iconst 0, 1) := by decide +kernel
theorem d_M_rollBack_52 : decode prog_6_method_47_code 52 = .ok (.istore_n 1, 1) := by decide +kernel
theorem d_M_rollBack_53 : decode prog_6_method_47_code 53 = .ok (.iload_n 1, 1) := by decide +kernel
theorem d_M_rollBack_54 : decode prog_6_method_47_code 54 = .ok (.bipush 72, 2) := by decide +kernel
theorem d_M_rollBack_56 : decode prog_6_method_47_code 56 = .ok (.if_icmp .ge 21, 3) := by decide +kernel
theorem d_M_rollBack_59 : decode prog_6_method_47_code 59 = .ok (.aload_n 0, 1) := by decide +kernel
theorem d_M_rollBack_60 : decode prog_6_method_47_code 60 = .ok (.getfield 35, 3) := by decide +kernel
theorem d_M_rollBack_63 : decode prog_6_method_47_code 63 = .ok (.iload_n 1, 1) := by decide +kernel
theorem d_M_rollBack_64 : decode prog_6_method_47_code 64 = .ok (.aload_n 0, 1) := by decide +kernel
theorem d_M_rollBack_65 : decode prog_6_method_47_code 65 = .ok (.getfield 69, 3) := by decide +kernel
theorem d_M_rollBack_68 : decode prog_6_method_47_code 68 = .ok (.iload_n 1, 1) := by decide +kernel
theorem d_M_rollBack_69 : decode prog_6_method_47_code 69 = .ok (.iaload, 1) := by decide +kernel
theorem d_M_rollBack_70 : decode prog_6_method_47_code 70 = .ok (.iastore, 1) := by decide +kernel
theorem d_M_rollBack_71 : decode prog_6_method_47_code 71 = .ok (.iinc 1 1, 3) := by decide +kernel
theorem d_M_rollBack_74 : decode prog_6_method_47_code 74 = .ok (.goto (-21), 3) := by decide +kernel
theorem d_M_rollBack_77 : decode prog_6_method_47_code 77 = .ok (.iconst 0, 1) := by decide +kernel
theorem d_M_rollBack_78 : decode prog_6_method_47_code 78 = .ok (.istore_n 1, 1) := by decide +kernel
theorem d_M_rollBack_79 : decode prog_6_method_47_code 79 = .ok (.iload_n 1, 1) := by decide +kernel
theorem d_M_rollBack_80 : decode prog_6_method_47_code 80 = .ok (.bipush 120, 2) := by decide +kernel
theorem d_M_rollBack_82 : decode prog_6_method_47_code 82 = .ok (.if_icmp .ge 33, 3) := by decide +kernel
theorem d_M_rollBack_85 : decode prog_6_method_47_code 85 = .ok (.aload_n 0, 1) := by decide +kernel
theorem d_M_rollBack_86 : decode prog_6_method_47_code 86 = .ok (.getfield 38, 3) := by decide +kernel
theorem d_M_rollBack_89 : decode prog_6_method_47_code 89 = .ok (.iload_n 1, 1) := by decide +kernel
theorem d_M_rollBack_90 : decode prog_6_method_47_code 90 = .ok (.aload_n 0, 1) := by decide +kernel
theorem d_M_rollBack_91 : decode prog_6_method_47_code 91 = .ok (.getfield 72, 3) := by decide +kernel
theorem d_M_rollBack_94 : decode prog_6_method_47_code 94 = .ok (.iload_n 1, 1) := by decide +kernel
theorem d_M_rollBack_95 : decode prog_6_method_47_code 95 = .ok (.iaload, 1) := by decide +kernel
theorem d_M_rollBack_96 : decode prog_6_method_47_code 96 = .ok (.iastore, 1) := by decide +kernel
theorem d_M_rollBack_97 : decode prog_6_method_47_code 97 = .ok (.aload_n 0, 1) := by decide +kernel
theorem d_M_rollBack_98 : decode prog_6_method_47_code 98 = .ok (.getfield 41, 3) := by decide +kernel
theorem d_M_rollBack_101 : decode prog_6_method_47_code 101 = .ok (.iload_n 1, 1) := by decide +kernel
theorem d_M_rollBack_102 : decode prog_6_method_47_code 102 = .ok (.aload_n 0, 1) := by decide +kernel
theorem d_M_rollBack_103 : decode prog_6_method_47_code 103 = .ok (.getfield 75, 3) := by decide +kernel
theorem d_M_rollBack_106 : decode prog_6_method_47_code 106 = .ok (.iload_n 1, 1) := by decide +kernel
theorem d_M_rollBack_107 : decode prog_6_method_47_code 107 = .ok (.iaload, 1) := by decide +kernel
theorem d_M_rollBack_108 : decode prog_6_method_47_code 108 = .ok (.iastore, 1) := by decide +kernel
theorem d_M_rollBack_109 : decode prog_6_method_47_code 109 = .ok (.iinc 1 1, 3) := by decide +kernel
theorem d_M_rollBack_112 : decode prog_6_method_47_code 112 = .ok (.goto (-33), 3) := by decide +kernel
theorem d_M_rollBack_115 : decode prog_6_method_47_code 115 = .ok (.iconst 0, 1) := by decide +kernel
theorem d_M_rollBack_116 : decode prog_6_method_47_code 116 = .ok (.istore_n 1, 1) := by decide +kernel
theorem d_M_rollBack_117 : decode prog_6_method_47_code 117 = .ok (.iload_n 1, 1) := by decide +kernel
theorem d_M_rollBack_118 : decode prog_6_method_47_code 118 = .ok (.iconst 5, 1) := by decide +kernel
theorem d_M_rollBack_119 : decode prog_6_method_47_code 119 = .ok (.if_icmp .ge 21, 3) := by decide +kernel
theorem d_M_rollBack_122 : decode prog_6_method_47_code 122 = .ok (.aload_n 0, 1) := by decide +kernel
theorem d_M_rollBack_123 : decode prog_6_method_47_code 123 = .ok (.getfield 44, 3) := by decide +kernel
theorem d_M_rollBack_126 : decode prog_6_method_47_code 126 = .ok (.iload_n 1, 1) := by decide +kernel
theorem d_M_rollBack_127 : decode prog_6_method_47_code 127 = .ok (.aload_n 0, 1) := by decide +kernel
theorem d_M_rollBack_128 : decode prog_6_method_47_code 128 = .ok (.getfield 78, 3) := by decide +kernel
theorem d_M_rollBack_131 : decode prog_6_method_47_code 131 = .ok (.iload_n 1, 1) := by decide +kernel
theorem d_M_rollBack_132 : decode prog_6_method_47_code 132 = .ok (.iaload, 1) := by decide +kernel
theorem d_M_rollBack_133 : decode prog_6_method_47_code 133 = .ok (.iastore, 1) := by decide +kernel
theorem d_M_rollBack_134 : decode prog_6_method_47_code 134 = .ok (.iinc 1 1, 3) := by decide +kernel
theorem d_M_rollBack_137 : decode prog_6_method_47_code 137 = .ok (.goto (-20), 3) := by decide +kernel
theorem d_M_rollBack_140 : decode prog_6_method_47_code 140 = .ok (.aload_n 0, 1) := by decide +kernel
theorem d_M_rollBack_141 : decode prog_6_method_47_code 141 = .ok (.invokevirtual 81, 3) := by decide +kernel
theorem d_M_rollBack_144 : decode prog_6_method_47_code 144 = .ok (.aload_n 0, 1) := by decide +kernel
theorem d_M_rollBack_145 : decode prog_6_method_47_code 145 = .ok (.invokevirtual 184, 3) := by decide +kernel
theorem d_M_rollBack_148 : decode prog_6_method_47_code 148 = .ok (.ireturn, 1) := by decide +kernel
theorem d_M_count_0 : decode prog_6_method_48_code 0 = .ok (.aload_n 0, 1) := by decide +kernel
theorem d_M_count_1 : decode prog_6_method_48_code 1 = .ok (.iconst 0, 1) := by decide +kernel
theorem d_M_count_2 : decode prog_6_method_48_code 2 = .ok (.putfield 84, 3) := by decide +kernel
theorem d_M_count_5 : decode prog_6_method_48_code 5 = .ok (.aload_n 0, 1) := by decide +kernel
theorem d_M_count_6 : decode prog_6_method_48_code 6 = .ok (.invokevirtual 184, 3) := by decide +kernel
theorem d_M_count_9 : decode prog_6_method_48_code 9 = .ok (.ireturn, 1) := by decide +kernel
