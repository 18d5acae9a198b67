/-! what each instruction is (by names.py) -/
theorem d_Mo_init_0 : decode (M_Mo_init).cc 0 = .ok (.aload_n 0, 1) := by decide +kernel
theorem d_Mo_init_1 : decode (M_Mo_init).cc 1 = .ok (.invokespecial 1, 3) := by decide +kernel
theorem d_Mo_init_4 : decode (M_Mo_init).cc 4 = .ok (.aload_n 0, 1) := by decide +kernel
theorem d_Mo_init_5 : decode (M_Mo_init).cc 5 = .ok (.bipush 60, 2) := by decide +kernel
theorem d_Mo_init_7 : decode (M_Mo_init).cc 7 = .ok (.newarray .char, 2) := by decide +kernel
theorem d_Mo_init_9 : decode (M_Mo_init).cc 9 = .ok (.putfield 7, 3) := by decide +kernel
theorem d_Mo_init_12 : decode (M_Mo_init).cc 12 = .ok (.aload_n 0, 1) := by decide +kernel
theorem d_Mo_init_13 : decode (M_Mo_init).cc 13 = .ok (.iconst (-1), 1) := by decide +kernel
theorem d_Mo_init_14 : decode (M_Mo_init).cc 14 = .ok (.putfield 13, 3) := by decide +kernel
theorem d_Mo_init_17 : decode (M_Mo_init).cc 17 = .ok (.aload_n 0, 1) := by decide +kernel
theorem d_Mo_init_18 : decode (M_Mo_init).cc 18 = .ok (.bipush 6, 2) := by decide +kernel
theorem d_Mo_init_20 : decode (M_Mo_init).cc 20 = .ok (.newarray .int, 2) := by decide +kernel
theorem d_Mo_init_22 : decode (M_Mo_init).cc 22 = .ok (.putfield 17, 3) := by decide +kernel
theorem d_Mo_init_25 : decode (M_Mo_init).cc 25 = .ok (.aload_n 0, 1) := by decide +kernel
theorem d_Mo_init_26 : decode (M_Mo_init).cc 26 = .ok (.sipush 7500, 3) := by decide +kernel
theorem d_Mo_init_29 : decode (M_Mo_init).cc 29 = .ok (.newarray .int, 2) := by decide +kernel
theorem d_Mo_init_31 : decode (M_Mo_init).cc 31 = .ok (.putfield 21, 3) := by decide +kernel
theorem d_Mo_init_34 : decode (M_Mo_init).cc 34 = .ok (.aload_n 0, 1) := by decide +kernel
theorem d_Mo_init_35 : decode (M_Mo_init).cc 35 = .ok (.bipush 6, 2) := by decide +kernel
theorem d_Mo_init_37 : decode (M_Mo_init).cc 37 = .ok (.newarray .int, 2) := by decide +kernel
theorem d_Mo_init_39 : decode (M_Mo_init).cc 39 = .ok (.putfield 24, 3) := by decide +kernel
theorem d_Mo_init_42 : decode (M_Mo_init).cc 42 = .ok (.aload_n 0, 1) := by decide +kernel
theorem d_Mo_init_43 : decode (M_Mo_init).cc 43 = .ok (.bipush 15, 2) := by decide +kernel
theorem d_Mo_init_45 : decode (M_Mo_init).cc 45 = .ok (.newarray .int, 2) := by decide +kernel
theorem d_Mo_init_47 : decode (M_Mo_init).cc 47 = .ok (.putfield 27, 3) := by decide +kernel
theorem d_Mo_init_50 : decode (M_Mo_init).cc 50 = .ok (.aload_n 0, 1) := by decide +kernel
theorem d_Mo_init_51 : decode (M_Mo_init).cc 51 = .ok (.bipush 6, 2) := by decide +kernel
theorem d_Mo_init_53 : decode (M_Mo_init).cc 53 = .ok (.newarray .int, 2) := by decide +kernel
theorem d_Mo_init_55 : decode (M_Mo_init).cc 55 = .ok (.putfield 30, 3) := by decide +kernel
theorem d_Mo_init_58 : decode (M_Mo_init).cc 58 = .ok (.aload_n 0, 1) := by decide +kernel
theorem d_Mo_init_59 : decode (M_Mo_init).cc 59 = .ok (.bipush 16, 2) := by decide +kernel
theorem d_Mo_init_61 : decode (M_Mo_init).cc 61 = .ok (.newarray .int, 2) := by decide +kernel
theorem d_Mo_init_63 : decode (M_Mo_init).cc 63 = .ok (.putfield 33, 3) := by decide +kernel
theorem d_Mo_init_66 : decode (M_Mo_init).cc 66 = .ok (.aload_n 0, 1) := by decide +kernel
theorem d_Mo_init_67 : decode (M_Mo_init).cc 67 = .ok (.sipush 7515, 3) := by decide +kernel
theorem d_Mo_init_70 : decode (M_Mo_init).cc 70 = .ok (.newarray .int, 2) := by decide +kernel
theorem d_Mo_init_72 : decode (M_Mo_init).cc 72 = .ok (.putfield 36, 3) := by decide +kernel
theorem d_Mo_init_75 : decode (M_Mo_init).cc 75 = .ok (.aload_n 0, 1) := by decide +kernel
theorem d_Mo_init_76 : decode (M_Mo_init).cc 76 = .ok (.bipush 7, 2) := by decide +kernel
theorem d_Mo_init_78 : decode (M_Mo_init).cc 78 = .ok (.newarray .int, 2) := by decide +kernel
theorem d_Mo_init_80 : decode (M_Mo_init).cc 80 = .ok (.putfield 39, 3) := by decide +kernel
theorem d_Mo_init_83 : decode (M_Mo_init).cc 83 = .ok (.aload_n 0, 1) := by decide +kernel
theorem d_Mo_init_84 : decode (M_Mo_init).cc 84 = .ok (.bipush 6, 2) := by decide +kernel
theorem d_Mo_init_86 : decode (M_Mo_init).cc 86 = .ok (.newarray .boolean, 2) := by decide +kernel
theorem d_Mo_init_88 : decode (M_Mo_init).cc 88 = .ok (.putfield 42, 3) := by decide +kernel
theorem d_Mo_init_91 : decode (M_Mo_init).cc 91 = .ok (.aload_n 0, 1) := by decide +kernel
theorem d_Mo_init_92 : decode (M_Mo_init).cc 92 = .ok (.bipush 6, 2) := by decide +kernel
theorem d_Mo_init_94 : decode (M_Mo_init).cc 94 = .ok (.newarray .int, 2) := by decide +kernel
theorem d_Mo_init_96 : decode (M_Mo_init).cc 96 = .ok (.putfield 46, 3) := by decide +kernel
theorem d_Mo_init_99 : decode (M_Mo_init).cc 99 = .ok (.aload_n 0, 1) := by decide +kernel
theorem d_Mo_init_100 : decode (M_Mo_init).cc 100 = .ok (.bipush 36, 2) := by decide +kernel
theorem d_Mo_init_102 : decode (M_Mo_init).cc 102 = .ok (.newarray .int, 2) := by decide +kernel
theorem d_Mo_init_104 : decode (M_Mo_init).cc 104 = .ok (.putfield 49, 3) := by decide +kernel
theorem d_Mo_init_107 : decode (M_Mo_init).cc 107 = .ok (.aload_n 0, 1) := by decide +kernel
theorem d_Mo_init_108 : decode (M_Mo_init).cc 108 = .ok (.bipush 15, 2) := by decide +kernel
theorem d_Mo_init_110 : decode (M_Mo_init).cc 110 = .ok (.newarray .int, 2) := by decide +kernel
theorem d_Mo_init_112 : decode (M_Mo_init).cc 112 = .ok (.putfield 52, 3) := by decide +kernel
theorem d_Mo_init_115 : decode (M_Mo_init).cc 115 = .ok (.aload_n 0, 1) := by decide +kernel
theorem d_Mo_init_116 : decode (M_Mo_init).cc 116 = .ok (.bipush 10, 2) := by decide +kernel
theorem d_Mo_init_118 : decode (M_Mo_init).cc 118 = .ok (.newarray .int, 2) := by decide +kernel
theorem d_Mo_init_120 : decode (M_Mo_init).cc 120 = .ok (.putfield 55, 3) := by decide +kernel
theorem d_Mo_init_123 : decode (M_Mo_init).cc 123 = .ok (.aload_n 0, 1) := by decide +kernel
theorem d_Mo_init_124 : decode (M_Mo_init).cc 124 = .ok (.bipush 60, 2) := by decide +kernel
theorem d_Mo_init_126 : decode (M_Mo_init).cc 126 = .ok (.newarray .int, 2) := by decide +kernel
theorem d_Mo_init_128 : decode (M_Mo_init).cc 128 = .ok (.putfield 58, 3) := by decide +kernel
theorem d_Mo_init_131 : decode (M_Mo_init).cc 131 = .ok (.aload_n 0, 1) := by decide +kernel
theorem d_Mo_init_132 : decode (M_Mo_init).cc 132 = .ok (.bipush 10, 2) := by decide +kernel
theorem d_Mo_init_134 : decode (M_Mo_init).cc 134 = .ok (.newarray .int, 2) := by decide +kernel
theorem d_Mo_init_136 : decode (M_Mo_init).cc 136 = .ok (.putfield 61, 3) := by decide +kernel
theorem d_Mo_init_139 : decode (M_Mo_init).cc 139 = .ok (.aload_n 0, 1) := by decide +kernel
theorem d_Mo_init_140 : decode (M_Mo_init).cc 140 = .ok (.bipush 10, 2) := by decide +kernel
theorem d_Mo_init_142 : decode (M_Mo_init).cc 142 = .ok (.newarray .int, 2) := by decide +kernel
theorem d_Mo_init_144 : decode (M_Mo_init).cc 144 = .ok (.putfield 64, 3) := by decide +kernel
theorem d_Mo_init_147 : decode (M_Mo_init).cc 147 = .ok (.aload_n 0, 1) := by decide +kernel
theorem d_Mo_init_148 : decode (M_Mo_init).cc 148 = .ok (.bipush 6, 2) := by decide +kernel
theorem d_Mo_init_150 : decode (M_Mo_init).cc 150 = .ok (.newarray .int, 2) := by decide +kernel
theorem d_Mo_init_152 : decode (M_Mo_init).cc 152 = .ok (.putfield 67, 3) := by decide +kernel
theorem d_Mo_init_155 : decode (M_Mo_init).cc 155 = .ok (.aload_n 0, 1) := by decide +kernel
theorem d_Mo_init_156 : decode (M_Mo_init).cc 156 = .ok (.bipush 36, 2) := by decide +kernel
theorem d_Mo_init_158 : decode (M_Mo_init).cc 158 = .ok (.newarray .int, 2) := by decide +kernel
theorem d_Mo_init_160 : decode (M_Mo_init).cc 160 = .ok (.putfield 70, 3) := by decide +kernel
theorem d_Mo_init_163 : decode (M_Mo_init).cc 163 = .ok (.aload_n 0, 1) := by decide +kernel
theorem d_Mo_init_164 : decode (M_Mo_init).cc 164 = .ok (.bipush 6, 2) := by decide +kernel
theorem d_Mo_init_166 : decode (M_Mo_init).cc 166 = .ok (.newarray .int, 2) := by decide +kernel
theorem d_Mo_init_168 : decode (M_Mo_init).cc 168 = .ok (.putfield 73, 3) := by decide +kernel
theorem d_Mo_init_171 : decode (M_Mo_init).cc 171 = .ok (.aload_n 0, 1) := by decide +kernel
theorem d_Mo_init_172 : decode (M_Mo_init).cc 172 = .ok (.bipush 6, 2) := by decide +kernel
theorem d_Mo_init_174 : decode (M_Mo_init).cc 174 = .ok (.newarray .boolean, 2) := by decide +kernel
theorem d_Mo_init_176 : decode (M_Mo_init).cc 176 = .ok (.putfield 76, 3) := by decide +kernel
theorem d_Mo_init_179 : decode (M_Mo_init).cc 179 = .ok (.aload_n 0, 1) := by decide +kernel
theorem d_Mo_init_180 : decode (M_Mo_init).cc 180 = .ok (.bipush 6, 2) := by decide +kernel
theorem d_Mo_init_182 : decode (M_Mo_init).cc 182 = .ok (.newarray .boolean, 2) := by decide +kernel
theorem d_Mo_init_184 : decode (M_Mo_init).cc 184 = .ok (.putfield 79, 3) := by decide +kernel
theorem d_Mo_init_187 : decode (M_Mo_init).cc 187 = .ok (.aload_n 0, 1) := by decide +kernel
theorem d_Mo_init_188 : decode (M_Mo_init).cc 188 = .ok (.bipush 6, 2) := by decide +kernel
theorem d_Mo_init_190 : decode (M_Mo_init).cc 190 = .ok (.newarray .int, 2) := by decide +kernel
theorem d_Mo_init_192 : decode (M_Mo_init).cc 192 = .ok (.putfield 82, 3) := by decide +kernel
theorem d_Mo_init_195 : decode (M_Mo_init).cc 195 = .ok (.return_, 1) := by decide +kernel
theorem d_Mo_thrown_0 : decode (M_Mo_thrown).cc 0 = .ok (.aload_n 0, 1) := by decide +kernel
theorem d_Mo_thrown_1 : decode (M_Mo_thrown).cc 1 = .ok (.getfield 85, 3) := by decide +kernel
theorem d_Mo_thrown_4 : decode (M_Mo_thrown).cc 4 = .ok (.ireturn, 1) := by decide +kernel
theorem d_Mo_type_0 : decode (M_Mo_type).cc 0 = .ok (.aload_n 0, 1) := by decide +kernel
theorem d_Mo_type_1 : decode (M_Mo_type).cc 1 = .ok (.aload_n 0, 1) := by decide +kernel
theorem d_Mo_type_2 : decode (M_Mo_type).cc 2 = .ok (.getfield 88, 3) := by decide +kernel
theorem d_Mo_type_5 : decode (M_Mo_type).cc 5 = .ok (.bipush 60, 2) := by decide +kernel
theorem d_Mo_type_7 : decode (M_Mo_type).cc 7 = .ok (.if_icmp .ne 7, 3) := by decide +kernel
theorem d_Mo_type_10 : decode (M_Mo_type).cc 10 = .ok (.iconst 1, 1) := by decide +kernel
theorem d_Mo_type_11 : decode (M_Mo_type).cc 11 = .ok (.goto 4, 3) := by decide +kernel
theorem d_Mo_type_14 : decode (M_Mo_type).cc 14 = .ok (.iconst 0, 1) := by decide +kernel
theorem d_Mo_type_15 : decode (M_Mo_type).cc 15 = .ok (.invokevirtual 91, 3) := by decide +kernel
theorem d_Mo_type_18 : decode (M_Mo_type).cc 18 = .ok (.ifCond .eq 5, 3) := by decide +kernel
theorem d_Mo_type_21 : decode (M_Mo_type).cc 21 = .ok (.iconst 0, 1) := by decide +kernel
theorem d_Mo_type_22 : decode (M_Mo_type).cc 22 = .ok (.ireturn, 1) := by decide +kernel
theorem d_Mo_type_23 : decode (M_Mo_type).cc 23 = .ok (.aload_n 0, 1) := by decide +kernel
theorem d_Mo_type_24 : decode (M_Mo_type).cc 24 = .ok (.getfield 7, 3) := by decide +kernel
theorem d_Mo_type_27 : decode (M_Mo_type).cc 27 = .ok (.aload_n 0, 1) := by decide +kernel
theorem d_Mo_type_28 : decode (M_Mo_type).cc 28 = .ok (.getfield 88, 3) := by decide +kernel
theorem d_Mo_type_31 : decode (M_Mo_type).cc 31 = .ok (.iload_n 1, 1) := by decide +kernel
theorem d_Mo_type_32 : decode (M_Mo_type).cc 32 = .ok (.castore, 1) := by decide +kernel
theorem d_Mo_type_33 : decode (M_Mo_type).cc 33 = .ok (.aload_n 0, 1) := by decide +kernel
theorem d_Mo_type_34 : decode (M_Mo_type).cc 34 = .ok (.dup, 1) := by decide +kernel
theorem d_Mo_type_35 : decode (M_Mo_type).cc 35 = .ok (.getfield 88, 3) := by decide +kernel
theorem d_Mo_type_38 : decode (M_Mo_type).cc 38 = .ok (.iconst 1, 1) := by decide +kernel
theorem d_Mo_type_39 : decode (M_Mo_type).cc 39 = .ok (.iadd, 1) := by decide +kernel
theorem d_Mo_type_40 : decode (M_Mo_type).cc 40 = .ok (.putfield 88, 3) := by decide +kernel
theorem d_Mo_type_43 : decode (M_Mo_type).cc 43 = .ok (.aload_n 0, 1) := by decide +kernel
theorem d_Mo_type_44 : decode (M_Mo_type).cc 44 = .ok (.getfield 88, 3) := by decide +kernel
theorem d_Mo_type_47 : decode (M_Mo_type).cc 47 = .ok (.ireturn, 1) := by decide +kernel
theorem d_Mo_refused_0 : decode (M_Mo_refused).cc 0 = .ok (.aload_n 0, 1) := by decide +kernel
theorem d_Mo_refused_1 : decode (M_Mo_refused).cc 1 = .ok (.iload_n 1, 1) := by decide +kernel
theorem d_Mo_refused_2 : decode (M_Mo_refused).cc 2 = .ok (.putfield 85, 3) := by decide +kernel
theorem d_Mo_refused_5 : decode (M_Mo_refused).cc 5 = .ok (.iload_n 1, 1) := by decide +kernel
theorem d_Mo_refused_6 : decode (M_Mo_refused).cc 6 = .ok (.ifCond .le 7, 3) := by decide +kernel
theorem d_Mo_refused_9 : decode (M_Mo_refused).cc 9 = .ok (.iconst 1, 1) := by decide +kernel
theorem d_Mo_refused_10 : decode (M_Mo_refused).cc 10 = .ok (.goto 4, 3) := by decide +kernel
theorem d_Mo_refused_13 : decode (M_Mo_refused).cc 13 = .ok (.iconst 0, 1) := by decide +kernel
theorem d_Mo_refused_14 : decode (M_Mo_refused).cc 14 = .ok (.ireturn, 1) := by decide +kernel
theorem d_Mo_erase_0 : decode (M_Mo_erase).cc 0 = .ok (.aload_n 0, 1) := by decide +kernel
theorem d_Mo_erase_1 : decode (M_Mo_erase).cc 1 = .ok (.iconst 0, 1) := by decide +kernel
theorem d_Mo_erase_2 : decode (M_Mo_erase).cc 2 = .ok (.putfield 85, 3) := by decide +kernel
theorem d_Mo_erase_5 : decode (M_Mo_erase).cc 5 = .ok (.aload_n 0, 1) := by decide +kernel
theorem d_Mo_erase_6 : decode (M_Mo_erase).cc 6 = .ok (.getfield 88, 3) := by decide +kernel
theorem d_Mo_erase_9 : decode (M_Mo_erase).cc 9 = .ok (.istore_n 1, 1) := by decide +kernel
theorem d_Mo_erase_10 : decode (M_Mo_erase).cc 10 = .ok (.aload_n 0, 1) := by decide +kernel
theorem d_Mo_erase_11 : decode (M_Mo_erase).cc 11 = .ok (.iconst 0, 1) := by decide +kernel
theorem d_Mo_erase_12 : decode (M_Mo_erase).cc 12 = .ok (.putfield 88, 3) := by decide +kernel
theorem d_Mo_erase_15 : decode (M_Mo_erase).cc 15 = .ok (.iload_n 1, 1) := by decide +kernel
theorem d_Mo_erase_16 : decode (M_Mo_erase).cc 16 = .ok (.ireturn, 1) := by decide +kernel
theorem d_Mo_character_0 : decode (M_Mo_character).cc 0 = .ok (.aload_n 0, 1) := by decide +kernel
theorem d_Mo_character_1 : decode (M_Mo_character).cc 1 = .ok (.iconst 0, 1) := by decide +kernel
theorem d_Mo_character_2 : decode (M_Mo_character).cc 2 = .ok (.putfield 85, 3) := by decide +kernel
theorem d_Mo_character_5 : decode (M_Mo_character).cc 5 = .ok (.iload_n 1, 1) := by decide +kernel
theorem d_Mo_character_6 : decode (M_Mo_character).cc 6 = .ok (.ifCond .lt 20, 3) := by decide +kernel
theorem d_Mo_character_9 : decode (M_Mo_character).cc 9 = .ok (.iload_n 1, 1) := by decide +kernel
theorem d_Mo_character_10 : decode (M_Mo_character).cc 10 = .ok (.aload_n 0, 1) := by decide +kernel
theorem d_Mo_character_11 : decode (M_Mo_character).cc 11 = .ok (.getfield 88, 3) := by decide +kernel
theorem d_Mo_character_14 : decode (M_Mo_character).cc 14 = .ok (.if_icmp .ge 12, 3) := by decide +kernel
theorem d_Mo_character_17 : decode (M_Mo_character).cc 17 = .ok (.aload_n 0, 1) := by decide +kernel
theorem d_Mo_character_18 : decode (M_Mo_character).cc 18 = .ok (.getfield 7, 3) := by decide +kernel
theorem d_Mo_character_21 : decode (M_Mo_character).cc 21 = .ok (.iload_n 1, 1) := by decide +kernel
theorem d_Mo_character_22 : decode (M_Mo_character).cc 22 = .ok (.caload, 1) := by decide +kernel
theorem d_Mo_character_23 : decode (M_Mo_character).cc 23 = .ok (.goto 5, 3) := by decide +kernel
theorem d_Mo_character_26 : decode (M_Mo_character).cc 26 = .ok (.bipush 32, 2) := by decide +kernel
theorem d_Mo_character_28 : decode (M_Mo_character).cc 28 = .ok (.ireturn, 1) := by decide +kernel
theorem d_Mo_elementAt_0 : decode (M_Mo_elementAt).cc 0 = .ok (.aload_n 0, 1) := by decide +kernel
theorem d_Mo_elementAt_1 : decode (M_Mo_elementAt).cc 1 = .ok (.iload_n 1, 1) := by decide +kernel
theorem d_Mo_elementAt_2 : decode (M_Mo_elementAt).cc 2 = .ok (.invokevirtual 95, 3) := by decide +kernel
theorem d_Mo_elementAt_5 : decode (M_Mo_elementAt).cc 5 = .ok (.istore_n 2, 1) := by decide +kernel
theorem d_Mo_elementAt_6 : decode (M_Mo_elementAt).cc 6 = .ok (.aload_n 0, 1) := by decide +kernel
theorem d_Mo_elementAt_7 : decode (M_Mo_elementAt).cc 7 = .ok (.iload_n 1, 1) := by decide +kernel
theorem d_Mo_elementAt_8 : decode (M_Mo_elementAt).cc 8 = .ok (.iconst 1, 1) := by decide +kernel
theorem d_Mo_elementAt_9 : decode (M_Mo_elementAt).cc 9 = .ok (.iadd, 1) := by decide +kernel
theorem d_Mo_elementAt_10 : decode (M_Mo_elementAt).cc 10 = .ok (.invokevirtual 95, 3) := by decide +kernel
theorem d_Mo_elementAt_13 : decode (M_Mo_elementAt).cc 13 = .ok (.istore_n 3, 1) := by decide +kernel
theorem d_Mo_elementAt_14 : decode (M_Mo_elementAt).cc 14 = .ok (.iload_n 2, 1) := by decide +kernel
theorem d_Mo_elementAt_15 : decode (M_Mo_elementAt).cc 15 = .ok (.bipush 67, 2) := by decide +kernel
theorem d_Mo_elementAt_17 : decode (M_Mo_elementAt).cc 17 = .ok (.if_icmp .ne 12, 3) := by decide +kernel
theorem d_Mo_elementAt_20 : decode (M_Mo_elementAt).cc 20 = .ok (.iload_n 3, 1) := by decide +kernel
theorem d_Mo_elementAt_21 : decode (M_Mo_elementAt).cc 21 = .ok (.bipush 108, 2) := by decide +kernel
theorem d_Mo_elementAt_23 : decode (M_Mo_elementAt).cc 23 = .ok (.if_icmp .ne 6, 3) := by decide +kernel
theorem d_Mo_elementAt_26 : decode (M_Mo_elementAt).cc 26 = .ok (.bipush 6, 2) := by decide +kernel
theorem d_Mo_elementAt_28 : decode (M_Mo_elementAt).cc 28 = .ok (.ireturn, 1) := by decide +kernel
theorem d_Mo_elementAt_29 : decode (M_Mo_elementAt).cc 29 = .ok (.iload_n 2, 1) := by decide +kernel
theorem d_Mo_elementAt_30 : decode (M_Mo_elementAt).cc 30 = .ok (.bipush 66, 2) := by decide +kernel
theorem d_Mo_elementAt_32 : decode (M_Mo_elementAt).cc 32 = .ok (.if_icmp .ne 16, 3) := by decide +kernel
theorem d_Mo_elementAt_35 : decode (M_Mo_elementAt).cc 35 = .ok (.iload_n 3, 1) := by decide +kernel
theorem d_Mo_elementAt_36 : decode (M_Mo_elementAt).cc 36 = .ok (.bipush 114, 2) := by decide +kernel
theorem d_Mo_elementAt_38 : decode (M_Mo_elementAt).cc 38 = .ok (.if_icmp .ne 8, 3) := by decide +kernel
theorem d_Mo_elementAt_41 : decode (M_Mo_elementAt).cc 41 = .ok (.bipush 7, 2) := by decide +kernel
theorem d_Mo_elementAt_43 : decode (M_Mo_elementAt).cc 43 = .ok (.goto 4, 3) := by decide +kernel
theorem d_Mo_elementAt_46 : decode (M_Mo_elementAt).cc 46 = .ok (.iconst (-1), 1) := by decide +kernel
theorem d_Mo_elementAt_47 : decode (M_Mo_elementAt).cc 47 = .ok (.ireturn, 1) := by decide +kernel
theorem d_Mo_elementAt_48 : decode (M_Mo_elementAt).cc 48 = .ok (.iload_n 2, 1) := by decide +kernel
theorem d_Mo_elementAt_49 : decode (M_Mo_elementAt).cc 49 = .ok (.bipush 67, 2) := by decide +kernel
theorem d_Mo_elementAt_51 : decode (M_Mo_elementAt).cc 51 = .ok (.if_icmp .ne 7, 3) := by decide +kernel
theorem d_Mo_elementAt_54 : decode (M_Mo_elementAt).cc 54 = .ok (.iconst 0, 1) := by decide +kernel
theorem d_Mo_elementAt_55 : decode (M_Mo_elementAt).cc 55 = .ok (.goto 76, 3) := by decide +kernel
theorem d_Mo_elementAt_58 : decode (M_Mo_elementAt).cc 58 = .ok (.iload_n 2, 1) := by decide +kernel
theorem d_Mo_elementAt_59 : decode (M_Mo_elementAt).cc 59 = .ok (.bipush 78, 2) := by decide +kernel
theorem d_Mo_elementAt_61 : decode (M_Mo_elementAt).cc 61 = .ok (.if_icmp .ne 7, 3) := by decide +kernel
theorem d_Mo_elementAt_64 : decode (M_Mo_elementAt).cc 64 = .ok (.iconst 1, 1) := by decide +kernel
theorem d_Mo_elementAt_65 : decode (M_Mo_elementAt).cc 65 = .ok (.goto 66, 3) := by decide +kernel
theorem d_Mo_elementAt_68 : decode (M_Mo_elementAt).cc 68 = .ok (.iload_n 2, 1) := by decide +kernel
theorem d_Mo_elementAt_69 : decode (M_Mo_elementAt).cc 69 = .ok (.bipush 79, 2) := by decide +kernel
theorem d_Mo_elementAt_71 : decode (M_Mo_elementAt).cc 71 = .ok (.if_icmp .ne 7, 3) := by decide +kernel
theorem d_Mo_elementAt_74 : decode (M_Mo_elementAt).cc 74 = .ok (.iconst 2, 1) := by decide +kernel
theorem d_Mo_elementAt_75 : decode (M_Mo_elementAt).cc 75 = .ok (.goto 56, 3) := by decide +kernel
theorem d_Mo_elementAt_78 : decode (M_Mo_elementAt).cc 78 = .ok (.iload_n 2, 1) := by decide +kernel
theorem d_Mo_elementAt_79 : decode (M_Mo_elementAt).cc 79 = .ok (.bipush 83, 2) := by decide +kernel
theorem d_Mo_elementAt_81 : decode (M_Mo_elementAt).cc 81 = .ok (.if_icmp .ne 7, 3) := by decide +kernel
theorem d_Mo_elementAt_84 : decode (M_Mo_elementAt).cc 84 = .ok (.iconst 3, 1) := by decide +kernel
theorem d_Mo_elementAt_85 : decode (M_Mo_elementAt).cc 85 = .ok (.goto 46, 3) := by decide +kernel
theorem d_Mo_elementAt_88 : decode (M_Mo_elementAt).cc 88 = .ok (.iload_n 2, 1) := by decide +kernel
theorem d_Mo_elementAt_89 : decode (M_Mo_elementAt).cc 89 = .ok (.bipush 80, 2) := by decide +kernel
theorem d_Mo_elementAt_91 : decode (M_Mo_elementAt).cc 91 = .ok (.if_icmp .ne 7, 3) := by decide +kernel
theorem d_Mo_elementAt_94 : decode (M_Mo_elementAt).cc 94 = .ok (.iconst 4, 1) := by decide +kernel
theorem d_Mo_elementAt_95 : decode (M_Mo_elementAt).cc 95 = .ok (.goto 36, 3) := by decide +kernel
theorem d_Mo_elementAt_98 : decode (M_Mo_elementAt).cc 98 = .ok (.iload_n 2, 1) := by decide +kernel
theorem d_Mo_elementAt_99 : decode (M_Mo_elementAt).cc 99 = .ok (.bipush 70, 2) := by decide +kernel
theorem d_Mo_elementAt_101 : decode (M_Mo_elementAt).cc 101 = .ok (.if_icmp .ne 7, 3) := by decide +kernel
theorem d_Mo_elementAt_104 : decode (M_Mo_elementAt).cc 104 = .ok (.iconst 5, 1) := by decide +kernel
theorem d_Mo_elementAt_105 : decode (M_Mo_elementAt).cc 105 = .ok (.goto 26, 3) := by decide +kernel
theorem d_Mo_elementAt_108 : decode (M_Mo_elementAt).cc 108 = .ok (.iload_n 2, 1) := by decide +kernel
theorem d_Mo_elementAt_109 : decode (M_Mo_elementAt).cc 109 = .ok (.bipush 73, 2) := by decide +kernel
theorem d_Mo_elementAt_111 : decode (M_Mo_elementAt).cc 111 = .ok (.if_icmp .ne 8, 3) := by decide +kernel
theorem d_Mo_elementAt_114 : decode (M_Mo_elementAt).cc 114 = .ok (.bipush 8, 2) := by decide +kernel
theorem d_Mo_elementAt_116 : decode (M_Mo_elementAt).cc 116 = .ok (.goto 15, 3) := by decide +kernel
theorem d_Mo_elementAt_119 : decode (M_Mo_elementAt).cc 119 = .ok (.iload_n 2, 1) := by decide +kernel
theorem d_Mo_elementAt_120 : decode (M_Mo_elementAt).cc 120 = .ok (.bipush 72, 2) := by decide +kernel
theorem d_Mo_elementAt_122 : decode (M_Mo_elementAt).cc 122 = .ok (.if_icmp .ne 8, 3) := by decide +kernel
theorem d_Mo_elementAt_125 : decode (M_Mo_elementAt).cc 125 = .ok (.bipush 9, 2) := by decide +kernel
theorem d_Mo_elementAt_127 : decode (M_Mo_elementAt).cc 127 = .ok (.goto 4, 3) := by decide +kernel
theorem d_Mo_elementAt_130 : decode (M_Mo_elementAt).cc 130 = .ok (.iconst (-1), 1) := by decide +kernel
theorem d_Mo_elementAt_131 : decode (M_Mo_elementAt).cc 131 = .ok (.ireturn, 1) := by decide +kernel
theorem d_Mo_at_0 : decode (M_Mo_at).cc 0 = .ok (.iload_n 1, 1) := by decide +kernel
theorem d_Mo_at_1 : decode (M_Mo_at).cc 1 = .ok (.ifCond .lt 20, 3) := by decide +kernel
theorem d_Mo_at_4 : decode (M_Mo_at).cc 4 = .ok (.iload_n 1, 1) := by decide +kernel
theorem d_Mo_at_5 : decode (M_Mo_at).cc 5 = .ok (.aload_n 0, 1) := by decide +kernel
theorem d_Mo_at_6 : decode (M_Mo_at).cc 6 = .ok (.getfield 88, 3) := by decide +kernel
theorem d_Mo_at_9 : decode (M_Mo_at).cc 9 = .ok (.if_icmp .ge 12, 3) := by decide +kernel
theorem d_Mo_at_12 : decode (M_Mo_at).cc 12 = .ok (.aload_n 0, 1) := by decide +kernel
theorem d_Mo_at_13 : decode (M_Mo_at).cc 13 = .ok (.getfield 7, 3) := by decide +kernel
theorem d_Mo_at_16 : decode (M_Mo_at).cc 16 = .ok (.iload_n 1, 1) := by decide +kernel
theorem d_Mo_at_17 : decode (M_Mo_at).cc 17 = .ok (.caload, 1) := by decide +kernel
theorem d_Mo_at_18 : decode (M_Mo_at).cc 18 = .ok (.goto 4, 3) := by decide +kernel
theorem d_Mo_at_21 : decode (M_Mo_at).cc 21 = .ok (.iconst 0, 1) := by decide +kernel
theorem d_Mo_at_22 : decode (M_Mo_at).cc 22 = .ok (.ireturn, 1) := by decide +kernel
theorem d_Mo_fault_0 : decode (M_Mo_fault).cc 0 = .ok (.aload_n 0, 1) := by decide +kernel
theorem d_Mo_fault_1 : decode (M_Mo_fault).cc 1 = .ok (.iload_n 2, 1) := by decide +kernel
theorem d_Mo_fault_2 : decode (M_Mo_fault).cc 2 = .ok (.putfield 13, 3) := by decide +kernel
theorem d_Mo_fault_5 : decode (M_Mo_fault).cc 5 = .ok (.iload_n 1, 1) := by decide +kernel
theorem d_Mo_fault_6 : decode (M_Mo_fault).cc 6 = .ok (.ireturn, 1) := by decide +kernel
theorem d_Mo_signSize_0 : decode (M_Mo_signSize).cc 0 = .ok (.iload_n 0, 1) := by decide +kernel
theorem d_Mo_signSize_1 : decode (M_Mo_signSize).cc 1 = .ok (.bipush 6, 2) := by decide +kernel
theorem d_Mo_signSize_3 : decode (M_Mo_signSize).cc 3 = .ok (.if_icmp .eq 9, 3) := by decide +kernel
theorem d_Mo_signSize_6 : decode (M_Mo_signSize).cc 6 = .ok (.iload_n 0, 1) := by decide +kernel
theorem d_Mo_signSize_7 : decode (M_Mo_signSize).cc 7 = .ok (.bipush 7, 2) := by decide +kernel
theorem d_Mo_signSize_9 : decode (M_Mo_signSize).cc 9 = .ok (.if_icmp .ne 7, 3) := by decide +kernel
theorem d_Mo_signSize_12 : decode (M_Mo_signSize).cc 12 = .ok (.iconst 2, 1) := by decide +kernel
theorem d_Mo_signSize_13 : decode (M_Mo_signSize).cc 13 = .ok (.goto 4, 3) := by decide +kernel
theorem d_Mo_signSize_16 : decode (M_Mo_signSize).cc 16 = .ok (.iconst 1, 1) := by decide +kernel
theorem d_Mo_signSize_17 : decode (M_Mo_signSize).cc 17 = .ok (.ireturn, 1) := by decide +kernel
theorem d_Mo_isDigit_0 : decode (M_Mo_isDigit).cc 0 = .ok (.iload_n 0, 1) := by decide +kernel
theorem d_Mo_isDigit_1 : decode (M_Mo_isDigit).cc 1 = .ok (.bipush 48, 2) := by decide +kernel
theorem d_Mo_isDigit_3 : decode (M_Mo_isDigit).cc 3 = .ok (.if_icmp .lt 13, 3) := by decide +kernel
theorem d_Mo_isDigit_6 : decode (M_Mo_isDigit).cc 6 = .ok (.iload_n 0, 1) := by decide +kernel
theorem d_Mo_isDigit_7 : decode (M_Mo_isDigit).cc 7 = .ok (.bipush 57, 2) := by decide +kernel
theorem d_Mo_isDigit_9 : decode (M_Mo_isDigit).cc 9 = .ok (.if_icmp .gt 7, 3) := by decide +kernel
theorem d_Mo_isDigit_12 : decode (M_Mo_isDigit).cc 12 = .ok (.iconst 1, 1) := by decide +kernel
theorem d_Mo_isDigit_13 : decode (M_Mo_isDigit).cc 13 = .ok (.goto 4, 3) := by decide +kernel
theorem d_Mo_isDigit_16 : decode (M_Mo_isDigit).cc 16 = .ok (.iconst 0, 1) := by decide +kernel
theorem d_Mo_isDigit_17 : decode (M_Mo_isDigit).cc 17 = .ok (.ireturn, 1) := by decide +kernel
theorem d_Mo_valence_0 : decode (M_Mo_valence).cc 0 = .ok (.iload_n 0, 1) := by decide +kernel
theorem d_Mo_valence_1 : decode (M_Mo_valence).cc 1 = .ok (.ifCond .ne 7, 3) := by decide +kernel
theorem d_Mo_valence_4 : decode (M_Mo_valence).cc 4 = .ok (.iconst 4, 1) := by decide +kernel
theorem d_Mo_valence_5 : decode (M_Mo_valence).cc 5 = .ok (.goto 32, 3) := by decide +kernel
theorem d_Mo_valence_8 : decode (M_Mo_valence).cc 8 = .ok (.iload_n 0, 1) := by decide +kernel
theorem d_Mo_valence_9 : decode (M_Mo_valence).cc 9 = .ok (.iconst 1, 1) := by decide +kernel
theorem d_Mo_valence_10 : decode (M_Mo_valence).cc 10 = .ok (.if_icmp .eq 8, 3) := by decide +kernel
theorem d_Mo_valence_13 : decode (M_Mo_valence).cc 13 = .ok (.iload_n 0, 1) := by decide +kernel
theorem d_Mo_valence_14 : decode (M_Mo_valence).cc 14 = .ok (.iconst 4, 1) := by decide +kernel
theorem d_Mo_valence_15 : decode (M_Mo_valence).cc 15 = .ok (.if_icmp .ne 7, 3) := by decide +kernel
theorem d_Mo_valence_18 : decode (M_Mo_valence).cc 18 = .ok (.iconst 3, 1) := by decide +kernel
theorem d_Mo_valence_19 : decode (M_Mo_valence).cc 19 = .ok (.goto 18, 3) := by decide +kernel
theorem d_Mo_valence_22 : decode (M_Mo_valence).cc 22 = .ok (.iload_n 0, 1) := by decide +kernel
theorem d_Mo_valence_23 : decode (M_Mo_valence).cc 23 = .ok (.iconst 2, 1) := by decide +kernel
theorem d_Mo_valence_24 : decode (M_Mo_valence).cc 24 = .ok (.if_icmp .eq 8, 3) := by decide +kernel
theorem d_Mo_valence_27 : decode (M_Mo_valence).cc 27 = .ok (.iload_n 0, 1) := by decide +kernel
theorem d_Mo_valence_28 : decode (M_Mo_valence).cc 28 = .ok (.iconst 3, 1) := by decide +kernel
theorem d_Mo_valence_29 : decode (M_Mo_valence).cc 29 = .ok (.if_icmp .ne 7, 3) := by decide +kernel
theorem d_Mo_valence_32 : decode (M_Mo_valence).cc 32 = .ok (.iconst 2, 1) := by decide +kernel
theorem d_Mo_valence_33 : decode (M_Mo_valence).cc 33 = .ok (.goto 4, 3) := by decide +kernel
theorem d_Mo_valence_36 : decode (M_Mo_valence).cc 36 = .ok (.iconst 1, 1) := by decide +kernel
theorem d_Mo_valence_37 : decode (M_Mo_valence).cc 37 = .ok (.ireturn, 1) := by decide +kernel
theorem d_Mo_search_0 : decode (M_Mo_search).cc 0 = .ok (.aload_n 0, 1) := by decide +kernel
theorem d_Mo_search_1 : decode (M_Mo_search).cc 1 = .ok (.getfield 117, 3) := by decide +kernel
theorem d_Mo_search_4 : decode (M_Mo_search).cc 4 = .ok (.aload_n 0, 1) := by decide +kernel
theorem d_Mo_search_5 : decode (M_Mo_search).cc 5 = .ok (.getfield 117, 3) := by decide +kernel
theorem d_Mo_search_8 : decode (M_Mo_search).cc 8 = .ok (.iconst 1, 1) := by decide +kernel
theorem d_Mo_search_9 : decode (M_Mo_search).cc 9 = .ok (.isub, 1) := by decide +kernel
theorem d_Mo_search_10 : decode (M_Mo_search).cc 10 = .ok (.imul, 1) := by decide +kernel
theorem d_Mo_search_11 : decode (M_Mo_search).cc 11 = .ok (.iconst 2, 1) := by decide +kernel
theorem d_Mo_search_12 : decode (M_Mo_search).cc 12 = .ok (.idiv, 1) := by decide +kernel
theorem d_Mo_search_13 : decode (M_Mo_search).cc 13 = .ok (.istore_n 1, 1) := by decide +kernel
theorem d_Mo_search_14 : decode (M_Mo_search).cc 14 = .ok (.iconst 0, 1) := by decide +kernel
theorem d_Mo_search_15 : decode (M_Mo_search).cc 15 = .ok (.istore_n 2, 1) := by decide +kernel
theorem d_Mo_search_16 : decode (M_Mo_search).cc 16 = .ok (.aload_n 0, 1) := by decide +kernel
theorem d_Mo_search_17 : decode (M_Mo_search).cc 17 = .ok (.getfield 33, 3) := by decide +kernel
theorem d_Mo_search_20 : decode (M_Mo_search).cc 20 = .ok (.iconst 0, 1) := by decide +kernel
theorem d_Mo_search_21 : decode (M_Mo_search).cc 21 = .ok (.iconst 3, 1) := by decide +kernel
theorem d_Mo_search_22 : decode (M_Mo_search).cc 22 = .ok (.iastore, 1) := by decide +kernel
theorem d_Mo_search_23 : decode (M_Mo_search).cc 23 = .ok (.iload_n 2, 1) := by decide +kernel
theorem d_Mo_search_24 : decode (M_Mo_search).cc 24 = .ok (.ifCond .lt 180, 3) := by decide +kernel
theorem d_Mo_search_27 : decode (M_Mo_search).cc 27 = .ok (.aload_n 0, 1) := by decide +kernel
theorem d_Mo_search_28 : decode (M_Mo_search).cc 28 = .ok (.getfield 120, 3) := by decide +kernel
theorem d_Mo_search_31 : decode (M_Mo_search).cc 31 = .ok (.sipush 500, 3) := by decide +kernel
theorem d_Mo_search_34 : decode (M_Mo_search).cc 34 = .ok (.if_icmp .gt 170, 3) := by decide +kernel
theorem d_Mo_search_37 : decode (M_Mo_search).cc 37 = .ok (.iload_n 2, 1) := by decide +kernel
theorem d_Mo_search_38 : decode (M_Mo_search).cc 38 = .ok (.iload_n 1, 1) := by decide +kernel
theorem d_Mo_search_39 : decode (M_Mo_search).cc 39 = .ok (.if_icmp .ne 30, 3) := by decide +kernel
theorem d_Mo_search_42 : decode (M_Mo_search).cc 42 = .ok (.aload_n 0, 1) := by decide +kernel
theorem d_Mo_search_43 : decode (M_Mo_search).cc 43 = .ok (.iload_n 1, 1) := by decide +kernel
theorem d_Mo_search_44 : decode (M_Mo_search).cc 44 = .ok (.invokevirtual 144, 3) := by decide +kernel
theorem d_Mo_search_47 : decode (M_Mo_search).cc 47 = .ok (.iinc 2 (-1), 3) := by decide +kernel
theorem d_Mo_search_50 : decode (M_Mo_search).cc 50 = .ok (.iload_n 2, 1) := by decide +kernel
theorem d_Mo_search_51 : decode (M_Mo_search).cc 51 = .ok (.ifCond .lt (-28), 3) := by decide +kernel
theorem d_Mo_search_54 : decode (M_Mo_search).cc 54 = .ok (.aload_n 0, 1) := by decide +kernel
theorem d_Mo_search_55 : decode (M_Mo_search).cc 55 = .ok (.iload_n 2, 1) := by decide +kernel
theorem d_Mo_search_56 : decode (M_Mo_search).cc 56 = .ok (.aload_n 0, 1) := by decide +kernel
theorem d_Mo_search_57 : decode (M_Mo_search).cc 57 = .ok (.getfield 27, 3) := by decide +kernel
theorem d_Mo_search_60 : decode (M_Mo_search).cc 60 = .ok (.iload_n 2, 1) := by decide +kernel
theorem d_Mo_search_61 : decode (M_Mo_search).cc 61 = .ok (.iaload, 1) := by decide +kernel
theorem d_Mo_search_62 : decode (M_Mo_search).cc 62 = .ok (.ineg, 1) := by decide +kernel
theorem d_Mo_search_63 : decode (M_Mo_search).cc 63 = .ok (.invokevirtual 148, 3) := by decide +kernel
theorem d_Mo_search_66 : decode (M_Mo_search).cc 66 = .ok (.goto (-43), 3) := by decide +kernel
theorem d_Mo_search_69 : decode (M_Mo_search).cc 69 = .ok (.aload_n 0, 1) := by decide +kernel
theorem d_Mo_search_70 : decode (M_Mo_search).cc 70 = .ok (.getfield 33, 3) := by decide +kernel
theorem d_Mo_search_73 : decode (M_Mo_search).cc 73 = .ok (.iload_n 2, 1) := by decide +kernel
theorem d_Mo_search_74 : decode (M_Mo_search).cc 74 = .ok (.iaload, 1) := by decide +kernel
theorem d_Mo_search_75 : decode (M_Mo_search).cc 75 = .ok (.aload_n 0, 1) := by decide +kernel
theorem d_Mo_search_76 : decode (M_Mo_search).cc 76 = .ok (.getfield 123, 3) := by decide +kernel
theorem d_Mo_search_79 : decode (M_Mo_search).cc 79 = .ok (.invokestatic 152, 3) := by decide +kernel
theorem d_Mo_search_82 : decode (M_Mo_search).cc 82 = .ok (.aload_n 0, 1) := by decide +kernel
theorem d_Mo_search_83 : decode (M_Mo_search).cc 83 = .ok (.getfield 30, 3) := by decide +kernel
theorem d_Mo_search_86 : decode (M_Mo_search).cc 86 = .ok (.iload_n 2, 1) := by decide +kernel
theorem d_Mo_search_87 : decode (M_Mo_search).cc 87 = .ok (.invokestatic 138, 3) := by decide +kernel
theorem d_Mo_search_90 : decode (M_Mo_search).cc 90 = .ok (.iaload, 1) := by decide +kernel
theorem d_Mo_search_91 : decode (M_Mo_search).cc 91 = .ok (.aload_n 0, 1) := by decide +kernel
theorem d_Mo_search_92 : decode (M_Mo_search).cc 92 = .ok (.getfield 30, 3) := by decide +kernel
theorem d_Mo_search_95 : decode (M_Mo_search).cc 95 = .ok (.iload_n 2, 1) := by decide +kernel
theorem d_Mo_search_96 : decode (M_Mo_search).cc 96 = .ok (.invokestatic 141, 3) := by decide +kernel
theorem d_Mo_search_99 : decode (M_Mo_search).cc 99 = .ok (.iaload, 1) := by decide +kernel
theorem d_Mo_search_100 : decode (M_Mo_search).cc 100 = .ok (.invokestatic 152, 3) := by decide +kernel
theorem d_Mo_search_103 : decode (M_Mo_search).cc 103 = .ok (.invokestatic 152, 3) := by decide +kernel
theorem d_Mo_search_106 : decode (M_Mo_search).cc 106 = .ok (.istore_n 3, 1) := by decide +kernel
theorem d_Mo_search_107 : decode (M_Mo_search).cc 107 = .ok (.iload_n 3, 1) := by decide +kernel
theorem d_Mo_search_108 : decode (M_Mo_search).cc 108 = .ok (.ifCond .ge 25, 3) := by decide +kernel
theorem d_Mo_search_111 : decode (M_Mo_search).cc 111 = .ok (.iinc 2 (-1), 3) := by decide +kernel
theorem d_Mo_search_114 : decode (M_Mo_search).cc 114 = .ok (.iload_n 2, 1) := by decide +kernel
theorem d_Mo_search_115 : decode (M_Mo_search).cc 115 = .ok (.ifCond .lt 86, 3) := by decide +kernel
theorem d_Mo_search_118 : decode (M_Mo_search).cc 118 = .ok (.aload_n 0, 1) := by decide +kernel
theorem d_Mo_search_119 : decode (M_Mo_search).cc 119 = .ok (.iload_n 2, 1) := by decide +kernel
theorem d_Mo_search_120 : decode (M_Mo_search).cc 120 = .ok (.aload_n 0, 1) := by decide +kernel
theorem d_Mo_search_121 : decode (M_Mo_search).cc 121 = .ok (.getfield 27, 3) := by decide +kernel
theorem d_Mo_search_124 : decode (M_Mo_search).cc 124 = .ok (.iload_n 2, 1) := by decide +kernel
theorem d_Mo_search_125 : decode (M_Mo_search).cc 125 = .ok (.iaload, 1) := by decide +kernel
theorem d_Mo_search_126 : decode (M_Mo_search).cc 126 = .ok (.ineg, 1) := by decide +kernel
theorem d_Mo_search_127 : decode (M_Mo_search).cc 127 = .ok (.invokevirtual 148, 3) := by decide +kernel
theorem d_Mo_search_130 : decode (M_Mo_search).cc 130 = .ok (.goto 71, 3) := by decide +kernel
theorem d_Mo_search_133 : decode (M_Mo_search).cc 133 = .ok (.aload_n 0, 1) := by decide +kernel
theorem d_Mo_search_134 : decode (M_Mo_search).cc 134 = .ok (.getfield 33, 3) := by decide +kernel
theorem d_Mo_search_137 : decode (M_Mo_search).cc 137 = .ok (.iload_n 2, 1) := by decide +kernel
theorem d_Mo_search_138 : decode (M_Mo_search).cc 138 = .ok (.iload_n 3, 1) := by decide +kernel
theorem d_Mo_search_139 : decode (M_Mo_search).cc 139 = .ok (.iconst 1, 1) := by decide +kernel
theorem d_Mo_search_140 : decode (M_Mo_search).cc 140 = .ok (.isub, 1) := by decide +kernel
theorem d_Mo_search_141 : decode (M_Mo_search).cc 141 = .ok (.iastore, 1) := by decide +kernel
theorem d_Mo_search_142 : decode (M_Mo_search).cc 142 = .ok (.aload_n 0, 1) := by decide +kernel
theorem d_Mo_search_143 : decode (M_Mo_search).cc 143 = .ok (.getfield 27, 3) := by decide +kernel
theorem d_Mo_search_146 : decode (M_Mo_search).cc 146 = .ok (.iload_n 2, 1) := by decide +kernel
theorem d_Mo_search_147 : decode (M_Mo_search).cc 147 = .ok (.iload_n 3, 1) := by decide +kernel
theorem d_Mo_search_148 : decode (M_Mo_search).cc 148 = .ok (.iastore, 1) := by decide +kernel
theorem d_Mo_search_149 : decode (M_Mo_search).cc 149 = .ok (.aload_n 0, 1) := by decide +kernel
theorem d_Mo_search_150 : decode (M_Mo_search).cc 150 = .ok (.iload_n 2, 1) := by decide +kernel
theorem d_Mo_search_151 : decode (M_Mo_search).cc 151 = .ok (.iload_n 3, 1) := by decide +kernel
theorem d_Mo_search_152 : decode (M_Mo_search).cc 152 = .ok (.invokevirtual 148, 3) := by decide +kernel
theorem d_Mo_search_155 : decode (M_Mo_search).cc 155 = .ok (.iload_n 2, 1) := by decide +kernel
theorem d_Mo_search_156 : decode (M_Mo_search).cc 156 = .ok (.invokestatic 141, 3) := by decide +kernel
theorem d_Mo_search_159 : decode (M_Mo_search).cc 159 = .ok (.iload_n 2, 1) := by decide +kernel
theorem d_Mo_search_160 : decode (M_Mo_search).cc 160 = .ok (.invokestatic 138, 3) := by decide +kernel
theorem d_Mo_search_163 : decode (M_Mo_search).cc 163 = .ok (.iconst 1, 1) := by decide +kernel
theorem d_Mo_search_164 : decode (M_Mo_search).cc 164 = .ok (.isub, 1) := by decide +kernel
theorem d_Mo_search_165 : decode (M_Mo_search).cc 165 = .ok (.if_icmp .ne 26, 3) := by decide +kernel
theorem d_Mo_search_168 : decode (M_Mo_search).cc 168 = .ok (.aload_n 0, 1) := by decide +kernel
theorem d_Mo_search_169 : decode (M_Mo_search).cc 169 = .ok (.iload_n 2, 1) := by decide +kernel
theorem d_Mo_search_170 : decode (M_Mo_search).cc 170 = .ok (.invokestatic 138, 3) := by decide +kernel
theorem d_Mo_search_173 : decode (M_Mo_search).cc 173 = .ok (.iconst 1, 1) := by decide +kernel
theorem d_Mo_search_174 : decode (M_Mo_search).cc 174 = .ok (.iadd, 1) := by decide +kernel
theorem d_Mo_search_175 : decode (M_Mo_search).cc 175 = .ok (.invokevirtual 155, 3) := by decide +kernel
theorem d_Mo_search_178 : decode (M_Mo_search).cc 178 = .ok (.ifCond .ge 13, 3) := by decide +kernel
theorem d_Mo_search_181 : decode (M_Mo_search).cc 181 = .ok (.aload_n 0, 1) := by decide +kernel
theorem d_Mo_search_182 : decode (M_Mo_search).cc 182 = .ok (.iload_n 2, 1) := by decide +kernel
theorem d_Mo_search_183 : decode (M_Mo_search).cc 183 = .ok (.iload_n 3, 1) := by decide +kernel
theorem d_Mo_search_184 : decode (M_Mo_search).cc 184 = .ok (.ineg, 1) := by decide +kernel
theorem d_Mo_search_185 : decode (M_Mo_search).cc 185 = .ok (.invokevirtual 148, 3) := by decide +kernel
theorem d_Mo_search_188 : decode (M_Mo_search).cc 188 = .ok (.goto 13, 3) := by decide +kernel
theorem d_Mo_search_191 : decode (M_Mo_search).cc 191 = .ok (.iinc 2 1, 3) := by decide +kernel
theorem d_Mo_search_194 : decode (M_Mo_search).cc 194 = .ok (.aload_n 0, 1) := by decide +kernel
theorem d_Mo_search_195 : decode (M_Mo_search).cc 195 = .ok (.getfield 33, 3) := by decide +kernel
theorem d_Mo_search_198 : decode (M_Mo_search).cc 198 = .ok (.iload_n 2, 1) := by decide +kernel
theorem d_Mo_search_199 : decode (M_Mo_search).cc 199 = .ok (.iconst 3, 1) := by decide +kernel
theorem d_Mo_search_200 : decode (M_Mo_search).cc 200 = .ok (.iastore, 1) := by decide +kernel
theorem d_Mo_search_201 : decode (M_Mo_search).cc 201 = .ok (.goto (-178), 3) := by decide +kernel
theorem d_Mo_search_204 : decode (M_Mo_search).cc 204 = .ok (.return_, 1) := by decide +kernel
theorem d_Mo_keep_0 : decode (M_Mo_keep).cc 0 = .ok (.aload_n 0, 1) := by decide +kernel
theorem d_Mo_keep_1 : decode (M_Mo_keep).cc 1 = .ok (.getfield 123, 3) := by decide +kernel
theorem d_Mo_keep_4 : decode (M_Mo_keep).cc 4 = .ok (.ifCond .gt 11, 3) := by decide +kernel
theorem d_Mo_keep_7 : decode (M_Mo_keep).cc 7 = .ok (.aload_n 0, 1) := by decide +kernel
theorem d_Mo_keep_8 : decode (M_Mo_keep).cc 8 = .ok (.iload_n 1, 1) := by decide +kernel
theorem d_Mo_keep_9 : decode (M_Mo_keep).cc 9 = .ok (.invokevirtual 158, 3) := by decide +kernel
theorem d_Mo_keep_12 : decode (M_Mo_keep).cc 12 = .ok (.ifCond .ne 4, 3) := by decide +kernel
theorem d_Mo_keep_15 : decode (M_Mo_keep).cc 15 = .ok (.return_, 1) := by decide +kernel
theorem d_Mo_keep_16 : decode (M_Mo_keep).cc 16 = .ok (.iconst 0, 1) := by decide +kernel
theorem d_Mo_keep_17 : decode (M_Mo_keep).cc 17 = .ok (.istore_n 2, 1) := by decide +kernel
theorem d_Mo_keep_18 : decode (M_Mo_keep).cc 18 = .ok (.iload_n 2, 1) := by decide +kernel
theorem d_Mo_keep_19 : decode (M_Mo_keep).cc 19 = .ok (.bipush 15, 2) := by decide +kernel
theorem d_Mo_keep_21 : decode (M_Mo_keep).cc 21 = .ok (.if_icmp .ge 38, 3) := by decide +kernel
theorem d_Mo_keep_24 : decode (M_Mo_keep).cc 24 = .ok (.aload_n 0, 1) := by decide +kernel
theorem d_Mo_keep_25 : decode (M_Mo_keep).cc 25 = .ok (.getfield 36, 3) := by decide +kernel
theorem d_Mo_keep_28 : decode (M_Mo_keep).cc 28 = .ok (.bipush 15, 2) := by decide +kernel
theorem d_Mo_keep_30 : decode (M_Mo_keep).cc 30 = .ok (.aload_n 0, 1) := by decide +kernel
theorem d_Mo_keep_31 : decode (M_Mo_keep).cc 31 = .ok (.getfield 120, 3) := by decide +kernel
theorem d_Mo_keep_34 : decode (M_Mo_keep).cc 34 = .ok (.imul, 1) := by decide +kernel
theorem d_Mo_keep_35 : decode (M_Mo_keep).cc 35 = .ok (.iload_n 2, 1) := by decide +kernel
theorem d_Mo_keep_36 : decode (M_Mo_keep).cc 36 = .ok (.iadd, 1) := by decide +kernel
theorem d_Mo_keep_37 : decode (M_Mo_keep).cc 37 = .ok (.iload_n 2, 1) := by decide +kernel
theorem d_Mo_keep_38 : decode (M_Mo_keep).cc 38 = .ok (.iload_n 1, 1) := by decide +kernel
theorem d_Mo_keep_39 : decode (M_Mo_keep).cc 39 = .ok (.if_icmp .ge 12, 3) := by decide +kernel
theorem d_Mo_keep_42 : decode (M_Mo_keep).cc 42 = .ok (.aload_n 0, 1) := by decide +kernel
theorem d_Mo_keep_43 : decode (M_Mo_keep).cc 43 = .ok (.getfield 27, 3) := by decide +kernel
theorem d_Mo_keep_46 : decode (M_Mo_keep).cc 46 = .ok (.iload_n 2, 1) := by decide +kernel
theorem d_Mo_keep_47 : decode (M_Mo_keep).cc 47 = .ok (.iaload, 1) := by decide +kernel
theorem d_Mo_keep_48 : decode (M_Mo_keep).cc 48 = .ok (.goto 4, 3) := by decide +kernel
theorem d_Mo_keep_51 : decode (M_Mo_keep).cc 51 = .ok (.iconst 0, 1) := by decide +kernel
theorem d_Mo_keep_52 : decode (M_Mo_keep).cc 52 = .ok (.iastore, 1) := by decide +kernel
theorem d_Mo_keep_53 : decode (M_Mo_keep).cc 53 = .ok (.iinc 2 1, 3) := by decide +kernel
theorem d_Mo_keep_56 : decode (M_Mo_keep).cc 56 = .ok (.goto (-38), 3) := by decide +kernel
theorem d_Mo_keep_59 : decode (M_Mo_keep).cc 59 = .ok (.aload_n 0, 1) := by decide +kernel
theorem d_Mo_keep_60 : decode (M_Mo_keep).cc 60 = .ok (.dup, 1) := by decide +kernel
theorem d_Mo_keep_61 : decode (M_Mo_keep).cc 61 = .ok (.getfield 120, 3) := by decide +kernel
theorem d_Mo_keep_64 : decode (M_Mo_keep).cc 64 = .ok (.iconst 1, 1) := by decide +kernel
theorem d_Mo_keep_65 : decode (M_Mo_keep).cc 65 = .ok (.iadd, 1) := by decide +kernel
theorem d_Mo_keep_66 : decode (M_Mo_keep).cc 66 = .ok (.putfield 120, 3) := by decide +kernel
theorem d_Mo_keep_69 : decode (M_Mo_keep).cc 69 = .ok (.return_, 1) := by decide +kernel
theorem d_Mo_isOne_0 : decode (M_Mo_isOne).cc 0 = .ok (.iconst 1, 1) := by decide +kernel
theorem d_Mo_isOne_1 : decode (M_Mo_isOne).cc 1 = .ok (.istore_n 2, 1) := by decide +kernel
theorem d_Mo_isOne_2 : decode (M_Mo_isOne).cc 2 = .ok (.iconst 0, 1) := by decide +kernel
theorem d_Mo_isOne_3 : decode (M_Mo_isOne).cc 3 = .ok (.istore_n 3, 1) := by decide +kernel
theorem d_Mo_isOne_4 : decode (M_Mo_isOne).cc 4 = .ok (.iload_n 3, 1) := by decide +kernel
theorem d_Mo_isOne_5 : decode (M_Mo_isOne).cc 5 = .ok (.bipush 6, 2) := by decide +kernel
theorem d_Mo_isOne_7 : decode (M_Mo_isOne).cc 7 = .ok (.if_icmp .ge 67, 3) := by decide +kernel
theorem d_Mo_isOne_10 : decode (M_Mo_isOne).cc 10 = .ok (.iconst 0, 1) := by decide +kernel
theorem d_Mo_isOne_11 : decode (M_Mo_isOne).cc 11 = .ok (.istore 4, 2) := by decide +kernel
theorem d_Mo_isOne_13 : decode (M_Mo_isOne).cc 13 = .ok (.iload 4, 2) := by decide +kernel
theorem d_Mo_isOne_15 : decode (M_Mo_isOne).cc 15 = .ok (.iload_n 1, 1) := by decide +kernel
theorem d_Mo_isOne_16 : decode (M_Mo_isOne).cc 16 = .ok (.if_icmp .ge 52, 3) := by decide +kernel
theorem d_Mo_isOne_19 : decode (M_Mo_isOne).cc 19 = .ok (.iconst 1, 1) := by decide +kernel
theorem d_Mo_isOne_20 : decode (M_Mo_isOne).cc 20 = .ok (.iload 4, 2) := by decide +kernel
theorem d_Mo_isOne_22 : decode (M_Mo_isOne).cc 22 = .ok (.invokestatic 138, 3) := by decide +kernel
theorem d_Mo_isOne_25 : decode (M_Mo_isOne).cc 25 = .ok (.ishl, 1) := by decide +kernel
theorem d_Mo_isOne_26 : decode (M_Mo_isOne).cc 26 = .ok (.iconst 1, 1) := by decide +kernel
theorem d_Mo_isOne_27 : decode (M_Mo_isOne).cc 27 = .ok (.iload 4, 2) := by decide +kernel
theorem d_Mo_isOne_29 : decode (M_Mo_isOne).cc 29 = .ok (.invokestatic 141, 3) := by decide +kernel
theorem d_Mo_isOne_32 : decode (M_Mo_isOne).cc 32 = .ok (.ishl, 1) := by decide +kernel
theorem d_Mo_isOne_33 : decode (M_Mo_isOne).cc 33 = .ok (.ior, 1) := by decide +kernel
theorem d_Mo_isOne_34 : decode (M_Mo_isOne).cc 34 = .ok (.istore 5, 2) := by decide +kernel
theorem d_Mo_isOne_36 : decode (M_Mo_isOne).cc 36 = .ok (.aload_n 0, 1) := by decide +kernel
theorem d_Mo_isOne_37 : decode (M_Mo_isOne).cc 37 = .ok (.getfield 27, 3) := by decide +kernel
theorem d_Mo_isOne_40 : decode (M_Mo_isOne).cc 40 = .ok (.iload 4, 2) := by decide +kernel
theorem d_Mo_isOne_42 : decode (M_Mo_isOne).cc 42 = .ok (.iaload, 1) := by decide +kernel
theorem d_Mo_isOne_43 : decode (M_Mo_isOne).cc 43 = .ok (.ifCond .le 17, 3) := by decide +kernel
theorem d_Mo_isOne_46 : decode (M_Mo_isOne).cc 46 = .ok (.iload_n 2, 1) := by decide +kernel
theorem d_Mo_isOne_47 : decode (M_Mo_isOne).cc 47 = .ok (.iload 5, 2) := by decide +kernel
theorem d_Mo_isOne_49 : decode (M_Mo_isOne).cc 49 = .ok (.iand, 1) := by decide +kernel
theorem d_Mo_isOne_50 : decode (M_Mo_isOne).cc 50 = .ok (.ifCond .eq 10, 3) := by decide +kernel
theorem d_Mo_isOne_53 : decode (M_Mo_isOne).cc 53 = .ok (.iload_n 2, 1) := by decide +kernel
theorem d_Mo_isOne_54 : decode (M_Mo_isOne).cc 54 = .ok (.iload 5, 2) := by decide +kernel
theorem d_Mo_isOne_56 : decode (M_Mo_isOne).cc 56 = .ok (.ior, 1) := by decide +kernel
theorem d_Mo_isOne_57 : decode (M_Mo_isOne).cc 57 = .ok (.goto 4, 3) := by decide +kernel
theorem d_Mo_isOne_60 : decode (M_Mo_isOne).cc 60 = .ok (.iload_n 2, 1) := by decide +kernel
theorem d_Mo_isOne_61 : decode (M_Mo_isOne).cc 61 = .ok (.istore_n 2, 1) := by decide +kernel
theorem d_Mo_isOne_62 : decode (M_Mo_isOne).cc 62 = .ok (.iinc 4 1, 3) := by decide +kernel
theorem d_Mo_isOne_65 : decode (M_Mo_isOne).cc 65 = .ok (.goto (-52), 3) := by decide +kernel
theorem d_Mo_isOne_68 : decode (M_Mo_isOne).cc 68 = .ok (.iinc 3 1, 3) := by decide +kernel
theorem d_Mo_isOne_71 : decode (M_Mo_isOne).cc 71 = .ok (.goto (-67), 3) := by decide +kernel
theorem d_Mo_isOne_74 : decode (M_Mo_isOne).cc 74 = .ok (.iload_n 2, 1) := by decide +kernel
theorem d_Mo_isOne_75 : decode (M_Mo_isOne).cc 75 = .ok (.iconst 1, 1) := by decide +kernel
theorem d_Mo_isOne_76 : decode (M_Mo_isOne).cc 76 = .ok (.aload_n 0, 1) := by decide +kernel
theorem d_Mo_isOne_77 : decode (M_Mo_isOne).cc 77 = .ok (.getfield 117, 3) := by decide +kernel
theorem d_Mo_isOne_80 : decode (M_Mo_isOne).cc 80 = .ok (.ishl, 1) := by decide +kernel
theorem d_Mo_isOne_81 : decode (M_Mo_isOne).cc 81 = .ok (.iconst 1, 1) := by decide +kernel
theorem d_Mo_isOne_82 : decode (M_Mo_isOne).cc 82 = .ok (.isub, 1) := by decide +kernel
theorem d_Mo_isOne_83 : decode (M_Mo_isOne).cc 83 = .ok (.if_icmp .ne 7, 3) := by decide +kernel
theorem d_Mo_isOne_86 : decode (M_Mo_isOne).cc 86 = .ok (.iconst 1, 1) := by decide +kernel
theorem d_Mo_isOne_87 : decode (M_Mo_isOne).cc 87 = .ok (.goto 4, 3) := by decide +kernel
theorem d_Mo_isOne_90 : decode (M_Mo_isOne).cc 90 = .ok (.iconst 0, 1) := by decide +kernel
theorem d_Mo_isOne_91 : decode (M_Mo_isOne).cc 91 = .ok (.ireturn, 1) := by decide +kernel
theorem d_Mo_upper_0 : decode (M_Mo_upper).cc 0 = .ok (.iconst 1, 1) := by decide +kernel
theorem d_Mo_upper_1 : decode (M_Mo_upper).cc 1 = .ok (.istore_n 1, 1) := by decide +kernel
theorem d_Mo_upper_2 : decode (M_Mo_upper).cc 2 = .ok (.iload_n 1, 1) := by decide +kernel
theorem d_Mo_upper_3 : decode (M_Mo_upper).cc 3 = .ok (.iload_n 1, 1) := by decide +kernel
theorem d_Mo_upper_4 : decode (M_Mo_upper).cc 4 = .ok (.iconst 1, 1) := by decide +kernel
theorem d_Mo_upper_5 : decode (M_Mo_upper).cc 5 = .ok (.iadd, 1) := by decide +kernel
theorem d_Mo_upper_6 : decode (M_Mo_upper).cc 6 = .ok (.imul, 1) := by decide +kernel
theorem d_Mo_upper_7 : decode (M_Mo_upper).cc 7 = .ok (.iconst 2, 1) := by decide +kernel
theorem d_Mo_upper_8 : decode (M_Mo_upper).cc 8 = .ok (.idiv, 1) := by decide +kernel
theorem d_Mo_upper_9 : decode (M_Mo_upper).cc 9 = .ok (.iload_n 0, 1) := by decide +kernel
theorem d_Mo_upper_10 : decode (M_Mo_upper).cc 10 = .ok (.if_icmp .gt 9, 3) := by decide +kernel
theorem d_Mo_upper_13 : decode (M_Mo_upper).cc 13 = .ok (.iinc 1 1, 3) := by decide +kernel
theorem d_Mo_upper_16 : decode (M_Mo_upper).cc 16 = .ok (.goto (-14), 3) := by decide +kernel
theorem d_Mo_upper_19 : decode (M_Mo_upper).cc 19 = .ok (.iload_n 1, 1) := by decide +kernel
theorem d_Mo_upper_20 : decode (M_Mo_upper).cc 20 = .ok (.ireturn, 1) := by decide +kernel
theorem d_Mo_lower_0 : decode (M_Mo_lower).cc 0 = .ok (.iload_n 0, 1) := by decide +kernel
theorem d_Mo_lower_1 : decode (M_Mo_lower).cc 1 = .ok (.iload_n 0, 1) := by decide +kernel
theorem d_Mo_lower_2 : decode (M_Mo_lower).cc 2 = .ok (.invokestatic 138, 3) := by decide +kernel
theorem d_Mo_lower_5 : decode (M_Mo_lower).cc 5 = .ok (.iload_n 0, 1) := by decide +kernel
theorem d_Mo_lower_6 : decode (M_Mo_lower).cc 6 = .ok (.invokestatic 138, 3) := by decide +kernel
theorem d_Mo_lower_9 : decode (M_Mo_lower).cc 9 = .ok (.iconst 1, 1) := by decide +kernel
theorem d_Mo_lower_10 : decode (M_Mo_lower).cc 10 = .ok (.isub, 1) := by decide +kernel
theorem d_Mo_lower_11 : decode (M_Mo_lower).cc 11 = .ok (.imul, 1) := by decide +kernel
theorem d_Mo_lower_12 : decode (M_Mo_lower).cc 12 = .ok (.iconst 2, 1) := by decide +kernel
theorem d_Mo_lower_13 : decode (M_Mo_lower).cc 13 = .ok (.idiv, 1) := by decide +kernel
theorem d_Mo_lower_14 : decode (M_Mo_lower).cc 14 = .ok (.isub, 1) := by decide +kernel
theorem d_Mo_lower_15 : decode (M_Mo_lower).cc 15 = .ok (.ireturn, 1) := by decide +kernel
theorem d_Mo_change_0 : decode (M_Mo_change).cc 0 = .ok (.aload_n 0, 1) := by decide +kernel
theorem d_Mo_change_1 : decode (M_Mo_change).cc 1 = .ok (.getfield 30, 3) := by decide +kernel
theorem d_Mo_change_4 : decode (M_Mo_change).cc 4 = .ok (.iload_n 1, 1) := by decide +kernel
theorem d_Mo_change_5 : decode (M_Mo_change).cc 5 = .ok (.invokestatic 138, 3) := by decide +kernel
theorem d_Mo_change_8 : decode (M_Mo_change).cc 8 = .ok (.aload_n 0, 1) := by decide +kernel
theorem d_Mo_change_9 : decode (M_Mo_change).cc 9 = .ok (.getfield 30, 3) := by decide +kernel
theorem d_Mo_change_12 : decode (M_Mo_change).cc 12 = .ok (.iload_n 1, 1) := by decide +kernel
theorem d_Mo_change_13 : decode (M_Mo_change).cc 13 = .ok (.invokestatic 138, 3) := by decide +kernel
theorem d_Mo_change_16 : decode (M_Mo_change).cc 16 = .ok (.iaload, 1) := by decide +kernel
theorem d_Mo_change_17 : decode (M_Mo_change).cc 17 = .ok (.iload_n 2, 1) := by decide +kernel
theorem d_Mo_change_18 : decode (M_Mo_change).cc 18 = .ok (.isub, 1) := by decide +kernel
theorem d_Mo_change_19 : decode (M_Mo_change).cc 19 = .ok (.iastore, 1) := by decide +kernel
theorem d_Mo_change_20 : decode (M_Mo_change).cc 20 = .ok (.aload_n 0, 1) := by decide +kernel
theorem d_Mo_change_21 : decode (M_Mo_change).cc 21 = .ok (.getfield 30, 3) := by decide +kernel
theorem d_Mo_change_24 : decode (M_Mo_change).cc 24 = .ok (.iload_n 1, 1) := by decide +kernel
theorem d_Mo_change_25 : decode (M_Mo_change).cc 25 = .ok (.invokestatic 141, 3) := by decide +kernel
theorem d_Mo_change_28 : decode (M_Mo_change).cc 28 = .ok (.aload_n 0, 1) := by decide +kernel
theorem d_Mo_change_29 : decode (M_Mo_change).cc 29 = .ok (.getfield 30, 3) := by decide +kernel
theorem d_Mo_change_32 : decode (M_Mo_change).cc 32 = .ok (.iload_n 1, 1) := by decide +kernel
theorem d_Mo_change_33 : decode (M_Mo_change).cc 33 = .ok (.invokestatic 141, 3) := by decide +kernel
theorem d_Mo_change_36 : decode (M_Mo_change).cc 36 = .ok (.iaload, 1) := by decide +kernel
theorem d_Mo_change_37 : decode (M_Mo_change).cc 37 = .ok (.iload_n 2, 1) := by decide +kernel
theorem d_Mo_change_38 : decode (M_Mo_change).cc 38 = .ok (.isub, 1) := by decide +kernel
theorem d_Mo_change_39 : decode (M_Mo_change).cc 39 = .ok (.iastore, 1) := by decide +kernel
theorem d_Mo_change_40 : decode (M_Mo_change).cc 40 = .ok (.aload_n 0, 1) := by decide +kernel
theorem d_Mo_change_41 : decode (M_Mo_change).cc 41 = .ok (.aload_n 0, 1) := by decide +kernel
theorem d_Mo_change_42 : decode (M_Mo_change).cc 42 = .ok (.getfield 123, 3) := by decide +kernel
theorem d_Mo_change_45 : decode (M_Mo_change).cc 45 = .ok (.iload_n 2, 1) := by decide +kernel
theorem d_Mo_change_46 : decode (M_Mo_change).cc 46 = .ok (.isub, 1) := by decide +kernel
theorem d_Mo_change_47 : decode (M_Mo_change).cc 47 = .ok (.putfield 123, 3) := by decide +kernel
theorem d_Mo_change_50 : decode (M_Mo_change).cc 50 = .ok (.return_, 1) := by decide +kernel
theorem d_Mo_least_0 : decode (M_Mo_least).cc 0 = .ok (.iload_n 0, 1) := by decide +kernel
theorem d_Mo_least_1 : decode (M_Mo_least).cc 1 = .ok (.iload_n 1, 1) := by decide +kernel
theorem d_Mo_least_2 : decode (M_Mo_least).cc 2 = .ok (.if_icmp .ge 7, 3) := by decide +kernel
theorem d_Mo_least_5 : decode (M_Mo_least).cc 5 = .ok (.iload_n 0, 1) := by decide +kernel
theorem d_Mo_least_6 : decode (M_Mo_least).cc 6 = .ok (.goto 4, 3) := by decide +kernel
theorem d_Mo_least_9 : decode (M_Mo_least).cc 9 = .ok (.iload_n 1, 1) := by decide +kernel
theorem d_Mo_least_10 : decode (M_Mo_least).cc 10 = .ok (.ireturn, 1) := by decide +kernel
theorem d_Mo_numberings_0 : decode (M_Mo_numberings).cc 0 = .ok (.iconst 0, 1) := by decide +kernel
theorem d_Mo_numberings_1 : decode (M_Mo_numberings).cc 1 = .ok (.istore_n 2, 1) := by decide +kernel
theorem d_Mo_numberings_2 : decode (M_Mo_numberings).cc 2 = .ok (.iconst 0, 1) := by decide +kernel
theorem d_Mo_numberings_3 : decode (M_Mo_numberings).cc 3 = .ok (.istore_n 3, 1) := by decide +kernel
theorem d_Mo_numberings_4 : decode (M_Mo_numberings).cc 4 = .ok (.aload_n 0, 1) := by decide +kernel
theorem d_Mo_numberings_5 : decode (M_Mo_numberings).cc 5 = .ok (.getfield 39, 3) := by decide +kernel
theorem d_Mo_numberings_8 : decode (M_Mo_numberings).cc 8 = .ok (.iconst 0, 1) := by decide +kernel
theorem d_Mo_numberings_9 : decode (M_Mo_numberings).cc 9 = .ok (.iconst (-1), 1) := by decide +kernel
theorem d_Mo_numberings_10 : decode (M_Mo_numberings).cc 10 = .ok (.iastore, 1) := by decide +kernel
theorem d_Mo_numberings_11 : decode (M_Mo_numberings).cc 11 = .ok (.iconst 0, 1) := by decide +kernel
theorem d_Mo_numberings_12 : decode (M_Mo_numberings).cc 12 = .ok (.istore 4, 2) := by decide +kernel
theorem d_Mo_numberings_14 : decode (M_Mo_numberings).cc 14 = .ok (.iload 4, 2) := by decide +kernel
theorem d_Mo_numberings_16 : decode (M_Mo_numberings).cc 16 = .ok (.bipush 6, 2) := by decide +kernel
theorem d_Mo_numberings_18 : decode (M_Mo_numberings).cc 18 = .ok (.if_icmp .ge 17, 3) := by decide +kernel
theorem d_Mo_numberings_21 : decode (M_Mo_numberings).cc 21 = .ok (.aload_n 0, 1) := by decide +kernel
theorem d_Mo_numberings_22 : decode (M_Mo_numberings).cc 22 = .ok (.getfield 42, 3) := by decide +kernel
theorem d_Mo_numberings_25 : decode (M_Mo_numberings).cc 25 = .ok (.iload 4, 2) := by decide +kernel
theorem d_Mo_numberings_27 : decode (M_Mo_numberings).cc 27 = .ok (.iconst 0, 1) := by decide +kernel
theorem d_Mo_numberings_28 : decode (M_Mo_numberings).cc 28 = .ok (.bastore, 1) := by decide +kernel
theorem d_Mo_numberings_29 : decode (M_Mo_numberings).cc 29 = .ok (.iinc 4 1, 3) := by decide +kernel
theorem d_Mo_numberings_32 : decode (M_Mo_numberings).cc 32 = .ok (.goto (-18), 3) := by decide +kernel
theorem d_Mo_numberings_35 : decode (M_Mo_numberings).cc 35 = .ok (.iload_n 3, 1) := by decide +kernel
theorem d_Mo_numberings_36 : decode (M_Mo_numberings).cc 36 = .ok (.ifCond .lt 146, 3) := by decide +kernel
theorem d_Mo_numberings_39 : decode (M_Mo_numberings).cc 39 = .ok (.iload_n 3, 1) := by decide +kernel
theorem d_Mo_numberings_40 : decode (M_Mo_numberings).cc 40 = .ok (.iload_n 1, 1) := by decide +kernel
theorem d_Mo_numberings_41 : decode (M_Mo_numberings).cc 41 = .ok (.if_icmp .ne 12, 3) := by decide +kernel
theorem d_Mo_numberings_44 : decode (M_Mo_numberings).cc 44 = .ok (.iinc 2 1, 3) := by decide +kernel
theorem d_Mo_numberings_47 : decode (M_Mo_numberings).cc 47 = .ok (.iinc 3 (-1), 3) := by decide +kernel
theorem d_Mo_numberings_50 : decode (M_Mo_numberings).cc 50 = .ok (.goto (-15), 3) := by decide +kernel
theorem d_Mo_numberings_53 : decode (M_Mo_numberings).cc 53 = .ok (.aload_n 0, 1) := by decide +kernel
theorem d_Mo_numberings_54 : decode (M_Mo_numberings).cc 54 = .ok (.getfield 39, 3) := by decide +kernel
theorem d_Mo_numberings_57 : decode (M_Mo_numberings).cc 57 = .ok (.iload_n 3, 1) := by decide +kernel
theorem d_Mo_numberings_58 : decode (M_Mo_numberings).cc 58 = .ok (.iaload, 1) := by decide +kernel
theorem d_Mo_numberings_59 : decode (M_Mo_numberings).cc 59 = .ok (.ifCond .lt 15, 3) := by decide +kernel
theorem d_Mo_numberings_62 : decode (M_Mo_numberings).cc 62 = .ok (.aload_n 0, 1) := by decide +kernel
theorem d_Mo_numberings_63 : decode (M_Mo_numberings).cc 63 = .ok (.getfield 42, 3) := by decide +kernel
theorem d_Mo_numberings_66 : decode (M_Mo_numberings).cc 66 = .ok (.aload_n 0, 1) := by decide +kernel
theorem d_Mo_numberings_67 : decode (M_Mo_numberings).cc 67 = .ok (.getfield 39, 3) := by decide +kernel
theorem d_Mo_numberings_70 : decode (M_Mo_numberings).cc 70 = .ok (.iload_n 3, 1) := by decide +kernel
theorem d_Mo_numberings_71 : decode (M_Mo_numberings).cc 71 = .ok (.iaload, 1) := by decide +kernel
theorem d_Mo_numberings_72 : decode (M_Mo_numberings).cc 72 = .ok (.iconst 0, 1) := by decide +kernel
theorem d_Mo_numberings_73 : decode (M_Mo_numberings).cc 73 = .ok (.bastore, 1) := by decide +kernel
theorem d_Mo_numberings_74 : decode (M_Mo_numberings).cc 74 = .ok (.aload_n 0, 1) := by decide +kernel
theorem d_Mo_numberings_75 : decode (M_Mo_numberings).cc 75 = .ok (.getfield 39, 3) := by decide +kernel
theorem d_Mo_numberings_78 : decode (M_Mo_numberings).cc 78 = .ok (.iload_n 3, 1) := by decide +kernel
theorem d_Mo_numberings_79 : decode (M_Mo_numberings).cc 79 = .ok (.iaload, 1) := by decide +kernel
theorem d_Mo_numberings_80 : decode (M_Mo_numberings).cc 80 = .ok (.iconst 1, 1) := by decide +kernel
theorem d_Mo_numberings_81 : decode (M_Mo_numberings).cc 81 = .ok (.iadd, 1) := by decide +kernel
theorem d_Mo_numberings_82 : decode (M_Mo_numberings).cc 82 = .ok (.istore 4, 2) := by decide +kernel
theorem d_Mo_numberings_84 : decode (M_Mo_numberings).cc 84 = .ok (.iload 4, 2) := by decide +kernel
theorem d_Mo_numberings_86 : decode (M_Mo_numberings).cc 86 = .ok (.iload_n 1, 1) := by decide +kernel
theorem d_Mo_numberings_87 : decode (M_Mo_numberings).cc 87 = .ok (.if_icmp .ge 35, 3) := by decide +kernel
theorem d_Mo_numberings_90 : decode (M_Mo_numberings).cc 90 = .ok (.aload_n 0, 1) := by decide +kernel
theorem d_Mo_numberings_91 : decode (M_Mo_numberings).cc 91 = .ok (.getfield 42, 3) := by decide +kernel
theorem d_Mo_numberings_94 : decode (M_Mo_numberings).cc 94 = .ok (.iload 4, 2) := by decide +kernel
theorem d_Mo_numberings_96 : decode (M_Mo_numberings).cc 96 = .ok (.baload, 1) := by decide +kernel
theorem d_Mo_numberings_97 : decode (M_Mo_numberings).cc 97 = .ok (.ifCond .ne 19, 3) := by decide +kernel
theorem d_Mo_numberings_100 : decode (M_Mo_numberings).cc 100 = .ok (.aload_n 0, 1) := by decide +kernel
theorem d_Mo_numberings_101 : decode (M_Mo_numberings).cc 101 = .ok (.getfield 24, 3) := by decide +kernel
theorem d_Mo_numberings_104 : decode (M_Mo_numberings).cc 104 = .ok (.iload 4, 2) := by decide +kernel
theorem d_Mo_numberings_106 : decode (M_Mo_numberings).cc 106 = .ok (.iaload, 1) := by decide +kernel
theorem d_Mo_numberings_107 : decode (M_Mo_numberings).cc 107 = .ok (.aload_n 0, 1) := by decide +kernel
theorem d_Mo_numberings_108 : decode (M_Mo_numberings).cc 108 = .ok (.getfield 24, 3) := by decide +kernel
theorem d_Mo_numberings_111 : decode (M_Mo_numberings).cc 111 = .ok (.iload_n 3, 1) := by decide +kernel
theorem d_Mo_numberings_112 : decode (M_Mo_numberings).cc 112 = .ok (.iaload, 1) := by decide +kernel
theorem d_Mo_numberings_113 : decode (M_Mo_numberings).cc 113 = .ok (.if_icmp .eq 9, 3) := by decide +kernel
theorem d_Mo_numberings_116 : decode (M_Mo_numberings).cc 116 = .ok (.iinc 4 1, 3) := by decide +kernel
theorem d_Mo_numberings_119 : decode (M_Mo_numberings).cc 119 = .ok (.goto (-35), 3) := by decide +kernel
theorem d_Mo_numberings_122 : decode (M_Mo_numberings).cc 122 = .ok (.iload 4, 2) := by decide +kernel
theorem d_Mo_numberings_124 : decode (M_Mo_numberings).cc 124 = .ok (.iload_n 1, 1) := by decide +kernel
theorem d_Mo_numberings_125 : decode (M_Mo_numberings).cc 125 = .ok (.if_icmp .ne 9, 3) := by decide +kernel
theorem d_Mo_numberings_128 : decode (M_Mo_numberings).cc 128 = .ok (.iinc 3 (-1), 3) := by decide +kernel
theorem d_Mo_numberings_131 : decode (M_Mo_numberings).cc 131 = .ok (.goto 48, 3) := by decide +kernel
theorem d_Mo_numberings_134 : decode (M_Mo_numberings).cc 134 = .ok (.aload_n 0, 1) := by decide +kernel
theorem d_Mo_numberings_135 : decode (M_Mo_numberings).cc 135 = .ok (.getfield 39, 3) := by decide +kernel
theorem d_Mo_numberings_138 : decode (M_Mo_numberings).cc 138 = .ok (.iload_n 3, 1) := by decide +kernel
theorem d_Mo_numberings_139 : decode (M_Mo_numberings).cc 139 = .ok (.iload 4, 2) := by decide +kernel
theorem d_Mo_numberings_141 : decode (M_Mo_numberings).cc 141 = .ok (.iastore, 1) := by decide +kernel
theorem d_Mo_numberings_142 : decode (M_Mo_numberings).cc 142 = .ok (.aload_n 0, 1) := by decide +kernel
theorem d_Mo_numberings_143 : decode (M_Mo_numberings).cc 143 = .ok (.getfield 42, 3) := by decide +kernel
theorem d_Mo_numberings_146 : decode (M_Mo_numberings).cc 146 = .ok (.iload 4, 2) := by decide +kernel
theorem d_Mo_numberings_148 : decode (M_Mo_numberings).cc 148 = .ok (.iconst 1, 1) := by decide +kernel
theorem d_Mo_numberings_149 : decode (M_Mo_numberings).cc 149 = .ok (.bastore, 1) := by decide +kernel
theorem d_Mo_numberings_150 : decode (M_Mo_numberings).cc 150 = .ok (.aload_n 0, 1) := by decide +kernel
theorem d_Mo_numberings_151 : decode (M_Mo_numberings).cc 151 = .ok (.iload_n 3, 1) := by decide +kernel
theorem d_Mo_numberings_152 : decode (M_Mo_numberings).cc 152 = .ok (.invokevirtual 161, 3) := by decide +kernel
theorem d_Mo_numberings_155 : decode (M_Mo_numberings).cc 155 = .ok (.istore 5, 2) := by decide +kernel
theorem d_Mo_numberings_157 : decode (M_Mo_numberings).cc 157 = .ok (.iload 5, 2) := by decide +kernel
theorem d_Mo_numberings_159 : decode (M_Mo_numberings).cc 159 = .ok (.ifCond .le 5, 3) := by decide +kernel
theorem d_Mo_numberings_162 : decode (M_Mo_numberings).cc 162 = .ok (.iconst (-1), 1) := by decide +kernel
theorem d_Mo_numberings_163 : decode (M_Mo_numberings).cc 163 = .ok (.ireturn, 1) := by decide +kernel
theorem d_Mo_numberings_164 : decode (M_Mo_numberings).cc 164 = .ok (.iload 5, 2) := by decide +kernel
theorem d_Mo_numberings_166 : decode (M_Mo_numberings).cc 166 = .ok (.ifCond .ne 13, 3) := by decide +kernel
theorem d_Mo_numberings_169 : decode (M_Mo_numberings).cc 169 = .ok (.iinc 3 1, 3) := by decide +kernel
theorem d_Mo_numberings_172 : decode (M_Mo_numberings).cc 172 = .ok (.aload_n 0, 1) := by decide +kernel
theorem d_Mo_numberings_173 : decode (M_Mo_numberings).cc 173 = .ok (.getfield 39, 3) := by decide +kernel
theorem d_Mo_numberings_176 : decode (M_Mo_numberings).cc 176 = .ok (.iload_n 3, 1) := by decide +kernel
theorem d_Mo_numberings_177 : decode (M_Mo_numberings).cc 177 = .ok (.iconst (-1), 1) := by decide +kernel
theorem d_Mo_numberings_178 : decode (M_Mo_numberings).cc 178 = .ok (.iastore, 1) := by decide +kernel
theorem d_Mo_numberings_179 : decode (M_Mo_numberings).cc 179 = .ok (.goto (-144), 3) := by decide +kernel
theorem d_Mo_numberings_182 : decode (M_Mo_numberings).cc 182 = .ok (.iload_n 2, 1) := by decide +kernel
theorem d_Mo_numberings_183 : decode (M_Mo_numberings).cc 183 = .ok (.ireturn, 1) := by decide +kernel
theorem d_Mo_row_0 : decode (M_Mo_row).cc 0 = .ok (.iconst 0, 1) := by decide +kernel
theorem d_Mo_row_1 : decode (M_Mo_row).cc 1 = .ok (.istore_n 2, 1) := by decide +kernel
theorem d_Mo_row_2 : decode (M_Mo_row).cc 2 = .ok (.iload_n 2, 1) := by decide +kernel
theorem d_Mo_row_3 : decode (M_Mo_row).cc 3 = .ok (.iload_n 1, 1) := by decide +kernel
theorem d_Mo_row_4 : decode (M_Mo_row).cc 4 = .ok (.if_icmp .ge 60, 3) := by decide +kernel
theorem d_Mo_row_7 : decode (M_Mo_row).cc 7 = .ok (.aload_n 0, 1) := by decide +kernel
theorem d_Mo_row_8 : decode (M_Mo_row).cc 8 = .ok (.getfield 27, 3) := by decide +kernel
theorem d_Mo_row_11 : decode (M_Mo_row).cc 11 = .ok (.aload_n 0, 1) := by decide +kernel
theorem d_Mo_row_12 : decode (M_Mo_row).cc 12 = .ok (.getfield 39, 3) := by decide +kernel
theorem d_Mo_row_15 : decode (M_Mo_row).cc 15 = .ok (.iload_n 1, 1) := by decide +kernel
theorem d_Mo_row_16 : decode (M_Mo_row).cc 16 = .ok (.iaload, 1) := by decide +kernel
theorem d_Mo_row_17 : decode (M_Mo_row).cc 17 = .ok (.aload_n 0, 1) := by decide +kernel
theorem d_Mo_row_18 : decode (M_Mo_row).cc 18 = .ok (.getfield 39, 3) := by decide +kernel
theorem d_Mo_row_21 : decode (M_Mo_row).cc 21 = .ok (.iload_n 2, 1) := by decide +kernel
theorem d_Mo_row_22 : decode (M_Mo_row).cc 22 = .ok (.iaload, 1) := by decide +kernel
theorem d_Mo_row_23 : decode (M_Mo_row).cc 23 = .ok (.invokestatic 164, 3) := by decide +kernel
theorem d_Mo_row_26 : decode (M_Mo_row).cc 26 = .ok (.iaload, 1) := by decide +kernel
theorem d_Mo_row_27 : decode (M_Mo_row).cc 27 = .ok (.istore_n 3, 1) := by decide +kernel
theorem d_Mo_row_28 : decode (M_Mo_row).cc 28 = .ok (.aload_n 0, 1) := by decide +kernel
theorem d_Mo_row_29 : decode (M_Mo_row).cc 29 = .ok (.getfield 27, 3) := by decide +kernel
theorem d_Mo_row_32 : decode (M_Mo_row).cc 32 = .ok (.iload_n 1, 1) := by decide +kernel
theorem d_Mo_row_33 : decode (M_Mo_row).cc 33 = .ok (.iload_n 2, 1) := by decide +kernel
theorem d_Mo_row_34 : decode (M_Mo_row).cc 34 = .ok (.invokestatic 164, 3) := by decide +kernel
theorem d_Mo_row_37 : decode (M_Mo_row).cc 37 = .ok (.iaload, 1) := by decide +kernel
theorem d_Mo_row_38 : decode (M_Mo_row).cc 38 = .ok (.istore 4, 2) := by decide +kernel
theorem d_Mo_row_40 : decode (M_Mo_row).cc 40 = .ok (.iload_n 3, 1) := by decide +kernel
theorem d_Mo_row_41 : decode (M_Mo_row).cc 41 = .ok (.iload 4, 2) := by decide +kernel
theorem d_Mo_row_43 : decode (M_Mo_row).cc 43 = .ok (.if_icmp .eq 15, 3) := by decide +kernel
theorem d_Mo_row_46 : decode (M_Mo_row).cc 46 = .ok (.iload_n 3, 1) := by decide +kernel
theorem d_Mo_row_47 : decode (M_Mo_row).cc 47 = .ok (.iload 4, 2) := by decide +kernel
theorem d_Mo_row_49 : decode (M_Mo_row).cc 49 = .ok (.if_icmp .le 7, 3) := by decide +kernel
theorem d_Mo_row_52 : decode (M_Mo_row).cc 52 = .ok (.iconst 1, 1) := by decide +kernel
theorem d_Mo_row_53 : decode (M_Mo_row).cc 53 = .ok (.goto 4, 3) := by decide +kernel
theorem d_Mo_row_56 : decode (M_Mo_row).cc 56 = .ok (.iconst (-1), 1) := by decide +kernel
theorem d_Mo_row_57 : decode (M_Mo_row).cc 57 = .ok (.ireturn, 1) := by decide +kernel
theorem d_Mo_row_58 : decode (M_Mo_row).cc 58 = .ok (.iinc 2 1, 3) := by decide +kernel
theorem d_Mo_row_61 : decode (M_Mo_row).cc 61 = .ok (.goto (-59), 3) := by decide +kernel
theorem d_Mo_row_64 : decode (M_Mo_row).cc 64 = .ok (.iconst 0, 1) := by decide +kernel
theorem d_Mo_row_65 : decode (M_Mo_row).cc 65 = .ok (.ireturn, 1) := by decide +kernel
theorem d_Mo_pair_0 : decode (M_Mo_pair).cc 0 = .ok (.iload_n 0, 1) := by decide +kernel
theorem d_Mo_pair_1 : decode (M_Mo_pair).cc 1 = .ok (.iload_n 1, 1) := by decide +kernel
theorem d_Mo_pair_2 : decode (M_Mo_pair).cc 2 = .ok (.if_icmp .le 15, 3) := by decide +kernel
theorem d_Mo_pair_5 : decode (M_Mo_pair).cc 5 = .ok (.iload_n 0, 1) := by decide +kernel
theorem d_Mo_pair_6 : decode (M_Mo_pair).cc 6 = .ok (.iload_n 0, 1) := by decide +kernel
theorem d_Mo_pair_7 : decode (M_Mo_pair).cc 7 = .ok (.iconst 1, 1) := by decide +kernel
theorem d_Mo_pair_8 : decode (M_Mo_pair).cc 8 = .ok (.isub, 1) := by decide +kernel
theorem d_Mo_pair_9 : decode (M_Mo_pair).cc 9 = .ok (.imul, 1) := by decide +kernel
theorem d_Mo_pair_10 : decode (M_Mo_pair).cc 10 = .ok (.iconst 2, 1) := by decide +kernel
theorem d_Mo_pair_11 : decode (M_Mo_pair).cc 11 = .ok (.idiv, 1) := by decide +kernel
theorem d_Mo_pair_12 : decode (M_Mo_pair).cc 12 = .ok (.iload_n 1, 1) := by decide +kernel
theorem d_Mo_pair_13 : decode (M_Mo_pair).cc 13 = .ok (.iadd, 1) := by decide +kernel
theorem d_Mo_pair_14 : decode (M_Mo_pair).cc 14 = .ok (.goto 12, 3) := by decide +kernel
theorem d_Mo_pair_17 : decode (M_Mo_pair).cc 17 = .ok (.iload_n 1, 1) := by decide +kernel
theorem d_Mo_pair_18 : decode (M_Mo_pair).cc 18 = .ok (.iload_n 1, 1) := by decide +kernel
theorem d_Mo_pair_19 : decode (M_Mo_pair).cc 19 = .ok (.iconst 1, 1) := by decide +kernel
theorem d_Mo_pair_20 : decode (M_Mo_pair).cc 20 = .ok (.isub, 1) := by decide +kernel
theorem d_Mo_pair_21 : decode (M_Mo_pair).cc 21 = .ok (.imul, 1) := by decide +kernel
theorem d_Mo_pair_22 : decode (M_Mo_pair).cc 22 = .ok (.iconst 2, 1) := by decide +kernel
theorem d_Mo_pair_23 : decode (M_Mo_pair).cc 23 = .ok (.idiv, 1) := by decide +kernel
theorem d_Mo_pair_24 : decode (M_Mo_pair).cc 24 = .ok (.iload_n 0, 1) := by decide +kernel
theorem d_Mo_pair_25 : decode (M_Mo_pair).cc 25 = .ok (.iadd, 1) := by decide +kernel
theorem d_Mo_pair_26 : decode (M_Mo_pair).cc 26 = .ok (.ireturn, 1) := by decide +kernel
theorem d_Mo_read_0 : decode (M_Mo_read).cc 0 = .ok (.aload_n 0, 1) := by decide +kernel
theorem d_Mo_read_1 : decode (M_Mo_read).cc 1 = .ok (.iconst 0, 1) := by decide +kernel
theorem d_Mo_read_2 : decode (M_Mo_read).cc 2 = .ok (.putfield 85, 3) := by decide +kernel
theorem d_Mo_read_5 : decode (M_Mo_read).cc 5 = .ok (.aload_n 0, 1) := by decide +kernel
theorem d_Mo_read_6 : decode (M_Mo_read).cc 6 = .ok (.iconst 0, 1) := by decide +kernel
theorem d_Mo_read_7 : decode (M_Mo_read).cc 7 = .ok (.putfield 167, 3) := by decide +kernel
theorem d_Mo_read_10 : decode (M_Mo_read).cc 10 = .ok (.iconst 0, 1) := by decide +kernel
theorem d_Mo_read_11 : decode (M_Mo_read).cc 11 = .ok (.istore_n 1, 1) := by decide +kernel
theorem d_Mo_read_12 : decode (M_Mo_read).cc 12 = .ok (.iload_n 1, 1) := by decide +kernel
theorem d_Mo_read_13 : decode (M_Mo_read).cc 13 = .ok (.bipush 36, 2) := by decide +kernel
theorem d_Mo_read_15 : decode (M_Mo_read).cc 15 = .ok (.if_icmp .ge 16, 3) := by decide +kernel
theorem d_Mo_read_18 : decode (M_Mo_read).cc 18 = .ok (.aload_n 0, 1) := by decide +kernel
theorem d_Mo_read_19 : decode (M_Mo_read).cc 19 = .ok (.getfield 49, 3) := by decide +kernel
theorem d_Mo_read_22 : decode (M_Mo_read).cc 22 = .ok (.iload_n 1, 1) := by decide +kernel
theorem d_Mo_read_23 : decode (M_Mo_read).cc 23 = .ok (.iconst 0, 1) := by decide +kernel
theorem d_Mo_read_24 : decode (M_Mo_read).cc 24 = .ok (.iastore, 1) := by decide +kernel
theorem d_Mo_read_25 : decode (M_Mo_read).cc 25 = .ok (.iinc 1 1, 3) := by decide +kernel
theorem d_Mo_read_28 : decode (M_Mo_read).cc 28 = .ok (.goto (-16), 3) := by decide +kernel
theorem d_Mo_read_31 : decode (M_Mo_read).cc 31 = .ok (.aload_n 0, 1) := by decide +kernel
theorem d_Mo_read_32 : decode (M_Mo_read).cc 32 = .ok (.invokevirtual 170, 3) := by decide +kernel
theorem d_Mo_read_35 : decode (M_Mo_read).cc 35 = .ok (.istore_n 1, 1) := by decide +kernel
theorem d_Mo_read_36 : decode (M_Mo_read).cc 36 = .ok (.iload_n 1, 1) := by decide +kernel
theorem d_Mo_read_37 : decode (M_Mo_read).cc 37 = .ok (.ifCond .eq 5, 3) := by decide +kernel
theorem d_Mo_read_40 : decode (M_Mo_read).cc 40 = .ok (.iload_n 1, 1) := by decide +kernel
theorem d_Mo_read_41 : decode (M_Mo_read).cc 41 = .ok (.ireturn, 1) := by decide +kernel
theorem d_Mo_read_42 : decode (M_Mo_read).cc 42 = .ok (.aload_n 0, 1) := by decide +kernel
theorem d_Mo_read_43 : decode (M_Mo_read).cc 43 = .ok (.iconst (-1), 1) := by decide +kernel
theorem d_Mo_read_44 : decode (M_Mo_read).cc 44 = .ok (.putfield 13, 3) := by decide +kernel
theorem d_Mo_read_47 : decode (M_Mo_read).cc 47 = .ok (.aload_n 0, 1) := by decide +kernel
theorem d_Mo_read_48 : decode (M_Mo_read).cc 48 = .ok (.invokevirtual 174, 3) := by decide +kernel
theorem d_Mo_read_51 : decode (M_Mo_read).cc 51 = .ok (.ireturn, 1) := by decide +kernel
theorem d_Mo_atEnd_0 : decode (M_Mo_atEnd).cc 0 = .ok (.iconst 1, 1) := by decide +kernel
theorem d_Mo_atEnd_1 : decode (M_Mo_atEnd).cc 1 = .ok (.istore_n 1, 1) := by decide +kernel
theorem d_Mo_atEnd_2 : decode (M_Mo_atEnd).cc 2 = .ok (.iload_n 1, 1) := by decide +kernel
theorem d_Mo_atEnd_3 : decode (M_Mo_atEnd).cc 3 = .ok (.bipush 10, 2) := by decide +kernel
theorem d_Mo_atEnd_5 : decode (M_Mo_atEnd).cc 5 = .ok (.if_icmp .ge 29, 3) := by decide +kernel
theorem d_Mo_atEnd_8 : decode (M_Mo_atEnd).cc 8 = .ok (.aload_n 0, 1) := by decide +kernel
theorem d_Mo_atEnd_9 : decode (M_Mo_atEnd).cc 9 = .ok (.getfield 61, 3) := by decide +kernel
theorem d_Mo_atEnd_12 : decode (M_Mo_atEnd).cc 12 = .ok (.iload_n 1, 1) := by decide +kernel
theorem d_Mo_atEnd_13 : decode (M_Mo_atEnd).cc 13 = .ok (.iaload, 1) := by decide +kernel
theorem d_Mo_atEnd_14 : decode (M_Mo_atEnd).cc 14 = .ok (.ifCond .lt 14, 3) := by decide +kernel
theorem d_Mo_atEnd_17 : decode (M_Mo_atEnd).cc 17 = .ok (.aload_n 0, 1) := by decide +kernel
theorem d_Mo_atEnd_18 : decode (M_Mo_atEnd).cc 18 = .ok (.bipush (-7), 2) := by decide +kernel
theorem d_Mo_atEnd_20 : decode (M_Mo_atEnd).cc 20 = .ok (.aload_n 0, 1) := by decide +kernel
theorem d_Mo_atEnd_21 : decode (M_Mo_atEnd).cc 21 = .ok (.getfield 88, 3) := by decide +kernel
theorem d_Mo_atEnd_24 : decode (M_Mo_atEnd).cc 24 = .ok (.invokevirtual 103, 3) := by decide +kernel
theorem d_Mo_atEnd_27 : decode (M_Mo_atEnd).cc 27 = .ok (.ireturn, 1) := by decide +kernel
theorem d_Mo_atEnd_28 : decode (M_Mo_atEnd).cc 28 = .ok (.iinc 1 1, 3) := by decide +kernel
theorem d_Mo_atEnd_31 : decode (M_Mo_atEnd).cc 31 = .ok (.goto (-29), 3) := by decide +kernel
theorem d_Mo_atEnd_34 : decode (M_Mo_atEnd).cc 34 = .ok (.iconst 0, 1) := by decide +kernel
theorem d_Mo_atEnd_35 : decode (M_Mo_atEnd).cc 35 = .ok (.istore_n 1, 1) := by decide +kernel
theorem d_Mo_atEnd_36 : decode (M_Mo_atEnd).cc 36 = .ok (.iload_n 1, 1) := by decide +kernel
theorem d_Mo_atEnd_37 : decode (M_Mo_atEnd).cc 37 = .ok (.aload_n 0, 1) := by decide +kernel
theorem d_Mo_atEnd_38 : decode (M_Mo_atEnd).cc 38 = .ok (.getfield 167, 3) := by decide +kernel
theorem d_Mo_atEnd_41 : decode (M_Mo_atEnd).cc 41 = .ok (.if_icmp .ge 37, 3) := by decide +kernel
theorem d_Mo_atEnd_44 : decode (M_Mo_atEnd).cc 44 = .ok (.aload_n 0, 1) := by decide +kernel
theorem d_Mo_atEnd_45 : decode (M_Mo_atEnd).cc 45 = .ok (.iload_n 1, 1) := by decide +kernel
theorem d_Mo_atEnd_46 : decode (M_Mo_atEnd).cc 46 = .ok (.invokevirtual 180, 3) := by decide +kernel
theorem d_Mo_atEnd_49 : decode (M_Mo_atEnd).cc 49 = .ok (.aload_n 0, 1) := by decide +kernel
theorem d_Mo_atEnd_50 : decode (M_Mo_atEnd).cc 50 = .ok (.getfield 46, 3) := by decide +kernel
theorem d_Mo_atEnd_53 : decode (M_Mo_atEnd).cc 53 = .ok (.iload_n 1, 1) := by decide +kernel
theorem d_Mo_atEnd_54 : decode (M_Mo_atEnd).cc 54 = .ok (.iaload, 1) := by decide +kernel
theorem d_Mo_atEnd_55 : decode (M_Mo_atEnd).cc 55 = .ok (.invokestatic 114, 3) := by decide +kernel
theorem d_Mo_atEnd_58 : decode (M_Mo_atEnd).cc 58 = .ok (.if_icmp .le 14, 3) := by decide +kernel
theorem d_Mo_atEnd_61 : decode (M_Mo_atEnd).cc 61 = .ok (.aload_n 0, 1) := by decide +kernel
theorem d_Mo_atEnd_62 : decode (M_Mo_atEnd).cc 62 = .ok (.bipush (-8), 2) := by decide +kernel
theorem d_Mo_atEnd_64 : decode (M_Mo_atEnd).cc 64 = .ok (.aload_n 0, 1) := by decide +kernel
theorem d_Mo_atEnd_65 : decode (M_Mo_atEnd).cc 65 = .ok (.getfield 88, 3) := by decide +kernel
theorem d_Mo_atEnd_68 : decode (M_Mo_atEnd).cc 68 = .ok (.invokevirtual 103, 3) := by decide +kernel
theorem d_Mo_atEnd_71 : decode (M_Mo_atEnd).cc 71 = .ok (.ireturn, 1) := by decide +kernel
theorem d_Mo_atEnd_72 : decode (M_Mo_atEnd).cc 72 = .ok (.iinc 1 1, 3) := by decide +kernel
theorem d_Mo_atEnd_75 : decode (M_Mo_atEnd).cc 75 = .ok (.goto (-39), 3) := by decide +kernel
theorem d_Mo_atEnd_78 : decode (M_Mo_atEnd).cc 78 = .ok (.iconst 0, 1) := by decide +kernel
theorem d_Mo_atEnd_79 : decode (M_Mo_atEnd).cc 79 = .ok (.ireturn, 1) := by decide +kernel
theorem d_Mo_sumOf_0 : decode (M_Mo_sumOf).cc 0 = .ok (.iconst 0, 1) := by decide +kernel
theorem d_Mo_sumOf_1 : decode (M_Mo_sumOf).cc 1 = .ok (.istore_n 2, 1) := by decide +kernel
theorem d_Mo_sumOf_2 : decode (M_Mo_sumOf).cc 2 = .ok (.iconst 0, 1) := by decide +kernel
theorem d_Mo_sumOf_3 : decode (M_Mo_sumOf).cc 3 = .ok (.istore_n 3, 1) := by decide +kernel
theorem d_Mo_sumOf_4 : decode (M_Mo_sumOf).cc 4 = .ok (.iload_n 3, 1) := by decide +kernel
theorem d_Mo_sumOf_5 : decode (M_Mo_sumOf).cc 5 = .ok (.aload_n 0, 1) := by decide +kernel
theorem d_Mo_sumOf_6 : decode (M_Mo_sumOf).cc 6 = .ok (.getfield 167, 3) := by decide +kernel
theorem d_Mo_sumOf_9 : decode (M_Mo_sumOf).cc 9 = .ok (.if_icmp .ge 23, 3) := by decide +kernel
theorem d_Mo_sumOf_12 : decode (M_Mo_sumOf).cc 12 = .ok (.iload_n 2, 1) := by decide +kernel
theorem d_Mo_sumOf_13 : decode (M_Mo_sumOf).cc 13 = .ok (.aload_n 0, 1) := by decide +kernel
theorem d_Mo_sumOf_14 : decode (M_Mo_sumOf).cc 14 = .ok (.getfield 49, 3) := by decide +kernel
theorem d_Mo_sumOf_17 : decode (M_Mo_sumOf).cc 17 = .ok (.bipush 6, 2) := by decide +kernel
theorem d_Mo_sumOf_19 : decode (M_Mo_sumOf).cc 19 = .ok (.iload_n 1, 1) := by decide +kernel
theorem d_Mo_sumOf_20 : decode (M_Mo_sumOf).cc 20 = .ok (.imul, 1) := by decide +kernel
theorem d_Mo_sumOf_21 : decode (M_Mo_sumOf).cc 21 = .ok (.iload_n 3, 1) := by decide +kernel
theorem d_Mo_sumOf_22 : decode (M_Mo_sumOf).cc 22 = .ok (.iadd, 1) := by decide +kernel
theorem d_Mo_sumOf_23 : decode (M_Mo_sumOf).cc 23 = .ok (.iaload, 1) := by decide +kernel
theorem d_Mo_sumOf_24 : decode (M_Mo_sumOf).cc 24 = .ok (.iadd, 1) := by decide +kernel
theorem d_Mo_sumOf_25 : decode (M_Mo_sumOf).cc 25 = .ok (.istore_n 2, 1) := by decide +kernel
theorem d_Mo_sumOf_26 : decode (M_Mo_sumOf).cc 26 = .ok (.iinc 3 1, 3) := by decide +kernel
theorem d_Mo_sumOf_29 : decode (M_Mo_sumOf).cc 29 = .ok (.goto (-25), 3) := by decide +kernel
theorem d_Mo_sumOf_32 : decode (M_Mo_sumOf).cc 32 = .ok (.iload_n 2, 1) := by decide +kernel
theorem d_Mo_sumOf_33 : decode (M_Mo_sumOf).cc 33 = .ok (.ireturn, 1) := by decide +kernel
theorem d_Mo_numberInList_0 : decode (M_Mo_numberInList).cc 0 = .ok (.aload_n 0, 1) := by decide +kernel
theorem d_Mo_numberInList_1 : decode (M_Mo_numberInList).cc 1 = .ok (.getfield 167, 3) := by decide +kernel
theorem d_Mo_numberInList_4 : decode (M_Mo_numberInList).cc 4 = .ok (.aload_n 0, 1) := by decide +kernel
theorem d_Mo_numberInList_5 : decode (M_Mo_numberInList).cc 5 = .ok (.getfield 129, 3) := by decide +kernel
theorem d_Mo_numberInList_8 : decode (M_Mo_numberInList).cc 8 = .ok (.if_icmp .eq 5, 3) := by decide +kernel
theorem d_Mo_numberInList_11 : decode (M_Mo_numberInList).cc 11 = .ok (.iconst (-1), 1) := by decide +kernel
theorem d_Mo_numberInList_12 : decode (M_Mo_numberInList).cc 12 = .ok (.ireturn, 1) := by decide +kernel
theorem d_Mo_numberInList_13 : decode (M_Mo_numberInList).cc 13 = .ok (.iconst 0, 1) := by decide +kernel
theorem d_Mo_numberInList_14 : decode (M_Mo_numberInList).cc 14 = .ok (.istore_n 1, 1) := by decide +kernel
theorem d_Mo_numberInList_15 : decode (M_Mo_numberInList).cc 15 = .ok (.iconst 0, 1) := by decide +kernel
theorem d_Mo_numberInList_16 : decode (M_Mo_numberInList).cc 16 = .ok (.istore_n 2, 1) := by decide +kernel
theorem d_Mo_numberInList_17 : decode (M_Mo_numberInList).cc 17 = .ok (.iload_n 2, 1) := by decide +kernel
theorem d_Mo_numberInList_18 : decode (M_Mo_numberInList).cc 18 = .ok (.aload_n 0, 1) := by decide +kernel
theorem d_Mo_numberInList_19 : decode (M_Mo_numberInList).cc 19 = .ok (.getfield 167, 3) := by decide +kernel
theorem d_Mo_numberInList_22 : decode (M_Mo_numberInList).cc 22 = .ok (.if_icmp .ge 27, 3) := by decide +kernel
theorem d_Mo_numberInList_25 : decode (M_Mo_numberInList).cc 25 = .ok (.iload_n 1, 1) := by decide +kernel
theorem d_Mo_numberInList_26 : decode (M_Mo_numberInList).cc 26 = .ok (.aload_n 0, 1) := by decide +kernel
theorem d_Mo_numberInList_27 : decode (M_Mo_numberInList).cc 27 = .ok (.getfield 46, 3) := by decide +kernel
theorem d_Mo_numberInList_30 : decode (M_Mo_numberInList).cc 30 = .ok (.iload_n 2, 1) := by decide +kernel
theorem d_Mo_numberInList_31 : decode (M_Mo_numberInList).cc 31 = .ok (.iaload, 1) := by decide +kernel
theorem d_Mo_numberInList_32 : decode (M_Mo_numberInList).cc 32 = .ok (.invokestatic 114, 3) := by decide +kernel
theorem d_Mo_numberInList_35 : decode (M_Mo_numberInList).cc 35 = .ok (.iadd, 1) := by decide +kernel
theorem d_Mo_numberInList_36 : decode (M_Mo_numberInList).cc 36 = .ok (.aload_n 0, 1) := by decide +kernel
theorem d_Mo_numberInList_37 : decode (M_Mo_numberInList).cc 37 = .ok (.iload_n 2, 1) := by decide +kernel
theorem d_Mo_numberInList_38 : decode (M_Mo_numberInList).cc 38 = .ok (.invokevirtual 180, 3) := by decide +kernel
theorem d_Mo_numberInList_41 : decode (M_Mo_numberInList).cc 41 = .ok (.isub, 1) := by decide +kernel
theorem d_Mo_numberInList_42 : decode (M_Mo_numberInList).cc 42 = .ok (.istore_n 1, 1) := by decide +kernel
theorem d_Mo_numberInList_43 : decode (M_Mo_numberInList).cc 43 = .ok (.iinc 2 1, 3) := by decide +kernel
theorem d_Mo_numberInList_46 : decode (M_Mo_numberInList).cc 46 = .ok (.goto (-29), 3) := by decide +kernel
theorem d_Mo_numberInList_49 : decode (M_Mo_numberInList).cc 49 = .ok (.iconst 0, 1) := by decide +kernel
theorem d_Mo_numberInList_50 : decode (M_Mo_numberInList).cc 50 = .ok (.istore_n 2, 1) := by decide +kernel
theorem d_Mo_numberInList_51 : decode (M_Mo_numberInList).cc 51 = .ok (.iload_n 2, 1) := by decide +kernel
theorem d_Mo_numberInList_52 : decode (M_Mo_numberInList).cc 52 = .ok (.bipush 15, 2) := by decide +kernel
theorem d_Mo_numberInList_54 : decode (M_Mo_numberInList).cc 54 = .ok (.if_icmp .ge 16, 3) := by decide +kernel
theorem d_Mo_numberInList_57 : decode (M_Mo_numberInList).cc 57 = .ok (.aload_n 0, 1) := by decide +kernel
theorem d_Mo_numberInList_58 : decode (M_Mo_numberInList).cc 58 = .ok (.getfield 52, 3) := by decide +kernel
theorem d_Mo_numberInList_61 : decode (M_Mo_numberInList).cc 61 = .ok (.iload_n 2, 1) := by decide +kernel
theorem d_Mo_numberInList_62 : decode (M_Mo_numberInList).cc 62 = .ok (.iconst (-1), 1) := by decide +kernel
theorem d_Mo_numberInList_63 : decode (M_Mo_numberInList).cc 63 = .ok (.iastore, 1) := by decide +kernel
theorem d_Mo_numberInList_64 : decode (M_Mo_numberInList).cc 64 = .ok (.iinc 2 1, 3) := by decide +kernel
theorem d_Mo_numberInList_67 : decode (M_Mo_numberInList).cc 67 = .ok (.goto (-16), 3) := by decide +kernel
theorem d_Mo_numberInList_70 : decode (M_Mo_numberInList).cc 70 = .ok (.iload_n 1, 1) := by decide +kernel
theorem d_Mo_numberInList_71 : decode (M_Mo_numberInList).cc 71 = .ok (.aload_n 0, 1) := by decide +kernel
theorem d_Mo_numberInList_72 : decode (M_Mo_numberInList).cc 72 = .ok (.getfield 132, 3) := by decide +kernel
theorem d_Mo_numberInList_75 : decode (M_Mo_numberInList).cc 75 = .ok (.if_icmp .ne 10, 3) := by decide +kernel
theorem d_Mo_numberInList_78 : decode (M_Mo_numberInList).cc 78 = .ok (.aload_n 0, 1) := by decide +kernel
theorem d_Mo_numberInList_79 : decode (M_Mo_numberInList).cc 79 = .ok (.invokevirtual 183, 3) := by decide +kernel
theorem d_Mo_numberInList_82 : decode (M_Mo_numberInList).cc 82 = .ok (.ifCond .ne 5, 3) := by decide +kernel
theorem d_Mo_numberInList_85 : decode (M_Mo_numberInList).cc 85 = .ok (.iconst (-1), 1) := by decide +kernel
theorem d_Mo_numberInList_86 : decode (M_Mo_numberInList).cc 86 = .ok (.ireturn, 1) := by decide +kernel
theorem d_Mo_numberInList_87 : decode (M_Mo_numberInList).cc 87 = .ok (.aload_n 0, 1) := by decide +kernel
theorem d_Mo_numberInList_88 : decode (M_Mo_numberInList).cc 88 = .ok (.getfield 129, 3) := by decide +kernel
theorem d_Mo_numberInList_91 : decode (M_Mo_numberInList).cc 91 = .ok (.aload_n 0, 1) := by decide +kernel
theorem d_Mo_numberInList_92 : decode (M_Mo_numberInList).cc 92 = .ok (.getfield 129, 3) := by decide +kernel
theorem d_Mo_numberInList_95 : decode (M_Mo_numberInList).cc 95 = .ok (.iconst 1, 1) := by decide +kernel
theorem d_Mo_numberInList_96 : decode (M_Mo_numberInList).cc 96 = .ok (.isub, 1) := by decide +kernel
theorem d_Mo_numberInList_97 : decode (M_Mo_numberInList).cc 97 = .ok (.imul, 1) := by decide +kernel
theorem d_Mo_numberInList_98 : decode (M_Mo_numberInList).cc 98 = .ok (.iconst 2, 1) := by decide +kernel
theorem d_Mo_numberInList_99 : decode (M_Mo_numberInList).cc 99 = .ok (.idiv, 1) := by decide +kernel
theorem d_Mo_numberInList_100 : decode (M_Mo_numberInList).cc 100 = .ok (.istore_n 2, 1) := by decide +kernel
theorem d_Mo_numberInList_101 : decode (M_Mo_numberInList).cc 101 = .ok (.iconst 0, 1) := by decide +kernel
theorem d_Mo_numberInList_102 : decode (M_Mo_numberInList).cc 102 = .ok (.istore_n 3, 1) := by decide +kernel
theorem d_Mo_numberInList_103 : decode (M_Mo_numberInList).cc 103 = .ok (.iload_n 3, 1) := by decide +kernel
theorem d_Mo_numberInList_104 : decode (M_Mo_numberInList).cc 104 = .ok (.aload_n 0, 1) := by decide +kernel
theorem d_Mo_numberInList_105 : decode (M_Mo_numberInList).cc 105 = .ok (.getfield 135, 3) := by decide +kernel
theorem d_Mo_numberInList_108 : decode (M_Mo_numberInList).cc 108 = .ok (.if_icmp .ge 68, 3) := by decide +kernel
theorem d_Mo_numberInList_111 : decode (M_Mo_numberInList).cc 111 = .ok (.iconst 1, 1) := by decide +kernel
theorem d_Mo_numberInList_112 : decode (M_Mo_numberInList).cc 112 = .ok (.istore 4, 2) := by decide +kernel
theorem d_Mo_numberInList_114 : decode (M_Mo_numberInList).cc 114 = .ok (.iconst 0, 1) := by decide +kernel
theorem d_Mo_numberInList_115 : decode (M_Mo_numberInList).cc 115 = .ok (.istore 5, 2) := by decide +kernel
theorem d_Mo_numberInList_117 : decode (M_Mo_numberInList).cc 117 = .ok (.iload 5, 2) := by decide +kernel
theorem d_Mo_numberInList_119 : decode (M_Mo_numberInList).cc 119 = .ok (.iload_n 2, 1) := by decide +kernel
theorem d_Mo_numberInList_120 : decode (M_Mo_numberInList).cc 120 = .ok (.if_icmp .ge 43, 3) := by decide +kernel
theorem d_Mo_numberInList_123 : decode (M_Mo_numberInList).cc 123 = .ok (.iload 4, 2) := by decide +kernel
theorem d_Mo_numberInList_125 : decode (M_Mo_numberInList).cc 125 = .ok (.ifCond .eq 29, 3) := by decide +kernel
theorem d_Mo_numberInList_128 : decode (M_Mo_numberInList).cc 128 = .ok (.aload_n 0, 1) := by decide +kernel
theorem d_Mo_numberInList_129 : decode (M_Mo_numberInList).cc 129 = .ok (.getfield 21, 3) := by decide +kernel
theorem d_Mo_numberInList_132 : decode (M_Mo_numberInList).cc 132 = .ok (.bipush 15, 2) := by decide +kernel
theorem d_Mo_numberInList_134 : decode (M_Mo_numberInList).cc 134 = .ok (.iload_n 3, 1) := by decide +kernel
theorem d_Mo_numberInList_135 : decode (M_Mo_numberInList).cc 135 = .ok (.imul, 1) := by decide +kernel
theorem d_Mo_numberInList_136 : decode (M_Mo_numberInList).cc 136 = .ok (.iload 5, 2) := by decide +kernel
theorem d_Mo_numberInList_138 : decode (M_Mo_numberInList).cc 138 = .ok (.iadd, 1) := by decide +kernel
theorem d_Mo_numberInList_139 : decode (M_Mo_numberInList).cc 139 = .ok (.iaload, 1) := by decide +kernel
theorem d_Mo_numberInList_140 : decode (M_Mo_numberInList).cc 140 = .ok (.aload_n 0, 1) := by decide +kernel
theorem d_Mo_numberInList_141 : decode (M_Mo_numberInList).cc 141 = .ok (.getfield 52, 3) := by decide +kernel
theorem d_Mo_numberInList_144 : decode (M_Mo_numberInList).cc 144 = .ok (.iload 5, 2) := by decide +kernel
theorem d_Mo_numberInList_146 : decode (M_Mo_numberInList).cc 146 = .ok (.iaload, 1) := by decide +kernel
theorem d_Mo_numberInList_147 : decode (M_Mo_numberInList).cc 147 = .ok (.if_icmp .ne 7, 3) := by decide +kernel
theorem d_Mo_numberInList_150 : decode (M_Mo_numberInList).cc 150 = .ok (.iconst 1, 1) := by decide +kernel
theorem d_Mo_numberInList_151 : decode (M_Mo_numberInList).cc 151 = .ok (.goto 4, 3) := by decide +kernel
theorem d_Mo_numberInList_154 : decode (M_Mo_numberInList).cc 154 = .ok (.iconst 0, 1) := by decide +kernel
theorem d_Mo_numberInList_155 : decode (M_Mo_numberInList).cc 155 = .ok (.istore 4, 2) := by decide +kernel
theorem d_Mo_numberInList_157 : decode (M_Mo_numberInList).cc 157 = .ok (.iinc 5 1, 3) := by decide +kernel
theorem d_Mo_numberInList_160 : decode (M_Mo_numberInList).cc 160 = .ok (.goto (-43), 3) := by decide +kernel
theorem d_Mo_numberInList_163 : decode (M_Mo_numberInList).cc 163 = .ok (.iload 4, 2) := by decide +kernel
theorem d_Mo_numberInList_165 : decode (M_Mo_numberInList).cc 165 = .ok (.ifCond .eq 5, 3) := by decide +kernel
theorem d_Mo_numberInList_168 : decode (M_Mo_numberInList).cc 168 = .ok (.iload_n 3, 1) := by decide +kernel
theorem d_Mo_numberInList_169 : decode (M_Mo_numberInList).cc 169 = .ok (.ireturn, 1) := by decide +kernel
theorem d_Mo_numberInList_170 : decode (M_Mo_numberInList).cc 170 = .ok (.iinc 3 1, 3) := by decide +kernel
theorem d_Mo_numberInList_173 : decode (M_Mo_numberInList).cc 173 = .ok (.goto (-70), 3) := by decide +kernel
theorem d_Mo_numberInList_176 : decode (M_Mo_numberInList).cc 176 = .ok (.iconst (-1), 1) := by decide +kernel
theorem d_Mo_numberInList_177 : decode (M_Mo_numberInList).cc 177 = .ok (.ireturn, 1) := by decide +kernel
theorem d_Mo_greatest_0 : decode (M_Mo_greatest).cc 0 = .ok (.iconst 0, 1) := by decide +kernel
theorem d_Mo_greatest_1 : decode (M_Mo_greatest).cc 1 = .ok (.istore_n 1, 1) := by decide +kernel
theorem d_Mo_greatest_2 : decode (M_Mo_greatest).cc 2 = .ok (.iconst 0, 1) := by decide +kernel
theorem d_Mo_greatest_3 : decode (M_Mo_greatest).cc 3 = .ok (.istore_n 2, 1) := by decide +kernel
theorem d_Mo_greatest_4 : decode (M_Mo_greatest).cc 4 = .ok (.aload_n 0, 1) := by decide +kernel
theorem d_Mo_greatest_5 : decode (M_Mo_greatest).cc 5 = .ok (.getfield 39, 3) := by decide +kernel
theorem d_Mo_greatest_8 : decode (M_Mo_greatest).cc 8 = .ok (.iconst 0, 1) := by decide +kernel
theorem d_Mo_greatest_9 : decode (M_Mo_greatest).cc 9 = .ok (.iconst (-1), 1) := by decide +kernel
theorem d_Mo_greatest_10 : decode (M_Mo_greatest).cc 10 = .ok (.iastore, 1) := by decide +kernel
theorem d_Mo_greatest_11 : decode (M_Mo_greatest).cc 11 = .ok (.iconst 0, 1) := by decide +kernel
theorem d_Mo_greatest_12 : decode (M_Mo_greatest).cc 12 = .ok (.istore_n 3, 1) := by decide +kernel
theorem d_Mo_greatest_13 : decode (M_Mo_greatest).cc 13 = .ok (.iload_n 3, 1) := by decide +kernel
theorem d_Mo_greatest_14 : decode (M_Mo_greatest).cc 14 = .ok (.bipush 6, 2) := by decide +kernel
theorem d_Mo_greatest_16 : decode (M_Mo_greatest).cc 16 = .ok (.if_icmp .ge 16, 3) := by decide +kernel
theorem d_Mo_greatest_19 : decode (M_Mo_greatest).cc 19 = .ok (.aload_n 0, 1) := by decide +kernel
theorem d_Mo_greatest_20 : decode (M_Mo_greatest).cc 20 = .ok (.getfield 42, 3) := by decide +kernel
theorem d_Mo_greatest_23 : decode (M_Mo_greatest).cc 23 = .ok (.iload_n 3, 1) := by decide +kernel
theorem d_Mo_greatest_24 : decode (M_Mo_greatest).cc 24 = .ok (.iconst 0, 1) := by decide +kernel
theorem d_Mo_greatest_25 : decode (M_Mo_greatest).cc 25 = .ok (.bastore, 1) := by decide +kernel
theorem d_Mo_greatest_26 : decode (M_Mo_greatest).cc 26 = .ok (.iinc 3 1, 3) := by decide +kernel
theorem d_Mo_greatest_29 : decode (M_Mo_greatest).cc 29 = .ok (.goto (-16), 3) := by decide +kernel
theorem d_Mo_greatest_32 : decode (M_Mo_greatest).cc 32 = .ok (.iload_n 2, 1) := by decide +kernel
theorem d_Mo_greatest_33 : decode (M_Mo_greatest).cc 33 = .ok (.ifCond .lt 132, 3) := by decide +kernel
theorem d_Mo_greatest_36 : decode (M_Mo_greatest).cc 36 = .ok (.iload_n 2, 1) := by decide +kernel
theorem d_Mo_greatest_37 : decode (M_Mo_greatest).cc 37 = .ok (.aload_n 0, 1) := by decide +kernel
theorem d_Mo_greatest_38 : decode (M_Mo_greatest).cc 38 = .ok (.getfield 129, 3) := by decide +kernel
theorem d_Mo_greatest_41 : decode (M_Mo_greatest).cc 41 = .ok (.if_icmp .ne 15, 3) := by decide +kernel
theorem d_Mo_greatest_44 : decode (M_Mo_greatest).cc 44 = .ok (.iconst 1, 1) := by decide +kernel
theorem d_Mo_greatest_45 : decode (M_Mo_greatest).cc 45 = .ok (.istore_n 1, 1) := by decide +kernel
theorem d_Mo_greatest_46 : decode (M_Mo_greatest).cc 46 = .ok (.aload_n 0, 1) := by decide +kernel
theorem d_Mo_greatest_47 : decode (M_Mo_greatest).cc 47 = .ok (.invokevirtual 187, 3) := by decide +kernel
theorem d_Mo_greatest_50 : decode (M_Mo_greatest).cc 50 = .ok (.iinc 2 (-1), 3) := by decide +kernel
theorem d_Mo_greatest_53 : decode (M_Mo_greatest).cc 53 = .ok (.goto (-21), 3) := by decide +kernel
theorem d_Mo_greatest_56 : decode (M_Mo_greatest).cc 56 = .ok (.aload_n 0, 1) := by decide +kernel
theorem d_Mo_greatest_57 : decode (M_Mo_greatest).cc 57 = .ok (.getfield 39, 3) := by decide +kernel
theorem d_Mo_greatest_60 : decode (M_Mo_greatest).cc 60 = .ok (.iload_n 2, 1) := by decide +kernel
theorem d_Mo_greatest_61 : decode (M_Mo_greatest).cc 61 = .ok (.iaload, 1) := by decide +kernel
theorem d_Mo_greatest_62 : decode (M_Mo_greatest).cc 62 = .ok (.ifCond .lt 15, 3) := by decide +kernel
theorem d_Mo_greatest_65 : decode (M_Mo_greatest).cc 65 = .ok (.aload_n 0, 1) := by decide +kernel
theorem d_Mo_greatest_66 : decode (M_Mo_greatest).cc 66 = .ok (.getfield 42, 3) := by decide +kernel
theorem d_Mo_greatest_69 : decode (M_Mo_greatest).cc 69 = .ok (.aload_n 0, 1) := by decide +kernel
theorem d_Mo_greatest_70 : decode (M_Mo_greatest).cc 70 = .ok (.getfield 39, 3) := by decide +kernel
theorem d_Mo_greatest_73 : decode (M_Mo_greatest).cc 73 = .ok (.iload_n 2, 1) := by decide +kernel
theorem d_Mo_greatest_74 : decode (M_Mo_greatest).cc 74 = .ok (.iaload, 1) := by decide +kernel
theorem d_Mo_greatest_75 : decode (M_Mo_greatest).cc 75 = .ok (.iconst 0, 1) := by decide +kernel
theorem d_Mo_greatest_76 : decode (M_Mo_greatest).cc 76 = .ok (.bastore, 1) := by decide +kernel
theorem d_Mo_greatest_77 : decode (M_Mo_greatest).cc 77 = .ok (.aload_n 0, 1) := by decide +kernel
theorem d_Mo_greatest_78 : decode (M_Mo_greatest).cc 78 = .ok (.getfield 39, 3) := by decide +kernel
theorem d_Mo_greatest_81 : decode (M_Mo_greatest).cc 81 = .ok (.iload_n 2, 1) := by decide +kernel
theorem d_Mo_greatest_82 : decode (M_Mo_greatest).cc 82 = .ok (.iaload, 1) := by decide +kernel
theorem d_Mo_greatest_83 : decode (M_Mo_greatest).cc 83 = .ok (.iconst 1, 1) := by decide +kernel
theorem d_Mo_greatest_84 : decode (M_Mo_greatest).cc 84 = .ok (.iadd, 1) := by decide +kernel
theorem d_Mo_greatest_85 : decode (M_Mo_greatest).cc 85 = .ok (.istore_n 3, 1) := by decide +kernel
theorem d_Mo_greatest_86 : decode (M_Mo_greatest).cc 86 = .ok (.iload_n 3, 1) := by decide +kernel
theorem d_Mo_greatest_87 : decode (M_Mo_greatest).cc 87 = .ok (.aload_n 0, 1) := by decide +kernel
theorem d_Mo_greatest_88 : decode (M_Mo_greatest).cc 88 = .ok (.getfield 129, 3) := by decide +kernel
theorem d_Mo_greatest_91 : decode (M_Mo_greatest).cc 91 = .ok (.if_icmp .ge 33, 3) := by decide +kernel
theorem d_Mo_greatest_94 : decode (M_Mo_greatest).cc 94 = .ok (.aload_n 0, 1) := by decide +kernel
theorem d_Mo_greatest_95 : decode (M_Mo_greatest).cc 95 = .ok (.getfield 42, 3) := by decide +kernel
theorem d_Mo_greatest_98 : decode (M_Mo_greatest).cc 98 = .ok (.iload_n 3, 1) := by decide +kernel
theorem d_Mo_greatest_99 : decode (M_Mo_greatest).cc 99 = .ok (.baload, 1) := by decide +kernel
theorem d_Mo_greatest_100 : decode (M_Mo_greatest).cc 100 = .ok (.ifCond .ne 18, 3) := by decide +kernel
theorem d_Mo_greatest_103 : decode (M_Mo_greatest).cc 103 = .ok (.aload_n 0, 1) := by decide +kernel
theorem d_Mo_greatest_104 : decode (M_Mo_greatest).cc 104 = .ok (.getfield 46, 3) := by decide +kernel
theorem d_Mo_greatest_107 : decode (M_Mo_greatest).cc 107 = .ok (.iload_n 3, 1) := by decide +kernel
theorem d_Mo_greatest_108 : decode (M_Mo_greatest).cc 108 = .ok (.iaload, 1) := by decide +kernel
theorem d_Mo_greatest_109 : decode (M_Mo_greatest).cc 109 = .ok (.aload_n 0, 1) := by decide +kernel
theorem d_Mo_greatest_110 : decode (M_Mo_greatest).cc 110 = .ok (.getfield 17, 3) := by decide +kernel
theorem d_Mo_greatest_113 : decode (M_Mo_greatest).cc 113 = .ok (.iload_n 2, 1) := by decide +kernel
theorem d_Mo_greatest_114 : decode (M_Mo_greatest).cc 114 = .ok (.iaload, 1) := by decide +kernel
theorem d_Mo_greatest_115 : decode (M_Mo_greatest).cc 115 = .ok (.if_icmp .eq 9, 3) := by decide +kernel
theorem d_Mo_greatest_118 : decode (M_Mo_greatest).cc 118 = .ok (.iinc 3 1, 3) := by decide +kernel
theorem d_Mo_greatest_121 : decode (M_Mo_greatest).cc 121 = .ok (.goto (-35), 3) := by decide +kernel
theorem d_Mo_greatest_124 : decode (M_Mo_greatest).cc 124 = .ok (.iload_n 3, 1) := by decide +kernel
theorem d_Mo_greatest_125 : decode (M_Mo_greatest).cc 125 = .ok (.aload_n 0, 1) := by decide +kernel
theorem d_Mo_greatest_126 : decode (M_Mo_greatest).cc 126 = .ok (.getfield 129, 3) := by decide +kernel
theorem d_Mo_greatest_129 : decode (M_Mo_greatest).cc 129 = .ok (.if_icmp .ne 9, 3) := by decide +kernel
theorem d_Mo_greatest_132 : decode (M_Mo_greatest).cc 132 = .ok (.iinc 2 (-1), 3) := by decide +kernel
theorem d_Mo_greatest_135 : decode (M_Mo_greatest).cc 135 = .ok (.goto 27, 3) := by decide +kernel
theorem d_Mo_greatest_138 : decode (M_Mo_greatest).cc 138 = .ok (.aload_n 0, 1) := by decide +kernel
theorem d_Mo_greatest_139 : decode (M_Mo_greatest).cc 139 = .ok (.getfield 39, 3) := by decide +kernel
theorem d_Mo_greatest_142 : decode (M_Mo_greatest).cc 142 = .ok (.iload_n 2, 1) := by decide +kernel
theorem d_Mo_greatest_143 : decode (M_Mo_greatest).cc 143 = .ok (.iload_n 3, 1) := by decide +kernel
theorem d_Mo_greatest_144 : decode (M_Mo_greatest).cc 144 = .ok (.iastore, 1) := by decide +kernel
theorem d_Mo_greatest_145 : decode (M_Mo_greatest).cc 145 = .ok (.aload_n 0, 1) := by decide +kernel
theorem d_Mo_greatest_146 : decode (M_Mo_greatest).cc 146 = .ok (.getfield 42, 3) := by decide +kernel
theorem d_Mo_greatest_149 : decode (M_Mo_greatest).cc 149 = .ok (.iload_n 3, 1) := by decide +kernel
theorem d_Mo_greatest_150 : decode (M_Mo_greatest).cc 150 = .ok (.iconst 1, 1) := by decide +kernel
theorem d_Mo_greatest_151 : decode (M_Mo_greatest).cc 151 = .ok (.bastore, 1) := by decide +kernel
theorem d_Mo_greatest_152 : decode (M_Mo_greatest).cc 152 = .ok (.iinc 2 1, 3) := by decide +kernel
theorem d_Mo_greatest_155 : decode (M_Mo_greatest).cc 155 = .ok (.aload_n 0, 1) := by decide +kernel
theorem d_Mo_greatest_156 : decode (M_Mo_greatest).cc 156 = .ok (.getfield 39, 3) := by decide +kernel
theorem d_Mo_greatest_159 : decode (M_Mo_greatest).cc 159 = .ok (.iload_n 2, 1) := by decide +kernel
theorem d_Mo_greatest_160 : decode (M_Mo_greatest).cc 160 = .ok (.iconst (-1), 1) := by decide +kernel
theorem d_Mo_greatest_161 : decode (M_Mo_greatest).cc 161 = .ok (.iastore, 1) := by decide +kernel
theorem d_Mo_greatest_162 : decode (M_Mo_greatest).cc 162 = .ok (.goto (-130), 3) := by decide +kernel
theorem d_Mo_greatest_165 : decode (M_Mo_greatest).cc 165 = .ok (.iload_n 1, 1) := by decide +kernel
theorem d_Mo_greatest_166 : decode (M_Mo_greatest).cc 166 = .ok (.ireturn, 1) := by decide +kernel
theorem d_Mo_take_0 : decode (M_Mo_take).cc 0 = .ok (.iconst 0, 1) := by decide +kernel
theorem d_Mo_take_1 : decode (M_Mo_take).cc 1 = .ok (.istore_n 1, 1) := by decide +kernel
theorem d_Mo_take_2 : decode (M_Mo_take).cc 2 = .ok (.iconst 1, 1) := by decide +kernel
theorem d_Mo_take_3 : decode (M_Mo_take).cc 3 = .ok (.istore_n 2, 1) := by decide +kernel
theorem d_Mo_take_4 : decode (M_Mo_take).cc 4 = .ok (.iload_n 2, 1) := by decide +kernel
theorem d_Mo_take_5 : decode (M_Mo_take).cc 5 = .ok (.aload_n 0, 1) := by decide +kernel
theorem d_Mo_take_6 : decode (M_Mo_take).cc 6 = .ok (.getfield 129, 3) := by decide +kernel
theorem d_Mo_take_9 : decode (M_Mo_take).cc 9 = .ok (.if_icmp .ge 107, 3) := by decide +kernel
theorem d_Mo_take_12 : decode (M_Mo_take).cc 12 = .ok (.iconst 0, 1) := by decide +kernel
theorem d_Mo_take_13 : decode (M_Mo_take).cc 13 = .ok (.istore_n 3, 1) := by decide +kernel
theorem d_Mo_take_14 : decode (M_Mo_take).cc 14 = .ok (.iload_n 3, 1) := by decide +kernel
theorem d_Mo_take_15 : decode (M_Mo_take).cc 15 = .ok (.iload_n 2, 1) := by decide +kernel
theorem d_Mo_take_16 : decode (M_Mo_take).cc 16 = .ok (.if_icmp .ge 94, 3) := by decide +kernel
theorem d_Mo_take_19 : decode (M_Mo_take).cc 19 = .ok (.aload_n 0, 1) := by decide +kernel
theorem d_Mo_take_20 : decode (M_Mo_take).cc 20 = .ok (.getfield 49, 3) := by decide +kernel
theorem d_Mo_take_23 : decode (M_Mo_take).cc 23 = .ok (.bipush 6, 2) := by decide +kernel
theorem d_Mo_take_25 : decode (M_Mo_take).cc 25 = .ok (.aload_n 0, 1) := by decide +kernel
theorem d_Mo_take_26 : decode (M_Mo_take).cc 26 = .ok (.getfield 39, 3) := by decide +kernel
theorem d_Mo_take_29 : decode (M_Mo_take).cc 29 = .ok (.iload_n 2, 1) := by decide +kernel
theorem d_Mo_take_30 : decode (M_Mo_take).cc 30 = .ok (.iaload, 1) := by decide +kernel
theorem d_Mo_take_31 : decode (M_Mo_take).cc 31 = .ok (.imul, 1) := by decide +kernel
theorem d_Mo_take_32 : decode (M_Mo_take).cc 32 = .ok (.aload_n 0, 1) := by decide +kernel
theorem d_Mo_take_33 : decode (M_Mo_take).cc 33 = .ok (.getfield 39, 3) := by decide +kernel
theorem d_Mo_take_36 : decode (M_Mo_take).cc 36 = .ok (.iload_n 3, 1) := by decide +kernel
theorem d_Mo_take_37 : decode (M_Mo_take).cc 37 = .ok (.iaload, 1) := by decide +kernel
theorem d_Mo_take_38 : decode (M_Mo_take).cc 38 = .ok (.iadd, 1) := by decide +kernel
theorem d_Mo_take_39 : decode (M_Mo_take).cc 39 = .ok (.iaload, 1) := by decide +kernel
theorem d_Mo_take_40 : decode (M_Mo_take).cc 40 = .ok (.istore 4, 2) := by decide +kernel
theorem d_Mo_take_42 : decode (M_Mo_take).cc 42 = .ok (.iload_n 2, 1) := by decide +kernel
theorem d_Mo_take_43 : decode (M_Mo_take).cc 43 = .ok (.iload_n 3, 1) := by decide +kernel
theorem d_Mo_take_44 : decode (M_Mo_take).cc 44 = .ok (.invokestatic 164, 3) := by decide +kernel
theorem d_Mo_take_47 : decode (M_Mo_take).cc 47 = .ok (.istore 5, 2) := by decide +kernel
theorem d_Mo_take_49 : decode (M_Mo_take).cc 49 = .ok (.iload_n 1, 1) := by decide +kernel
theorem d_Mo_take_50 : decode (M_Mo_take).cc 50 = .ok (.ifCond .ne 39, 3) := by decide +kernel
theorem d_Mo_take_53 : decode (M_Mo_take).cc 53 = .ok (.iload 4, 2) := by decide +kernel
theorem d_Mo_take_55 : decode (M_Mo_take).cc 55 = .ok (.aload_n 0, 1) := by decide +kernel
theorem d_Mo_take_56 : decode (M_Mo_take).cc 56 = .ok (.getfield 52, 3) := by decide +kernel
theorem d_Mo_take_59 : decode (M_Mo_take).cc 59 = .ok (.iload 5, 2) := by decide +kernel
theorem d_Mo_take_61 : decode (M_Mo_take).cc 61 = .ok (.iaload, 1) := by decide +kernel
theorem d_Mo_take_62 : decode (M_Mo_take).cc 62 = .ok (.if_icmp .le 7, 3) := by decide +kernel
theorem d_Mo_take_65 : decode (M_Mo_take).cc 65 = .ok (.iconst 1, 1) := by decide +kernel
theorem d_Mo_take_66 : decode (M_Mo_take).cc 66 = .ok (.goto 24, 3) := by decide +kernel
theorem d_Mo_take_69 : decode (M_Mo_take).cc 69 = .ok (.iload 4, 2) := by decide +kernel
theorem d_Mo_take_71 : decode (M_Mo_take).cc 71 = .ok (.aload_n 0, 1) := by decide +kernel
theorem d_Mo_take_72 : decode (M_Mo_take).cc 72 = .ok (.getfield 52, 3) := by decide +kernel
theorem d_Mo_take_75 : decode (M_Mo_take).cc 75 = .ok (.iload 5, 2) := by decide +kernel
theorem d_Mo_take_77 : decode (M_Mo_take).cc 77 = .ok (.iaload, 1) := by decide +kernel
theorem d_Mo_take_78 : decode (M_Mo_take).cc 78 = .ok (.if_icmp .ge 7, 3) := by decide +kernel
theorem d_Mo_take_81 : decode (M_Mo_take).cc 81 = .ok (.iconst (-1), 1) := by decide +kernel
theorem d_Mo_take_82 : decode (M_Mo_take).cc 82 = .ok (.goto 8, 3) := by decide +kernel
theorem d_Mo_take_85 : decode (M_Mo_take).cc 85 = .ok (.iconst 0, 1) := by decide +kernel
theorem d_Mo_take_86 : decode (M_Mo_take).cc 86 = .ok (.goto 4, 3) := by decide +kernel
theorem d_Mo_take_89 : decode (M_Mo_take).cc 89 = .ok (.iload_n 1, 1) := by decide +kernel
theorem d_Mo_take_90 : decode (M_Mo_take).cc 90 = .ok (.istore_n 1, 1) := by decide +kernel
theorem d_Mo_take_91 : decode (M_Mo_take).cc 91 = .ok (.iload_n 1, 1) := by decide +kernel
theorem d_Mo_take_92 : decode (M_Mo_take).cc 92 = .ok (.ifCond .le 12, 3) := by decide +kernel
theorem d_Mo_take_95 : decode (M_Mo_take).cc 95 = .ok (.aload_n 0, 1) := by decide +kernel
theorem d_Mo_take_96 : decode (M_Mo_take).cc 96 = .ok (.getfield 52, 3) := by decide +kernel
theorem d_Mo_take_99 : decode (M_Mo_take).cc 99 = .ok (.iload 5, 2) := by decide +kernel
theorem d_Mo_take_101 : decode (M_Mo_take).cc 101 = .ok (.iload 4, 2) := by decide +kernel
theorem d_Mo_take_103 : decode (M_Mo_take).cc 103 = .ok (.iastore, 1) := by decide +kernel
theorem d_Mo_take_104 : decode (M_Mo_take).cc 104 = .ok (.iinc 3 1, 3) := by decide +kernel
theorem d_Mo_take_107 : decode (M_Mo_take).cc 107 = .ok (.goto (-93), 3) := by decide +kernel
theorem d_Mo_take_110 : decode (M_Mo_take).cc 110 = .ok (.iinc 2 1, 3) := by decide +kernel
theorem d_Mo_take_113 : decode (M_Mo_take).cc 113 = .ok (.goto (-109), 3) := by decide +kernel
theorem d_Mo_take_116 : decode (M_Mo_take).cc 116 = .ok (.return_, 1) := by decide +kernel
theorem d_Mo_place_0 : decode (M_Mo_place).cc 0 = .ok (.aload_n 0, 1) := by decide +kernel
theorem d_Mo_place_1 : decode (M_Mo_place).cc 1 = .ok (.iconst 0, 1) := by decide +kernel
theorem d_Mo_place_2 : decode (M_Mo_place).cc 2 = .ok (.putfield 85, 3) := by decide +kernel
theorem d_Mo_place_5 : decode (M_Mo_place).cc 5 = .ok (.aload_n 0, 1) := by decide +kernel
theorem d_Mo_place_6 : decode (M_Mo_place).cc 6 = .ok (.getfield 13, 3) := by decide +kernel
theorem d_Mo_place_9 : decode (M_Mo_place).cc 9 = .ok (.ireturn, 1) := by decide +kernel
theorem d_Mo_count_0 : decode (M_Mo_count).cc 0 = .ok (.aload_n 0, 1) := by decide +kernel
theorem d_Mo_count_1 : decode (M_Mo_count).cc 1 = .ok (.iconst 0, 1) := by decide +kernel
theorem d_Mo_count_2 : decode (M_Mo_count).cc 2 = .ok (.putfield 85, 3) := by decide +kernel
theorem d_Mo_count_5 : decode (M_Mo_count).cc 5 = .ok (.iload_n 1, 1) := by decide +kernel
theorem d_Mo_count_6 : decode (M_Mo_count).cc 6 = .ok (.ifCond .ne 10, 3) := by decide +kernel
theorem d_Mo_count_9 : decode (M_Mo_count).cc 9 = .ok (.aload_n 0, 1) := by decide +kernel
theorem d_Mo_count_10 : decode (M_Mo_count).cc 10 = .ok (.getfield 135, 3) := by decide +kernel
theorem d_Mo_count_13 : decode (M_Mo_count).cc 13 = .ok (.goto 28, 3) := by decide +kernel
theorem d_Mo_count_16 : decode (M_Mo_count).cc 16 = .ok (.iload_n 1, 1) := by decide +kernel
theorem d_Mo_count_17 : decode (M_Mo_count).cc 17 = .ok (.iconst 1, 1) := by decide +kernel
theorem d_Mo_count_18 : decode (M_Mo_count).cc 18 = .ok (.if_icmp .ne 10, 3) := by decide +kernel
theorem d_Mo_count_21 : decode (M_Mo_count).cc 21 = .ok (.aload_n 0, 1) := by decide +kernel
theorem d_Mo_count_22 : decode (M_Mo_count).cc 22 = .ok (.getfield 129, 3) := by decide +kernel
theorem d_Mo_count_25 : decode (M_Mo_count).cc 25 = .ok (.goto 16, 3) := by decide +kernel
theorem d_Mo_count_28 : decode (M_Mo_count).cc 28 = .ok (.iload_n 1, 1) := by decide +kernel
theorem d_Mo_count_29 : decode (M_Mo_count).cc 29 = .ok (.iconst 2, 1) := by decide +kernel
theorem d_Mo_count_30 : decode (M_Mo_count).cc 30 = .ok (.if_icmp .ne 10, 3) := by decide +kernel
theorem d_Mo_count_33 : decode (M_Mo_count).cc 33 = .ok (.aload_n 0, 1) := by decide +kernel
theorem d_Mo_count_34 : decode (M_Mo_count).cc 34 = .ok (.getfield 132, 3) := by decide +kernel
theorem d_Mo_count_37 : decode (M_Mo_count).cc 37 = .ok (.goto 4, 3) := by decide +kernel
theorem d_Mo_count_40 : decode (M_Mo_count).cc 40 = .ok (.iconst (-1), 1) := by decide +kernel
theorem d_Mo_count_41 : decode (M_Mo_count).cc 41 = .ok (.ireturn, 1) := by decide +kernel
theorem d_Mo_element_0 : decode (M_Mo_element).cc 0 = .ok (.aload_n 0, 1) := by decide +kernel
theorem d_Mo_element_1 : decode (M_Mo_element).cc 1 = .ok (.aload_n 0, 1) := by decide +kernel
theorem d_Mo_element_2 : decode (M_Mo_element).cc 2 = .ok (.iload_n 1, 1) := by decide +kernel
theorem d_Mo_element_3 : decode (M_Mo_element).cc 3 = .ok (.invokevirtual 190, 3) := by decide +kernel
theorem d_Mo_element_6 : decode (M_Mo_element).cc 6 = .ok (.ifCond .eq 7, 3) := by decide +kernel
theorem d_Mo_element_9 : decode (M_Mo_element).cc 9 = .ok (.iconst 0, 1) := by decide +kernel
theorem d_Mo_element_10 : decode (M_Mo_element).cc 10 = .ok (.goto 4, 3) := by decide +kernel
theorem d_Mo_element_13 : decode (M_Mo_element).cc 13 = .ok (.iconst 1, 1) := by decide +kernel
theorem d_Mo_element_14 : decode (M_Mo_element).cc 14 = .ok (.invokevirtual 91, 3) := by decide +kernel
theorem d_Mo_element_17 : decode (M_Mo_element).cc 17 = .ok (.ifCond .eq 7, 3) := by decide +kernel
theorem d_Mo_element_20 : decode (M_Mo_element).cc 20 = .ok (.iconst 0, 1) := by decide +kernel
theorem d_Mo_element_21 : decode (M_Mo_element).cc 21 = .ok (.goto 9, 3) := by decide +kernel
theorem d_Mo_element_24 : decode (M_Mo_element).cc 24 = .ok (.aload_n 0, 1) := by decide +kernel
theorem d_Mo_element_25 : decode (M_Mo_element).cc 25 = .ok (.getfield 17, 3) := by decide +kernel
theorem d_Mo_element_28 : decode (M_Mo_element).cc 28 = .ok (.iload_n 1, 1) := by decide +kernel
theorem d_Mo_element_29 : decode (M_Mo_element).cc 29 = .ok (.iaload, 1) := by decide +kernel
theorem d_Mo_element_30 : decode (M_Mo_element).cc 30 = .ok (.ireturn, 1) := by decide +kernel
theorem d_Mo_isAtom_0 : decode (M_Mo_isAtom).cc 0 = .ok (.iload_n 1, 1) := by decide +kernel
theorem d_Mo_isAtom_1 : decode (M_Mo_isAtom).cc 1 = .ok (.ifCond .lt 15, 3) := by decide +kernel
theorem d_Mo_isAtom_4 : decode (M_Mo_isAtom).cc 4 = .ok (.iload_n 1, 1) := by decide +kernel
theorem d_Mo_isAtom_5 : decode (M_Mo_isAtom).cc 5 = .ok (.aload_n 0, 1) := by decide +kernel
theorem d_Mo_isAtom_6 : decode (M_Mo_isAtom).cc 6 = .ok (.getfield 129, 3) := by decide +kernel
theorem d_Mo_isAtom_9 : decode (M_Mo_isAtom).cc 9 = .ok (.if_icmp .ge 7, 3) := by decide +kernel
theorem d_Mo_isAtom_12 : decode (M_Mo_isAtom).cc 12 = .ok (.iconst 1, 1) := by decide +kernel
theorem d_Mo_isAtom_13 : decode (M_Mo_isAtom).cc 13 = .ok (.goto 4, 3) := by decide +kernel
theorem d_Mo_isAtom_16 : decode (M_Mo_isAtom).cc 16 = .ok (.iconst 0, 1) := by decide +kernel
theorem d_Mo_isAtom_17 : decode (M_Mo_isAtom).cc 17 = .ok (.ireturn, 1) := by decide +kernel
theorem d_Mo_bond_0 : decode (M_Mo_bond).cc 0 = .ok (.aload_n 0, 1) := by decide +kernel
theorem d_Mo_bond_1 : decode (M_Mo_bond).cc 1 = .ok (.aload_n 0, 1) := by decide +kernel
theorem d_Mo_bond_2 : decode (M_Mo_bond).cc 2 = .ok (.iload_n 1, 1) := by decide +kernel
theorem d_Mo_bond_3 : decode (M_Mo_bond).cc 3 = .ok (.invokevirtual 193, 3) := by decide +kernel
theorem d_Mo_bond_6 : decode (M_Mo_bond).cc 6 = .ok (.ifCond .eq 23, 3) := by decide +kernel
theorem d_Mo_bond_9 : decode (M_Mo_bond).cc 9 = .ok (.aload_n 0, 1) := by decide +kernel
theorem d_Mo_bond_10 : decode (M_Mo_bond).cc 10 = .ok (.iload_n 2, 1) := by decide +kernel
theorem d_Mo_bond_11 : decode (M_Mo_bond).cc 11 = .ok (.invokevirtual 190, 3) := by decide +kernel
theorem d_Mo_bond_14 : decode (M_Mo_bond).cc 14 = .ok (.ifCond .eq 15, 3) := by decide +kernel
theorem d_Mo_bond_17 : decode (M_Mo_bond).cc 17 = .ok (.aload_n 0, 1) := by decide +kernel
theorem d_Mo_bond_18 : decode (M_Mo_bond).cc 18 = .ok (.iload_n 3, 1) := by decide +kernel
theorem d_Mo_bond_19 : decode (M_Mo_bond).cc 19 = .ok (.invokevirtual 190, 3) := by decide +kernel
theorem d_Mo_bond_22 : decode (M_Mo_bond).cc 22 = .ok (.ifCond .eq 7, 3) := by decide +kernel
theorem d_Mo_bond_25 : decode (M_Mo_bond).cc 25 = .ok (.iconst 0, 1) := by decide +kernel
theorem d_Mo_bond_26 : decode (M_Mo_bond).cc 26 = .ok (.goto 4, 3) := by decide +kernel
theorem d_Mo_bond_29 : decode (M_Mo_bond).cc 29 = .ok (.iconst 1, 1) := by decide +kernel
theorem d_Mo_bond_30 : decode (M_Mo_bond).cc 30 = .ok (.invokevirtual 91, 3) := by decide +kernel
theorem d_Mo_bond_33 : decode (M_Mo_bond).cc 33 = .ok (.ifCond .eq 7, 3) := by decide +kernel
theorem d_Mo_bond_36 : decode (M_Mo_bond).cc 36 = .ok (.iconst 0, 1) := by decide +kernel
theorem d_Mo_bond_37 : decode (M_Mo_bond).cc 37 = .ok (.goto 10, 3) := by decide +kernel
theorem d_Mo_bond_40 : decode (M_Mo_bond).cc 40 = .ok (.aload_n 0, 1) := by decide +kernel
theorem d_Mo_bond_41 : decode (M_Mo_bond).cc 41 = .ok (.iload_n 1, 1) := by decide +kernel
theorem d_Mo_bond_42 : decode (M_Mo_bond).cc 42 = .ok (.iload_n 2, 1) := by decide +kernel
theorem d_Mo_bond_43 : decode (M_Mo_bond).cc 43 = .ok (.iload_n 3, 1) := by decide +kernel
theorem d_Mo_bond_44 : decode (M_Mo_bond).cc 44 = .ok (.invokevirtual 196, 3) := by decide +kernel
theorem d_Mo_bond_47 : decode (M_Mo_bond).cc 47 = .ok (.ireturn, 1) := by decide +kernel
theorem d_Mo_isStructure_0 : decode (M_Mo_isStructure).cc 0 = .ok (.iload_n 1, 1) := by decide +kernel
theorem d_Mo_isStructure_1 : decode (M_Mo_isStructure).cc 1 = .ok (.ifCond .lt 15, 3) := by decide +kernel
theorem d_Mo_isStructure_4 : decode (M_Mo_isStructure).cc 4 = .ok (.iload_n 1, 1) := by decide +kernel
theorem d_Mo_isStructure_5 : decode (M_Mo_isStructure).cc 5 = .ok (.aload_n 0, 1) := by decide +kernel
theorem d_Mo_isStructure_6 : decode (M_Mo_isStructure).cc 6 = .ok (.getfield 135, 3) := by decide +kernel
theorem d_Mo_isStructure_9 : decode (M_Mo_isStructure).cc 9 = .ok (.if_icmp .ge 7, 3) := by decide +kernel
theorem d_Mo_isStructure_12 : decode (M_Mo_isStructure).cc 12 = .ok (.iconst 1, 1) := by decide +kernel
theorem d_Mo_isStructure_13 : decode (M_Mo_isStructure).cc 13 = .ok (.goto 4, 3) := by decide +kernel
theorem d_Mo_isStructure_16 : decode (M_Mo_isStructure).cc 16 = .ok (.iconst 0, 1) := by decide +kernel
theorem d_Mo_isStructure_17 : decode (M_Mo_isStructure).cc 17 = .ok (.ireturn, 1) := by decide +kernel
theorem d_Mo_bondOf_0 : decode (M_Mo_bondOf).cc 0 = .ok (.iload_n 2, 1) := by decide +kernel
theorem d_Mo_bondOf_1 : decode (M_Mo_bondOf).cc 1 = .ok (.iload_n 3, 1) := by decide +kernel
theorem d_Mo_bondOf_2 : decode (M_Mo_bondOf).cc 2 = .ok (.if_icmp .ne 7, 3) := by decide +kernel
theorem d_Mo_bondOf_5 : decode (M_Mo_bondOf).cc 5 = .ok (.iconst 0, 1) := by decide +kernel
theorem d_Mo_bondOf_6 : decode (M_Mo_bondOf).cc 6 = .ok (.goto 18, 3) := by decide +kernel
theorem d_Mo_bondOf_9 : decode (M_Mo_bondOf).cc 9 = .ok (.aload_n 0, 1) := by decide +kernel
theorem d_Mo_bondOf_10 : decode (M_Mo_bondOf).cc 10 = .ok (.getfield 21, 3) := by decide +kernel
theorem d_Mo_bondOf_13 : decode (M_Mo_bondOf).cc 13 = .ok (.bipush 15, 2) := by decide +kernel
theorem d_Mo_bondOf_15 : decode (M_Mo_bondOf).cc 15 = .ok (.iload_n 1, 1) := by decide +kernel
theorem d_Mo_bondOf_16 : decode (M_Mo_bondOf).cc 16 = .ok (.imul, 1) := by decide +kernel
theorem d_Mo_bondOf_17 : decode (M_Mo_bondOf).cc 17 = .ok (.iload_n 2, 1) := by decide +kernel
theorem d_Mo_bondOf_18 : decode (M_Mo_bondOf).cc 18 = .ok (.iload_n 3, 1) := by decide +kernel
theorem d_Mo_bondOf_19 : decode (M_Mo_bondOf).cc 19 = .ok (.invokestatic 164, 3) := by decide +kernel
theorem d_Mo_bondOf_22 : decode (M_Mo_bondOf).cc 22 = .ok (.iadd, 1) := by decide +kernel
theorem d_Mo_bondOf_23 : decode (M_Mo_bondOf).cc 23 = .ok (.iaload, 1) := by decide +kernel
theorem d_Mo_bondOf_24 : decode (M_Mo_bondOf).cc 24 = .ok (.ireturn, 1) := by decide +kernel
theorem d_Mo_hydrogens_0 : decode (M_Mo_hydrogens).cc 0 = .ok (.aload_n 0, 1) := by decide +kernel
theorem d_Mo_hydrogens_1 : decode (M_Mo_hydrogens).cc 1 = .ok (.aload_n 0, 1) := by decide +kernel
theorem d_Mo_hydrogens_2 : decode (M_Mo_hydrogens).cc 2 = .ok (.iload_n 1, 1) := by decide +kernel
theorem d_Mo_hydrogens_3 : decode (M_Mo_hydrogens).cc 3 = .ok (.invokevirtual 193, 3) := by decide +kernel
theorem d_Mo_hydrogens_6 : decode (M_Mo_hydrogens).cc 6 = .ok (.ifCond .eq 15, 3) := by decide +kernel
theorem d_Mo_hydrogens_9 : decode (M_Mo_hydrogens).cc 9 = .ok (.aload_n 0, 1) := by decide +kernel
theorem d_Mo_hydrogens_10 : decode (M_Mo_hydrogens).cc 10 = .ok (.iload_n 2, 1) := by decide +kernel
theorem d_Mo_hydrogens_11 : decode (M_Mo_hydrogens).cc 11 = .ok (.invokevirtual 190, 3) := by decide +kernel
theorem d_Mo_hydrogens_14 : decode (M_Mo_hydrogens).cc 14 = .ok (.ifCond .eq 7, 3) := by decide +kernel
theorem d_Mo_hydrogens_17 : decode (M_Mo_hydrogens).cc 17 = .ok (.iconst 0, 1) := by decide +kernel
theorem d_Mo_hydrogens_18 : decode (M_Mo_hydrogens).cc 18 = .ok (.goto 4, 3) := by decide +kernel
theorem d_Mo_hydrogens_21 : decode (M_Mo_hydrogens).cc 21 = .ok (.iconst 1, 1) := by decide +kernel
theorem d_Mo_hydrogens_22 : decode (M_Mo_hydrogens).cc 22 = .ok (.invokevirtual 91, 3) := by decide +kernel
theorem d_Mo_hydrogens_25 : decode (M_Mo_hydrogens).cc 25 = .ok (.ifCond .eq 5, 3) := by decide +kernel
theorem d_Mo_hydrogens_28 : decode (M_Mo_hydrogens).cc 28 = .ok (.iconst 0, 1) := by decide +kernel
theorem d_Mo_hydrogens_29 : decode (M_Mo_hydrogens).cc 29 = .ok (.ireturn, 1) := by decide +kernel
theorem d_Mo_hydrogens_30 : decode (M_Mo_hydrogens).cc 30 = .ok (.aload_n 0, 1) := by decide +kernel
theorem d_Mo_hydrogens_31 : decode (M_Mo_hydrogens).cc 31 = .ok (.getfield 17, 3) := by decide +kernel
theorem d_Mo_hydrogens_34 : decode (M_Mo_hydrogens).cc 34 = .ok (.iload_n 2, 1) := by decide +kernel
theorem d_Mo_hydrogens_35 : decode (M_Mo_hydrogens).cc 35 = .ok (.iaload, 1) := by decide +kernel
theorem d_Mo_hydrogens_36 : decode (M_Mo_hydrogens).cc 36 = .ok (.invokestatic 114, 3) := by decide +kernel
theorem d_Mo_hydrogens_39 : decode (M_Mo_hydrogens).cc 39 = .ok (.istore_n 3, 1) := by decide +kernel
theorem d_Mo_hydrogens_40 : decode (M_Mo_hydrogens).cc 40 = .ok (.iconst 0, 1) := by decide +kernel
theorem d_Mo_hydrogens_41 : decode (M_Mo_hydrogens).cc 41 = .ok (.istore 4, 2) := by decide +kernel
theorem d_Mo_hydrogens_43 : decode (M_Mo_hydrogens).cc 43 = .ok (.iload 4, 2) := by decide +kernel
theorem d_Mo_hydrogens_45 : decode (M_Mo_hydrogens).cc 45 = .ok (.aload_n 0, 1) := by decide +kernel
theorem d_Mo_hydrogens_46 : decode (M_Mo_hydrogens).cc 46 = .ok (.getfield 129, 3) := by decide +kernel
theorem d_Mo_hydrogens_49 : decode (M_Mo_hydrogens).cc 49 = .ok (.if_icmp .ge 20, 3) := by decide +kernel
theorem d_Mo_hydrogens_52 : decode (M_Mo_hydrogens).cc 52 = .ok (.iload_n 3, 1) := by decide +kernel
theorem d_Mo_hydrogens_53 : decode (M_Mo_hydrogens).cc 53 = .ok (.aload_n 0, 1) := by decide +kernel
theorem d_Mo_hydrogens_54 : decode (M_Mo_hydrogens).cc 54 = .ok (.iload_n 1, 1) := by decide +kernel
theorem d_Mo_hydrogens_55 : decode (M_Mo_hydrogens).cc 55 = .ok (.iload_n 2, 1) := by decide +kernel
theorem d_Mo_hydrogens_56 : decode (M_Mo_hydrogens).cc 56 = .ok (.iload 4, 2) := by decide +kernel
theorem d_Mo_hydrogens_58 : decode (M_Mo_hydrogens).cc 58 = .ok (.invokevirtual 196, 3) := by decide +kernel
theorem d_Mo_hydrogens_61 : decode (M_Mo_hydrogens).cc 61 = .ok (.isub, 1) := by decide +kernel
theorem d_Mo_hydrogens_62 : decode (M_Mo_hydrogens).cc 62 = .ok (.istore_n 3, 1) := by decide +kernel
theorem d_Mo_hydrogens_63 : decode (M_Mo_hydrogens).cc 63 = .ok (.iinc 4 1, 3) := by decide +kernel
theorem d_Mo_hydrogens_66 : decode (M_Mo_hydrogens).cc 66 = .ok (.goto (-23), 3) := by decide +kernel
theorem d_Mo_hydrogens_69 : decode (M_Mo_hydrogens).cc 69 = .ok (.iload_n 3, 1) := by decide +kernel
theorem d_Mo_hydrogens_70 : decode (M_Mo_hydrogens).cc 70 = .ok (.ireturn, 1) := by decide +kernel
theorem d_Mo_ways_0 : decode (M_Mo_ways).cc 0 = .ok (.aload_n 0, 1) := by decide +kernel
theorem d_Mo_ways_1 : decode (M_Mo_ways).cc 1 = .ok (.aload_n 0, 1) := by decide +kernel
theorem d_Mo_ways_2 : decode (M_Mo_ways).cc 2 = .ok (.iload_n 1, 1) := by decide +kernel
theorem d_Mo_ways_3 : decode (M_Mo_ways).cc 3 = .ok (.invokevirtual 193, 3) := by decide +kernel
theorem d_Mo_ways_6 : decode (M_Mo_ways).cc 6 = .ok (.ifCond .eq 7, 3) := by decide +kernel
theorem d_Mo_ways_9 : decode (M_Mo_ways).cc 9 = .ok (.iconst 0, 1) := by decide +kernel
theorem d_Mo_ways_10 : decode (M_Mo_ways).cc 10 = .ok (.goto 4, 3) := by decide +kernel
theorem d_Mo_ways_13 : decode (M_Mo_ways).cc 13 = .ok (.iconst 1, 1) := by decide +kernel
theorem d_Mo_ways_14 : decode (M_Mo_ways).cc 14 = .ok (.invokevirtual 91, 3) := by decide +kernel
theorem d_Mo_ways_17 : decode (M_Mo_ways).cc 17 = .ok (.ifCond .eq 5, 3) := by decide +kernel
theorem d_Mo_ways_20 : decode (M_Mo_ways).cc 20 = .ok (.iconst 0, 1) := by decide +kernel
theorem d_Mo_ways_21 : decode (M_Mo_ways).cc 21 = .ok (.ireturn, 1) := by decide +kernel
theorem d_Mo_ways_22 : decode (M_Mo_ways).cc 22 = .ok (.iconst 0, 1) := by decide +kernel
theorem d_Mo_ways_23 : decode (M_Mo_ways).cc 23 = .ok (.istore_n 2, 1) := by decide +kernel
theorem d_Mo_ways_24 : decode (M_Mo_ways).cc 24 = .ok (.iload_n 2, 1) := by decide +kernel
theorem d_Mo_ways_25 : decode (M_Mo_ways).cc 25 = .ok (.aload_n 0, 1) := by decide +kernel
theorem d_Mo_ways_26 : decode (M_Mo_ways).cc 26 = .ok (.getfield 129, 3) := by decide +kernel
theorem d_Mo_ways_29 : decode (M_Mo_ways).cc 29 = .ok (.if_icmp .ge 21, 3) := by decide +kernel
theorem d_Mo_ways_32 : decode (M_Mo_ways).cc 32 = .ok (.aload_n 0, 1) := by decide +kernel
theorem d_Mo_ways_33 : decode (M_Mo_ways).cc 33 = .ok (.getfield 24, 3) := by decide +kernel
theorem d_Mo_ways_36 : decode (M_Mo_ways).cc 36 = .ok (.iload_n 2, 1) := by decide +kernel
theorem d_Mo_ways_37 : decode (M_Mo_ways).cc 37 = .ok (.aload_n 0, 1) := by decide +kernel
theorem d_Mo_ways_38 : decode (M_Mo_ways).cc 38 = .ok (.getfield 17, 3) := by decide +kernel
theorem d_Mo_ways_41 : decode (M_Mo_ways).cc 41 = .ok (.iload_n 2, 1) := by decide +kernel
theorem d_Mo_ways_42 : decode (M_Mo_ways).cc 42 = .ok (.iaload, 1) := by decide +kernel
theorem d_Mo_ways_43 : decode (M_Mo_ways).cc 43 = .ok (.iastore, 1) := by decide +kernel
theorem d_Mo_ways_44 : decode (M_Mo_ways).cc 44 = .ok (.iinc 2 1, 3) := by decide +kernel
theorem d_Mo_ways_47 : decode (M_Mo_ways).cc 47 = .ok (.goto (-23), 3) := by decide +kernel
theorem d_Mo_ways_50 : decode (M_Mo_ways).cc 50 = .ok (.iconst 0, 1) := by decide +kernel
theorem d_Mo_ways_51 : decode (M_Mo_ways).cc 51 = .ok (.istore_n 2, 1) := by decide +kernel
theorem d_Mo_ways_52 : decode (M_Mo_ways).cc 52 = .ok (.iload_n 2, 1) := by decide +kernel
theorem d_Mo_ways_53 : decode (M_Mo_ways).cc 53 = .ok (.bipush 15, 2) := by decide +kernel
theorem d_Mo_ways_55 : decode (M_Mo_ways).cc 55 = .ok (.if_icmp .ge 26, 3) := by decide +kernel
theorem d_Mo_ways_58 : decode (M_Mo_ways).cc 58 = .ok (.aload_n 0, 1) := by decide +kernel
theorem d_Mo_ways_59 : decode (M_Mo_ways).cc 59 = .ok (.getfield 27, 3) := by decide +kernel
theorem d_Mo_ways_62 : decode (M_Mo_ways).cc 62 = .ok (.iload_n 2, 1) := by decide +kernel
theorem d_Mo_ways_63 : decode (M_Mo_ways).cc 63 = .ok (.aload_n 0, 1) := by decide +kernel
theorem d_Mo_ways_64 : decode (M_Mo_ways).cc 64 = .ok (.getfield 21, 3) := by decide +kernel
theorem d_Mo_ways_67 : decode (M_Mo_ways).cc 67 = .ok (.bipush 15, 2) := by decide +kernel
theorem d_Mo_ways_69 : decode (M_Mo_ways).cc 69 = .ok (.iload_n 1, 1) := by decide +kernel
theorem d_Mo_ways_70 : decode (M_Mo_ways).cc 70 = .ok (.imul, 1) := by decide +kernel
theorem d_Mo_ways_71 : decode (M_Mo_ways).cc 71 = .ok (.iload_n 2, 1) := by decide +kernel
theorem d_Mo_ways_72 : decode (M_Mo_ways).cc 72 = .ok (.iadd, 1) := by decide +kernel
theorem d_Mo_ways_73 : decode (M_Mo_ways).cc 73 = .ok (.iaload, 1) := by decide +kernel
theorem d_Mo_ways_74 : decode (M_Mo_ways).cc 74 = .ok (.iastore, 1) := by decide +kernel
theorem d_Mo_ways_75 : decode (M_Mo_ways).cc 75 = .ok (.iinc 2 1, 3) := by decide +kernel
theorem d_Mo_ways_78 : decode (M_Mo_ways).cc 78 = .ok (.goto (-26), 3) := by decide +kernel
theorem d_Mo_ways_81 : decode (M_Mo_ways).cc 81 = .ok (.aload_n 0, 1) := by decide +kernel
theorem d_Mo_ways_82 : decode (M_Mo_ways).cc 82 = .ok (.aload_n 0, 1) := by decide +kernel
theorem d_Mo_ways_83 : decode (M_Mo_ways).cc 83 = .ok (.getfield 129, 3) := by decide +kernel
theorem d_Mo_ways_86 : decode (M_Mo_ways).cc 86 = .ok (.invokevirtual 155, 3) := by decide +kernel
theorem d_Mo_ways_89 : decode (M_Mo_ways).cc 89 = .ok (.ireturn, 1) := by decide +kernel
theorem d_Mo_write_0 : decode (M_Mo_write).cc 0 = .ok (.aload_n 0, 1) := by decide +kernel
theorem d_Mo_write_1 : decode (M_Mo_write).cc 1 = .ok (.aload_n 0, 1) := by decide +kernel
theorem d_Mo_write_2 : decode (M_Mo_write).cc 2 = .ok (.iload_n 1, 1) := by decide +kernel
theorem d_Mo_write_3 : decode (M_Mo_write).cc 3 = .ok (.invokevirtual 193, 3) := by decide +kernel
theorem d_Mo_write_6 : decode (M_Mo_write).cc 6 = .ok (.ifCond .eq 7, 3) := by decide +kernel
theorem d_Mo_write_9 : decode (M_Mo_write).cc 9 = .ok (.iconst 0, 1) := by decide +kernel
theorem d_Mo_write_10 : decode (M_Mo_write).cc 10 = .ok (.goto 4, 3) := by decide +kernel
theorem d_Mo_write_13 : decode (M_Mo_write).cc 13 = .ok (.iconst 1, 1) := by decide +kernel
theorem d_Mo_write_14 : decode (M_Mo_write).cc 14 = .ok (.invokevirtual 91, 3) := by decide +kernel
theorem d_Mo_write_17 : decode (M_Mo_write).cc 17 = .ok (.ifCond .eq 5, 3) := by decide +kernel
theorem d_Mo_write_20 : decode (M_Mo_write).cc 20 = .ok (.iconst 0, 1) := by decide +kernel
theorem d_Mo_write_21 : decode (M_Mo_write).cc 21 = .ok (.ireturn, 1) := by decide +kernel
theorem d_Mo_write_22 : decode (M_Mo_write).cc 22 = .ok (.aload_n 0, 1) := by decide +kernel
theorem d_Mo_write_23 : decode (M_Mo_write).cc 23 = .ok (.iload_n 1, 1) := by decide +kernel
theorem d_Mo_write_24 : decode (M_Mo_write).cc 24 = .ok (.invokevirtual 204, 3) := by decide +kernel
theorem d_Mo_write_27 : decode (M_Mo_write).cc 27 = .ok (.aload_n 0, 1) := by decide +kernel
theorem d_Mo_write_28 : decode (M_Mo_write).cc 28 = .ok (.iconst 0, 1) := by decide +kernel
theorem d_Mo_write_29 : decode (M_Mo_write).cc 29 = .ok (.putfield 88, 3) := by decide +kernel
theorem d_Mo_write_32 : decode (M_Mo_write).cc 32 = .ok (.iconst 0, 1) := by decide +kernel
theorem d_Mo_write_33 : decode (M_Mo_write).cc 33 = .ok (.istore_n 2, 1) := by decide +kernel
theorem d_Mo_write_34 : decode (M_Mo_write).cc 34 = .ok (.iload_n 2, 1) := by decide +kernel
theorem d_Mo_write_35 : decode (M_Mo_write).cc 35 = .ok (.bipush 6, 2) := by decide +kernel
theorem d_Mo_write_37 : decode (M_Mo_write).cc 37 = .ok (.if_icmp .ge 23, 3) := by decide +kernel
theorem d_Mo_write_40 : decode (M_Mo_write).cc 40 = .ok (.aload_n 0, 1) := by decide +kernel
theorem d_Mo_write_41 : decode (M_Mo_write).cc 41 = .ok (.getfield 73, 3) := by decide +kernel
theorem d_Mo_write_44 : decode (M_Mo_write).cc 44 = .ok (.iload_n 2, 1) := by decide +kernel
theorem d_Mo_write_45 : decode (M_Mo_write).cc 45 = .ok (.iconst (-1), 1) := by decide +kernel
theorem d_Mo_write_46 : decode (M_Mo_write).cc 46 = .ok (.iastore, 1) := by decide +kernel
theorem d_Mo_write_47 : decode (M_Mo_write).cc 47 = .ok (.aload_n 0, 1) := by decide +kernel
theorem d_Mo_write_48 : decode (M_Mo_write).cc 48 = .ok (.getfield 76, 3) := by decide +kernel
theorem d_Mo_write_51 : decode (M_Mo_write).cc 51 = .ok (.iload_n 2, 1) := by decide +kernel
theorem d_Mo_write_52 : decode (M_Mo_write).cc 52 = .ok (.iconst 0, 1) := by decide +kernel
theorem d_Mo_write_53 : decode (M_Mo_write).cc 53 = .ok (.bastore, 1) := by decide +kernel
theorem d_Mo_write_54 : decode (M_Mo_write).cc 54 = .ok (.iinc 2 1, 3) := by decide +kernel
theorem d_Mo_write_57 : decode (M_Mo_write).cc 57 = .ok (.goto (-23), 3) := by decide +kernel
theorem d_Mo_write_60 : decode (M_Mo_write).cc 60 = .ok (.aload_n 0, 1) := by decide +kernel
theorem d_Mo_write_61 : decode (M_Mo_write).cc 61 = .ok (.getfield 58, 3) := by decide +kernel
theorem d_Mo_write_64 : decode (M_Mo_write).cc 64 = .ok (.iconst 0, 1) := by decide +kernel
theorem d_Mo_write_65 : decode (M_Mo_write).cc 65 = .ok (.iconst 0, 1) := by decide +kernel
theorem d_Mo_write_66 : decode (M_Mo_write).cc 66 = .ok (.iastore, 1) := by decide +kernel
theorem d_Mo_write_67 : decode (M_Mo_write).cc 67 = .ok (.iconst 1, 1) := by decide +kernel
theorem d_Mo_write_68 : decode (M_Mo_write).cc 68 = .ok (.istore_n 2, 1) := by decide +kernel
theorem d_Mo_write_69 : decode (M_Mo_write).cc 69 = .ok (.aload_n 0, 1) := by decide +kernel
theorem d_Mo_write_70 : decode (M_Mo_write).cc 70 = .ok (.iload_n 1, 1) := by decide +kernel
theorem d_Mo_write_71 : decode (M_Mo_write).cc 71 = .ok (.iconst 0, 1) := by decide +kernel
theorem d_Mo_write_72 : decode (M_Mo_write).cc 72 = .ok (.invokevirtual 207, 3) := by decide +kernel
theorem d_Mo_write_75 : decode (M_Mo_write).cc 75 = .ok (.iload_n 2, 1) := by decide +kernel
theorem d_Mo_write_76 : decode (M_Mo_write).cc 76 = .ok (.ifCond .le 130, 3) := by decide +kernel
theorem d_Mo_write_79 : decode (M_Mo_write).cc 79 = .ok (.aload_n 0, 1) := by decide +kernel
theorem d_Mo_write_80 : decode (M_Mo_write).cc 80 = .ok (.getfield 58, 3) := by decide +kernel
theorem d_Mo_write_83 : decode (M_Mo_write).cc 83 = .ok (.iload_n 2, 1) := by decide +kernel
theorem d_Mo_write_84 : decode (M_Mo_write).cc 84 = .ok (.iconst 1, 1) := by decide +kernel
theorem d_Mo_write_85 : decode (M_Mo_write).cc 85 = .ok (.isub, 1) := by decide +kernel
theorem d_Mo_write_86 : decode (M_Mo_write).cc 86 = .ok (.iaload, 1) := by decide +kernel
theorem d_Mo_write_87 : decode (M_Mo_write).cc 87 = .ok (.istore_n 3, 1) := by decide +kernel
theorem d_Mo_write_88 : decode (M_Mo_write).cc 88 = .ok (.aload_n 0, 1) := by decide +kernel
theorem d_Mo_write_89 : decode (M_Mo_write).cc 89 = .ok (.iload_n 3, 1) := by decide +kernel
theorem d_Mo_write_90 : decode (M_Mo_write).cc 90 = .ok (.aload_n 0, 1) := by decide +kernel
theorem d_Mo_write_91 : decode (M_Mo_write).cc 91 = .ok (.getfield 73, 3) := by decide +kernel
theorem d_Mo_write_94 : decode (M_Mo_write).cc 94 = .ok (.iload_n 3, 1) := by decide +kernel
theorem d_Mo_write_95 : decode (M_Mo_write).cc 95 = .ok (.iaload, 1) := by decide +kernel
theorem d_Mo_write_96 : decode (M_Mo_write).cc 96 = .ok (.invokevirtual 210, 3) := by decide +kernel
theorem d_Mo_write_99 : decode (M_Mo_write).cc 99 = .ok (.istore 4, 2) := by decide +kernel
theorem d_Mo_write_101 : decode (M_Mo_write).cc 101 = .ok (.iload 4, 2) := by decide +kernel
theorem d_Mo_write_103 : decode (M_Mo_write).cc 103 = .ok (.ifCond .ge 24, 3) := by decide +kernel
theorem d_Mo_write_106 : decode (M_Mo_write).cc 106 = .ok (.aload_n 0, 1) := by decide +kernel
theorem d_Mo_write_107 : decode (M_Mo_write).cc 107 = .ok (.getfield 76, 3) := by decide +kernel
theorem d_Mo_write_110 : decode (M_Mo_write).cc 110 = .ok (.iload_n 3, 1) := by decide +kernel
theorem d_Mo_write_111 : decode (M_Mo_write).cc 111 = .ok (.baload, 1) := by decide +kernel
theorem d_Mo_write_112 : decode (M_Mo_write).cc 112 = .ok (.ifCond .eq 9, 3) := by decide +kernel
theorem d_Mo_write_115 : decode (M_Mo_write).cc 115 = .ok (.aload_n 0, 1) := by decide +kernel
theorem d_Mo_write_116 : decode (M_Mo_write).cc 116 = .ok (.bipush 41, 2) := by decide +kernel
theorem d_Mo_write_118 : decode (M_Mo_write).cc 118 = .ok (.invokevirtual 200, 3) := by decide +kernel
theorem d_Mo_write_121 : decode (M_Mo_write).cc 121 = .ok (.iinc 2 (-1), 3) := by decide +kernel
theorem d_Mo_write_124 : decode (M_Mo_write).cc 124 = .ok (.goto 79, 3) := by decide +kernel
theorem d_Mo_write_127 : decode (M_Mo_write).cc 127 = .ok (.aload_n 0, 1) := by decide +kernel
theorem d_Mo_write_128 : decode (M_Mo_write).cc 128 = .ok (.getfield 73, 3) := by decide +kernel
theorem d_Mo_write_131 : decode (M_Mo_write).cc 131 = .ok (.iload_n 3, 1) := by decide +kernel
theorem d_Mo_write_132 : decode (M_Mo_write).cc 132 = .ok (.iload 4, 2) := by decide +kernel
theorem d_Mo_write_134 : decode (M_Mo_write).cc 134 = .ok (.iastore, 1) := by decide +kernel
theorem d_Mo_write_135 : decode (M_Mo_write).cc 135 = .ok (.aload_n 0, 1) := by decide +kernel
theorem d_Mo_write_136 : decode (M_Mo_write).cc 136 = .ok (.getfield 76, 3) := by decide +kernel
theorem d_Mo_write_139 : decode (M_Mo_write).cc 139 = .ok (.iload 4, 2) := by decide +kernel
theorem d_Mo_write_141 : decode (M_Mo_write).cc 141 = .ok (.aload_n 0, 1) := by decide +kernel
theorem d_Mo_write_142 : decode (M_Mo_write).cc 142 = .ok (.iload_n 3, 1) := by decide +kernel
theorem d_Mo_write_143 : decode (M_Mo_write).cc 143 = .ok (.iload 4, 2) := by decide +kernel
theorem d_Mo_write_145 : decode (M_Mo_write).cc 145 = .ok (.invokevirtual 210, 3) := by decide +kernel
theorem d_Mo_write_148 : decode (M_Mo_write).cc 148 = .ok (.ifCond .lt 7, 3) := by decide +kernel
theorem d_Mo_write_151 : decode (M_Mo_write).cc 151 = .ok (.iconst 1, 1) := by decide +kernel
theorem d_Mo_write_152 : decode (M_Mo_write).cc 152 = .ok (.goto 4, 3) := by decide +kernel
theorem d_Mo_write_155 : decode (M_Mo_write).cc 155 = .ok (.iconst 0, 1) := by decide +kernel
theorem d_Mo_write_156 : decode (M_Mo_write).cc 156 = .ok (.bastore, 1) := by decide +kernel
theorem d_Mo_write_157 : decode (M_Mo_write).cc 157 = .ok (.aload_n 0, 1) := by decide +kernel
theorem d_Mo_write_158 : decode (M_Mo_write).cc 158 = .ok (.getfield 76, 3) := by decide +kernel
theorem d_Mo_write_161 : decode (M_Mo_write).cc 161 = .ok (.iload 4, 2) := by decide +kernel
theorem d_Mo_write_163 : decode (M_Mo_write).cc 163 = .ok (.baload, 1) := by decide +kernel
theorem d_Mo_write_164 : decode (M_Mo_write).cc 164 = .ok (.ifCond .eq 9, 3) := by decide +kernel
theorem d_Mo_write_167 : decode (M_Mo_write).cc 167 = .ok (.aload_n 0, 1) := by decide +kernel
theorem d_Mo_write_168 : decode (M_Mo_write).cc 168 = .ok (.bipush 40, 2) := by decide +kernel
theorem d_Mo_write_170 : decode (M_Mo_write).cc 170 = .ok (.invokevirtual 200, 3) := by decide +kernel
theorem d_Mo_write_173 : decode (M_Mo_write).cc 173 = .ok (.aload_n 0, 1) := by decide +kernel
theorem d_Mo_write_174 : decode (M_Mo_write).cc 174 = .ok (.aload_n 0, 1) := by decide +kernel
theorem d_Mo_write_175 : decode (M_Mo_write).cc 175 = .ok (.iload_n 1, 1) := by decide +kernel
theorem d_Mo_write_176 : decode (M_Mo_write).cc 176 = .ok (.iload_n 3, 1) := by decide +kernel
theorem d_Mo_write_177 : decode (M_Mo_write).cc 177 = .ok (.iload 4, 2) := by decide +kernel
theorem d_Mo_write_179 : decode (M_Mo_write).cc 179 = .ok (.invokevirtual 196, 3) := by decide +kernel
theorem d_Mo_write_182 : decode (M_Mo_write).cc 182 = .ok (.invokevirtual 213, 3) := by decide +kernel
theorem d_Mo_write_185 : decode (M_Mo_write).cc 185 = .ok (.aload_n 0, 1) := by decide +kernel
theorem d_Mo_write_186 : decode (M_Mo_write).cc 186 = .ok (.iload_n 1, 1) := by decide +kernel
theorem d_Mo_write_187 : decode (M_Mo_write).cc 187 = .ok (.iload 4, 2) := by decide +kernel
theorem d_Mo_write_189 : decode (M_Mo_write).cc 189 = .ok (.invokevirtual 207, 3) := by decide +kernel
theorem d_Mo_write_192 : decode (M_Mo_write).cc 192 = .ok (.aload_n 0, 1) := by decide +kernel
theorem d_Mo_write_193 : decode (M_Mo_write).cc 193 = .ok (.getfield 58, 3) := by decide +kernel
theorem d_Mo_write_196 : decode (M_Mo_write).cc 196 = .ok (.iload_n 2, 1) := by decide +kernel
theorem d_Mo_write_197 : decode (M_Mo_write).cc 197 = .ok (.iload 4, 2) := by decide +kernel
theorem d_Mo_write_199 : decode (M_Mo_write).cc 199 = .ok (.iastore, 1) := by decide +kernel
theorem d_Mo_write_200 : decode (M_Mo_write).cc 200 = .ok (.iinc 2 1, 3) := by decide +kernel
theorem d_Mo_write_203 : decode (M_Mo_write).cc 203 = .ok (.goto (-128), 3) := by decide +kernel
theorem d_Mo_write_206 : decode (M_Mo_write).cc 206 = .ok (.aload_n 0, 1) := by decide +kernel
theorem d_Mo_write_207 : decode (M_Mo_write).cc 207 = .ok (.getfield 88, 3) := by decide +kernel
theorem d_Mo_write_210 : decode (M_Mo_write).cc 210 = .ok (.ireturn, 1) := by decide +kernel
theorem d_Mo_go_0 : decode (M_Mo_go).cc 0 = .ok (.iconst 0, 1) := by decide +kernel
theorem d_Mo_go_1 : decode (M_Mo_go).cc 1 = .ok (.istore_n 2, 1) := by decide +kernel
theorem d_Mo_go_2 : decode (M_Mo_go).cc 2 = .ok (.iload_n 2, 1) := by decide +kernel
theorem d_Mo_go_3 : decode (M_Mo_go).cc 3 = .ok (.bipush 36, 2) := by decide +kernel
theorem d_Mo_go_5 : decode (M_Mo_go).cc 5 = .ok (.if_icmp .ge 16, 3) := by decide +kernel
theorem d_Mo_go_8 : decode (M_Mo_go).cc 8 = .ok (.aload_n 0, 1) := by decide +kernel
theorem d_Mo_go_9 : decode (M_Mo_go).cc 9 = .ok (.getfield 70, 3) := by decide +kernel
theorem d_Mo_go_12 : decode (M_Mo_go).cc 12 = .ok (.iload_n 2, 1) := by decide +kernel
theorem d_Mo_go_13 : decode (M_Mo_go).cc 13 = .ok (.iconst 0, 1) := by decide +kernel
theorem d_Mo_go_14 : decode (M_Mo_go).cc 14 = .ok (.iastore, 1) := by decide +kernel
theorem d_Mo_go_15 : decode (M_Mo_go).cc 15 = .ok (.iinc 2 1, 3) := by decide +kernel
theorem d_Mo_go_18 : decode (M_Mo_go).cc 18 = .ok (.goto (-16), 3) := by decide +kernel
theorem d_Mo_go_21 : decode (M_Mo_go).cc 21 = .ok (.iconst 0, 1) := by decide +kernel
theorem d_Mo_go_22 : decode (M_Mo_go).cc 22 = .ok (.istore_n 2, 1) := by decide +kernel
theorem d_Mo_go_23 : decode (M_Mo_go).cc 23 = .ok (.iload_n 2, 1) := by decide +kernel
theorem d_Mo_go_24 : decode (M_Mo_go).cc 24 = .ok (.bipush 6, 2) := by decide +kernel
theorem d_Mo_go_26 : decode (M_Mo_go).cc 26 = .ok (.if_icmp .ge 30, 3) := by decide +kernel
theorem d_Mo_go_29 : decode (M_Mo_go).cc 29 = .ok (.aload_n 0, 1) := by decide +kernel
theorem d_Mo_go_30 : decode (M_Mo_go).cc 30 = .ok (.getfield 67, 3) := by decide +kernel
theorem d_Mo_go_33 : decode (M_Mo_go).cc 33 = .ok (.iload_n 2, 1) := by decide +kernel
theorem d_Mo_go_34 : decode (M_Mo_go).cc 34 = .ok (.iconst (-1), 1) := by decide +kernel
theorem d_Mo_go_35 : decode (M_Mo_go).cc 35 = .ok (.iastore, 1) := by decide +kernel
theorem d_Mo_go_36 : decode (M_Mo_go).cc 36 = .ok (.aload_n 0, 1) := by decide +kernel
theorem d_Mo_go_37 : decode (M_Mo_go).cc 37 = .ok (.getfield 82, 3) := by decide +kernel
theorem d_Mo_go_40 : decode (M_Mo_go).cc 40 = .ok (.iload_n 2, 1) := by decide +kernel
theorem d_Mo_go_41 : decode (M_Mo_go).cc 41 = .ok (.iconst (-1), 1) := by decide +kernel
theorem d_Mo_go_42 : decode (M_Mo_go).cc 42 = .ok (.iastore, 1) := by decide +kernel
theorem d_Mo_go_43 : decode (M_Mo_go).cc 43 = .ok (.aload_n 0, 1) := by decide +kernel
theorem d_Mo_go_44 : decode (M_Mo_go).cc 44 = .ok (.getfield 79, 3) := by decide +kernel
theorem d_Mo_go_47 : decode (M_Mo_go).cc 47 = .ok (.iload_n 2, 1) := by decide +kernel
theorem d_Mo_go_48 : decode (M_Mo_go).cc 48 = .ok (.iconst 0, 1) := by decide +kernel
theorem d_Mo_go_49 : decode (M_Mo_go).cc 49 = .ok (.bastore, 1) := by decide +kernel
theorem d_Mo_go_50 : decode (M_Mo_go).cc 50 = .ok (.iinc 2 1, 3) := by decide +kernel
theorem d_Mo_go_53 : decode (M_Mo_go).cc 53 = .ok (.goto (-30), 3) := by decide +kernel
theorem d_Mo_go_56 : decode (M_Mo_go).cc 56 = .ok (.iconst 0, 1) := by decide +kernel
theorem d_Mo_go_57 : decode (M_Mo_go).cc 57 = .ok (.istore_n 2, 1) := by decide +kernel
theorem d_Mo_go_58 : decode (M_Mo_go).cc 58 = .ok (.iconst 0, 1) := by decide +kernel
theorem d_Mo_go_59 : decode (M_Mo_go).cc 59 = .ok (.istore_n 3, 1) := by decide +kernel
theorem d_Mo_go_60 : decode (M_Mo_go).cc 60 = .ok (.aload_n 0, 1) := by decide +kernel
theorem d_Mo_go_61 : decode (M_Mo_go).cc 61 = .ok (.getfield 79, 3) := by decide +kernel
theorem d_Mo_go_64 : decode (M_Mo_go).cc 64 = .ok (.iconst 0, 1) := by decide +kernel
theorem d_Mo_go_65 : decode (M_Mo_go).cc 65 = .ok (.iconst 1, 1) := by decide +kernel
theorem d_Mo_go_66 : decode (M_Mo_go).cc 66 = .ok (.bastore, 1) := by decide +kernel
theorem d_Mo_go_67 : decode (M_Mo_go).cc 67 = .ok (.iload_n 3, 1) := by decide +kernel
theorem d_Mo_go_68 : decode (M_Mo_go).cc 68 = .ok (.ifCond .lt 152, 3) := by decide +kernel
theorem d_Mo_go_71 : decode (M_Mo_go).cc 71 = .ok (.aload_n 0, 1) := by decide +kernel
theorem d_Mo_go_72 : decode (M_Mo_go).cc 72 = .ok (.getfield 82, 3) := by decide +kernel
theorem d_Mo_go_75 : decode (M_Mo_go).cc 75 = .ok (.iload_n 3, 1) := by decide +kernel
theorem d_Mo_go_76 : decode (M_Mo_go).cc 76 = .ok (.dup2, 1) := by decide +kernel
theorem d_Mo_go_77 : decode (M_Mo_go).cc 77 = .ok (.iaload, 1) := by decide +kernel
theorem d_Mo_go_78 : decode (M_Mo_go).cc 78 = .ok (.iconst 1, 1) := by decide +kernel
theorem d_Mo_go_79 : decode (M_Mo_go).cc 79 = .ok (.iadd, 1) := by decide +kernel
theorem d_Mo_go_80 : decode (M_Mo_go).cc 80 = .ok (.iastore, 1) := by decide +kernel
theorem d_Mo_go_81 : decode (M_Mo_go).cc 81 = .ok (.aload_n 0, 1) := by decide +kernel
theorem d_Mo_go_82 : decode (M_Mo_go).cc 82 = .ok (.getfield 82, 3) := by decide +kernel
theorem d_Mo_go_85 : decode (M_Mo_go).cc 85 = .ok (.iload_n 3, 1) := by decide +kernel
theorem d_Mo_go_86 : decode (M_Mo_go).cc 86 = .ok (.iaload, 1) := by decide +kernel
theorem d_Mo_go_87 : decode (M_Mo_go).cc 87 = .ok (.istore 4, 2) := by decide +kernel
theorem d_Mo_go_89 : decode (M_Mo_go).cc 89 = .ok (.iload 4, 2) := by decide +kernel
theorem d_Mo_go_91 : decode (M_Mo_go).cc 91 = .ok (.aload_n 0, 1) := by decide +kernel
theorem d_Mo_go_92 : decode (M_Mo_go).cc 92 = .ok (.getfield 129, 3) := by decide +kernel
theorem d_Mo_go_95 : decode (M_Mo_go).cc 95 = .ok (.if_icmp .lt 13, 3) := by decide +kernel
theorem d_Mo_go_98 : decode (M_Mo_go).cc 98 = .ok (.aload_n 0, 1) := by decide +kernel
theorem d_Mo_go_99 : decode (M_Mo_go).cc 99 = .ok (.getfield 67, 3) := by decide +kernel
theorem d_Mo_go_102 : decode (M_Mo_go).cc 102 = .ok (.iload_n 3, 1) := by decide +kernel
theorem d_Mo_go_103 : decode (M_Mo_go).cc 103 = .ok (.iaload, 1) := by decide +kernel
theorem d_Mo_go_104 : decode (M_Mo_go).cc 104 = .ok (.istore_n 3, 1) := by decide +kernel
theorem d_Mo_go_105 : decode (M_Mo_go).cc 105 = .ok (.goto 112, 3) := by decide +kernel
theorem d_Mo_go_108 : decode (M_Mo_go).cc 108 = .ok (.aload_n 0, 1) := by decide +kernel
theorem d_Mo_go_109 : decode (M_Mo_go).cc 109 = .ok (.iload_n 1, 1) := by decide +kernel
theorem d_Mo_go_110 : decode (M_Mo_go).cc 110 = .ok (.iload_n 3, 1) := by decide +kernel
theorem d_Mo_go_111 : decode (M_Mo_go).cc 111 = .ok (.iload 4, 2) := by decide +kernel
theorem d_Mo_go_113 : decode (M_Mo_go).cc 113 = .ok (.invokevirtual 196, 3) := by decide +kernel
theorem d_Mo_go_116 : decode (M_Mo_go).cc 116 = .ok (.ifCond .le 101, 3) := by decide +kernel
theorem d_Mo_go_119 : decode (M_Mo_go).cc 119 = .ok (.aload_n 0, 1) := by decide +kernel
theorem d_Mo_go_120 : decode (M_Mo_go).cc 120 = .ok (.getfield 79, 3) := by decide +kernel
theorem d_Mo_go_123 : decode (M_Mo_go).cc 123 = .ok (.iload 4, 2) := by decide +kernel
theorem d_Mo_go_125 : decode (M_Mo_go).cc 125 = .ok (.baload, 1) := by decide +kernel
theorem d_Mo_go_126 : decode (M_Mo_go).cc 126 = .ok (.ifCond .ne 25, 3) := by decide +kernel
theorem d_Mo_go_129 : decode (M_Mo_go).cc 129 = .ok (.aload_n 0, 1) := by decide +kernel
theorem d_Mo_go_130 : decode (M_Mo_go).cc 130 = .ok (.getfield 79, 3) := by decide +kernel
theorem d_Mo_go_133 : decode (M_Mo_go).cc 133 = .ok (.iload 4, 2) := by decide +kernel
theorem d_Mo_go_135 : decode (M_Mo_go).cc 135 = .ok (.iconst 1, 1) := by decide +kernel
theorem d_Mo_go_136 : decode (M_Mo_go).cc 136 = .ok (.bastore, 1) := by decide +kernel
theorem d_Mo_go_137 : decode (M_Mo_go).cc 137 = .ok (.aload_n 0, 1) := by decide +kernel
theorem d_Mo_go_138 : decode (M_Mo_go).cc 138 = .ok (.getfield 67, 3) := by decide +kernel
theorem d_Mo_go_141 : decode (M_Mo_go).cc 141 = .ok (.iload 4, 2) := by decide +kernel
theorem d_Mo_go_143 : decode (M_Mo_go).cc 143 = .ok (.iload_n 3, 1) := by decide +kernel
theorem d_Mo_go_144 : decode (M_Mo_go).cc 144 = .ok (.iastore, 1) := by decide +kernel
theorem d_Mo_go_145 : decode (M_Mo_go).cc 145 = .ok (.iload 4, 2) := by decide +kernel
theorem d_Mo_go_147 : decode (M_Mo_go).cc 147 = .ok (.istore_n 3, 1) := by decide +kernel
theorem d_Mo_go_148 : decode (M_Mo_go).cc 148 = .ok (.goto 69, 3) := by decide +kernel
theorem d_Mo_go_151 : decode (M_Mo_go).cc 151 = .ok (.aload_n 0, 1) := by decide +kernel
theorem d_Mo_go_152 : decode (M_Mo_go).cc 152 = .ok (.getfield 67, 3) := by decide +kernel
theorem d_Mo_go_155 : decode (M_Mo_go).cc 155 = .ok (.iload_n 3, 1) := by decide +kernel
theorem d_Mo_go_156 : decode (M_Mo_go).cc 156 = .ok (.iaload, 1) := by decide +kernel
theorem d_Mo_go_157 : decode (M_Mo_go).cc 157 = .ok (.iload 4, 2) := by decide +kernel
theorem d_Mo_go_159 : decode (M_Mo_go).cc 159 = .ok (.if_icmp .eq 58, 3) := by decide +kernel
theorem d_Mo_go_162 : decode (M_Mo_go).cc 162 = .ok (.aload_n 0, 1) := by decide +kernel
theorem d_Mo_go_163 : decode (M_Mo_go).cc 163 = .ok (.getfield 67, 3) := by decide +kernel
theorem d_Mo_go_166 : decode (M_Mo_go).cc 166 = .ok (.iload 4, 2) := by decide +kernel
theorem d_Mo_go_168 : decode (M_Mo_go).cc 168 = .ok (.iaload, 1) := by decide +kernel
theorem d_Mo_go_169 : decode (M_Mo_go).cc 169 = .ok (.iload_n 3, 1) := by decide +kernel
theorem d_Mo_go_170 : decode (M_Mo_go).cc 170 = .ok (.if_icmp .eq 47, 3) := by decide +kernel
theorem d_Mo_go_173 : decode (M_Mo_go).cc 173 = .ok (.aload_n 0, 1) := by decide +kernel
theorem d_Mo_go_174 : decode (M_Mo_go).cc 174 = .ok (.getfield 70, 3) := by decide +kernel
theorem d_Mo_go_177 : decode (M_Mo_go).cc 177 = .ok (.bipush 6, 2) := by decide +kernel
theorem d_Mo_go_179 : decode (M_Mo_go).cc 179 = .ok (.iload_n 3, 1) := by decide +kernel
theorem d_Mo_go_180 : decode (M_Mo_go).cc 180 = .ok (.imul, 1) := by decide +kernel
theorem d_Mo_go_181 : decode (M_Mo_go).cc 181 = .ok (.iload 4, 2) := by decide +kernel
theorem d_Mo_go_183 : decode (M_Mo_go).cc 183 = .ok (.iadd, 1) := by decide +kernel
theorem d_Mo_go_184 : decode (M_Mo_go).cc 184 = .ok (.iaload, 1) := by decide +kernel
theorem d_Mo_go_185 : decode (M_Mo_go).cc 185 = .ok (.ifCond .ne 32, 3) := by decide +kernel
theorem d_Mo_go_188 : decode (M_Mo_go).cc 188 = .ok (.iinc 2 1, 3) := by decide +kernel
theorem d_Mo_go_191 : decode (M_Mo_go).cc 191 = .ok (.aload_n 0, 1) := by decide +kernel
theorem d_Mo_go_192 : decode (M_Mo_go).cc 192 = .ok (.getfield 70, 3) := by decide +kernel
theorem d_Mo_go_195 : decode (M_Mo_go).cc 195 = .ok (.bipush 6, 2) := by decide +kernel
theorem d_Mo_go_197 : decode (M_Mo_go).cc 197 = .ok (.iload_n 3, 1) := by decide +kernel
theorem d_Mo_go_198 : decode (M_Mo_go).cc 198 = .ok (.imul, 1) := by decide +kernel
theorem d_Mo_go_199 : decode (M_Mo_go).cc 199 = .ok (.iload 4, 2) := by decide +kernel
theorem d_Mo_go_201 : decode (M_Mo_go).cc 201 = .ok (.iadd, 1) := by decide +kernel
theorem d_Mo_go_202 : decode (M_Mo_go).cc 202 = .ok (.iload_n 2, 1) := by decide +kernel
theorem d_Mo_go_203 : decode (M_Mo_go).cc 203 = .ok (.iastore, 1) := by decide +kernel
theorem d_Mo_go_204 : decode (M_Mo_go).cc 204 = .ok (.aload_n 0, 1) := by decide +kernel
theorem d_Mo_go_205 : decode (M_Mo_go).cc 205 = .ok (.getfield 70, 3) := by decide +kernel
theorem d_Mo_go_208 : decode (M_Mo_go).cc 208 = .ok (.bipush 6, 2) := by decide +kernel
theorem d_Mo_go_210 : decode (M_Mo_go).cc 210 = .ok (.iload 4, 2) := by decide +kernel
theorem d_Mo_go_212 : decode (M_Mo_go).cc 212 = .ok (.imul, 1) := by decide +kernel
theorem d_Mo_go_213 : decode (M_Mo_go).cc 213 = .ok (.iload_n 3, 1) := by decide +kernel
theorem d_Mo_go_214 : decode (M_Mo_go).cc 214 = .ok (.iadd, 1) := by decide +kernel
theorem d_Mo_go_215 : decode (M_Mo_go).cc 215 = .ok (.iload_n 2, 1) := by decide +kernel
theorem d_Mo_go_216 : decode (M_Mo_go).cc 216 = .ok (.iastore, 1) := by decide +kernel
theorem d_Mo_go_217 : decode (M_Mo_go).cc 217 = .ok (.goto (-150), 3) := by decide +kernel
theorem d_Mo_go_220 : decode (M_Mo_go).cc 220 = .ok (.return_, 1) := by decide +kernel
theorem d_Mo_putAtom_0 : decode (M_Mo_putAtom).cc 0 = .ok (.aload_n 0, 1) := by decide +kernel
theorem d_Mo_putAtom_1 : decode (M_Mo_putAtom).cc 1 = .ok (.aload_n 0, 1) := by decide +kernel
theorem d_Mo_putAtom_2 : decode (M_Mo_putAtom).cc 2 = .ok (.getfield 17, 3) := by decide +kernel
theorem d_Mo_putAtom_5 : decode (M_Mo_putAtom).cc 5 = .ok (.iload_n 2, 1) := by decide +kernel
theorem d_Mo_putAtom_6 : decode (M_Mo_putAtom).cc 6 = .ok (.iaload, 1) := by decide +kernel
theorem d_Mo_putAtom_7 : decode (M_Mo_putAtom).cc 7 = .ok (.invokevirtual 216, 3) := by decide +kernel
theorem d_Mo_putAtom_10 : decode (M_Mo_putAtom).cc 10 = .ok (.iconst 1, 1) := by decide +kernel
theorem d_Mo_putAtom_11 : decode (M_Mo_putAtom).cc 11 = .ok (.istore_n 3, 1) := by decide +kernel
theorem d_Mo_putAtom_12 : decode (M_Mo_putAtom).cc 12 = .ok (.iload_n 3, 1) := by decide +kernel
theorem d_Mo_putAtom_13 : decode (M_Mo_putAtom).cc 13 = .ok (.bipush 10, 2) := by decide +kernel
theorem d_Mo_putAtom_15 : decode (M_Mo_putAtom).cc 15 = .ok (.if_icmp .ge 64, 3) := by decide +kernel
theorem d_Mo_putAtom_18 : decode (M_Mo_putAtom).cc 18 = .ok (.iconst 0, 1) := by decide +kernel
theorem d_Mo_putAtom_19 : decode (M_Mo_putAtom).cc 19 = .ok (.istore 4, 2) := by decide +kernel
theorem d_Mo_putAtom_21 : decode (M_Mo_putAtom).cc 21 = .ok (.iload 4, 2) := by decide +kernel
theorem d_Mo_putAtom_23 : decode (M_Mo_putAtom).cc 23 = .ok (.aload_n 0, 1) := by decide +kernel
theorem d_Mo_putAtom_24 : decode (M_Mo_putAtom).cc 24 = .ok (.getfield 129, 3) := by decide +kernel
theorem d_Mo_putAtom_27 : decode (M_Mo_putAtom).cc 27 = .ok (.if_icmp .ge 46, 3) := by decide +kernel
theorem d_Mo_putAtom_30 : decode (M_Mo_putAtom).cc 30 = .ok (.aload_n 0, 1) := by decide +kernel
theorem d_Mo_putAtom_31 : decode (M_Mo_putAtom).cc 31 = .ok (.getfield 70, 3) := by decide +kernel
theorem d_Mo_putAtom_34 : decode (M_Mo_putAtom).cc 34 = .ok (.bipush 6, 2) := by decide +kernel
theorem d_Mo_putAtom_36 : decode (M_Mo_putAtom).cc 36 = .ok (.iload_n 2, 1) := by decide +kernel
theorem d_Mo_putAtom_37 : decode (M_Mo_putAtom).cc 37 = .ok (.imul, 1) := by decide +kernel
theorem d_Mo_putAtom_38 : decode (M_Mo_putAtom).cc 38 = .ok (.iload 4, 2) := by decide +kernel
theorem d_Mo_putAtom_40 : decode (M_Mo_putAtom).cc 40 = .ok (.iadd, 1) := by decide +kernel
theorem d_Mo_putAtom_41 : decode (M_Mo_putAtom).cc 41 = .ok (.iaload, 1) := by decide +kernel
theorem d_Mo_putAtom_42 : decode (M_Mo_putAtom).cc 42 = .ok (.iload_n 3, 1) := by decide +kernel
theorem d_Mo_putAtom_43 : decode (M_Mo_putAtom).cc 43 = .ok (.if_icmp .ne 24, 3) := by decide +kernel
theorem d_Mo_putAtom_46 : decode (M_Mo_putAtom).cc 46 = .ok (.aload_n 0, 1) := by decide +kernel
theorem d_Mo_putAtom_47 : decode (M_Mo_putAtom).cc 47 = .ok (.aload_n 0, 1) := by decide +kernel
theorem d_Mo_putAtom_48 : decode (M_Mo_putAtom).cc 48 = .ok (.iload_n 1, 1) := by decide +kernel
theorem d_Mo_putAtom_49 : decode (M_Mo_putAtom).cc 49 = .ok (.iload_n 2, 1) := by decide +kernel
theorem d_Mo_putAtom_50 : decode (M_Mo_putAtom).cc 50 = .ok (.iload 4, 2) := by decide +kernel
theorem d_Mo_putAtom_52 : decode (M_Mo_putAtom).cc 52 = .ok (.invokevirtual 196, 3) := by decide +kernel
theorem d_Mo_putAtom_55 : decode (M_Mo_putAtom).cc 55 = .ok (.invokevirtual 213, 3) := by decide +kernel
theorem d_Mo_putAtom_58 : decode (M_Mo_putAtom).cc 58 = .ok (.aload_n 0, 1) := by decide +kernel
theorem d_Mo_putAtom_59 : decode (M_Mo_putAtom).cc 59 = .ok (.bipush 48, 2) := by decide +kernel
theorem d_Mo_putAtom_61 : decode (M_Mo_putAtom).cc 61 = .ok (.iload_n 3, 1) := by decide +kernel
theorem d_Mo_putAtom_62 : decode (M_Mo_putAtom).cc 62 = .ok (.iadd, 1) := by decide +kernel
theorem d_Mo_putAtom_63 : decode (M_Mo_putAtom).cc 63 = .ok (.i2c, 1) := by decide +kernel
theorem d_Mo_putAtom_64 : decode (M_Mo_putAtom).cc 64 = .ok (.invokevirtual 200, 3) := by decide +kernel
theorem d_Mo_putAtom_67 : decode (M_Mo_putAtom).cc 67 = .ok (.iinc 4 1, 3) := by decide +kernel
theorem d_Mo_putAtom_70 : decode (M_Mo_putAtom).cc 70 = .ok (.goto (-49), 3) := by decide +kernel
theorem d_Mo_putAtom_73 : decode (M_Mo_putAtom).cc 73 = .ok (.iinc 3 1, 3) := by decide +kernel
theorem d_Mo_putAtom_76 : decode (M_Mo_putAtom).cc 76 = .ok (.goto (-64), 3) := by decide +kernel
theorem d_Mo_putAtom_79 : decode (M_Mo_putAtom).cc 79 = .ok (.return_, 1) := by decide +kernel
theorem d_Mo_putSign_0 : decode (M_Mo_putSign).cc 0 = .ok (.aload_n 0, 1) := by decide +kernel
theorem d_Mo_putSign_1 : decode (M_Mo_putSign).cc 1 = .ok (.iload_n 1, 1) := by decide +kernel
theorem d_Mo_putSign_2 : decode (M_Mo_putSign).cc 2 = .ok (.ifCond .eq 9, 3) := by decide +kernel
theorem d_Mo_putSign_5 : decode (M_Mo_putSign).cc 5 = .ok (.iload_n 1, 1) := by decide +kernel
theorem d_Mo_putSign_6 : decode (M_Mo_putSign).cc 6 = .ok (.bipush 6, 2) := by decide +kernel
theorem d_Mo_putSign_8 : decode (M_Mo_putSign).cc 8 = .ok (.if_icmp .ne 8, 3) := by decide +kernel
theorem d_Mo_putSign_11 : decode (M_Mo_putSign).cc 11 = .ok (.bipush 67, 2) := by decide +kernel
theorem d_Mo_putSign_13 : decode (M_Mo_putSign).cc 13 = .ok (.goto 66, 3) := by decide +kernel
theorem d_Mo_putSign_16 : decode (M_Mo_putSign).cc 16 = .ok (.iload_n 1, 1) := by decide +kernel
theorem d_Mo_putSign_17 : decode (M_Mo_putSign).cc 17 = .ok (.iconst 1, 1) := by decide +kernel
theorem d_Mo_putSign_18 : decode (M_Mo_putSign).cc 18 = .ok (.if_icmp .ne 8, 3) := by decide +kernel
theorem d_Mo_putSign_21 : decode (M_Mo_putSign).cc 21 = .ok (.bipush 78, 2) := by decide +kernel
theorem d_Mo_putSign_23 : decode (M_Mo_putSign).cc 23 = .ok (.goto 56, 3) := by decide +kernel
theorem d_Mo_putSign_26 : decode (M_Mo_putSign).cc 26 = .ok (.iload_n 1, 1) := by decide +kernel
theorem d_Mo_putSign_27 : decode (M_Mo_putSign).cc 27 = .ok (.iconst 2, 1) := by decide +kernel
theorem d_Mo_putSign_28 : decode (M_Mo_putSign).cc 28 = .ok (.if_icmp .ne 8, 3) := by decide +kernel
theorem d_Mo_putSign_31 : decode (M_Mo_putSign).cc 31 = .ok (.bipush 79, 2) := by decide +kernel
theorem d_Mo_putSign_33 : decode (M_Mo_putSign).cc 33 = .ok (.goto 46, 3) := by decide +kernel
theorem d_Mo_putSign_36 : decode (M_Mo_putSign).cc 36 = .ok (.iload_n 1, 1) := by decide +kernel
theorem d_Mo_putSign_37 : decode (M_Mo_putSign).cc 37 = .ok (.iconst 3, 1) := by decide +kernel
theorem d_Mo_putSign_38 : decode (M_Mo_putSign).cc 38 = .ok (.if_icmp .ne 8, 3) := by decide +kernel
theorem d_Mo_putSign_41 : decode (M_Mo_putSign).cc 41 = .ok (.bipush 83, 2) := by decide +kernel
theorem d_Mo_putSign_43 : decode (M_Mo_putSign).cc 43 = .ok (.goto 36, 3) := by decide +kernel
theorem d_Mo_putSign_46 : decode (M_Mo_putSign).cc 46 = .ok (.iload_n 1, 1) := by decide +kernel
theorem d_Mo_putSign_47 : decode (M_Mo_putSign).cc 47 = .ok (.iconst 4, 1) := by decide +kernel
theorem d_Mo_putSign_48 : decode (M_Mo_putSign).cc 48 = .ok (.if_icmp .ne 8, 3) := by decide +kernel
theorem d_Mo_putSign_51 : decode (M_Mo_putSign).cc 51 = .ok (.bipush 80, 2) := by decide +kernel
theorem d_Mo_putSign_53 : decode (M_Mo_putSign).cc 53 = .ok (.goto 26, 3) := by decide +kernel
theorem d_Mo_putSign_56 : decode (M_Mo_putSign).cc 56 = .ok (.iload_n 1, 1) := by decide +kernel
theorem d_Mo_putSign_57 : decode (M_Mo_putSign).cc 57 = .ok (.iconst 5, 1) := by decide +kernel
theorem d_Mo_putSign_58 : decode (M_Mo_putSign).cc 58 = .ok (.if_icmp .ne 8, 3) := by decide +kernel
theorem d_Mo_putSign_61 : decode (M_Mo_putSign).cc 61 = .ok (.bipush 70, 2) := by decide +kernel
theorem d_Mo_putSign_63 : decode (M_Mo_putSign).cc 63 = .ok (.goto 16, 3) := by decide +kernel
theorem d_Mo_putSign_66 : decode (M_Mo_putSign).cc 66 = .ok (.iload_n 1, 1) := by decide +kernel
theorem d_Mo_putSign_67 : decode (M_Mo_putSign).cc 67 = .ok (.bipush 7, 2) := by decide +kernel
theorem d_Mo_putSign_69 : decode (M_Mo_putSign).cc 69 = .ok (.if_icmp .ne 8, 3) := by decide +kernel
theorem d_Mo_putSign_72 : decode (M_Mo_putSign).cc 72 = .ok (.bipush 66, 2) := by decide +kernel
theorem d_Mo_putSign_74 : decode (M_Mo_putSign).cc 74 = .ok (.goto 5, 3) := by decide +kernel
theorem d_Mo_putSign_77 : decode (M_Mo_putSign).cc 77 = .ok (.bipush 73, 2) := by decide +kernel
theorem d_Mo_putSign_79 : decode (M_Mo_putSign).cc 79 = .ok (.invokevirtual 200, 3) := by decide +kernel
theorem d_Mo_putSign_82 : decode (M_Mo_putSign).cc 82 = .ok (.iload_n 1, 1) := by decide +kernel
theorem d_Mo_putSign_83 : decode (M_Mo_putSign).cc 83 = .ok (.bipush 6, 2) := by decide +kernel
theorem d_Mo_putSign_85 : decode (M_Mo_putSign).cc 85 = .ok (.if_icmp .eq 9, 3) := by decide +kernel
theorem d_Mo_putSign_88 : decode (M_Mo_putSign).cc 88 = .ok (.iload_n 1, 1) := by decide +kernel
theorem d_Mo_putSign_89 : decode (M_Mo_putSign).cc 89 = .ok (.bipush 7, 2) := by decide +kernel
theorem d_Mo_putSign_91 : decode (M_Mo_putSign).cc 91 = .ok (.if_icmp .ne 20, 3) := by decide +kernel
theorem d_Mo_putSign_94 : decode (M_Mo_putSign).cc 94 = .ok (.aload_n 0, 1) := by decide +kernel
theorem d_Mo_putSign_95 : decode (M_Mo_putSign).cc 95 = .ok (.iload_n 1, 1) := by decide +kernel
theorem d_Mo_putSign_96 : decode (M_Mo_putSign).cc 96 = .ok (.bipush 6, 2) := by decide +kernel
theorem d_Mo_putSign_98 : decode (M_Mo_putSign).cc 98 = .ok (.if_icmp .ne 8, 3) := by decide +kernel
theorem d_Mo_putSign_101 : decode (M_Mo_putSign).cc 101 = .ok (.bipush 108, 2) := by decide +kernel
theorem d_Mo_putSign_103 : decode (M_Mo_putSign).cc 103 = .ok (.goto 5, 3) := by decide +kernel
theorem d_Mo_putSign_106 : decode (M_Mo_putSign).cc 106 = .ok (.bipush 114, 2) := by decide +kernel
theorem d_Mo_putSign_108 : decode (M_Mo_putSign).cc 108 = .ok (.invokevirtual 200, 3) := by decide +kernel
theorem d_Mo_putSign_111 : decode (M_Mo_putSign).cc 111 = .ok (.return_, 1) := by decide +kernel
theorem d_Mo_put_0 : decode (M_Mo_put).cc 0 = .ok (.aload_n 0, 1) := by decide +kernel
theorem d_Mo_put_1 : decode (M_Mo_put).cc 1 = .ok (.getfield 7, 3) := by decide +kernel
theorem d_Mo_put_4 : decode (M_Mo_put).cc 4 = .ok (.aload_n 0, 1) := by decide +kernel
theorem d_Mo_put_5 : decode (M_Mo_put).cc 5 = .ok (.getfield 88, 3) := by decide +kernel
theorem d_Mo_put_8 : decode (M_Mo_put).cc 8 = .ok (.iload_n 1, 1) := by decide +kernel
theorem d_Mo_put_9 : decode (M_Mo_put).cc 9 = .ok (.castore, 1) := by decide +kernel
theorem d_Mo_put_10 : decode (M_Mo_put).cc 10 = .ok (.aload_n 0, 1) := by decide +kernel
theorem d_Mo_put_11 : decode (M_Mo_put).cc 11 = .ok (.dup, 1) := by decide +kernel
theorem d_Mo_put_12 : decode (M_Mo_put).cc 12 = .ok (.getfield 88, 3) := by decide +kernel
theorem d_Mo_put_15 : decode (M_Mo_put).cc 15 = .ok (.iconst 1, 1) := by decide +kernel
theorem d_Mo_put_16 : decode (M_Mo_put).cc 16 = .ok (.iadd, 1) := by decide +kernel
theorem d_Mo_put_17 : decode (M_Mo_put).cc 17 = .ok (.putfield 88, 3) := by decide +kernel
theorem d_Mo_put_20 : decode (M_Mo_put).cc 20 = .ok (.return_, 1) := by decide +kernel
theorem d_Mo_putBond_0 : decode (M_Mo_putBond).cc 0 = .ok (.iload_n 1, 1) := by decide +kernel
theorem d_Mo_putBond_1 : decode (M_Mo_putBond).cc 1 = .ok (.iconst 1, 1) := by decide +kernel
theorem d_Mo_putBond_2 : decode (M_Mo_putBond).cc 2 = .ok (.if_icmp .le 19, 3) := by decide +kernel
theorem d_Mo_putBond_5 : decode (M_Mo_putBond).cc 5 = .ok (.aload_n 0, 1) := by decide +kernel
theorem d_Mo_putBond_6 : decode (M_Mo_putBond).cc 6 = .ok (.iload_n 1, 1) := by decide +kernel
theorem d_Mo_putBond_7 : decode (M_Mo_putBond).cc 7 = .ok (.iconst 2, 1) := by decide +kernel
theorem d_Mo_putBond_8 : decode (M_Mo_putBond).cc 8 = .ok (.if_icmp .ne 8, 3) := by decide +kernel
theorem d_Mo_putBond_11 : decode (M_Mo_putBond).cc 11 = .ok (.bipush 61, 2) := by decide +kernel
theorem d_Mo_putBond_13 : decode (M_Mo_putBond).cc 13 = .ok (.goto 5, 3) := by decide +kernel
theorem d_Mo_putBond_16 : decode (M_Mo_putBond).cc 16 = .ok (.bipush 35, 2) := by decide +kernel
theorem d_Mo_putBond_18 : decode (M_Mo_putBond).cc 18 = .ok (.invokevirtual 200, 3) := by decide +kernel
theorem d_Mo_putBond_21 : decode (M_Mo_putBond).cc 21 = .ok (.return_, 1) := by decide +kernel
theorem d_Mo_further_0 : decode (M_Mo_further).cc 0 = .ok (.iload_n 2, 1) := by decide +kernel
theorem d_Mo_further_1 : decode (M_Mo_further).cc 1 = .ok (.iconst 1, 1) := by decide +kernel
theorem d_Mo_further_2 : decode (M_Mo_further).cc 2 = .ok (.iadd, 1) := by decide +kernel
theorem d_Mo_further_3 : decode (M_Mo_further).cc 3 = .ok (.istore_n 3, 1) := by decide +kernel
theorem d_Mo_further_4 : decode (M_Mo_further).cc 4 = .ok (.iload_n 3, 1) := by decide +kernel
theorem d_Mo_further_5 : decode (M_Mo_further).cc 5 = .ok (.aload_n 0, 1) := by decide +kernel
theorem d_Mo_further_6 : decode (M_Mo_further).cc 6 = .ok (.getfield 129, 3) := by decide +kernel
theorem d_Mo_further_9 : decode (M_Mo_further).cc 9 = .ok (.if_icmp .ge 21, 3) := by decide +kernel
theorem d_Mo_further_12 : decode (M_Mo_further).cc 12 = .ok (.aload_n 0, 1) := by decide +kernel
theorem d_Mo_further_13 : decode (M_Mo_further).cc 13 = .ok (.getfield 67, 3) := by decide +kernel
theorem d_Mo_further_16 : decode (M_Mo_further).cc 16 = .ok (.iload_n 3, 1) := by decide +kernel
theorem d_Mo_further_17 : decode (M_Mo_further).cc 17 = .ok (.iaload, 1) := by decide +kernel
theorem d_Mo_further_18 : decode (M_Mo_further).cc 18 = .ok (.iload_n 1, 1) := by decide +kernel
theorem d_Mo_further_19 : decode (M_Mo_further).cc 19 = .ok (.if_icmp .ne 5, 3) := by decide +kernel
theorem d_Mo_further_22 : decode (M_Mo_further).cc 22 = .ok (.iload_n 3, 1) := by decide +kernel
theorem d_Mo_further_23 : decode (M_Mo_further).cc 23 = .ok (.ireturn, 1) := by decide +kernel
theorem d_Mo_further_24 : decode (M_Mo_further).cc 24 = .ok (.iinc 3 1, 3) := by decide +kernel
theorem d_Mo_further_27 : decode (M_Mo_further).cc 27 = .ok (.goto (-23), 3) := by decide +kernel
theorem d_Mo_further_30 : decode (M_Mo_further).cc 30 = .ok (.iconst (-1), 1) := by decide +kernel
theorem d_Mo_further_31 : decode (M_Mo_further).cc 31 = .ok (.ireturn, 1) := by decide +kernel
