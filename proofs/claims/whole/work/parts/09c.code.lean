/-! what each instruction is (by names.py) -/
theorem d_IL_init_0 : decode (M_IL_init).cc 0 = .ok (.aload_n 0, 1) := by decide +kernel
theorem d_IL_init_1 : decode (M_IL_init).cc 1 = .ok (.invokespecial 1, 3) := by decide +kernel
theorem d_IL_init_4 : decode (M_IL_init).cc 4 = .ok (.aload_n 0, 1) := by decide +kernel
theorem d_IL_init_5 : decode (M_IL_init).cc 5 = .ok (.new 7, 3) := by decide +kernel
theorem d_IL_init_8 : decode (M_IL_init).cc 8 = .ok (.dup, 1) := by decide +kernel
theorem d_IL_init_9 : decode (M_IL_init).cc 9 = .ok (.invokespecial 9, 3) := by decide +kernel
theorem d_IL_init_12 : decode (M_IL_init).cc 12 = .ok (.putfield 10, 3) := by decide +kernel
theorem d_IL_init_15 : decode (M_IL_init).cc 15 = .ok (.aload_n 0, 1) := by decide +kernel
theorem d_IL_init_16 : decode (M_IL_init).cc 16 = .ok (.new 16, 3) := by decide +kernel
theorem d_IL_init_19 : decode (M_IL_init).cc 19 = .ok (.dup, 1) := by decide +kernel
theorem d_IL_init_20 : decode (M_IL_init).cc 20 = .ok (.invokespecial 18, 3) := by decide +kernel
theorem d_IL_init_23 : decode (M_IL_init).cc 23 = .ok (.putfield 19, 3) := by decide +kernel
theorem d_IL_init_26 : decode (M_IL_init).cc 26 = .ok (.aload_n 0, 1) := by decide +kernel
theorem d_IL_init_27 : decode (M_IL_init).cc 27 = .ok (.new 23, 3) := by decide +kernel
theorem d_IL_init_30 : decode (M_IL_init).cc 30 = .ok (.dup, 1) := by decide +kernel
theorem d_IL_init_31 : decode (M_IL_init).cc 31 = .ok (.invokespecial 25, 3) := by decide +kernel
theorem d_IL_init_34 : decode (M_IL_init).cc 34 = .ok (.putfield 26, 3) := by decide +kernel
theorem d_IL_init_37 : decode (M_IL_init).cc 37 = .ok (.aload_n 0, 1) := by decide +kernel
theorem d_IL_init_38 : decode (M_IL_init).cc 38 = .ok (.new 30, 3) := by decide +kernel
theorem d_IL_init_41 : decode (M_IL_init).cc 41 = .ok (.dup, 1) := by decide +kernel
theorem d_IL_init_42 : decode (M_IL_init).cc 42 = .ok (.invokespecial 32, 3) := by decide +kernel
theorem d_IL_init_45 : decode (M_IL_init).cc 45 = .ok (.putfield 33, 3) := by decide +kernel
theorem d_IL_init_48 : decode (M_IL_init).cc 48 = .ok (.aload_n 0, 1) := by decide +kernel
theorem d_IL_init_49 : decode (M_IL_init).cc 49 = .ok (.new 37, 3) := by decide +kernel
theorem d_IL_init_52 : decode (M_IL_init).cc 52 = .ok (.dup, 1) := by decide +kernel
theorem d_IL_init_53 : decode (M_IL_init).cc 53 = .ok (.invokespecial 39, 3) := by decide +kernel
theorem d_IL_init_56 : decode (M_IL_init).cc 56 = .ok (.putfield 40, 3) := by decide +kernel
theorem d_IL_init_59 : decode (M_IL_init).cc 59 = .ok (.aload_n 0, 1) := by decide +kernel
theorem d_IL_init_60 : decode (M_IL_init).cc 60 = .ok (.new 44, 3) := by decide +kernel
theorem d_IL_init_63 : decode (M_IL_init).cc 63 = .ok (.dup, 1) := by decide +kernel
theorem d_IL_init_64 : decode (M_IL_init).cc 64 = .ok (.invokespecial 46, 3) := by decide +kernel
theorem d_IL_init_67 : decode (M_IL_init).cc 67 = .ok (.putfield 47, 3) := by decide +kernel
theorem d_IL_init_70 : decode (M_IL_init).cc 70 = .ok (.aload_n 0, 1) := by decide +kernel
theorem d_IL_init_71 : decode (M_IL_init).cc 71 = .ok (.new 51, 3) := by decide +kernel
theorem d_IL_init_74 : decode (M_IL_init).cc 74 = .ok (.dup, 1) := by decide +kernel
theorem d_IL_init_75 : decode (M_IL_init).cc 75 = .ok (.invokespecial 53, 3) := by decide +kernel
theorem d_IL_init_78 : decode (M_IL_init).cc 78 = .ok (.putfield 54, 3) := by decide +kernel
theorem d_IL_init_81 : decode (M_IL_init).cc 81 = .ok (.aload_n 0, 1) := by decide +kernel
theorem d_IL_init_82 : decode (M_IL_init).cc 82 = .ok (.new 58, 3) := by decide +kernel
theorem d_IL_init_85 : decode (M_IL_init).cc 85 = .ok (.dup, 1) := by decide +kernel
theorem d_IL_init_86 : decode (M_IL_init).cc 86 = .ok (.invokespecial 60, 3) := by decide +kernel
theorem d_IL_init_89 : decode (M_IL_init).cc 89 = .ok (.putfield 61, 3) := by decide +kernel
theorem d_IL_init_92 : decode (M_IL_init).cc 92 = .ok (.aload_n 0, 1) := by decide +kernel
theorem d_IL_init_93 : decode (M_IL_init).cc 93 = .ok (.iconst (-1), 1) := by decide +kernel
theorem d_IL_init_94 : decode (M_IL_init).cc 94 = .ok (.putfield 65, 3) := by decide +kernel
theorem d_IL_init_97 : decode (M_IL_init).cc 97 = .ok (.return_, 1) := by decide +kernel
theorem d_Tr_init_0 : decode (M_Tr_init).cc 0 = .ok (.aload_n 0, 1) := by decide +kernel
theorem d_Tr_init_1 : decode (M_Tr_init).cc 1 = .ok (.invokespecial 3, 3) := by decide +kernel
theorem d_Tr_init_4 : decode (M_Tr_init).cc 4 = .ok (.aload_n 0, 1) := by decide +kernel
theorem d_Tr_init_5 : decode (M_Tr_init).cc 5 = .ok (.new 9, 3) := by decide +kernel
theorem d_Tr_init_8 : decode (M_Tr_init).cc 8 = .ok (.dup, 1) := by decide +kernel
theorem d_Tr_init_9 : decode (M_Tr_init).cc 9 = .ok (.invokespecial 11, 3) := by decide +kernel
theorem d_Tr_init_12 : decode (M_Tr_init).cc 12 = .ok (.putfield 12, 3) := by decide +kernel
theorem d_Tr_init_15 : decode (M_Tr_init).cc 15 = .ok (.aload_n 0, 1) := by decide +kernel
theorem d_Tr_init_16 : decode (M_Tr_init).cc 16 = .ok (.bipush 10, 2) := by decide +kernel
theorem d_Tr_init_18 : decode (M_Tr_init).cc 18 = .ok (.newarray .int, 2) := by decide +kernel
theorem d_Tr_init_20 : decode (M_Tr_init).cc 20 = .ok (.putfield 18, 3) := by decide +kernel
theorem d_Tr_init_23 : decode (M_Tr_init).cc 23 = .ok (.aload_n 0, 1) := by decide +kernel
theorem d_Tr_init_24 : decode (M_Tr_init).cc 24 = .ok (.bipush 10, 2) := by decide +kernel
theorem d_Tr_init_26 : decode (M_Tr_init).cc 26 = .ok (.newarray .int, 2) := by decide +kernel
theorem d_Tr_init_28 : decode (M_Tr_init).cc 28 = .ok (.putfield 22, 3) := by decide +kernel
theorem d_Tr_init_31 : decode (M_Tr_init).cc 31 = .ok (.aload_n 0, 1) := by decide +kernel
theorem d_Tr_init_32 : decode (M_Tr_init).cc 32 = .ok (.bipush 6, 2) := by decide +kernel
theorem d_Tr_init_34 : decode (M_Tr_init).cc 34 = .ok (.newarray .int, 2) := by decide +kernel
theorem d_Tr_init_36 : decode (M_Tr_init).cc 36 = .ok (.putfield 25, 3) := by decide +kernel
theorem d_Tr_init_39 : decode (M_Tr_init).cc 39 = .ok (.return_, 1) := by decide +kernel
theorem d_Tw_init_0 : decode (M_Tw_init).cc 0 = .ok (.aload_n 0, 1) := by decide +kernel
theorem d_Tw_init_1 : decode (M_Tw_init).cc 1 = .ok (.invokespecial 3, 3) := by decide +kernel
theorem d_Tw_init_4 : decode (M_Tw_init).cc 4 = .ok (.aload_n 0, 1) := by decide +kernel
theorem d_Tw_init_5 : decode (M_Tw_init).cc 5 = .ok (.bipush 6, 2) := by decide +kernel
theorem d_Tw_init_7 : decode (M_Tw_init).cc 7 = .ok (.newarray .int, 2) := by decide +kernel
theorem d_Tw_init_9 : decode (M_Tw_init).cc 9 = .ok (.putfield 9, 3) := by decide +kernel
theorem d_Tw_init_12 : decode (M_Tw_init).cc 12 = .ok (.aload_n 0, 1) := by decide +kernel
theorem d_Tw_init_13 : decode (M_Tw_init).cc 13 = .ok (.bipush 10, 2) := by decide +kernel
theorem d_Tw_init_15 : decode (M_Tw_init).cc 15 = .ok (.newarray .int, 2) := by decide +kernel
theorem d_Tw_init_17 : decode (M_Tw_init).cc 17 = .ok (.putfield 15, 3) := by decide +kernel
theorem d_Tw_init_20 : decode (M_Tw_init).cc 20 = .ok (.aload_n 0, 1) := by decide +kernel
theorem d_Tw_init_21 : decode (M_Tw_init).cc 21 = .ok (.bipush 10, 2) := by decide +kernel
theorem d_Tw_init_23 : decode (M_Tw_init).cc 23 = .ok (.newarray .int, 2) := by decide +kernel
theorem d_Tw_init_25 : decode (M_Tw_init).cc 25 = .ok (.putfield 18, 3) := by decide +kernel
theorem d_Tw_init_28 : decode (M_Tw_init).cc 28 = .ok (.return_, 1) := by decide +kernel
theorem d_Nu_init_0 : decode (M_Nu_init).cc 0 = .ok (.aload_n 0, 1) := by decide +kernel
theorem d_Nu_init_1 : decode (M_Nu_init).cc 1 = .ok (.invokespecial 3, 3) := by decide +kernel
theorem d_Nu_init_4 : decode (M_Nu_init).cc 4 = .ok (.aload_n 0, 1) := by decide +kernel
theorem d_Nu_init_5 : decode (M_Nu_init).cc 5 = .ok (.bipush 6, 2) := by decide +kernel
theorem d_Nu_init_7 : decode (M_Nu_init).cc 7 = .ok (.newarray .int, 2) := by decide +kernel
theorem d_Nu_init_9 : decode (M_Nu_init).cc 9 = .ok (.putfield 9, 3) := by decide +kernel
theorem d_Nu_init_12 : decode (M_Nu_init).cc 12 = .ok (.aload_n 0, 1) := by decide +kernel
theorem d_Nu_init_13 : decode (M_Nu_init).cc 13 = .ok (.bipush 6, 2) := by decide +kernel
theorem d_Nu_init_15 : decode (M_Nu_init).cc 15 = .ok (.newarray .boolean, 2) := by decide +kernel
theorem d_Nu_init_17 : decode (M_Nu_init).cc 17 = .ok (.putfield 15, 3) := by decide +kernel
theorem d_Nu_init_20 : decode (M_Nu_init).cc 20 = .ok (.return_, 1) := by decide +kernel
theorem d_Ls_init_0 : decode (M_Ls_init).cc 0 = .ok (.aload_n 0, 1) := by decide +kernel
theorem d_Ls_init_1 : decode (M_Ls_init).cc 1 = .ok (.invokespecial 3, 3) := by decide +kernel
theorem d_Ls_init_4 : decode (M_Ls_init).cc 4 = .ok (.aload_n 0, 1) := by decide +kernel
theorem d_Ls_init_5 : decode (M_Ls_init).cc 5 = .ok (.new 9, 3) := by decide +kernel
theorem d_Ls_init_8 : decode (M_Ls_init).cc 8 = .ok (.dup, 1) := by decide +kernel
theorem d_Ls_init_9 : decode (M_Ls_init).cc 9 = .ok (.invokespecial 11, 3) := by decide +kernel
theorem d_Ls_init_12 : decode (M_Ls_init).cc 12 = .ok (.putfield 12, 3) := by decide +kernel
theorem d_Ls_init_15 : decode (M_Ls_init).cc 15 = .ok (.aload_n 0, 1) := by decide +kernel
theorem d_Ls_init_16 : decode (M_Ls_init).cc 16 = .ok (.new 18, 3) := by decide +kernel
theorem d_Ls_init_19 : decode (M_Ls_init).cc 19 = .ok (.dup, 1) := by decide +kernel
theorem d_Ls_init_20 : decode (M_Ls_init).cc 20 = .ok (.invokespecial 20, 3) := by decide +kernel
theorem d_Ls_init_23 : decode (M_Ls_init).cc 23 = .ok (.putfield 21, 3) := by decide +kernel
theorem d_Ls_init_26 : decode (M_Ls_init).cc 26 = .ok (.aload_n 0, 1) := by decide +kernel
theorem d_Ls_init_27 : decode (M_Ls_init).cc 27 = .ok (.new 25, 3) := by decide +kernel
theorem d_Ls_init_30 : decode (M_Ls_init).cc 30 = .ok (.dup, 1) := by decide +kernel
theorem d_Ls_init_31 : decode (M_Ls_init).cc 31 = .ok (.invokespecial 27, 3) := by decide +kernel
theorem d_Ls_init_34 : decode (M_Ls_init).cc 34 = .ok (.putfield 28, 3) := by decide +kernel
theorem d_Ls_init_37 : decode (M_Ls_init).cc 37 = .ok (.aload_n 0, 1) := by decide +kernel
theorem d_Ls_init_38 : decode (M_Ls_init).cc 38 = .ok (.bipush 7, 2) := by decide +kernel
theorem d_Ls_init_40 : decode (M_Ls_init).cc 40 = .ok (.newarray .int, 2) := by decide +kernel
theorem d_Ls_init_42 : decode (M_Ls_init).cc 42 = .ok (.putfield 32, 3) := by decide +kernel
theorem d_Ls_init_45 : decode (M_Ls_init).cc 45 = .ok (.aload_n 0, 1) := by decide +kernel
theorem d_Ls_init_46 : decode (M_Ls_init).cc 46 = .ok (.bipush 6, 2) := by decide +kernel
theorem d_Ls_init_48 : decode (M_Ls_init).cc 48 = .ok (.newarray .int, 2) := by decide +kernel
theorem d_Ls_init_50 : decode (M_Ls_init).cc 50 = .ok (.putfield 36, 3) := by decide +kernel
theorem d_Ls_init_53 : decode (M_Ls_init).cc 53 = .ok (.return_, 1) := by decide +kernel
theorem d_IL_erase_0 : decode (M_IL_erase).cc 0 = .ok (.aload_n 0, 1) := by decide +kernel
theorem d_IL_erase_1 : decode (M_IL_erase).cc 1 = .ok (.getfield 10, 3) := by decide +kernel
theorem d_IL_erase_4 : decode (M_IL_erase).cc 4 = .ok (.getfield 69, 3) := by decide +kernel
theorem d_IL_erase_7 : decode (M_IL_erase).cc 7 = .ok (.istore_n 1, 1) := by decide +kernel
theorem d_IL_erase_8 : decode (M_IL_erase).cc 8 = .ok (.aload_n 0, 1) := by decide +kernel
theorem d_IL_erase_9 : decode (M_IL_erase).cc 9 = .ok (.getfield 10, 3) := by decide +kernel
theorem d_IL_erase_12 : decode (M_IL_erase).cc 12 = .ok (.invokevirtual 79, 3) := by decide +kernel
theorem d_IL_erase_15 : decode (M_IL_erase).cc 15 = .ok (.iload_n 1, 1) := by decide +kernel
theorem d_IL_erase_16 : decode (M_IL_erase).cc 16 = .ok (.ireturn, 1) := by decide +kernel
theorem d_IL_formula_0 : decode (M_IL_formula).cc 0 = .ok (.aload_n 0, 1) := by decide +kernel
theorem d_IL_formula_1 : decode (M_IL_formula).cc 1 = .ok (.getfield 19, 3) := by decide +kernel
theorem d_IL_formula_4 : decode (M_IL_formula).cc 4 = .ok (.aload_n 0, 1) := by decide +kernel
theorem d_IL_formula_5 : decode (M_IL_formula).cc 5 = .ok (.getfield 10, 3) := by decide +kernel
theorem d_IL_formula_8 : decode (M_IL_formula).cc 8 = .ok (.invokevirtual 82, 3) := by decide +kernel
theorem d_IL_formula_11 : decode (M_IL_formula).cc 11 = .ok (.istore_n 1, 1) := by decide +kernel
theorem d_IL_formula_12 : decode (M_IL_formula).cc 12 = .ok (.iload_n 1, 1) := by decide +kernel
theorem d_IL_formula_13 : decode (M_IL_formula).cc 13 = .ok (.iconst (-1), 1) := by decide +kernel
theorem d_IL_formula_14 : decode (M_IL_formula).cc 14 = .ok (.if_icmp .ne 15, 3) := by decide +kernel
theorem d_IL_formula_17 : decode (M_IL_formula).cc 17 = .ok (.aload_n 0, 1) := by decide +kernel
theorem d_IL_formula_18 : decode (M_IL_formula).cc 18 = .ok (.aload_n 0, 1) := by decide +kernel
theorem d_IL_formula_19 : decode (M_IL_formula).cc 19 = .ok (.getfield 19, 3) := by decide +kernel
theorem d_IL_formula_22 : decode (M_IL_formula).cc 22 = .ok (.getfield 86, 3) := by decide +kernel
theorem d_IL_formula_25 : decode (M_IL_formula).cc 25 = .ok (.invokevirtual 90, 3) := by decide +kernel
theorem d_IL_formula_28 : decode (M_IL_formula).cc 28 = .ok (.istore_n 1, 1) := by decide +kernel
theorem d_IL_formula_29 : decode (M_IL_formula).cc 29 = .ok (.aload_n 0, 1) := by decide +kernel
theorem d_IL_formula_30 : decode (M_IL_formula).cc 30 = .ok (.iload_n 1, 1) := by decide +kernel
theorem d_IL_formula_31 : decode (M_IL_formula).cc 31 = .ok (.iconst (-1), 1) := by decide +kernel
theorem d_IL_formula_32 : decode (M_IL_formula).cc 32 = .ok (.if_icmp .ne 7, 3) := by decide +kernel
theorem d_IL_formula_35 : decode (M_IL_formula).cc 35 = .ok (.iconst (-1), 1) := by decide +kernel
theorem d_IL_formula_36 : decode (M_IL_formula).cc 36 = .ok (.goto 10, 3) := by decide +kernel
theorem d_IL_formula_39 : decode (M_IL_formula).cc 39 = .ok (.aload_n 0, 1) := by decide +kernel
theorem d_IL_formula_40 : decode (M_IL_formula).cc 40 = .ok (.getfield 19, 3) := by decide +kernel
theorem d_IL_formula_43 : decode (M_IL_formula).cc 43 = .ok (.getfield 94, 3) := by decide +kernel
theorem d_IL_formula_46 : decode (M_IL_formula).cc 46 = .ok (.putfield 65, 3) := by decide +kernel
theorem d_IL_formula_49 : decode (M_IL_formula).cc 49 = .ok (.iload_n 1, 1) := by decide +kernel
theorem d_IL_formula_50 : decode (M_IL_formula).cc 50 = .ok (.iconst (-1), 1) := by decide +kernel
theorem d_IL_formula_51 : decode (M_IL_formula).cc 51 = .ok (.if_icmp .ne 13, 3) := by decide +kernel
theorem d_IL_formula_54 : decode (M_IL_formula).cc 54 = .ok (.aload_n 0, 1) := by decide +kernel
theorem d_IL_formula_55 : decode (M_IL_formula).cc 55 = .ok (.getfield 61, 3) := by decide +kernel
theorem d_IL_formula_58 : decode (M_IL_formula).cc 58 = .ok (.getfield 97, 3) := by decide +kernel
theorem d_IL_formula_61 : decode (M_IL_formula).cc 61 = .ok (.goto 4, 3) := by decide +kernel
theorem d_IL_formula_64 : decode (M_IL_formula).cc 64 = .ok (.iload_n 1, 1) := by decide +kernel
theorem d_IL_formula_65 : decode (M_IL_formula).cc 65 = .ok (.ireturn, 1) := by decide +kernel
theorem d_IL_signLength_0 : decode (M_IL_signLength).cc 0 = .ok (.getstatic 189, 3) := by decide +kernel
theorem d_IL_signLength_3 : decode (M_IL_signLength).cc 3 = .ok (.iload_n 0, 1) := by decide +kernel
theorem d_IL_signLength_4 : decode (M_IL_signLength).cc 4 = .ok (.caload, 1) := by decide +kernel
theorem d_IL_signLength_5 : decode (M_IL_signLength).cc 5 = .ok (.ifCond .ne 7, 3) := by decide +kernel
theorem d_IL_signLength_8 : decode (M_IL_signLength).cc 8 = .ok (.iconst 1, 1) := by decide +kernel
theorem d_IL_signLength_9 : decode (M_IL_signLength).cc 9 = .ok (.goto 4, 3) := by decide +kernel
theorem d_IL_signLength_12 : decode (M_IL_signLength).cc 12 = .ok (.iconst 2, 1) := by decide +kernel
theorem d_IL_signLength_13 : decode (M_IL_signLength).cc 13 = .ok (.ireturn, 1) := by decide +kernel
theorem d_IL_isDigit_0 : decode (M_IL_isDigit).cc 0 = .ok (.iload_n 0, 1) := by decide +kernel
theorem d_IL_isDigit_1 : decode (M_IL_isDigit).cc 1 = .ok (.bipush 48, 2) := by decide +kernel
theorem d_IL_isDigit_3 : decode (M_IL_isDigit).cc 3 = .ok (.if_icmp .lt 13, 3) := by decide +kernel
theorem d_IL_isDigit_6 : decode (M_IL_isDigit).cc 6 = .ok (.iload_n 0, 1) := by decide +kernel
theorem d_IL_isDigit_7 : decode (M_IL_isDigit).cc 7 = .ok (.bipush 57, 2) := by decide +kernel
theorem d_IL_isDigit_9 : decode (M_IL_isDigit).cc 9 = .ok (.if_icmp .gt 7, 3) := by decide +kernel
theorem d_IL_isDigit_12 : decode (M_IL_isDigit).cc 12 = .ok (.iconst 1, 1) := by decide +kernel
theorem d_IL_isDigit_13 : decode (M_IL_isDigit).cc 13 = .ok (.goto 4, 3) := by decide +kernel
theorem d_IL_isDigit_16 : decode (M_IL_isDigit).cc 16 = .ok (.iconst 0, 1) := by decide +kernel
theorem d_IL_isDigit_17 : decode (M_IL_isDigit).cc 17 = .ok (.ireturn, 1) := by decide +kernel
theorem d_IL_listAnew_0 : decode (M_IL_listAnew).cc 0 = .ok (.aload_n 0, 1) := by decide +kernel
theorem d_IL_listAnew_1 : decode (M_IL_listAnew).cc 1 = .ok (.getfield 47, 3) := by decide +kernel
theorem d_IL_listAnew_4 : decode (M_IL_listAnew).cc 4 = .ok (.getfield 156, 3) := by decide +kernel
theorem d_IL_listAnew_7 : decode (M_IL_listAnew).cc 7 = .ok (.astore_n 2, 1) := by decide +kernel
theorem d_IL_listAnew_8 : decode (M_IL_listAnew).cc 8 = .ok (.aload_n 2, 1) := by decide +kernel
theorem d_IL_listAnew_9 : decode (M_IL_listAnew).cc 9 = .ok (.aload_n 1, 1) := by decide +kernel
theorem d_IL_listAnew_10 : decode (M_IL_listAnew).cc 10 = .ok (.invokevirtual 159, 3) := by decide +kernel
theorem d_IL_listAnew_13 : decode (M_IL_listAnew).cc 13 = .ok (.aload_n 2, 1) := by decide +kernel
theorem d_IL_listAnew_14 : decode (M_IL_listAnew).cc 14 = .ok (.aload_n 0, 1) := by decide +kernel
theorem d_IL_listAnew_15 : decode (M_IL_listAnew).cc 15 = .ok (.getfield 61, 3) := by decide +kernel
theorem d_IL_listAnew_18 : decode (M_IL_listAnew).cc 18 = .ok (.invokevirtual 163, 3) := by decide +kernel
theorem d_IL_listAnew_21 : decode (M_IL_listAnew).cc 21 = .ok (.ifCond .eq 5, 3) := by decide +kernel
theorem d_IL_listAnew_24 : decode (M_IL_listAnew).cc 24 = .ok (.iconst (-1), 1) := by decide +kernel
theorem d_IL_listAnew_25 : decode (M_IL_listAnew).cc 25 = .ok (.ireturn, 1) := by decide +kernel
theorem d_IL_listAnew_26 : decode (M_IL_listAnew).cc 26 = .ok (.aload_n 0, 1) := by decide +kernel
theorem d_IL_listAnew_27 : decode (M_IL_listAnew).cc 27 = .ok (.getfield 47, 3) := by decide +kernel
theorem d_IL_listAnew_30 : decode (M_IL_listAnew).cc 30 = .ok (.invokevirtual 167, 3) := by decide +kernel
theorem d_IL_listAnew_33 : decode (M_IL_listAnew).cc 33 = .ok (.aload_n 2, 1) := by decide +kernel
theorem d_IL_listAnew_34 : decode (M_IL_listAnew).cc 34 = .ok (.invokevirtual 170, 3) := by decide +kernel
theorem d_IL_listAnew_37 : decode (M_IL_listAnew).cc 37 = .ok (.ifCond .eq 6, 3) := by decide +kernel
theorem d_IL_listAnew_40 : decode (M_IL_listAnew).cc 40 = .ok (.bipush (-6), 2) := by decide +kernel
theorem d_IL_listAnew_42 : decode (M_IL_listAnew).cc 42 = .ok (.ireturn, 1) := by decide +kernel
theorem d_IL_listAnew_43 : decode (M_IL_listAnew).cc 43 = .ok (.aload_n 0, 1) := by decide +kernel
theorem d_IL_listAnew_44 : decode (M_IL_listAnew).cc 44 = .ok (.getfield 61, 3) := by decide +kernel
theorem d_IL_listAnew_47 : decode (M_IL_listAnew).cc 47 = .ok (.aload_n 2, 1) := by decide +kernel
theorem d_IL_listAnew_48 : decode (M_IL_listAnew).cc 48 = .ok (.invokevirtual 174, 3) := by decide +kernel
theorem d_IL_listAnew_51 : decode (M_IL_listAnew).cc 51 = .ok (.iconst (-1), 1) := by decide +kernel
theorem d_IL_listAnew_52 : decode (M_IL_listAnew).cc 52 = .ok (.ireturn, 1) := by decide +kernel
theorem d_Ls_fillDraft_0 : decode (M_Ls_fillDraft).cc 0 = .ok (.aload_n 0, 1) := by decide +kernel
theorem d_Ls_fillDraft_1 : decode (M_Ls_fillDraft).cc 1 = .ok (.getfield 28, 3) := by decide +kernel
theorem d_Ls_fillDraft_4 : decode (M_Ls_fillDraft).cc 4 = .ok (.aload_n 0, 1) := by decide +kernel
theorem d_Ls_fillDraft_5 : decode (M_Ls_fillDraft).cc 5 = .ok (.getfield 12, 3) := by decide +kernel
theorem d_Ls_fillDraft_8 : decode (M_Ls_fillDraft).cc 8 = .ok (.invokevirtual 39, 3) := by decide +kernel
theorem d_Ls_fillDraft_11 : decode (M_Ls_fillDraft).cc 11 = .ok (.aload_n 0, 1) := by decide +kernel
theorem d_Ls_fillDraft_12 : decode (M_Ls_fillDraft).cc 12 = .ok (.invokevirtual 43, 3) := by decide +kernel
theorem d_Ls_fillDraft_15 : decode (M_Ls_fillDraft).cc 15 = .ok (.aload_n 0, 1) := by decide +kernel
theorem d_Ls_fillDraft_16 : decode (M_Ls_fillDraft).cc 16 = .ok (.getfield 32, 3) := by decide +kernel
theorem d_Ls_fillDraft_19 : decode (M_Ls_fillDraft).cc 19 = .ok (.iconst 0, 1) := by decide +kernel
theorem d_Ls_fillDraft_20 : decode (M_Ls_fillDraft).cc 20 = .ok (.iaload, 1) := by decide +kernel
theorem d_Ls_fillDraft_21 : decode (M_Ls_fillDraft).cc 21 = .ok (.aload_n 0, 1) := by decide +kernel
theorem d_Ls_fillDraft_22 : decode (M_Ls_fillDraft).cc 22 = .ok (.getfield 12, 3) := by decide +kernel
theorem d_Ls_fillDraft_25 : decode (M_Ls_fillDraft).cc 25 = .ok (.getfield 46, 3) := by decide +kernel
theorem d_Ls_fillDraft_28 : decode (M_Ls_fillDraft).cc 28 = .ok (.isub, 1) := by decide +kernel
theorem d_Ls_fillDraft_29 : decode (M_Ls_fillDraft).cc 29 = .ok (.istore_n 1, 1) := by decide +kernel
theorem d_Ls_fillDraft_30 : decode (M_Ls_fillDraft).cc 30 = .ok (.iload_n 1, 1) := by decide +kernel
theorem d_Ls_fillDraft_31 : decode (M_Ls_fillDraft).cc 31 = .ok (.ifCond .lt 18, 3) := by decide +kernel
theorem d_Ls_fillDraft_34 : decode (M_Ls_fillDraft).cc 34 = .ok (.iload_n 1, 1) := by decide +kernel
theorem d_Ls_fillDraft_35 : decode (M_Ls_fillDraft).cc 35 = .ok (.iconst 2, 1) := by decide +kernel
theorem d_Ls_fillDraft_36 : decode (M_Ls_fillDraft).cc 36 = .ok (.irem, 1) := by decide +kernel
theorem d_Ls_fillDraft_37 : decode (M_Ls_fillDraft).cc 37 = .ok (.ifCond .ne 12, 3) := by decide +kernel
theorem d_Ls_fillDraft_40 : decode (M_Ls_fillDraft).cc 40 = .ok (.aload_n 0, 1) := by decide +kernel
theorem d_Ls_fillDraft_41 : decode (M_Ls_fillDraft).cc 41 = .ok (.iconst 0, 1) := by decide +kernel
theorem d_Ls_fillDraft_42 : decode (M_Ls_fillDraft).cc 42 = .ok (.iload_n 1, 1) := by decide +kernel
theorem d_Ls_fillDraft_43 : decode (M_Ls_fillDraft).cc 43 = .ok (.iconst 2, 1) := by decide +kernel
theorem d_Ls_fillDraft_44 : decode (M_Ls_fillDraft).cc 44 = .ok (.idiv, 1) := by decide +kernel
theorem d_Ls_fillDraft_45 : decode (M_Ls_fillDraft).cc 45 = .ok (.iconst 0, 1) := by decide +kernel
theorem d_Ls_fillDraft_46 : decode (M_Ls_fillDraft).cc 46 = .ok (.invokevirtual 50, 3) := by decide +kernel
theorem d_Ls_fillDraft_49 : decode (M_Ls_fillDraft).cc 49 = .ok (.return_, 1) := by decide +kernel
theorem d_Ls_sumValences_0 : decode (M_Ls_sumValences).cc 0 = .ok (.aload_n 0, 1) := by decide +kernel
theorem d_Ls_sumValences_1 : decode (M_Ls_sumValences).cc 1 = .ok (.getfield 32, 3) := by decide +kernel
theorem d_Ls_sumValences_4 : decode (M_Ls_sumValences).cc 4 = .ok (.aload_n 0, 1) := by decide +kernel
theorem d_Ls_sumValences_5 : decode (M_Ls_sumValences).cc 5 = .ok (.getfield 28, 3) := by decide +kernel
theorem d_Ls_sumValences_8 : decode (M_Ls_sumValences).cc 8 = .ok (.getfield 54, 3) := by decide +kernel
theorem d_Ls_sumValences_11 : decode (M_Ls_sumValences).cc 11 = .ok (.iconst 0, 1) := by decide +kernel
theorem d_Ls_sumValences_12 : decode (M_Ls_sumValences).cc 12 = .ok (.iastore, 1) := by decide +kernel
theorem d_Ls_sumValences_13 : decode (M_Ls_sumValences).cc 13 = .ok (.aload_n 0, 1) := by decide +kernel
theorem d_Ls_sumValences_14 : decode (M_Ls_sumValences).cc 14 = .ok (.getfield 28, 3) := by decide +kernel
theorem d_Ls_sumValences_17 : decode (M_Ls_sumValences).cc 17 = .ok (.getfield 54, 3) := by decide +kernel
theorem d_Ls_sumValences_20 : decode (M_Ls_sumValences).cc 20 = .ok (.iconst 1, 1) := by decide +kernel
theorem d_Ls_sumValences_21 : decode (M_Ls_sumValences).cc 21 = .ok (.isub, 1) := by decide +kernel
theorem d_Ls_sumValences_22 : decode (M_Ls_sumValences).cc 22 = .ok (.istore_n 1, 1) := by decide +kernel
theorem d_Ls_sumValences_23 : decode (M_Ls_sumValences).cc 23 = .ok (.iload_n 1, 1) := by decide +kernel
theorem d_Ls_sumValences_24 : decode (M_Ls_sumValences).cc 24 = .ok (.ifCond .lt 33, 3) := by decide +kernel
theorem d_Ls_sumValences_27 : decode (M_Ls_sumValences).cc 27 = .ok (.aload_n 0, 1) := by decide +kernel
theorem d_Ls_sumValences_28 : decode (M_Ls_sumValences).cc 28 = .ok (.getfield 32, 3) := by decide +kernel
theorem d_Ls_sumValences_31 : decode (M_Ls_sumValences).cc 31 = .ok (.iload_n 1, 1) := by decide +kernel
theorem d_Ls_sumValences_32 : decode (M_Ls_sumValences).cc 32 = .ok (.aload_n 0, 1) := by decide +kernel
theorem d_Ls_sumValences_33 : decode (M_Ls_sumValences).cc 33 = .ok (.getfield 32, 3) := by decide +kernel
theorem d_Ls_sumValences_36 : decode (M_Ls_sumValences).cc 36 = .ok (.iload_n 1, 1) := by decide +kernel
theorem d_Ls_sumValences_37 : decode (M_Ls_sumValences).cc 37 = .ok (.iconst 1, 1) := by decide +kernel
theorem d_Ls_sumValences_38 : decode (M_Ls_sumValences).cc 38 = .ok (.iadd, 1) := by decide +kernel
theorem d_Ls_sumValences_39 : decode (M_Ls_sumValences).cc 39 = .ok (.iaload, 1) := by decide +kernel
theorem d_Ls_sumValences_40 : decode (M_Ls_sumValences).cc 40 = .ok (.aload_n 0, 1) := by decide +kernel
theorem d_Ls_sumValences_41 : decode (M_Ls_sumValences).cc 41 = .ok (.getfield 28, 3) := by decide +kernel
theorem d_Ls_sumValences_44 : decode (M_Ls_sumValences).cc 44 = .ok (.getfield 57, 3) := by decide +kernel
theorem d_Ls_sumValences_47 : decode (M_Ls_sumValences).cc 47 = .ok (.iload_n 1, 1) := by decide +kernel
theorem d_Ls_sumValences_48 : decode (M_Ls_sumValences).cc 48 = .ok (.iaload, 1) := by decide +kernel
theorem d_Ls_sumValences_49 : decode (M_Ls_sumValences).cc 49 = .ok (.iadd, 1) := by decide +kernel
theorem d_Ls_sumValences_50 : decode (M_Ls_sumValences).cc 50 = .ok (.iastore, 1) := by decide +kernel
theorem d_Ls_sumValences_51 : decode (M_Ls_sumValences).cc 51 = .ok (.iinc 1 (-1), 3) := by decide +kernel
theorem d_Ls_sumValences_54 : decode (M_Ls_sumValences).cc 54 = .ok (.goto (-31), 3) := by decide +kernel
theorem d_Ls_sumValences_57 : decode (M_Ls_sumValences).cc 57 = .ok (.return_, 1) := by decide +kernel
theorem d_Ls_endRow_0 : decode (M_Ls_endRow).cc 0 = .ok (.iload_n 1, 1) := by decide +kernel
theorem d_Ls_endRow_1 : decode (M_Ls_endRow).cc 1 = .ok (.iconst 1, 1) := by decide +kernel
theorem d_Ls_endRow_2 : decode (M_Ls_endRow).cc 2 = .ok (.iadd, 1) := by decide +kernel
theorem d_Ls_endRow_3 : decode (M_Ls_endRow).cc 3 = .ok (.istore 4, 2) := by decide +kernel
theorem d_Ls_endRow_5 : decode (M_Ls_endRow).cc 5 = .ok (.aload_n 0, 1) := by decide +kernel
theorem d_Ls_endRow_6 : decode (M_Ls_endRow).cc 6 = .ok (.iload 4, 2) := by decide +kernel
theorem d_Ls_endRow_8 : decode (M_Ls_endRow).cc 8 = .ok (.iload_n 2, 1) := by decide +kernel
theorem d_Ls_endRow_9 : decode (M_Ls_endRow).cc 9 = .ok (.invokevirtual 81, 3) := by decide +kernel
theorem d_Ls_endRow_12 : decode (M_Ls_endRow).cc 12 = .ok (.ifCond .eq 20, 3) := by decide +kernel
theorem d_Ls_endRow_15 : decode (M_Ls_endRow).cc 15 = .ok (.aload_n 0, 1) := by decide +kernel
theorem d_Ls_endRow_16 : decode (M_Ls_endRow).cc 16 = .ok (.getfield 21, 3) := by decide +kernel
theorem d_Ls_endRow_19 : decode (M_Ls_endRow).cc 19 = .ok (.aload_n 0, 1) := by decide +kernel
theorem d_Ls_endRow_20 : decode (M_Ls_endRow).cc 20 = .ok (.getfield 28, 3) := by decide +kernel
theorem d_Ls_endRow_23 : decode (M_Ls_endRow).cc 23 = .ok (.iload 4, 2) := by decide +kernel
theorem d_Ls_endRow_25 : decode (M_Ls_endRow).cc 25 = .ok (.iload_n 3, 1) := by decide +kernel
theorem d_Ls_endRow_26 : decode (M_Ls_endRow).cc 26 = .ok (.invokevirtual 85, 3) := by decide +kernel
theorem d_Ls_endRow_29 : decode (M_Ls_endRow).cc 29 = .ok (.ifCond .ne 4, 3) := by decide +kernel
theorem d_Ls_endRow_32 : decode (M_Ls_endRow).cc 32 = .ok (.return_, 1) := by decide +kernel
theorem d_Ls_endRow_33 : decode (M_Ls_endRow).cc 33 = .ok (.iload 4, 2) := by decide +kernel
theorem d_Ls_endRow_35 : decode (M_Ls_endRow).cc 35 = .ok (.aload_n 0, 1) := by decide +kernel
theorem d_Ls_endRow_36 : decode (M_Ls_endRow).cc 36 = .ok (.getfield 28, 3) := by decide +kernel
theorem d_Ls_endRow_39 : decode (M_Ls_endRow).cc 39 = .ok (.getfield 54, 3) := by decide +kernel
theorem d_Ls_endRow_42 : decode (M_Ls_endRow).cc 42 = .ok (.if_icmp .lt 14, 3) := by decide +kernel
theorem d_Ls_endRow_45 : decode (M_Ls_endRow).cc 45 = .ok (.aload_n 0, 1) := by decide +kernel
theorem d_Ls_endRow_46 : decode (M_Ls_endRow).cc 46 = .ok (.getfield 12, 3) := by decide +kernel
theorem d_Ls_endRow_49 : decode (M_Ls_endRow).cc 49 = .ok (.iload_n 3, 1) := by decide +kernel
theorem d_Ls_endRow_50 : decode (M_Ls_endRow).cc 50 = .ok (.invokevirtual 89, 3) := by decide +kernel
theorem d_Ls_endRow_53 : decode (M_Ls_endRow).cc 53 = .ok (.goto 12, 3) := by decide +kernel
theorem d_Ls_endRow_56 : decode (M_Ls_endRow).cc 56 = .ok (.aload_n 0, 1) := by decide +kernel
theorem d_Ls_endRow_57 : decode (M_Ls_endRow).cc 57 = .ok (.iload 4, 2) := by decide +kernel
theorem d_Ls_endRow_59 : decode (M_Ls_endRow).cc 59 = .ok (.iconst 0, 1) := by decide +kernel
theorem d_Ls_endRow_60 : decode (M_Ls_endRow).cc 60 = .ok (.iload_n 2, 1) := by decide +kernel
theorem d_Ls_endRow_61 : decode (M_Ls_endRow).cc 61 = .ok (.iload_n 3, 1) := by decide +kernel
theorem d_Ls_endRow_62 : decode (M_Ls_endRow).cc 62 = .ok (.invokevirtual 77, 3) := by decide +kernel
theorem d_Ls_endRow_65 : decode (M_Ls_endRow).cc 65 = .ok (.return_, 1) := by decide +kernel
theorem d_Ls_canBeEnded_0 : decode (M_Ls_canBeEnded).cc 0 = .ok (.aload_n 0, 1) := by decide +kernel
theorem d_Ls_canBeEnded_1 : decode (M_Ls_canBeEnded).cc 1 = .ok (.getfield 28, 3) := by decide +kernel
theorem d_Ls_canBeEnded_4 : decode (M_Ls_canBeEnded).cc 4 = .ok (.getfield 54, 3) := by decide +kernel
theorem d_Ls_canBeEnded_7 : decode (M_Ls_canBeEnded).cc 7 = .ok (.iload_n 1, 1) := by decide +kernel
theorem d_Ls_canBeEnded_8 : decode (M_Ls_canBeEnded).cc 8 = .ok (.isub, 1) := by decide +kernel
theorem d_Ls_canBeEnded_9 : decode (M_Ls_canBeEnded).cc 9 = .ok (.istore_n 3, 1) := by decide +kernel
theorem d_Ls_canBeEnded_10 : decode (M_Ls_canBeEnded).cc 10 = .ok (.iload_n 2, 1) := by decide +kernel
theorem d_Ls_canBeEnded_11 : decode (M_Ls_canBeEnded).cc 11 = .ok (.aload_n 0, 1) := by decide +kernel
theorem d_Ls_canBeEnded_12 : decode (M_Ls_canBeEnded).cc 12 = .ok (.getfield 32, 3) := by decide +kernel
theorem d_Ls_canBeEnded_15 : decode (M_Ls_canBeEnded).cc 15 = .ok (.iload_n 1, 1) := by decide +kernel
theorem d_Ls_canBeEnded_16 : decode (M_Ls_canBeEnded).cc 16 = .ok (.iaload, 1) := by decide +kernel
theorem d_Ls_canBeEnded_17 : decode (M_Ls_canBeEnded).cc 17 = .ok (.if_icmp .gt 20, 3) := by decide +kernel
theorem d_Ls_canBeEnded_20 : decode (M_Ls_canBeEnded).cc 20 = .ok (.iload_n 2, 1) := by decide +kernel
theorem d_Ls_canBeEnded_21 : decode (M_Ls_canBeEnded).cc 21 = .ok (.aload_n 0, 1) := by decide +kernel
theorem d_Ls_canBeEnded_22 : decode (M_Ls_canBeEnded).cc 22 = .ok (.iload_n 1, 1) := by decide +kernel
theorem d_Ls_canBeEnded_23 : decode (M_Ls_canBeEnded).cc 23 = .ok (.invokevirtual 93, 3) := by decide +kernel
theorem d_Ls_canBeEnded_26 : decode (M_Ls_canBeEnded).cc 26 = .ok (.iload_n 3, 1) := by decide +kernel
theorem d_Ls_canBeEnded_27 : decode (M_Ls_canBeEnded).cc 27 = .ok (.iadd, 1) := by decide +kernel
theorem d_Ls_canBeEnded_28 : decode (M_Ls_canBeEnded).cc 28 = .ok (.iconst 1, 1) := by decide +kernel
theorem d_Ls_canBeEnded_29 : decode (M_Ls_canBeEnded).cc 29 = .ok (.isub, 1) := by decide +kernel
theorem d_Ls_canBeEnded_30 : decode (M_Ls_canBeEnded).cc 30 = .ok (.if_icmp .lt 7, 3) := by decide +kernel
theorem d_Ls_canBeEnded_33 : decode (M_Ls_canBeEnded).cc 33 = .ok (.iconst 1, 1) := by decide +kernel
theorem d_Ls_canBeEnded_34 : decode (M_Ls_canBeEnded).cc 34 = .ok (.goto 4, 3) := by decide +kernel
theorem d_Ls_canBeEnded_37 : decode (M_Ls_canBeEnded).cc 37 = .ok (.iconst 0, 1) := by decide +kernel
theorem d_Ls_canBeEnded_38 : decode (M_Ls_canBeEnded).cc 38 = .ok (.ireturn, 1) := by decide +kernel
theorem d_Ls_countGroups_0 : decode (M_Ls_countGroups).cc 0 = .ok (.iconst 0, 1) := by decide +kernel
theorem d_Ls_countGroups_1 : decode (M_Ls_countGroups).cc 1 = .ok (.istore_n 2, 1) := by decide +kernel
theorem d_Ls_countGroups_2 : decode (M_Ls_countGroups).cc 2 = .ok (.iconst 0, 1) := by decide +kernel
theorem d_Ls_countGroups_3 : decode (M_Ls_countGroups).cc 3 = .ok (.istore_n 3, 1) := by decide +kernel
theorem d_Ls_countGroups_4 : decode (M_Ls_countGroups).cc 4 = .ok (.iload_n 3, 1) := by decide +kernel
theorem d_Ls_countGroups_5 : decode (M_Ls_countGroups).cc 5 = .ok (.iload_n 1, 1) := by decide +kernel
theorem d_Ls_countGroups_6 : decode (M_Ls_countGroups).cc 6 = .ok (.if_icmp .ge 84, 3) := by decide +kernel
theorem d_Ls_countGroups_9 : decode (M_Ls_countGroups).cc 9 = .ok (.aload_n 0, 1) := by decide +kernel
theorem d_Ls_countGroups_10 : decode (M_Ls_countGroups).cc 10 = .ok (.getfield 36, 3) := by decide +kernel
theorem d_Ls_countGroups_13 : decode (M_Ls_countGroups).cc 13 = .ok (.iload_n 3, 1) := by decide +kernel
theorem d_Ls_countGroups_14 : decode (M_Ls_countGroups).cc 14 = .ok (.iload_n 3, 1) := by decide +kernel
theorem d_Ls_countGroups_15 : decode (M_Ls_countGroups).cc 15 = .ok (.iastore, 1) := by decide +kernel
theorem d_Ls_countGroups_16 : decode (M_Ls_countGroups).cc 16 = .ok (.iinc 2 1, 3) := by decide +kernel
theorem d_Ls_countGroups_19 : decode (M_Ls_countGroups).cc 19 = .ok (.iconst 0, 1) := by decide +kernel
theorem d_Ls_countGroups_20 : decode (M_Ls_countGroups).cc 20 = .ok (.istore 4, 2) := by decide +kernel
theorem d_Ls_countGroups_22 : decode (M_Ls_countGroups).cc 22 = .ok (.iload 4, 2) := by decide +kernel
theorem d_Ls_countGroups_24 : decode (M_Ls_countGroups).cc 24 = .ok (.iload_n 3, 1) := by decide +kernel
theorem d_Ls_countGroups_25 : decode (M_Ls_countGroups).cc 25 = .ok (.if_icmp .ge 59, 3) := by decide +kernel
theorem d_Ls_countGroups_28 : decode (M_Ls_countGroups).cc 28 = .ok (.aload_n 0, 1) := by decide +kernel
theorem d_Ls_countGroups_29 : decode (M_Ls_countGroups).cc 29 = .ok (.getfield 28, 3) := by decide +kernel
theorem d_Ls_countGroups_32 : decode (M_Ls_countGroups).cc 32 = .ok (.iload_n 3, 1) := by decide +kernel
theorem d_Ls_countGroups_33 : decode (M_Ls_countGroups).cc 33 = .ok (.iload 4, 2) := by decide +kernel
theorem d_Ls_countGroups_35 : decode (M_Ls_countGroups).cc 35 = .ok (.invokevirtual 96, 3) := by decide +kernel
theorem d_Ls_countGroups_38 : decode (M_Ls_countGroups).cc 38 = .ok (.ifCond .le 40, 3) := by decide +kernel
theorem d_Ls_countGroups_41 : decode (M_Ls_countGroups).cc 41 = .ok (.aload_n 0, 1) := by decide +kernel
theorem d_Ls_countGroups_42 : decode (M_Ls_countGroups).cc 42 = .ok (.getfield 36, 3) := by decide +kernel
theorem d_Ls_countGroups_45 : decode (M_Ls_countGroups).cc 45 = .ok (.iload 4, 2) := by decide +kernel
theorem d_Ls_countGroups_47 : decode (M_Ls_countGroups).cc 47 = .ok (.iaload, 1) := by decide +kernel
theorem d_Ls_countGroups_48 : decode (M_Ls_countGroups).cc 48 = .ok (.aload_n 0, 1) := by decide +kernel
theorem d_Ls_countGroups_49 : decode (M_Ls_countGroups).cc 49 = .ok (.getfield 36, 3) := by decide +kernel
theorem d_Ls_countGroups_52 : decode (M_Ls_countGroups).cc 52 = .ok (.iload_n 3, 1) := by decide +kernel
theorem d_Ls_countGroups_53 : decode (M_Ls_countGroups).cc 53 = .ok (.iaload, 1) := by decide +kernel
theorem d_Ls_countGroups_54 : decode (M_Ls_countGroups).cc 54 = .ok (.if_icmp .eq 24, 3) := by decide +kernel
theorem d_Ls_countGroups_57 : decode (M_Ls_countGroups).cc 57 = .ok (.aload_n 0, 1) := by decide +kernel
theorem d_Ls_countGroups_58 : decode (M_Ls_countGroups).cc 58 = .ok (.aload_n 0, 1) := by decide +kernel
theorem d_Ls_countGroups_59 : decode (M_Ls_countGroups).cc 59 = .ok (.getfield 36, 3) := by decide +kernel
theorem d_Ls_countGroups_62 : decode (M_Ls_countGroups).cc 62 = .ok (.iload 4, 2) := by decide +kernel
theorem d_Ls_countGroups_64 : decode (M_Ls_countGroups).cc 64 = .ok (.iaload, 1) := by decide +kernel
theorem d_Ls_countGroups_65 : decode (M_Ls_countGroups).cc 65 = .ok (.aload_n 0, 1) := by decide +kernel
theorem d_Ls_countGroups_66 : decode (M_Ls_countGroups).cc 66 = .ok (.getfield 36, 3) := by decide +kernel
theorem d_Ls_countGroups_69 : decode (M_Ls_countGroups).cc 69 = .ok (.iload_n 3, 1) := by decide +kernel
theorem d_Ls_countGroups_70 : decode (M_Ls_countGroups).cc 70 = .ok (.iaload, 1) := by decide +kernel
theorem d_Ls_countGroups_71 : decode (M_Ls_countGroups).cc 71 = .ok (.iload_n 3, 1) := by decide +kernel
theorem d_Ls_countGroups_72 : decode (M_Ls_countGroups).cc 72 = .ok (.invokevirtual 99, 3) := by decide +kernel
theorem d_Ls_countGroups_75 : decode (M_Ls_countGroups).cc 75 = .ok (.iinc 2 (-1), 3) := by decide +kernel
theorem d_Ls_countGroups_78 : decode (M_Ls_countGroups).cc 78 = .ok (.iinc 4 1, 3) := by decide +kernel
theorem d_Ls_countGroups_81 : decode (M_Ls_countGroups).cc 81 = .ok (.goto (-59), 3) := by decide +kernel
theorem d_Ls_countGroups_84 : decode (M_Ls_countGroups).cc 84 = .ok (.iinc 3 1, 3) := by decide +kernel
theorem d_Ls_countGroups_87 : decode (M_Ls_countGroups).cc 87 = .ok (.goto (-83), 3) := by decide +kernel
theorem d_Ls_countGroups_90 : decode (M_Ls_countGroups).cc 90 = .ok (.iload_n 2, 1) := by decide +kernel
theorem d_Ls_countGroups_91 : decode (M_Ls_countGroups).cc 91 = .ok (.ireturn, 1) := by decide +kernel
theorem d_Ls_joinGroups_0 : decode (M_Ls_joinGroups).cc 0 = .ok (.iconst 0, 1) := by decide +kernel
theorem d_Ls_joinGroups_1 : decode (M_Ls_joinGroups).cc 1 = .ok (.istore 4, 2) := by decide +kernel
theorem d_Ls_joinGroups_3 : decode (M_Ls_joinGroups).cc 3 = .ok (.iload 4, 2) := by decide +kernel
theorem d_Ls_joinGroups_5 : decode (M_Ls_joinGroups).cc 5 = .ok (.iload_n 3, 1) := by decide +kernel
theorem d_Ls_joinGroups_6 : decode (M_Ls_joinGroups).cc 6 = .ok (.if_icmp .gt 28, 3) := by decide +kernel
theorem d_Ls_joinGroups_9 : decode (M_Ls_joinGroups).cc 9 = .ok (.aload_n 0, 1) := by decide +kernel
theorem d_Ls_joinGroups_10 : decode (M_Ls_joinGroups).cc 10 = .ok (.getfield 36, 3) := by decide +kernel
theorem d_Ls_joinGroups_13 : decode (M_Ls_joinGroups).cc 13 = .ok (.iload 4, 2) := by decide +kernel
theorem d_Ls_joinGroups_15 : decode (M_Ls_joinGroups).cc 15 = .ok (.iaload, 1) := by decide +kernel
theorem d_Ls_joinGroups_16 : decode (M_Ls_joinGroups).cc 16 = .ok (.iload_n 1, 1) := by decide +kernel
theorem d_Ls_joinGroups_17 : decode (M_Ls_joinGroups).cc 17 = .ok (.if_icmp .ne 11, 3) := by decide +kernel
theorem d_Ls_joinGroups_20 : decode (M_Ls_joinGroups).cc 20 = .ok (.aload_n 0, 1) := by decide +kernel
theorem d_Ls_joinGroups_21 : decode (M_Ls_joinGroups).cc 21 = .ok (.getfield 36, 3) := by decide +kernel
theorem d_Ls_joinGroups_24 : decode (M_Ls_joinGroups).cc 24 = .ok (.iload 4, 2) := by decide +kernel
theorem d_Ls_joinGroups_26 : decode (M_Ls_joinGroups).cc 26 = .ok (.iload_n 2, 1) := by decide +kernel
theorem d_Ls_joinGroups_27 : decode (M_Ls_joinGroups).cc 27 = .ok (.iastore, 1) := by decide +kernel
theorem d_Ls_joinGroups_28 : decode (M_Ls_joinGroups).cc 28 = .ok (.iinc 4 1, 3) := by decide +kernel
theorem d_Ls_joinGroups_31 : decode (M_Ls_joinGroups).cc 31 = .ok (.goto (-28), 3) := by decide +kernel
theorem d_Ls_joinGroups_34 : decode (M_Ls_joinGroups).cc 34 = .ok (.return_, 1) := by decide +kernel
theorem d_Nu_isGreatest_0 : decode (M_Nu_isGreatest).cc 0 = .ok (.aload_n 0, 1) := by decide +kernel
theorem d_Nu_isGreatest_1 : decode (M_Nu_isGreatest).cc 1 = .ok (.iload_n 2, 1) := by decide +kernel
theorem d_Nu_isGreatest_2 : decode (M_Nu_isGreatest).cc 2 = .ok (.putfield 25, 3) := by decide +kernel
theorem d_Nu_isGreatest_5 : decode (M_Nu_isGreatest).cc 5 = .ok (.aload_n 0, 1) := by decide +kernel
theorem d_Nu_isGreatest_6 : decode (M_Nu_isGreatest).cc 6 = .ok (.aload_n 1, 1) := by decide +kernel
theorem d_Nu_isGreatest_7 : decode (M_Nu_isGreatest).cc 7 = .ok (.iconst 0, 1) := by decide +kernel
theorem d_Nu_isGreatest_8 : decode (M_Nu_isGreatest).cc 8 = .ok (.iload_n 3, 1) := by decide +kernel
theorem d_Nu_isGreatest_9 : decode (M_Nu_isGreatest).cc 9 = .ok (.invokevirtual 36, 3) := by decide +kernel
theorem d_Nu_isGreatest_12 : decode (M_Nu_isGreatest).cc 12 = .ok (.ifCond .ne 7, 3) := by decide +kernel
theorem d_Nu_isGreatest_15 : decode (M_Nu_isGreatest).cc 15 = .ok (.iconst 1, 1) := by decide +kernel
theorem d_Nu_isGreatest_16 : decode (M_Nu_isGreatest).cc 16 = .ok (.goto 4, 3) := by decide +kernel
theorem d_Nu_isGreatest_19 : decode (M_Nu_isGreatest).cc 19 = .ok (.iconst 0, 1) := by decide +kernel
theorem d_Nu_isGreatest_20 : decode (M_Nu_isGreatest).cc 20 = .ok (.ireturn, 1) := by decide +kernel
theorem d_Nu_canBeBeaten_0 : decode (M_Nu_canBeBeaten).cc 0 = .ok (.iload_n 2, 1) := by decide +kernel
theorem d_Nu_canBeBeaten_1 : decode (M_Nu_canBeBeaten).cc 1 = .ok (.aload_n 0, 1) := by decide +kernel
theorem d_Nu_canBeBeaten_2 : decode (M_Nu_canBeBeaten).cc 2 = .ok (.getfield 25, 3) := by decide +kernel
theorem d_Nu_canBeBeaten_5 : decode (M_Nu_canBeBeaten).cc 5 = .ok (.if_icmp .lt 5, 3) := by decide +kernel
theorem d_Nu_canBeBeaten_8 : decode (M_Nu_canBeBeaten).cc 8 = .ok (.iconst 0, 1) := by decide +kernel
theorem d_Nu_canBeBeaten_9 : decode (M_Nu_canBeBeaten).cc 9 = .ok (.ireturn, 1) := by decide +kernel
theorem d_Nu_canBeBeaten_10 : decode (M_Nu_canBeBeaten).cc 10 = .ok (.iload_n 3, 1) := by decide +kernel
theorem d_Nu_canBeBeaten_11 : decode (M_Nu_canBeBeaten).cc 11 = .ok (.iload_n 2, 1) := by decide +kernel
theorem d_Nu_canBeBeaten_12 : decode (M_Nu_canBeBeaten).cc 12 = .ok (.invokestatic 44, 3) := by decide +kernel
theorem d_Nu_canBeBeaten_15 : decode (M_Nu_canBeBeaten).cc 15 = .ok (.ishr, 1) := by decide +kernel
theorem d_Nu_canBeBeaten_16 : decode (M_Nu_canBeBeaten).cc 16 = .ok (.iconst 1, 1) := by decide +kernel
theorem d_Nu_canBeBeaten_17 : decode (M_Nu_canBeBeaten).cc 17 = .ok (.iconst 2, 1) := by decide +kernel
theorem d_Nu_canBeBeaten_18 : decode (M_Nu_canBeBeaten).cc 18 = .ok (.iload_n 2, 1) := by decide +kernel
theorem d_Nu_canBeBeaten_19 : decode (M_Nu_canBeBeaten).cc 19 = .ok (.imul, 1) := by decide +kernel
theorem d_Nu_canBeBeaten_20 : decode (M_Nu_canBeBeaten).cc 20 = .ok (.ishl, 1) := by decide +kernel
theorem d_Nu_canBeBeaten_21 : decode (M_Nu_canBeBeaten).cc 21 = .ok (.iconst 1, 1) := by decide +kernel
theorem d_Nu_canBeBeaten_22 : decode (M_Nu_canBeBeaten).cc 22 = .ok (.isub, 1) := by decide +kernel
theorem d_Nu_canBeBeaten_23 : decode (M_Nu_canBeBeaten).cc 23 = .ok (.iand, 1) := by decide +kernel
theorem d_Nu_canBeBeaten_24 : decode (M_Nu_canBeBeaten).cc 24 = .ok (.istore 4, 2) := by decide +kernel
theorem d_Nu_canBeBeaten_26 : decode (M_Nu_canBeBeaten).cc 26 = .ok (.iconst 0, 1) := by decide +kernel
theorem d_Nu_canBeBeaten_27 : decode (M_Nu_canBeBeaten).cc 27 = .ok (.istore 5, 2) := by decide +kernel
theorem d_Nu_canBeBeaten_29 : decode (M_Nu_canBeBeaten).cc 29 = .ok (.iload 5, 2) := by decide +kernel
theorem d_Nu_canBeBeaten_31 : decode (M_Nu_canBeBeaten).cc 31 = .ok (.aload_n 0, 1) := by decide +kernel
theorem d_Nu_canBeBeaten_32 : decode (M_Nu_canBeBeaten).cc 32 = .ok (.getfield 25, 3) := by decide +kernel
theorem d_Nu_canBeBeaten_35 : decode (M_Nu_canBeBeaten).cc 35 = .ok (.if_icmp .ge 73, 3) := by decide +kernel
theorem d_Nu_canBeBeaten_38 : decode (M_Nu_canBeBeaten).cc 38 = .ok (.aload_n 0, 1) := by decide +kernel
theorem d_Nu_canBeBeaten_39 : decode (M_Nu_canBeBeaten).cc 39 = .ok (.getfield 15, 3) := by decide +kernel
theorem d_Nu_canBeBeaten_42 : decode (M_Nu_canBeBeaten).cc 42 = .ok (.iload 5, 2) := by decide +kernel
theorem d_Nu_canBeBeaten_44 : decode (M_Nu_canBeBeaten).cc 44 = .ok (.baload, 1) := by decide +kernel
theorem d_Nu_canBeBeaten_45 : decode (M_Nu_canBeBeaten).cc 45 = .ok (.ifCond .ne 57, 3) := by decide +kernel
theorem d_Nu_canBeBeaten_48 : decode (M_Nu_canBeBeaten).cc 48 = .ok (.aload_n 1, 1) := by decide +kernel
theorem d_Nu_canBeBeaten_49 : decode (M_Nu_canBeBeaten).cc 49 = .ok (.getfield 48, 3) := by decide +kernel
theorem d_Nu_canBeBeaten_52 : decode (M_Nu_canBeBeaten).cc 52 = .ok (.iload 5, 2) := by decide +kernel
theorem d_Nu_canBeBeaten_54 : decode (M_Nu_canBeBeaten).cc 54 = .ok (.iaload, 1) := by decide +kernel
theorem d_Nu_canBeBeaten_55 : decode (M_Nu_canBeBeaten).cc 55 = .ok (.aload_n 1, 1) := by decide +kernel
theorem d_Nu_canBeBeaten_56 : decode (M_Nu_canBeBeaten).cc 56 = .ok (.getfield 48, 3) := by decide +kernel
theorem d_Nu_canBeBeaten_59 : decode (M_Nu_canBeBeaten).cc 59 = .ok (.iload_n 2, 1) := by decide +kernel
theorem d_Nu_canBeBeaten_60 : decode (M_Nu_canBeBeaten).cc 60 = .ok (.iaload, 1) := by decide +kernel
theorem d_Nu_canBeBeaten_61 : decode (M_Nu_canBeBeaten).cc 61 = .ok (.if_icmp .ne 41, 3) := by decide +kernel
theorem d_Nu_canBeBeaten_64 : decode (M_Nu_canBeBeaten).cc 64 = .ok (.aload_n 0, 1) := by decide +kernel
theorem d_Nu_canBeBeaten_65 : decode (M_Nu_canBeBeaten).cc 65 = .ok (.aload_n 1, 1) := by decide +kernel
theorem d_Nu_canBeBeaten_66 : decode (M_Nu_canBeBeaten).cc 66 = .ok (.iload_n 2, 1) := by decide +kernel
theorem d_Nu_canBeBeaten_67 : decode (M_Nu_canBeBeaten).cc 67 = .ok (.iload 5, 2) := by decide +kernel
theorem d_Nu_canBeBeaten_69 : decode (M_Nu_canBeBeaten).cc 69 = .ok (.invokevirtual 51, 3) := by decide +kernel
theorem d_Nu_canBeBeaten_72 : decode (M_Nu_canBeBeaten).cc 72 = .ok (.istore 6, 2) := by decide +kernel
theorem d_Nu_canBeBeaten_74 : decode (M_Nu_canBeBeaten).cc 74 = .ok (.iload 6, 2) := by decide +kernel
theorem d_Nu_canBeBeaten_76 : decode (M_Nu_canBeBeaten).cc 76 = .ok (.iload 4, 2) := by decide +kernel
theorem d_Nu_canBeBeaten_78 : decode (M_Nu_canBeBeaten).cc 78 = .ok (.if_icmp .gt 22, 3) := by decide +kernel
theorem d_Nu_canBeBeaten_81 : decode (M_Nu_canBeBeaten).cc 81 = .ok (.iload 6, 2) := by decide +kernel
theorem d_Nu_canBeBeaten_83 : decode (M_Nu_canBeBeaten).cc 83 = .ok (.iload 4, 2) := by decide +kernel
theorem d_Nu_canBeBeaten_85 : decode (M_Nu_canBeBeaten).cc 85 = .ok (.if_icmp .ne 17, 3) := by decide +kernel
theorem d_Nu_canBeBeaten_88 : decode (M_Nu_canBeBeaten).cc 88 = .ok (.aload_n 0, 1) := by decide +kernel
theorem d_Nu_canBeBeaten_89 : decode (M_Nu_canBeBeaten).cc 89 = .ok (.aload_n 1, 1) := by decide +kernel
theorem d_Nu_canBeBeaten_90 : decode (M_Nu_canBeBeaten).cc 90 = .ok (.iload_n 2, 1) := by decide +kernel
theorem d_Nu_canBeBeaten_91 : decode (M_Nu_canBeBeaten).cc 91 = .ok (.iload 5, 2) := by decide +kernel
theorem d_Nu_canBeBeaten_93 : decode (M_Nu_canBeBeaten).cc 93 = .ok (.iload_n 3, 1) := by decide +kernel
theorem d_Nu_canBeBeaten_94 : decode (M_Nu_canBeBeaten).cc 94 = .ok (.invokevirtual 55, 3) := by decide +kernel
theorem d_Nu_canBeBeaten_97 : decode (M_Nu_canBeBeaten).cc 97 = .ok (.ifCond .eq 5, 3) := by decide +kernel
theorem d_Nu_canBeBeaten_100 : decode (M_Nu_canBeBeaten).cc 100 = .ok (.iconst 1, 1) := by decide +kernel
theorem d_Nu_canBeBeaten_101 : decode (M_Nu_canBeBeaten).cc 101 = .ok (.ireturn, 1) := by decide +kernel
theorem d_Nu_canBeBeaten_102 : decode (M_Nu_canBeBeaten).cc 102 = .ok (.iinc 5 1, 3) := by decide +kernel
theorem d_Nu_canBeBeaten_105 : decode (M_Nu_canBeBeaten).cc 105 = .ok (.goto (-76), 3) := by decide +kernel
theorem d_Nu_canBeBeaten_108 : decode (M_Nu_canBeBeaten).cc 108 = .ok (.iconst 0, 1) := by decide +kernel
theorem d_Nu_canBeBeaten_109 : decode (M_Nu_canBeBeaten).cc 109 = .ok (.ireturn, 1) := by decide +kernel
theorem d_IL_rowShift_0 : decode (M_IL_rowShift).cc 0 = .ok (.bipush 30, 2) := by decide +kernel
theorem d_IL_rowShift_2 : decode (M_IL_rowShift).cc 2 = .ok (.iload_n 0, 1) := by decide +kernel
theorem d_IL_rowShift_3 : decode (M_IL_rowShift).cc 3 = .ok (.iload_n 0, 1) := by decide +kernel
theorem d_IL_rowShift_4 : decode (M_IL_rowShift).cc 4 = .ok (.iconst 1, 1) := by decide +kernel
theorem d_IL_rowShift_5 : decode (M_IL_rowShift).cc 5 = .ok (.iadd, 1) := by decide +kernel
theorem d_IL_rowShift_6 : decode (M_IL_rowShift).cc 6 = .ok (.imul, 1) := by decide +kernel
theorem d_IL_rowShift_7 : decode (M_IL_rowShift).cc 7 = .ok (.isub, 1) := by decide +kernel
theorem d_IL_rowShift_8 : decode (M_IL_rowShift).cc 8 = .ok (.ireturn, 1) := by decide +kernel
theorem d_Nu_row_0 : decode (M_Nu_row).cc 0 = .ok (.iconst 0, 1) := by decide +kernel
theorem d_Nu_row_1 : decode (M_Nu_row).cc 1 = .ok (.istore 4, 2) := by decide +kernel
theorem d_Nu_row_3 : decode (M_Nu_row).cc 3 = .ok (.iconst 0, 1) := by decide +kernel
theorem d_Nu_row_4 : decode (M_Nu_row).cc 4 = .ok (.istore 5, 2) := by decide +kernel
theorem d_Nu_row_6 : decode (M_Nu_row).cc 6 = .ok (.iload 5, 2) := by decide +kernel
theorem d_Nu_row_8 : decode (M_Nu_row).cc 8 = .ok (.iload_n 2, 1) := by decide +kernel
theorem d_Nu_row_9 : decode (M_Nu_row).cc 9 = .ok (.if_icmp .ge 33, 3) := by decide +kernel
theorem d_Nu_row_12 : decode (M_Nu_row).cc 12 = .ok (.iload 4, 2) := by decide +kernel
theorem d_Nu_row_14 : decode (M_Nu_row).cc 14 = .ok (.iconst 2, 1) := by decide +kernel
theorem d_Nu_row_15 : decode (M_Nu_row).cc 15 = .ok (.ishl, 1) := by decide +kernel
theorem d_Nu_row_16 : decode (M_Nu_row).cc 16 = .ok (.aload_n 1, 1) := by decide +kernel
theorem d_Nu_row_17 : decode (M_Nu_row).cc 17 = .ok (.getfield 59, 3) := by decide +kernel
theorem d_Nu_row_20 : decode (M_Nu_row).cc 20 = .ok (.iload_n 3, 1) := by decide +kernel
theorem d_Nu_row_21 : decode (M_Nu_row).cc 21 = .ok (.bipush 6, 2) := by decide +kernel
theorem d_Nu_row_23 : decode (M_Nu_row).cc 23 = .ok (.imul, 1) := by decide +kernel
theorem d_Nu_row_24 : decode (M_Nu_row).cc 24 = .ok (.aload_n 0, 1) := by decide +kernel
theorem d_Nu_row_25 : decode (M_Nu_row).cc 25 = .ok (.getfield 9, 3) := by decide +kernel
theorem d_Nu_row_28 : decode (M_Nu_row).cc 28 = .ok (.iload 5, 2) := by decide +kernel
theorem d_Nu_row_30 : decode (M_Nu_row).cc 30 = .ok (.iaload, 1) := by decide +kernel
theorem d_Nu_row_31 : decode (M_Nu_row).cc 31 = .ok (.iadd, 1) := by decide +kernel
theorem d_Nu_row_32 : decode (M_Nu_row).cc 32 = .ok (.iaload, 1) := by decide +kernel
theorem d_Nu_row_33 : decode (M_Nu_row).cc 33 = .ok (.ior, 1) := by decide +kernel
theorem d_Nu_row_34 : decode (M_Nu_row).cc 34 = .ok (.istore 4, 2) := by decide +kernel
theorem d_Nu_row_36 : decode (M_Nu_row).cc 36 = .ok (.iinc 5 1, 3) := by decide +kernel
theorem d_Nu_row_39 : decode (M_Nu_row).cc 39 = .ok (.goto (-33), 3) := by decide +kernel
theorem d_Nu_row_42 : decode (M_Nu_row).cc 42 = .ok (.iload 4, 2) := by decide +kernel
theorem d_Nu_row_44 : decode (M_Nu_row).cc 44 = .ok (.ireturn, 1) := by decide +kernel
theorem d_Nu_canBeBeatenWith_0 : decode (M_Nu_canBeBeatenWith).cc 0 = .ok (.aload_n 0, 1) := by decide +kernel
theorem d_Nu_canBeBeatenWith_1 : decode (M_Nu_canBeBeatenWith).cc 1 = .ok (.getfield 9, 3) := by decide +kernel
theorem d_Nu_canBeBeatenWith_4 : decode (M_Nu_canBeBeatenWith).cc 4 = .ok (.iload_n 2, 1) := by decide +kernel
theorem d_Nu_canBeBeatenWith_5 : decode (M_Nu_canBeBeatenWith).cc 5 = .ok (.iload_n 3, 1) := by decide +kernel
theorem d_Nu_canBeBeatenWith_6 : decode (M_Nu_canBeBeatenWith).cc 6 = .ok (.iastore, 1) := by decide +kernel
theorem d_Nu_canBeBeatenWith_7 : decode (M_Nu_canBeBeatenWith).cc 7 = .ok (.aload_n 0, 1) := by decide +kernel
theorem d_Nu_canBeBeatenWith_8 : decode (M_Nu_canBeBeatenWith).cc 8 = .ok (.getfield 15, 3) := by decide +kernel
theorem d_Nu_canBeBeatenWith_11 : decode (M_Nu_canBeBeatenWith).cc 11 = .ok (.iload_n 3, 1) := by decide +kernel
theorem d_Nu_canBeBeatenWith_12 : decode (M_Nu_canBeBeatenWith).cc 12 = .ok (.iconst 1, 1) := by decide +kernel
theorem d_Nu_canBeBeatenWith_13 : decode (M_Nu_canBeBeatenWith).cc 13 = .ok (.bastore, 1) := by decide +kernel
theorem d_Nu_canBeBeatenWith_14 : decode (M_Nu_canBeBeatenWith).cc 14 = .ok (.aload_n 0, 1) := by decide +kernel
theorem d_Nu_canBeBeatenWith_15 : decode (M_Nu_canBeBeatenWith).cc 15 = .ok (.aload_n 1, 1) := by decide +kernel
theorem d_Nu_canBeBeatenWith_16 : decode (M_Nu_canBeBeatenWith).cc 16 = .ok (.iload_n 2, 1) := by decide +kernel
theorem d_Nu_canBeBeatenWith_17 : decode (M_Nu_canBeBeatenWith).cc 17 = .ok (.iconst 1, 1) := by decide +kernel
theorem d_Nu_canBeBeatenWith_18 : decode (M_Nu_canBeBeatenWith).cc 18 = .ok (.iadd, 1) := by decide +kernel
theorem d_Nu_canBeBeatenWith_19 : decode (M_Nu_canBeBeatenWith).cc 19 = .ok (.iload 4, 2) := by decide +kernel
theorem d_Nu_canBeBeatenWith_21 : decode (M_Nu_canBeBeatenWith).cc 21 = .ok (.invokevirtual 36, 3) := by decide +kernel
theorem d_Nu_canBeBeatenWith_24 : decode (M_Nu_canBeBeatenWith).cc 24 = .ok (.istore 5, 2) := by decide +kernel
theorem d_Nu_canBeBeatenWith_26 : decode (M_Nu_canBeBeatenWith).cc 26 = .ok (.aload_n 0, 1) := by decide +kernel
theorem d_Nu_canBeBeatenWith_27 : decode (M_Nu_canBeBeatenWith).cc 27 = .ok (.getfield 15, 3) := by decide +kernel
theorem d_Nu_canBeBeatenWith_30 : decode (M_Nu_canBeBeatenWith).cc 30 = .ok (.iload_n 3, 1) := by decide +kernel
theorem d_Nu_canBeBeatenWith_31 : decode (M_Nu_canBeBeatenWith).cc 31 = .ok (.iconst 0, 1) := by decide +kernel
theorem d_Nu_canBeBeatenWith_32 : decode (M_Nu_canBeBeatenWith).cc 32 = .ok (.bastore, 1) := by decide +kernel
theorem d_Nu_canBeBeatenWith_33 : decode (M_Nu_canBeBeatenWith).cc 33 = .ok (.iload 5, 2) := by decide +kernel
theorem d_Nu_canBeBeatenWith_35 : decode (M_Nu_canBeBeatenWith).cc 35 = .ok (.ireturn, 1) := by decide +kernel
theorem d_Ls_bindOn_0 : decode (M_Ls_bindOn).cc 0 = .ok (.iload_n 2, 1) := by decide +kernel
theorem d_Ls_bindOn_1 : decode (M_Ls_bindOn).cc 1 = .ok (.iload_n 1, 1) := by decide +kernel
theorem d_Ls_bindOn_2 : decode (M_Ls_bindOn).cc 2 = .ok (.if_icmp .lt 12, 3) := by decide +kernel
theorem d_Ls_bindOn_5 : decode (M_Ls_bindOn).cc 5 = .ok (.aload_n 0, 1) := by decide +kernel
theorem d_Ls_bindOn_6 : decode (M_Ls_bindOn).cc 6 = .ok (.iload_n 1, 1) := by decide +kernel
theorem d_Ls_bindOn_7 : decode (M_Ls_bindOn).cc 7 = .ok (.iload_n 3, 1) := by decide +kernel
theorem d_Ls_bindOn_8 : decode (M_Ls_bindOn).cc 8 = .ok (.iload 4, 2) := by decide +kernel
theorem d_Ls_bindOn_10 : decode (M_Ls_bindOn).cc 10 = .ok (.invokevirtual 50, 3) := by decide +kernel
theorem d_Ls_bindOn_13 : decode (M_Ls_bindOn).cc 13 = .ok (.return_, 1) := by decide +kernel
theorem d_Ls_bindOn_14 : decode (M_Ls_bindOn).cc 14 = .ok (.iload_n 1, 1) := by decide +kernel
theorem d_Ls_bindOn_15 : decode (M_Ls_bindOn).cc 15 = .ok (.invokestatic 60, 3) := by decide +kernel
theorem d_Ls_bindOn_18 : decode (M_Ls_bindOn).cc 18 = .ok (.iconst 2, 1) := by decide +kernel
theorem d_Ls_bindOn_19 : decode (M_Ls_bindOn).cc 19 = .ok (.iload_n 1, 1) := by decide +kernel
theorem d_Ls_bindOn_20 : decode (M_Ls_bindOn).cc 20 = .ok (.iconst 1, 1) := by decide +kernel
theorem d_Ls_bindOn_21 : decode (M_Ls_bindOn).cc 21 = .ok (.isub, 1) := by decide +kernel
theorem d_Ls_bindOn_22 : decode (M_Ls_bindOn).cc 22 = .ok (.iload_n 2, 1) := by decide +kernel
theorem d_Ls_bindOn_23 : decode (M_Ls_bindOn).cc 23 = .ok (.isub, 1) := by decide +kernel
theorem d_Ls_bindOn_24 : decode (M_Ls_bindOn).cc 24 = .ok (.imul, 1) := by decide +kernel
theorem d_Ls_bindOn_25 : decode (M_Ls_bindOn).cc 25 = .ok (.iadd, 1) := by decide +kernel
theorem d_Ls_bindOn_26 : decode (M_Ls_bindOn).cc 26 = .ok (.istore 5, 2) := by decide +kernel
theorem d_Ls_bindOn_28 : decode (M_Ls_bindOn).cc 28 = .ok (.iconst 3, 1) := by decide +kernel
theorem d_Ls_bindOn_29 : decode (M_Ls_bindOn).cc 29 = .ok (.iload_n 3, 1) := by decide +kernel
theorem d_Ls_bindOn_30 : decode (M_Ls_bindOn).cc 30 = .ok (.invokestatic 64, 3) := by decide +kernel
theorem d_Ls_bindOn_33 : decode (M_Ls_bindOn).cc 33 = .ok (.aload_n 0, 1) := by decide +kernel
theorem d_Ls_bindOn_34 : decode (M_Ls_bindOn).cc 34 = .ok (.getfield 28, 3) := by decide +kernel
theorem d_Ls_bindOn_37 : decode (M_Ls_bindOn).cc 37 = .ok (.getfield 57, 3) := by decide +kernel
theorem d_Ls_bindOn_40 : decode (M_Ls_bindOn).cc 40 = .ok (.iload_n 1, 1) := by decide +kernel
theorem d_Ls_bindOn_41 : decode (M_Ls_bindOn).cc 41 = .ok (.iaload, 1) := by decide +kernel
theorem d_Ls_bindOn_42 : decode (M_Ls_bindOn).cc 42 = .ok (.aload_n 0, 1) := by decide +kernel
theorem d_Ls_bindOn_43 : decode (M_Ls_bindOn).cc 43 = .ok (.getfield 28, 3) := by decide +kernel
theorem d_Ls_bindOn_46 : decode (M_Ls_bindOn).cc 46 = .ok (.getfield 57, 3) := by decide +kernel
theorem d_Ls_bindOn_49 : decode (M_Ls_bindOn).cc 49 = .ok (.iload_n 2, 1) := by decide +kernel
theorem d_Ls_bindOn_50 : decode (M_Ls_bindOn).cc 50 = .ok (.iaload, 1) := by decide +kernel
theorem d_Ls_bindOn_51 : decode (M_Ls_bindOn).cc 51 = .ok (.invokestatic 64, 3) := by decide +kernel
theorem d_Ls_bindOn_54 : decode (M_Ls_bindOn).cc 54 = .ok (.invokestatic 64, 3) := by decide +kernel
theorem d_Ls_bindOn_57 : decode (M_Ls_bindOn).cc 57 = .ok (.istore 6, 2) := by decide +kernel
theorem d_Ls_bindOn_59 : decode (M_Ls_bindOn).cc 59 = .ok (.iload 6, 2) := by decide +kernel
theorem d_Ls_bindOn_61 : decode (M_Ls_bindOn).cc 61 = .ok (.istore 7, 2) := by decide +kernel
theorem d_Ls_bindOn_63 : decode (M_Ls_bindOn).cc 63 = .ok (.iload 7, 2) := by decide +kernel
theorem d_Ls_bindOn_65 : decode (M_Ls_bindOn).cc 65 = .ok (.ifCond .lt 50, 3) := by decide +kernel
theorem d_Ls_bindOn_68 : decode (M_Ls_bindOn).cc 68 = .ok (.aload_n 0, 1) := by decide +kernel
theorem d_Ls_bindOn_69 : decode (M_Ls_bindOn).cc 69 = .ok (.getfield 12, 3) := by decide +kernel
theorem d_Ls_bindOn_72 : decode (M_Ls_bindOn).cc 72 = .ok (.invokevirtual 70, 3) := by decide +kernel
theorem d_Ls_bindOn_75 : decode (M_Ls_bindOn).cc 75 = .ok (.ifCond .ne 40, 3) := by decide +kernel
theorem d_Ls_bindOn_78 : decode (M_Ls_bindOn).cc 78 = .ok (.aload_n 0, 1) := by decide +kernel
theorem d_Ls_bindOn_79 : decode (M_Ls_bindOn).cc 79 = .ok (.getfield 28, 3) := by decide +kernel
theorem d_Ls_bindOn_82 : decode (M_Ls_bindOn).cc 82 = .ok (.iload_n 1, 1) := by decide +kernel
theorem d_Ls_bindOn_83 : decode (M_Ls_bindOn).cc 83 = .ok (.iload_n 2, 1) := by decide +kernel
theorem d_Ls_bindOn_84 : decode (M_Ls_bindOn).cc 84 = .ok (.iload 7, 2) := by decide +kernel
theorem d_Ls_bindOn_86 : decode (M_Ls_bindOn).cc 86 = .ok (.invokevirtual 74, 3) := by decide +kernel
theorem d_Ls_bindOn_89 : decode (M_Ls_bindOn).cc 89 = .ok (.aload_n 0, 1) := by decide +kernel
theorem d_Ls_bindOn_90 : decode (M_Ls_bindOn).cc 90 = .ok (.iload_n 1, 1) := by decide +kernel
theorem d_Ls_bindOn_91 : decode (M_Ls_bindOn).cc 91 = .ok (.iload_n 2, 1) := by decide +kernel
theorem d_Ls_bindOn_92 : decode (M_Ls_bindOn).cc 92 = .ok (.iconst 1, 1) := by decide +kernel
theorem d_Ls_bindOn_93 : decode (M_Ls_bindOn).cc 93 = .ok (.iadd, 1) := by decide +kernel
theorem d_Ls_bindOn_94 : decode (M_Ls_bindOn).cc 94 = .ok (.iload_n 3, 1) := by decide +kernel
theorem d_Ls_bindOn_95 : decode (M_Ls_bindOn).cc 95 = .ok (.iload 7, 2) := by decide +kernel
theorem d_Ls_bindOn_97 : decode (M_Ls_bindOn).cc 97 = .ok (.isub, 1) := by decide +kernel
theorem d_Ls_bindOn_98 : decode (M_Ls_bindOn).cc 98 = .ok (.iload 4, 2) := by decide +kernel
theorem d_Ls_bindOn_100 : decode (M_Ls_bindOn).cc 100 = .ok (.iload 7, 2) := by decide +kernel
theorem d_Ls_bindOn_102 : decode (M_Ls_bindOn).cc 102 = .ok (.iload 5, 2) := by decide +kernel
theorem d_Ls_bindOn_104 : decode (M_Ls_bindOn).cc 104 = .ok (.ishl, 1) := by decide +kernel
theorem d_Ls_bindOn_105 : decode (M_Ls_bindOn).cc 105 = .ok (.ior, 1) := by decide +kernel
theorem d_Ls_bindOn_106 : decode (M_Ls_bindOn).cc 106 = .ok (.invokevirtual 77, 3) := by decide +kernel
theorem d_Ls_bindOn_109 : decode (M_Ls_bindOn).cc 109 = .ok (.iinc 7 (-1), 3) := by decide +kernel
theorem d_Ls_bindOn_112 : decode (M_Ls_bindOn).cc 112 = .ok (.goto (-49), 3) := by decide +kernel
theorem d_Ls_bindOn_115 : decode (M_Ls_bindOn).cc 115 = .ok (.aload_n 0, 1) := by decide +kernel
theorem d_Ls_bindOn_116 : decode (M_Ls_bindOn).cc 116 = .ok (.getfield 28, 3) := by decide +kernel
theorem d_Ls_bindOn_119 : decode (M_Ls_bindOn).cc 119 = .ok (.iload_n 1, 1) := by decide +kernel
theorem d_Ls_bindOn_120 : decode (M_Ls_bindOn).cc 120 = .ok (.iload_n 2, 1) := by decide +kernel
theorem d_Ls_bindOn_121 : decode (M_Ls_bindOn).cc 121 = .ok (.iconst 0, 1) := by decide +kernel
theorem d_Ls_bindOn_122 : decode (M_Ls_bindOn).cc 122 = .ok (.invokevirtual 74, 3) := by decide +kernel
theorem d_Ls_bindOn_125 : decode (M_Ls_bindOn).cc 125 = .ok (.return_, 1) := by decide +kernel
theorem d_IL_read_0 : decode (M_IL_read).cc 0 = .ok (.aload_n 0, 1) := by decide +kernel
theorem d_IL_read_1 : decode (M_IL_read).cc 1 = .ok (.getfield 26, 3) := by decide +kernel
theorem d_IL_read_4 : decode (M_IL_read).cc 4 = .ok (.aload_n 0, 1) := by decide +kernel
theorem d_IL_read_5 : decode (M_IL_read).cc 5 = .ok (.getfield 10, 3) := by decide +kernel
theorem d_IL_read_8 : decode (M_IL_read).cc 8 = .ok (.invokevirtual 100, 3) := by decide +kernel
theorem d_IL_read_11 : decode (M_IL_read).cc 11 = .ok (.istore_n 1, 1) := by decide +kernel
theorem d_IL_read_12 : decode (M_IL_read).cc 12 = .ok (.aload_n 0, 1) := by decide +kernel
theorem d_IL_read_13 : decode (M_IL_read).cc 13 = .ok (.iload_n 1, 1) := by decide +kernel
theorem d_IL_read_14 : decode (M_IL_read).cc 14 = .ok (.iconst (-1), 1) := by decide +kernel
theorem d_IL_read_15 : decode (M_IL_read).cc 15 = .ok (.if_icmp .ne 7, 3) := by decide +kernel
theorem d_IL_read_18 : decode (M_IL_read).cc 18 = .ok (.iconst (-1), 1) := by decide +kernel
theorem d_IL_read_19 : decode (M_IL_read).cc 19 = .ok (.goto 10, 3) := by decide +kernel
theorem d_IL_read_22 : decode (M_IL_read).cc 22 = .ok (.aload_n 0, 1) := by decide +kernel
theorem d_IL_read_23 : decode (M_IL_read).cc 23 = .ok (.getfield 26, 3) := by decide +kernel
theorem d_IL_read_26 : decode (M_IL_read).cc 26 = .ok (.getfield 101, 3) := by decide +kernel
theorem d_IL_read_29 : decode (M_IL_read).cc 29 = .ok (.putfield 65, 3) := by decide +kernel
theorem d_IL_read_32 : decode (M_IL_read).cc 32 = .ok (.iload_n 1, 1) := by decide +kernel
theorem d_IL_read_33 : decode (M_IL_read).cc 33 = .ok (.iconst (-1), 1) := by decide +kernel
theorem d_IL_read_34 : decode (M_IL_read).cc 34 = .ok (.if_icmp .ne 17, 3) := by decide +kernel
theorem d_IL_read_37 : decode (M_IL_read).cc 37 = .ok (.aload_n 0, 1) := by decide +kernel
theorem d_IL_read_38 : decode (M_IL_read).cc 38 = .ok (.aload_n 0, 1) := by decide +kernel
theorem d_IL_read_39 : decode (M_IL_read).cc 39 = .ok (.getfield 26, 3) := by decide +kernel
theorem d_IL_read_42 : decode (M_IL_read).cc 42 = .ok (.getfield 102, 3) := by decide +kernel
theorem d_IL_read_45 : decode (M_IL_read).cc 45 = .ok (.invokevirtual 105, 3) := by decide +kernel
theorem d_IL_read_48 : decode (M_IL_read).cc 48 = .ok (.goto 4, 3) := by decide +kernel
theorem d_IL_read_51 : decode (M_IL_read).cc 51 = .ok (.iload_n 1, 1) := by decide +kernel
theorem d_IL_read_52 : decode (M_IL_read).cc 52 = .ok (.ireturn, 1) := by decide +kernel
theorem d_Tr_readFrom_0 : decode (M_Tr_readFrom).cc 0 = .ok (.aload_n 0, 1) := by decide +kernel
theorem d_Tr_readFrom_1 : decode (M_Tr_readFrom).cc 1 = .ok (.getfield 12, 3) := by decide +kernel
theorem d_Tr_readFrom_4 : decode (M_Tr_readFrom).cc 4 = .ok (.invokevirtual 28, 3) := by decide +kernel
theorem d_Tr_readFrom_7 : decode (M_Tr_readFrom).cc 7 = .ok (.aload_n 0, 1) := by decide +kernel
theorem d_Tr_readFrom_8 : decode (M_Tr_readFrom).cc 8 = .ok (.getfield 18, 3) := by decide +kernel
theorem d_Tr_readFrom_11 : decode (M_Tr_readFrom).cc 11 = .ok (.iconst (-1), 1) := by decide +kernel
theorem d_Tr_readFrom_12 : decode (M_Tr_readFrom).cc 12 = .ok (.invokestatic 31, 3) := by decide +kernel
theorem d_Tr_readFrom_15 : decode (M_Tr_readFrom).cc 15 = .ok (.aload_n 0, 1) := by decide +kernel
theorem d_Tr_readFrom_16 : decode (M_Tr_readFrom).cc 16 = .ok (.iconst 0, 1) := by decide +kernel
theorem d_Tr_readFrom_17 : decode (M_Tr_readFrom).cc 17 = .ok (.putfield 37, 3) := by decide +kernel
theorem d_Tr_readFrom_20 : decode (M_Tr_readFrom).cc 20 = .ok (.aload_n 0, 1) := by decide +kernel
theorem d_Tr_readFrom_21 : decode (M_Tr_readFrom).cc 21 = .ok (.iconst (-1), 1) := by decide +kernel
theorem d_Tr_readFrom_22 : decode (M_Tr_readFrom).cc 22 = .ok (.putfield 41, 3) := by decide +kernel
theorem d_Tr_readFrom_25 : decode (M_Tr_readFrom).cc 25 = .ok (.aload_n 0, 1) := by decide +kernel
theorem d_Tr_readFrom_26 : decode (M_Tr_readFrom).cc 26 = .ok (.iconst 0, 1) := by decide +kernel
theorem d_Tr_readFrom_27 : decode (M_Tr_readFrom).cc 27 = .ok (.putfield 44, 3) := by decide +kernel
theorem d_Tr_readFrom_30 : decode (M_Tr_readFrom).cc 30 = .ok (.aload_n 0, 1) := by decide +kernel
theorem d_Tr_readFrom_31 : decode (M_Tr_readFrom).cc 31 = .ok (.aload_n 1, 1) := by decide +kernel
theorem d_Tr_readFrom_32 : decode (M_Tr_readFrom).cc 32 = .ok (.iconst 0, 1) := by decide +kernel
theorem d_Tr_readFrom_33 : decode (M_Tr_readFrom).cc 33 = .ok (.invokevirtual 47, 3) := by decide +kernel
theorem d_Tr_readFrom_36 : decode (M_Tr_readFrom).cc 36 = .ok (.istore_n 2, 1) := by decide +kernel
theorem d_Tr_readFrom_37 : decode (M_Tr_readFrom).cc 37 = .ok (.iconst 0, 1) := by decide +kernel
theorem d_Tr_readFrom_38 : decode (M_Tr_readFrom).cc 38 = .ok (.istore_n 3, 1) := by decide +kernel
theorem d_Tr_readFrom_39 : decode (M_Tr_readFrom).cc 39 = .ok (.iload_n 3, 1) := by decide +kernel
theorem d_Tr_readFrom_40 : decode (M_Tr_readFrom).cc 40 = .ok (.bipush 60, 2) := by decide +kernel
theorem d_Tr_readFrom_42 : decode (M_Tr_readFrom).cc 42 = .ok (.if_icmp .ge 31, 3) := by decide +kernel
theorem d_Tr_readFrom_45 : decode (M_Tr_readFrom).cc 45 = .ok (.iload_n 2, 1) := by decide +kernel
theorem d_Tr_readFrom_46 : decode (M_Tr_readFrom).cc 46 = .ok (.iconst (-1), 1) := by decide +kernel
theorem d_Tr_readFrom_47 : decode (M_Tr_readFrom).cc 47 = .ok (.if_icmp .ne 26, 3) := by decide +kernel
theorem d_Tr_readFrom_50 : decode (M_Tr_readFrom).cc 50 = .ok (.aload_n 0, 1) := by decide +kernel
theorem d_Tr_readFrom_51 : decode (M_Tr_readFrom).cc 51 = .ok (.getfield 44, 3) := by decide +kernel
theorem d_Tr_readFrom_54 : decode (M_Tr_readFrom).cc 54 = .ok (.aload_n 1, 1) := by decide +kernel
theorem d_Tr_readFrom_55 : decode (M_Tr_readFrom).cc 55 = .ok (.getfield 51, 3) := by decide +kernel
theorem d_Tr_readFrom_58 : decode (M_Tr_readFrom).cc 58 = .ok (.if_icmp .ge 15, 3) := by decide +kernel
theorem d_Tr_readFrom_61 : decode (M_Tr_readFrom).cc 61 = .ok (.aload_n 0, 1) := by decide +kernel
theorem d_Tr_readFrom_62 : decode (M_Tr_readFrom).cc 62 = .ok (.aload_n 1, 1) := by decide +kernel
theorem d_Tr_readFrom_63 : decode (M_Tr_readFrom).cc 63 = .ok (.invokevirtual 56, 3) := by decide +kernel
theorem d_Tr_readFrom_66 : decode (M_Tr_readFrom).cc 66 = .ok (.istore_n 2, 1) := by decide +kernel
theorem d_Tr_readFrom_67 : decode (M_Tr_readFrom).cc 67 = .ok (.iinc 3 1, 3) := by decide +kernel
theorem d_Tr_readFrom_70 : decode (M_Tr_readFrom).cc 70 = .ok (.goto (-31), 3) := by decide +kernel
theorem d_Tr_readFrom_73 : decode (M_Tr_readFrom).cc 73 = .ok (.iload_n 2, 1) := by decide +kernel
theorem d_Tr_readFrom_74 : decode (M_Tr_readFrom).cc 74 = .ok (.iconst (-1), 1) := by decide +kernel
theorem d_Tr_readFrom_75 : decode (M_Tr_readFrom).cc 75 = .ok (.if_icmp .ne 10, 3) := by decide +kernel
theorem d_Tr_readFrom_78 : decode (M_Tr_readFrom).cc 78 = .ok (.aload_n 0, 1) := by decide +kernel
theorem d_Tr_readFrom_79 : decode (M_Tr_readFrom).cc 79 = .ok (.invokevirtual 60, 3) := by decide +kernel
theorem d_Tr_readFrom_82 : decode (M_Tr_readFrom).cc 82 = .ok (.goto 4, 3) := by decide +kernel
theorem d_Tr_readFrom_85 : decode (M_Tr_readFrom).cc 85 = .ok (.iload_n 2, 1) := by decide +kernel
theorem d_Tr_readFrom_86 : decode (M_Tr_readFrom).cc 86 = .ok (.ireturn, 1) := by decide +kernel
theorem d_Tr_readAtom_0 : decode (M_Tr_readAtom).cc 0 = .ok (.aload_n 1, 1) := by decide +kernel
theorem d_Tr_readAtom_1 : decode (M_Tr_readAtom).cc 1 = .ok (.aload_n 0, 1) := by decide +kernel
theorem d_Tr_readAtom_2 : decode (M_Tr_readAtom).cc 2 = .ok (.getfield 44, 3) := by decide +kernel
theorem d_Tr_readAtom_5 : decode (M_Tr_readAtom).cc 5 = .ok (.invokevirtual 88, 3) := by decide +kernel
theorem d_Tr_readAtom_8 : decode (M_Tr_readAtom).cc 8 = .ok (.istore_n 3, 1) := by decide +kernel
theorem d_Tr_readAtom_9 : decode (M_Tr_readAtom).cc 9 = .ok (.iload_n 3, 1) := by decide +kernel
theorem d_Tr_readAtom_10 : decode (M_Tr_readAtom).cc 10 = .ok (.iconst (-1), 1) := by decide +kernel
theorem d_Tr_readAtom_11 : decode (M_Tr_readAtom).cc 11 = .ok (.if_icmp .eq 9, 3) := by decide +kernel
theorem d_Tr_readAtom_14 : decode (M_Tr_readAtom).cc 14 = .ok (.iload_n 3, 1) := by decide +kernel
theorem d_Tr_readAtom_15 : decode (M_Tr_readAtom).cc 15 = .ok (.bipush 9, 2) := by decide +kernel
theorem d_Tr_readAtom_17 : decode (M_Tr_readAtom).cc 17 = .ok (.if_icmp .ne 6, 3) := by decide +kernel
theorem d_Tr_readAtom_20 : decode (M_Tr_readAtom).cc 20 = .ok (.bipush (-2), 2) := by decide +kernel
theorem d_Tr_readAtom_22 : decode (M_Tr_readAtom).cc 22 = .ok (.ireturn, 1) := by decide +kernel
theorem d_Tr_readAtom_23 : decode (M_Tr_readAtom).cc 23 = .ok (.aload_n 0, 1) := by decide +kernel
theorem d_Tr_readAtom_24 : decode (M_Tr_readAtom).cc 24 = .ok (.getfield 12, 3) := by decide +kernel
theorem d_Tr_readAtom_27 : decode (M_Tr_readAtom).cc 27 = .ok (.getfield 92, 3) := by decide +kernel
theorem d_Tr_readAtom_30 : decode (M_Tr_readAtom).cc 30 = .ok (.istore 4, 2) := by decide +kernel
theorem d_Tr_readAtom_32 : decode (M_Tr_readAtom).cc 32 = .ok (.iload 4, 2) := by decide +kernel
theorem d_Tr_readAtom_34 : decode (M_Tr_readAtom).cc 34 = .ok (.bipush 6, 2) := by decide +kernel
theorem d_Tr_readAtom_36 : decode (M_Tr_readAtom).cc 36 = .ok (.if_icmp .lt 6, 3) := by decide +kernel
theorem d_Tr_readAtom_39 : decode (M_Tr_readAtom).cc 39 = .ok (.bipush (-5), 2) := by decide +kernel
theorem d_Tr_readAtom_41 : decode (M_Tr_readAtom).cc 41 = .ok (.ireturn, 1) := by decide +kernel
theorem d_Tr_readAtom_42 : decode (M_Tr_readAtom).cc 42 = .ok (.aload_n 0, 1) := by decide +kernel
theorem d_Tr_readAtom_43 : decode (M_Tr_readAtom).cc 43 = .ok (.getfield 12, 3) := by decide +kernel
theorem d_Tr_readAtom_46 : decode (M_Tr_readAtom).cc 46 = .ok (.iload_n 3, 1) := by decide +kernel
theorem d_Tr_readAtom_47 : decode (M_Tr_readAtom).cc 47 = .ok (.invokevirtual 95, 3) := by decide +kernel
theorem d_Tr_readAtom_50 : decode (M_Tr_readAtom).cc 50 = .ok (.aload_n 0, 1) := by decide +kernel
theorem d_Tr_readAtom_51 : decode (M_Tr_readAtom).cc 51 = .ok (.getfield 41, 3) := by decide +kernel
theorem d_Tr_readAtom_54 : decode (M_Tr_readAtom).cc 54 = .ok (.iconst (-1), 1) := by decide +kernel
theorem d_Tr_readAtom_55 : decode (M_Tr_readAtom).cc 55 = .ok (.if_icmp .eq 21, 3) := by decide +kernel
theorem d_Tr_readAtom_58 : decode (M_Tr_readAtom).cc 58 = .ok (.aload_n 0, 1) := by decide +kernel
theorem d_Tr_readAtom_59 : decode (M_Tr_readAtom).cc 59 = .ok (.getfield 12, 3) := by decide +kernel
theorem d_Tr_readAtom_62 : decode (M_Tr_readAtom).cc 62 = .ok (.aload_n 0, 1) := by decide +kernel
theorem d_Tr_readAtom_63 : decode (M_Tr_readAtom).cc 63 = .ok (.getfield 41, 3) := by decide +kernel
theorem d_Tr_readAtom_66 : decode (M_Tr_readAtom).cc 66 = .ok (.iload 4, 2) := by decide +kernel
theorem d_Tr_readAtom_68 : decode (M_Tr_readAtom).cc 68 = .ok (.iload_n 2, 1) := by decide +kernel
theorem d_Tr_readAtom_69 : decode (M_Tr_readAtom).cc 69 = .ok (.iconst 1, 1) := by decide +kernel
theorem d_Tr_readAtom_70 : decode (M_Tr_readAtom).cc 70 = .ok (.invokestatic 99, 3) := by decide +kernel
theorem d_Tr_readAtom_73 : decode (M_Tr_readAtom).cc 73 = .ok (.invokevirtual 104, 3) := by decide +kernel
theorem d_Tr_readAtom_76 : decode (M_Tr_readAtom).cc 76 = .ok (.aload_n 0, 1) := by decide +kernel
theorem d_Tr_readAtom_77 : decode (M_Tr_readAtom).cc 77 = .ok (.iload 4, 2) := by decide +kernel
theorem d_Tr_readAtom_79 : decode (M_Tr_readAtom).cc 79 = .ok (.putfield 41, 3) := by decide +kernel
theorem d_Tr_readAtom_82 : decode (M_Tr_readAtom).cc 82 = .ok (.aload_n 0, 1) := by decide +kernel
theorem d_Tr_readAtom_83 : decode (M_Tr_readAtom).cc 83 = .ok (.iconst 1, 1) := by decide +kernel
theorem d_Tr_readAtom_84 : decode (M_Tr_readAtom).cc 84 = .ok (.putfield 76, 3) := by decide +kernel
theorem d_Tr_readAtom_87 : decode (M_Tr_readAtom).cc 87 = .ok (.aload_n 0, 1) := by decide +kernel
theorem d_Tr_readAtom_88 : decode (M_Tr_readAtom).cc 88 = .ok (.dup, 1) := by decide +kernel
theorem d_Tr_readAtom_89 : decode (M_Tr_readAtom).cc 89 = .ok (.getfield 44, 3) := by decide +kernel
theorem d_Tr_readAtom_92 : decode (M_Tr_readAtom).cc 92 = .ok (.iload_n 3, 1) := by decide +kernel
theorem d_Tr_readAtom_93 : decode (M_Tr_readAtom).cc 93 = .ok (.invokestatic 108, 3) := by decide +kernel
theorem d_Tr_readAtom_96 : decode (M_Tr_readAtom).cc 96 = .ok (.iadd, 1) := by decide +kernel
theorem d_Tr_readAtom_97 : decode (M_Tr_readAtom).cc 97 = .ok (.putfield 44, 3) := by decide +kernel
theorem d_Tr_readAtom_100 : decode (M_Tr_readAtom).cc 100 = .ok (.iconst (-1), 1) := by decide +kernel
theorem d_Tr_readAtom_101 : decode (M_Tr_readAtom).cc 101 = .ok (.ireturn, 1) := by decide +kernel
theorem d_Tr_readPart_0 : decode (M_Tr_readPart).cc 0 = .ok (.aload_n 1, 1) := by decide +kernel
theorem d_Tr_readPart_1 : decode (M_Tr_readPart).cc 1 = .ok (.aload_n 0, 1) := by decide +kernel
theorem d_Tr_readPart_2 : decode (M_Tr_readPart).cc 2 = .ok (.getfield 44, 3) := by decide +kernel
theorem d_Tr_readPart_5 : decode (M_Tr_readPart).cc 5 = .ok (.invokevirtual 64, 3) := by decide +kernel
theorem d_Tr_readPart_8 : decode (M_Tr_readPart).cc 8 = .ok (.istore_n 2, 1) := by decide +kernel
theorem d_Tr_readPart_9 : decode (M_Tr_readPart).cc 9 = .ok (.iload_n 2, 1) := by decide +kernel
theorem d_Tr_readPart_10 : decode (M_Tr_readPart).cc 10 = .ok (.bipush 41, 2) := by decide +kernel
theorem d_Tr_readPart_12 : decode (M_Tr_readPart).cc 12 = .ok (.if_icmp .ne 8, 3) := by decide +kernel
theorem d_Tr_readPart_15 : decode (M_Tr_readPart).cc 15 = .ok (.aload_n 0, 1) := by decide +kernel
theorem d_Tr_readPart_16 : decode (M_Tr_readPart).cc 16 = .ok (.invokevirtual 67, 3) := by decide +kernel
theorem d_Tr_readPart_19 : decode (M_Tr_readPart).cc 19 = .ok (.ireturn, 1) := by decide +kernel
theorem d_Tr_readPart_20 : decode (M_Tr_readPart).cc 20 = .ok (.iload_n 2, 1) := by decide +kernel
theorem d_Tr_readPart_21 : decode (M_Tr_readPart).cc 21 = .ok (.bipush 40, 2) := by decide +kernel
theorem d_Tr_readPart_23 : decode (M_Tr_readPart).cc 23 = .ok (.if_icmp .ne 9, 3) := by decide +kernel
theorem d_Tr_readPart_26 : decode (M_Tr_readPart).cc 26 = .ok (.aload_n 0, 1) := by decide +kernel
theorem d_Tr_readPart_27 : decode (M_Tr_readPart).cc 27 = .ok (.aload_n 1, 1) := by decide +kernel
theorem d_Tr_readPart_28 : decode (M_Tr_readPart).cc 28 = .ok (.invokevirtual 70, 3) := by decide +kernel
theorem d_Tr_readPart_31 : decode (M_Tr_readPart).cc 31 = .ok (.ireturn, 1) := by decide +kernel
theorem d_Tr_readPart_32 : decode (M_Tr_readPart).cc 32 = .ok (.aload_n 0, 1) := by decide +kernel
theorem d_Tr_readPart_33 : decode (M_Tr_readPart).cc 33 = .ok (.aload_n 1, 1) := by decide +kernel
theorem d_Tr_readPart_34 : decode (M_Tr_readPart).cc 34 = .ok (.invokevirtual 73, 3) := by decide +kernel
theorem d_Tr_readPart_37 : decode (M_Tr_readPart).cc 37 = .ok (.istore_n 3, 1) := by decide +kernel
theorem d_Tr_readPart_38 : decode (M_Tr_readPart).cc 38 = .ok (.aload_n 1, 1) := by decide +kernel
theorem d_Tr_readPart_39 : decode (M_Tr_readPart).cc 39 = .ok (.aload_n 0, 1) := by decide +kernel
theorem d_Tr_readPart_40 : decode (M_Tr_readPart).cc 40 = .ok (.getfield 44, 3) := by decide +kernel
theorem d_Tr_readPart_43 : decode (M_Tr_readPart).cc 43 = .ok (.invokevirtual 64, 3) := by decide +kernel
theorem d_Tr_readPart_46 : decode (M_Tr_readPart).cc 46 = .ok (.istore 4, 2) := by decide +kernel
theorem d_Tr_readPart_48 : decode (M_Tr_readPart).cc 48 = .ok (.aload_n 0, 1) := by decide +kernel
theorem d_Tr_readPart_49 : decode (M_Tr_readPart).cc 49 = .ok (.getfield 76, 3) := by decide +kernel
theorem d_Tr_readPart_52 : decode (M_Tr_readPart).cc 52 = .ok (.ifCond .eq 29, 3) := by decide +kernel
theorem d_Tr_readPart_55 : decode (M_Tr_readPart).cc 55 = .ok (.iload 4, 2) := by decide +kernel
theorem d_Tr_readPart_57 : decode (M_Tr_readPart).cc 57 = .ok (.invokestatic 80, 3) := by decide +kernel
theorem d_Tr_readPart_60 : decode (M_Tr_readPart).cc 60 = .ok (.ifCond .eq 21, 3) := by decide +kernel
theorem d_Tr_readPart_63 : decode (M_Tr_readPart).cc 63 = .ok (.iload 4, 2) := by decide +kernel
theorem d_Tr_readPart_65 : decode (M_Tr_readPart).cc 65 = .ok (.bipush 48, 2) := by decide +kernel
theorem d_Tr_readPart_67 : decode (M_Tr_readPart).cc 67 = .ok (.if_icmp .eq 14, 3) := by decide +kernel
theorem d_Tr_readPart_70 : decode (M_Tr_readPart).cc 70 = .ok (.aload_n 0, 1) := by decide +kernel
theorem d_Tr_readPart_71 : decode (M_Tr_readPart).cc 71 = .ok (.iload 4, 2) := by decide +kernel
theorem d_Tr_readPart_73 : decode (M_Tr_readPart).cc 73 = .ok (.bipush 48, 2) := by decide +kernel
theorem d_Tr_readPart_75 : decode (M_Tr_readPart).cc 75 = .ok (.isub, 1) := by decide +kernel
theorem d_Tr_readPart_76 : decode (M_Tr_readPart).cc 76 = .ok (.iload_n 3, 1) := by decide +kernel
theorem d_Tr_readPart_77 : decode (M_Tr_readPart).cc 77 = .ok (.invokevirtual 84, 3) := by decide +kernel
theorem d_Tr_readPart_80 : decode (M_Tr_readPart).cc 80 = .ok (.ireturn, 1) := by decide +kernel
theorem d_Tr_readPart_81 : decode (M_Tr_readPart).cc 81 = .ok (.aload_n 0, 1) := by decide +kernel
theorem d_Tr_readPart_82 : decode (M_Tr_readPart).cc 82 = .ok (.aload_n 1, 1) := by decide +kernel
theorem d_Tr_readPart_83 : decode (M_Tr_readPart).cc 83 = .ok (.iload_n 3, 1) := by decide +kernel
theorem d_Tr_readPart_84 : decode (M_Tr_readPart).cc 84 = .ok (.invokevirtual 47, 3) := by decide +kernel
theorem d_Tr_readPart_87 : decode (M_Tr_readPart).cc 87 = .ok (.ireturn, 1) := by decide +kernel
theorem d_Tr_closeBranch_0 : decode (M_Tr_closeBranch).cc 0 = .ok (.aload_n 0, 1) := by decide +kernel
theorem d_Tr_closeBranch_1 : decode (M_Tr_closeBranch).cc 1 = .ok (.getfield 37, 3) := by decide +kernel
theorem d_Tr_closeBranch_4 : decode (M_Tr_closeBranch).cc 4 = .ok (.ifCond .ne 6, 3) := by decide +kernel
theorem d_Tr_closeBranch_7 : decode (M_Tr_closeBranch).cc 7 = .ok (.bipush (-2), 2) := by decide +kernel
theorem d_Tr_closeBranch_9 : decode (M_Tr_closeBranch).cc 9 = .ok (.ireturn, 1) := by decide +kernel
theorem d_Tr_closeBranch_10 : decode (M_Tr_closeBranch).cc 10 = .ok (.aload_n 0, 1) := by decide +kernel
theorem d_Tr_closeBranch_11 : decode (M_Tr_closeBranch).cc 11 = .ok (.dup, 1) := by decide +kernel
theorem d_Tr_closeBranch_12 : decode (M_Tr_closeBranch).cc 12 = .ok (.getfield 37, 3) := by decide +kernel
theorem d_Tr_closeBranch_15 : decode (M_Tr_closeBranch).cc 15 = .ok (.iconst 1, 1) := by decide +kernel
theorem d_Tr_closeBranch_16 : decode (M_Tr_closeBranch).cc 16 = .ok (.isub, 1) := by decide +kernel
theorem d_Tr_closeBranch_17 : decode (M_Tr_closeBranch).cc 17 = .ok (.putfield 37, 3) := by decide +kernel
theorem d_Tr_closeBranch_20 : decode (M_Tr_closeBranch).cc 20 = .ok (.aload_n 0, 1) := by decide +kernel
theorem d_Tr_closeBranch_21 : decode (M_Tr_closeBranch).cc 21 = .ok (.aload_n 0, 1) := by decide +kernel
theorem d_Tr_closeBranch_22 : decode (M_Tr_closeBranch).cc 22 = .ok (.getfield 25, 3) := by decide +kernel
theorem d_Tr_closeBranch_25 : decode (M_Tr_closeBranch).cc 25 = .ok (.aload_n 0, 1) := by decide +kernel
theorem d_Tr_closeBranch_26 : decode (M_Tr_closeBranch).cc 26 = .ok (.getfield 37, 3) := by decide +kernel
theorem d_Tr_closeBranch_29 : decode (M_Tr_closeBranch).cc 29 = .ok (.iaload, 1) := by decide +kernel
theorem d_Tr_closeBranch_30 : decode (M_Tr_closeBranch).cc 30 = .ok (.putfield 41, 3) := by decide +kernel
theorem d_Tr_closeBranch_33 : decode (M_Tr_closeBranch).cc 33 = .ok (.aload_n 0, 1) := by decide +kernel
theorem d_Tr_closeBranch_34 : decode (M_Tr_closeBranch).cc 34 = .ok (.iconst 0, 1) := by decide +kernel
theorem d_Tr_closeBranch_35 : decode (M_Tr_closeBranch).cc 35 = .ok (.putfield 76, 3) := by decide +kernel
theorem d_Tr_closeBranch_38 : decode (M_Tr_closeBranch).cc 38 = .ok (.aload_n 0, 1) := by decide +kernel
theorem d_Tr_closeBranch_39 : decode (M_Tr_closeBranch).cc 39 = .ok (.dup, 1) := by decide +kernel
theorem d_Tr_closeBranch_40 : decode (M_Tr_closeBranch).cc 40 = .ok (.getfield 44, 3) := by decide +kernel
theorem d_Tr_closeBranch_43 : decode (M_Tr_closeBranch).cc 43 = .ok (.iconst 1, 1) := by decide +kernel
theorem d_Tr_closeBranch_44 : decode (M_Tr_closeBranch).cc 44 = .ok (.iadd, 1) := by decide +kernel
theorem d_Tr_closeBranch_45 : decode (M_Tr_closeBranch).cc 45 = .ok (.putfield 44, 3) := by decide +kernel
theorem d_Tr_closeBranch_48 : decode (M_Tr_closeBranch).cc 48 = .ok (.iconst (-1), 1) := by decide +kernel
theorem d_Tr_closeBranch_49 : decode (M_Tr_closeBranch).cc 49 = .ok (.ireturn, 1) := by decide +kernel
theorem d_Tr_openBranch_0 : decode (M_Tr_openBranch).cc 0 = .ok (.aload_n 0, 1) := by decide +kernel
theorem d_Tr_openBranch_1 : decode (M_Tr_openBranch).cc 1 = .ok (.getfield 37, 3) := by decide +kernel
theorem d_Tr_openBranch_4 : decode (M_Tr_openBranch).cc 4 = .ok (.bipush 6, 2) := by decide +kernel
theorem d_Tr_openBranch_6 : decode (M_Tr_openBranch).cc 6 = .ok (.if_icmp .ge 26, 3) := by decide +kernel
theorem d_Tr_openBranch_9 : decode (M_Tr_openBranch).cc 9 = .ok (.aload_n 0, 1) := by decide +kernel
theorem d_Tr_openBranch_10 : decode (M_Tr_openBranch).cc 10 = .ok (.getfield 25, 3) := by decide +kernel
theorem d_Tr_openBranch_13 : decode (M_Tr_openBranch).cc 13 = .ok (.aload_n 0, 1) := by decide +kernel
theorem d_Tr_openBranch_14 : decode (M_Tr_openBranch).cc 14 = .ok (.getfield 37, 3) := by decide +kernel
theorem d_Tr_openBranch_17 : decode (M_Tr_openBranch).cc 17 = .ok (.aload_n 0, 1) := by decide +kernel
theorem d_Tr_openBranch_18 : decode (M_Tr_openBranch).cc 18 = .ok (.getfield 41, 3) := by decide +kernel
theorem d_Tr_openBranch_21 : decode (M_Tr_openBranch).cc 21 = .ok (.iastore, 1) := by decide +kernel
theorem d_Tr_openBranch_22 : decode (M_Tr_openBranch).cc 22 = .ok (.aload_n 0, 1) := by decide +kernel
theorem d_Tr_openBranch_23 : decode (M_Tr_openBranch).cc 23 = .ok (.dup, 1) := by decide +kernel
theorem d_Tr_openBranch_24 : decode (M_Tr_openBranch).cc 24 = .ok (.getfield 37, 3) := by decide +kernel
theorem d_Tr_openBranch_27 : decode (M_Tr_openBranch).cc 27 = .ok (.iconst 1, 1) := by decide +kernel
theorem d_Tr_openBranch_28 : decode (M_Tr_openBranch).cc 28 = .ok (.iadd, 1) := by decide +kernel
theorem d_Tr_openBranch_29 : decode (M_Tr_openBranch).cc 29 = .ok (.putfield 37, 3) := by decide +kernel
theorem d_Tr_openBranch_32 : decode (M_Tr_openBranch).cc 32 = .ok (.aload_n 0, 1) := by decide +kernel
theorem d_Tr_openBranch_33 : decode (M_Tr_openBranch).cc 33 = .ok (.dup, 1) := by decide +kernel
theorem d_Tr_openBranch_34 : decode (M_Tr_openBranch).cc 34 = .ok (.getfield 44, 3) := by decide +kernel
theorem d_Tr_openBranch_37 : decode (M_Tr_openBranch).cc 37 = .ok (.iconst 1, 1) := by decide +kernel
theorem d_Tr_openBranch_38 : decode (M_Tr_openBranch).cc 38 = .ok (.iadd, 1) := by decide +kernel
theorem d_Tr_openBranch_39 : decode (M_Tr_openBranch).cc 39 = .ok (.putfield 44, 3) := by decide +kernel
theorem d_Tr_openBranch_42 : decode (M_Tr_openBranch).cc 42 = .ok (.aload_n 0, 1) := by decide +kernel
theorem d_Tr_openBranch_43 : decode (M_Tr_openBranch).cc 43 = .ok (.aload_n 1, 1) := by decide +kernel
theorem d_Tr_openBranch_44 : decode (M_Tr_openBranch).cc 44 = .ok (.invokevirtual 73, 3) := by decide +kernel
theorem d_Tr_openBranch_47 : decode (M_Tr_openBranch).cc 47 = .ok (.istore_n 2, 1) := by decide +kernel
theorem d_Tr_openBranch_48 : decode (M_Tr_openBranch).cc 48 = .ok (.aload_n 0, 1) := by decide +kernel
theorem d_Tr_openBranch_49 : decode (M_Tr_openBranch).cc 49 = .ok (.aload_n 1, 1) := by decide +kernel
theorem d_Tr_openBranch_50 : decode (M_Tr_openBranch).cc 50 = .ok (.iload_n 2, 1) := by decide +kernel
theorem d_Tr_openBranch_51 : decode (M_Tr_openBranch).cc 51 = .ok (.invokevirtual 47, 3) := by decide +kernel
theorem d_Tr_openBranch_54 : decode (M_Tr_openBranch).cc 54 = .ok (.ireturn, 1) := by decide +kernel
theorem d_Tr_readBond_0 : decode (M_Tr_readBond).cc 0 = .ok (.aload_n 1, 1) := by decide +kernel
theorem d_Tr_readBond_1 : decode (M_Tr_readBond).cc 1 = .ok (.aload_n 0, 1) := by decide +kernel
theorem d_Tr_readBond_2 : decode (M_Tr_readBond).cc 2 = .ok (.getfield 44, 3) := by decide +kernel
theorem d_Tr_readBond_5 : decode (M_Tr_readBond).cc 5 = .ok (.invokevirtual 64, 3) := by decide +kernel
theorem d_Tr_readBond_8 : decode (M_Tr_readBond).cc 8 = .ok (.istore_n 2, 1) := by decide +kernel
theorem d_Tr_readBond_9 : decode (M_Tr_readBond).cc 9 = .ok (.iload_n 2, 1) := by decide +kernel
theorem d_Tr_readBond_10 : decode (M_Tr_readBond).cc 10 = .ok (.bipush 45, 2) := by decide +kernel
theorem d_Tr_readBond_12 : decode (M_Tr_readBond).cc 12 = .ok (.if_icmp .ne 7, 3) := by decide +kernel
theorem d_Tr_readBond_15 : decode (M_Tr_readBond).cc 15 = .ok (.iconst 1, 1) := by decide +kernel
theorem d_Tr_readBond_16 : decode (M_Tr_readBond).cc 16 = .ok (.goto 24, 3) := by decide +kernel
theorem d_Tr_readBond_19 : decode (M_Tr_readBond).cc 19 = .ok (.iload_n 2, 1) := by decide +kernel
theorem d_Tr_readBond_20 : decode (M_Tr_readBond).cc 20 = .ok (.bipush 61, 2) := by decide +kernel
theorem d_Tr_readBond_22 : decode (M_Tr_readBond).cc 22 = .ok (.if_icmp .ne 7, 3) := by decide +kernel
theorem d_Tr_readBond_25 : decode (M_Tr_readBond).cc 25 = .ok (.iconst 2, 1) := by decide +kernel
theorem d_Tr_readBond_26 : decode (M_Tr_readBond).cc 26 = .ok (.goto 14, 3) := by decide +kernel
theorem d_Tr_readBond_29 : decode (M_Tr_readBond).cc 29 = .ok (.iload_n 2, 1) := by decide +kernel
theorem d_Tr_readBond_30 : decode (M_Tr_readBond).cc 30 = .ok (.bipush 35, 2) := by decide +kernel
theorem d_Tr_readBond_32 : decode (M_Tr_readBond).cc 32 = .ok (.if_icmp .ne 7, 3) := by decide +kernel
theorem d_Tr_readBond_35 : decode (M_Tr_readBond).cc 35 = .ok (.iconst 3, 1) := by decide +kernel
theorem d_Tr_readBond_36 : decode (M_Tr_readBond).cc 36 = .ok (.goto 4, 3) := by decide +kernel
theorem d_Tr_readBond_39 : decode (M_Tr_readBond).cc 39 = .ok (.iconst 0, 1) := by decide +kernel
theorem d_Tr_readBond_40 : decode (M_Tr_readBond).cc 40 = .ok (.istore_n 3, 1) := by decide +kernel
theorem d_Tr_readBond_41 : decode (M_Tr_readBond).cc 41 = .ok (.iload_n 3, 1) := by decide +kernel
theorem d_Tr_readBond_42 : decode (M_Tr_readBond).cc 42 = .ok (.ifCond .eq 13, 3) := by decide +kernel
theorem d_Tr_readBond_45 : decode (M_Tr_readBond).cc 45 = .ok (.aload_n 0, 1) := by decide +kernel
theorem d_Tr_readBond_46 : decode (M_Tr_readBond).cc 46 = .ok (.dup, 1) := by decide +kernel
theorem d_Tr_readBond_47 : decode (M_Tr_readBond).cc 47 = .ok (.getfield 44, 3) := by decide +kernel
theorem d_Tr_readBond_50 : decode (M_Tr_readBond).cc 50 = .ok (.iconst 1, 1) := by decide +kernel
theorem d_Tr_readBond_51 : decode (M_Tr_readBond).cc 51 = .ok (.iadd, 1) := by decide +kernel
theorem d_Tr_readBond_52 : decode (M_Tr_readBond).cc 52 = .ok (.putfield 44, 3) := by decide +kernel
theorem d_Tr_readBond_55 : decode (M_Tr_readBond).cc 55 = .ok (.iload_n 3, 1) := by decide +kernel
theorem d_Tr_readBond_56 : decode (M_Tr_readBond).cc 56 = .ok (.ireturn, 1) := by decide +kernel
theorem d_Tr_readRing_0 : decode (M_Tr_readRing).cc 0 = .ok (.aload_n 0, 1) := by decide +kernel
theorem d_Tr_readRing_1 : decode (M_Tr_readRing).cc 1 = .ok (.getfield 18, 3) := by decide +kernel
theorem d_Tr_readRing_4 : decode (M_Tr_readRing).cc 4 = .ok (.iload_n 1, 1) := by decide +kernel
theorem d_Tr_readRing_5 : decode (M_Tr_readRing).cc 5 = .ok (.iaload, 1) := by decide +kernel
theorem d_Tr_readRing_6 : decode (M_Tr_readRing).cc 6 = .ok (.istore_n 3, 1) := by decide +kernel
theorem d_Tr_readRing_7 : decode (M_Tr_readRing).cc 7 = .ok (.iload_n 3, 1) := by decide +kernel
theorem d_Tr_readRing_8 : decode (M_Tr_readRing).cc 8 = .ok (.iconst (-1), 1) := by decide +kernel
theorem d_Tr_readRing_9 : decode (M_Tr_readRing).cc 9 = .ok (.if_icmp .ne 23, 3) := by decide +kernel
theorem d_Tr_readRing_12 : decode (M_Tr_readRing).cc 12 = .ok (.aload_n 0, 1) := by decide +kernel
theorem d_Tr_readRing_13 : decode (M_Tr_readRing).cc 13 = .ok (.getfield 18, 3) := by decide +kernel
theorem d_Tr_readRing_16 : decode (M_Tr_readRing).cc 16 = .ok (.iload_n 1, 1) := by decide +kernel
theorem d_Tr_readRing_17 : decode (M_Tr_readRing).cc 17 = .ok (.aload_n 0, 1) := by decide +kernel
theorem d_Tr_readRing_18 : decode (M_Tr_readRing).cc 18 = .ok (.getfield 41, 3) := by decide +kernel
theorem d_Tr_readRing_21 : decode (M_Tr_readRing).cc 21 = .ok (.iastore, 1) := by decide +kernel
theorem d_Tr_readRing_22 : decode (M_Tr_readRing).cc 22 = .ok (.aload_n 0, 1) := by decide +kernel
theorem d_Tr_readRing_23 : decode (M_Tr_readRing).cc 23 = .ok (.getfield 22, 3) := by decide +kernel
theorem d_Tr_readRing_26 : decode (M_Tr_readRing).cc 26 = .ok (.iload_n 1, 1) := by decide +kernel
theorem d_Tr_readRing_27 : decode (M_Tr_readRing).cc 27 = .ok (.iload_n 2, 1) := by decide +kernel
theorem d_Tr_readRing_28 : decode (M_Tr_readRing).cc 28 = .ok (.iastore, 1) := by decide +kernel
theorem d_Tr_readRing_29 : decode (M_Tr_readRing).cc 29 = .ok (.goto 93, 3) := by decide +kernel
theorem d_Tr_readRing_32 : decode (M_Tr_readRing).cc 32 = .ok (.aload_n 0, 1) := by decide +kernel
theorem d_Tr_readRing_33 : decode (M_Tr_readRing).cc 33 = .ok (.getfield 22, 3) := by decide +kernel
theorem d_Tr_readRing_36 : decode (M_Tr_readRing).cc 36 = .ok (.iload_n 1, 1) := by decide +kernel
theorem d_Tr_readRing_37 : decode (M_Tr_readRing).cc 37 = .ok (.iaload, 1) := by decide +kernel
theorem d_Tr_readRing_38 : decode (M_Tr_readRing).cc 38 = .ok (.istore 4, 2) := by decide +kernel
theorem d_Tr_readRing_40 : decode (M_Tr_readRing).cc 40 = .ok (.iload 4, 2) := by decide +kernel
theorem d_Tr_readRing_42 : decode (M_Tr_readRing).cc 42 = .ok (.ifCond .eq 17, 3) := by decide +kernel
theorem d_Tr_readRing_45 : decode (M_Tr_readRing).cc 45 = .ok (.iload_n 2, 1) := by decide +kernel
theorem d_Tr_readRing_46 : decode (M_Tr_readRing).cc 46 = .ok (.ifCond .eq 13, 3) := by decide +kernel
theorem d_Tr_readRing_49 : decode (M_Tr_readRing).cc 49 = .ok (.iload 4, 2) := by decide +kernel
theorem d_Tr_readRing_51 : decode (M_Tr_readRing).cc 51 = .ok (.iload_n 2, 1) := by decide +kernel
theorem d_Tr_readRing_52 : decode (M_Tr_readRing).cc 52 = .ok (.if_icmp .eq 7, 3) := by decide +kernel
theorem d_Tr_readRing_55 : decode (M_Tr_readRing).cc 55 = .ok (.iconst 1, 1) := by decide +kernel
theorem d_Tr_readRing_56 : decode (M_Tr_readRing).cc 56 = .ok (.goto 4, 3) := by decide +kernel
theorem d_Tr_readRing_59 : decode (M_Tr_readRing).cc 59 = .ok (.iconst 0, 1) := by decide +kernel
theorem d_Tr_readRing_60 : decode (M_Tr_readRing).cc 60 = .ok (.istore 5, 2) := by decide +kernel
theorem d_Tr_readRing_62 : decode (M_Tr_readRing).cc 62 = .ok (.iload 5, 2) := by decide +kernel
theorem d_Tr_readRing_64 : decode (M_Tr_readRing).cc 64 = .ok (.ifCond .ne 26, 3) := by decide +kernel
theorem d_Tr_readRing_67 : decode (M_Tr_readRing).cc 67 = .ok (.iload_n 3, 1) := by decide +kernel
theorem d_Tr_readRing_68 : decode (M_Tr_readRing).cc 68 = .ok (.aload_n 0, 1) := by decide +kernel
theorem d_Tr_readRing_69 : decode (M_Tr_readRing).cc 69 = .ok (.getfield 41, 3) := by decide +kernel
theorem d_Tr_readRing_72 : decode (M_Tr_readRing).cc 72 = .ok (.if_icmp .eq 18, 3) := by decide +kernel
theorem d_Tr_readRing_75 : decode (M_Tr_readRing).cc 75 = .ok (.aload_n 0, 1) := by decide +kernel
theorem d_Tr_readRing_76 : decode (M_Tr_readRing).cc 76 = .ok (.getfield 12, 3) := by decide +kernel
theorem d_Tr_readRing_79 : decode (M_Tr_readRing).cc 79 = .ok (.iload_n 3, 1) := by decide +kernel
theorem d_Tr_readRing_80 : decode (M_Tr_readRing).cc 80 = .ok (.aload_n 0, 1) := by decide +kernel
theorem d_Tr_readRing_81 : decode (M_Tr_readRing).cc 81 = .ok (.getfield 41, 3) := by decide +kernel
theorem d_Tr_readRing_84 : decode (M_Tr_readRing).cc 84 = .ok (.invokevirtual 111, 3) := by decide +kernel
theorem d_Tr_readRing_87 : decode (M_Tr_readRing).cc 87 = .ok (.ifCond .le 6, 3) := by decide +kernel
theorem d_Tr_readRing_90 : decode (M_Tr_readRing).cc 90 = .ok (.bipush (-7), 2) := by decide +kernel
theorem d_Tr_readRing_92 : decode (M_Tr_readRing).cc 92 = .ok (.ireturn, 1) := by decide +kernel
theorem d_Tr_readRing_93 : decode (M_Tr_readRing).cc 93 = .ok (.aload_n 0, 1) := by decide +kernel
theorem d_Tr_readRing_94 : decode (M_Tr_readRing).cc 94 = .ok (.getfield 12, 3) := by decide +kernel
theorem d_Tr_readRing_97 : decode (M_Tr_readRing).cc 97 = .ok (.iload_n 3, 1) := by decide +kernel
theorem d_Tr_readRing_98 : decode (M_Tr_readRing).cc 98 = .ok (.aload_n 0, 1) := by decide +kernel
theorem d_Tr_readRing_99 : decode (M_Tr_readRing).cc 99 = .ok (.getfield 41, 3) := by decide +kernel
theorem d_Tr_readRing_102 : decode (M_Tr_readRing).cc 102 = .ok (.iconst 1, 1) := by decide +kernel
theorem d_Tr_readRing_103 : decode (M_Tr_readRing).cc 103 = .ok (.iload 4, 2) := by decide +kernel
theorem d_Tr_readRing_105 : decode (M_Tr_readRing).cc 105 = .ok (.iload_n 2, 1) := by decide +kernel
theorem d_Tr_readRing_106 : decode (M_Tr_readRing).cc 106 = .ok (.invokestatic 99, 3) := by decide +kernel
theorem d_Tr_readRing_109 : decode (M_Tr_readRing).cc 109 = .ok (.invokestatic 99, 3) := by decide +kernel
theorem d_Tr_readRing_112 : decode (M_Tr_readRing).cc 112 = .ok (.invokevirtual 104, 3) := by decide +kernel
theorem d_Tr_readRing_115 : decode (M_Tr_readRing).cc 115 = .ok (.aload_n 0, 1) := by decide +kernel
theorem d_Tr_readRing_116 : decode (M_Tr_readRing).cc 116 = .ok (.getfield 18, 3) := by decide +kernel
theorem d_Tr_readRing_119 : decode (M_Tr_readRing).cc 119 = .ok (.iload_n 1, 1) := by decide +kernel
theorem d_Tr_readRing_120 : decode (M_Tr_readRing).cc 120 = .ok (.iconst (-1), 1) := by decide +kernel
theorem d_Tr_readRing_121 : decode (M_Tr_readRing).cc 121 = .ok (.iastore, 1) := by decide +kernel
theorem d_Tr_readRing_122 : decode (M_Tr_readRing).cc 122 = .ok (.aload_n 0, 1) := by decide +kernel
theorem d_Tr_readRing_123 : decode (M_Tr_readRing).cc 123 = .ok (.dup, 1) := by decide +kernel
theorem d_Tr_readRing_124 : decode (M_Tr_readRing).cc 124 = .ok (.getfield 44, 3) := by decide +kernel
theorem d_Tr_readRing_127 : decode (M_Tr_readRing).cc 127 = .ok (.iconst 1, 1) := by decide +kernel
theorem d_Tr_readRing_128 : decode (M_Tr_readRing).cc 128 = .ok (.iadd, 1) := by decide +kernel
theorem d_Tr_readRing_129 : decode (M_Tr_readRing).cc 129 = .ok (.putfield 44, 3) := by decide +kernel
theorem d_Tr_readRing_132 : decode (M_Tr_readRing).cc 132 = .ok (.iconst (-1), 1) := by decide +kernel
theorem d_Tr_readRing_133 : decode (M_Tr_readRing).cc 133 = .ok (.ireturn, 1) := by decide +kernel
theorem d_Tr_faultAtEnd_0 : decode (M_Tr_faultAtEnd).cc 0 = .ok (.aload_n 0, 1) := by decide +kernel
theorem d_Tr_faultAtEnd_1 : decode (M_Tr_faultAtEnd).cc 1 = .ok (.getfield 37, 3) := by decide +kernel
theorem d_Tr_faultAtEnd_4 : decode (M_Tr_faultAtEnd).cc 4 = .ok (.ifCond .le 6, 3) := by decide +kernel
theorem d_Tr_faultAtEnd_7 : decode (M_Tr_faultAtEnd).cc 7 = .ok (.bipush (-2), 2) := by decide +kernel
theorem d_Tr_faultAtEnd_9 : decode (M_Tr_faultAtEnd).cc 9 = .ok (.ireturn, 1) := by decide +kernel
theorem d_Tr_faultAtEnd_10 : decode (M_Tr_faultAtEnd).cc 10 = .ok (.iconst 1, 1) := by decide +kernel
theorem d_Tr_faultAtEnd_11 : decode (M_Tr_faultAtEnd).cc 11 = .ok (.istore_n 1, 1) := by decide +kernel
theorem d_Tr_faultAtEnd_12 : decode (M_Tr_faultAtEnd).cc 12 = .ok (.iload_n 1, 1) := by decide +kernel
theorem d_Tr_faultAtEnd_13 : decode (M_Tr_faultAtEnd).cc 13 = .ok (.bipush 9, 2) := by decide +kernel
theorem d_Tr_faultAtEnd_15 : decode (M_Tr_faultAtEnd).cc 15 = .ok (.if_icmp .gt 22, 3) := by decide +kernel
theorem d_Tr_faultAtEnd_18 : decode (M_Tr_faultAtEnd).cc 18 = .ok (.aload_n 0, 1) := by decide +kernel
theorem d_Tr_faultAtEnd_19 : decode (M_Tr_faultAtEnd).cc 19 = .ok (.getfield 18, 3) := by decide +kernel
theorem d_Tr_faultAtEnd_22 : decode (M_Tr_faultAtEnd).cc 22 = .ok (.iload_n 1, 1) := by decide +kernel
theorem d_Tr_faultAtEnd_23 : decode (M_Tr_faultAtEnd).cc 23 = .ok (.iaload, 1) := by decide +kernel
theorem d_Tr_faultAtEnd_24 : decode (M_Tr_faultAtEnd).cc 24 = .ok (.iconst (-1), 1) := by decide +kernel
theorem d_Tr_faultAtEnd_25 : decode (M_Tr_faultAtEnd).cc 25 = .ok (.if_icmp .eq 6, 3) := by decide +kernel
theorem d_Tr_faultAtEnd_28 : decode (M_Tr_faultAtEnd).cc 28 = .ok (.bipush (-7), 2) := by decide +kernel
theorem d_Tr_faultAtEnd_30 : decode (M_Tr_faultAtEnd).cc 30 = .ok (.ireturn, 1) := by decide +kernel
theorem d_Tr_faultAtEnd_31 : decode (M_Tr_faultAtEnd).cc 31 = .ok (.iinc 1 1, 3) := by decide +kernel
theorem d_Tr_faultAtEnd_34 : decode (M_Tr_faultAtEnd).cc 34 = .ok (.goto (-22), 3) := by decide +kernel
theorem d_Tr_faultAtEnd_37 : decode (M_Tr_faultAtEnd).cc 37 = .ok (.aload_n 0, 1) := by decide +kernel
theorem d_Tr_faultAtEnd_38 : decode (M_Tr_faultAtEnd).cc 38 = .ok (.getfield 12, 3) := by decide +kernel
theorem d_Tr_faultAtEnd_41 : decode (M_Tr_faultAtEnd).cc 41 = .ok (.invokevirtual 114, 3) := by decide +kernel
theorem d_Tr_faultAtEnd_44 : decode (M_Tr_faultAtEnd).cc 44 = .ok (.ifCond .eq 8, 3) := by decide +kernel
theorem d_Tr_faultAtEnd_47 : decode (M_Tr_faultAtEnd).cc 47 = .ok (.bipush (-8), 2) := by decide +kernel
theorem d_Tr_faultAtEnd_49 : decode (M_Tr_faultAtEnd).cc 49 = .ok (.goto 4, 3) := by decide +kernel
theorem d_Tr_faultAtEnd_52 : decode (M_Tr_faultAtEnd).cc 52 = .ok (.iconst (-1), 1) := by decide +kernel
theorem d_Tr_faultAtEnd_53 : decode (M_Tr_faultAtEnd).cc 53 = .ok (.ireturn, 1) := by decide +kernel
theorem d_IL_findInList_0 : decode (M_IL_findInList).cc 0 = .ok (.aload_n 0, 1) := by decide +kernel
theorem d_IL_findInList_1 : decode (M_IL_findInList).cc 1 = .ok (.getfield 61, 3) := by decide +kernel
theorem d_IL_findInList_4 : decode (M_IL_findInList).cc 4 = .ok (.aload_n 1, 1) := by decide +kernel
theorem d_IL_findInList_5 : decode (M_IL_findInList).cc 5 = .ok (.invokevirtual 178, 3) := by decide +kernel
theorem d_IL_findInList_8 : decode (M_IL_findInList).cc 8 = .ok (.ifCond .ne 5, 3) := by decide +kernel
theorem d_IL_findInList_11 : decode (M_IL_findInList).cc 11 = .ok (.iconst (-1), 1) := by decide +kernel
theorem d_IL_findInList_12 : decode (M_IL_findInList).cc 12 = .ok (.ireturn, 1) := by decide +kernel
theorem d_IL_findInList_13 : decode (M_IL_findInList).cc 13 = .ok (.aload_n 0, 1) := by decide +kernel
theorem d_IL_findInList_14 : decode (M_IL_findInList).cc 14 = .ok (.getfield 40, 3) := by decide +kernel
theorem d_IL_findInList_17 : decode (M_IL_findInList).cc 17 = .ok (.aload_n 1, 1) := by decide +kernel
theorem d_IL_findInList_18 : decode (M_IL_findInList).cc 18 = .ok (.aload_n 0, 1) := by decide +kernel
theorem d_IL_findInList_19 : decode (M_IL_findInList).cc 19 = .ok (.getfield 61, 3) := by decide +kernel
theorem d_IL_findInList_22 : decode (M_IL_findInList).cc 22 = .ok (.getfield 119, 3) := by decide +kernel
theorem d_IL_findInList_25 : decode (M_IL_findInList).cc 25 = .ok (.iconst 0, 1) := by decide +kernel
theorem d_IL_findInList_26 : decode (M_IL_findInList).cc 26 = .ok (.invokevirtual 139, 3) := by decide +kernel
theorem d_IL_findInList_29 : decode (M_IL_findInList).cc 29 = .ok (.aload_n 0, 1) := by decide +kernel
theorem d_IL_findInList_30 : decode (M_IL_findInList).cc 30 = .ok (.getfield 61, 3) := by decide +kernel
theorem d_IL_findInList_33 : decode (M_IL_findInList).cc 33 = .ok (.aload_n 0, 1) := by decide +kernel
theorem d_IL_findInList_34 : decode (M_IL_findInList).cc 34 = .ok (.getfield 40, 3) := by decide +kernel
theorem d_IL_findInList_37 : decode (M_IL_findInList).cc 37 = .ok (.getfield 182, 3) := by decide +kernel
theorem d_IL_findInList_40 : decode (M_IL_findInList).cc 40 = .ok (.invokevirtual 185, 3) := by decide +kernel
theorem d_IL_findInList_43 : decode (M_IL_findInList).cc 43 = .ok (.ireturn, 1) := by decide +kernel
theorem d_IL_occurrences_0 : decode (M_IL_occurrences).cc 0 = .ok (.iconst 0, 1) := by decide +kernel
theorem d_IL_occurrences_1 : decode (M_IL_occurrences).cc 1 = .ok (.istore_n 3, 1) := by decide +kernel
theorem d_IL_occurrences_2 : decode (M_IL_occurrences).cc 2 = .ok (.iconst 0, 1) := by decide +kernel
theorem d_IL_occurrences_3 : decode (M_IL_occurrences).cc 3 = .ok (.istore 4, 2) := by decide +kernel
theorem d_IL_occurrences_5 : decode (M_IL_occurrences).cc 5 = .ok (.iload 4, 2) := by decide +kernel
theorem d_IL_occurrences_7 : decode (M_IL_occurrences).cc 7 = .ok (.iload_n 2, 1) := by decide +kernel
theorem d_IL_occurrences_8 : decode (M_IL_occurrences).cc 8 = .ok (.if_icmp .ge 20, 3) := by decide +kernel
theorem d_IL_occurrences_11 : decode (M_IL_occurrences).cc 11 = .ok (.aload_n 1, 1) := by decide +kernel
theorem d_IL_occurrences_12 : decode (M_IL_occurrences).cc 12 = .ok (.iload 4, 2) := by decide +kernel
theorem d_IL_occurrences_14 : decode (M_IL_occurrences).cc 14 = .ok (.iaload, 1) := by decide +kernel
theorem d_IL_occurrences_15 : decode (M_IL_occurrences).cc 15 = .ok (.iload_n 0, 1) := by decide +kernel
theorem d_IL_occurrences_16 : decode (M_IL_occurrences).cc 16 = .ok (.if_icmp .ne 6, 3) := by decide +kernel
theorem d_IL_occurrences_19 : decode (M_IL_occurrences).cc 19 = .ok (.iinc 3 1, 3) := by decide +kernel
theorem d_IL_occurrences_22 : decode (M_IL_occurrences).cc 22 = .ok (.iinc 4 1, 3) := by decide +kernel
theorem d_IL_occurrences_25 : decode (M_IL_occurrences).cc 25 = .ok (.goto (-20), 3) := by decide +kernel
theorem d_IL_occurrences_28 : decode (M_IL_occurrences).cc 28 = .ok (.iload_n 3, 1) := by decide +kernel
theorem d_IL_occurrences_29 : decode (M_IL_occurrences).cc 29 = .ok (.ireturn, 1) := by decide +kernel
theorem d_Nu_search_0 : decode (M_Nu_search).cc 0 = .ok (.aload_n 0, 1) := by decide +kernel
theorem d_Nu_search_1 : decode (M_Nu_search).cc 1 = .ok (.aload_n 1, 1) := by decide +kernel
theorem d_Nu_search_2 : decode (M_Nu_search).cc 2 = .ok (.getfield 19, 3) := by decide +kernel
theorem d_Nu_search_5 : decode (M_Nu_search).cc 5 = .ok (.putfield 25, 3) := by decide +kernel
theorem d_Nu_search_8 : decode (M_Nu_search).cc 8 = .ok (.aload_n 0, 1) := by decide +kernel
theorem d_Nu_search_9 : decode (M_Nu_search).cc 9 = .ok (.iload_n 3, 1) := by decide +kernel
theorem d_Nu_search_10 : decode (M_Nu_search).cc 10 = .ok (.putfield 26, 3) := by decide +kernel
theorem d_Nu_search_13 : decode (M_Nu_search).cc 13 = .ok (.aload_n 0, 1) := by decide +kernel
theorem d_Nu_search_14 : decode (M_Nu_search).cc 14 = .ok (.iconst 0, 1) := by decide +kernel
theorem d_Nu_search_15 : decode (M_Nu_search).cc 15 = .ok (.putfield 29, 3) := by decide +kernel
theorem d_Nu_search_18 : decode (M_Nu_search).cc 18 = .ok (.aload_n 0, 1) := by decide +kernel
theorem d_Nu_search_19 : decode (M_Nu_search).cc 19 = .ok (.aload_n 1, 1) := by decide +kernel
theorem d_Nu_search_20 : decode (M_Nu_search).cc 20 = .ok (.aload_n 2, 1) := by decide +kernel
theorem d_Nu_search_21 : decode (M_Nu_search).cc 21 = .ok (.iconst 0, 1) := by decide +kernel
theorem d_Nu_search_22 : decode (M_Nu_search).cc 22 = .ok (.iconst 0, 1) := by decide +kernel
theorem d_Nu_search_23 : decode (M_Nu_search).cc 23 = .ok (.invokevirtual 32, 3) := by decide +kernel
theorem d_Nu_search_26 : decode (M_Nu_search).cc 26 = .ok (.return_, 1) := by decide +kernel
theorem d_Nu_choose_0 : decode (M_Nu_choose).cc 0 = .ok (.iload_n 3, 1) := by decide +kernel
theorem d_Nu_choose_1 : decode (M_Nu_choose).cc 1 = .ok (.aload_n 0, 1) := by decide +kernel
theorem d_Nu_choose_2 : decode (M_Nu_choose).cc 2 = .ok (.getfield 25, 3) := by decide +kernel
theorem d_Nu_choose_5 : decode (M_Nu_choose).cc 5 = .ok (.if_icmp .lt 10, 3) := by decide +kernel
theorem d_Nu_choose_8 : decode (M_Nu_choose).cc 8 = .ok (.aload_n 0, 1) := by decide +kernel
theorem d_Nu_choose_9 : decode (M_Nu_choose).cc 9 = .ok (.iload 4, 2) := by decide +kernel
theorem d_Nu_choose_11 : decode (M_Nu_choose).cc 11 = .ok (.invokevirtual 40, 3) := by decide +kernel
theorem d_Nu_choose_14 : decode (M_Nu_choose).cc 14 = .ok (.return_, 1) := by decide +kernel
theorem d_Nu_choose_15 : decode (M_Nu_choose).cc 15 = .ok (.iload_n 3, 1) := by decide +kernel
theorem d_Nu_choose_16 : decode (M_Nu_choose).cc 16 = .ok (.invokestatic 44, 3) := by decide +kernel
theorem d_Nu_choose_19 : decode (M_Nu_choose).cc 19 = .ok (.istore 5, 2) := by decide +kernel
theorem d_Nu_choose_21 : decode (M_Nu_choose).cc 21 = .ok (.iconst 0, 1) := by decide +kernel
theorem d_Nu_choose_22 : decode (M_Nu_choose).cc 22 = .ok (.istore 6, 2) := by decide +kernel
theorem d_Nu_choose_24 : decode (M_Nu_choose).cc 24 = .ok (.iload 6, 2) := by decide +kernel
theorem d_Nu_choose_26 : decode (M_Nu_choose).cc 26 = .ok (.aload_n 0, 1) := by decide +kernel
theorem d_Nu_choose_27 : decode (M_Nu_choose).cc 27 = .ok (.getfield 25, 3) := by decide +kernel
theorem d_Nu_choose_30 : decode (M_Nu_choose).cc 30 = .ok (.if_icmp .ge 98, 3) := by decide +kernel
theorem d_Nu_choose_33 : decode (M_Nu_choose).cc 33 = .ok (.aload_n 0, 1) := by decide +kernel
theorem d_Nu_choose_34 : decode (M_Nu_choose).cc 34 = .ok (.getfield 15, 3) := by decide +kernel
theorem d_Nu_choose_37 : decode (M_Nu_choose).cc 37 = .ok (.iload 6, 2) := by decide +kernel
theorem d_Nu_choose_39 : decode (M_Nu_choose).cc 39 = .ok (.baload, 1) := by decide +kernel
theorem d_Nu_choose_40 : decode (M_Nu_choose).cc 40 = .ok (.ifCond .ne 82, 3) := by decide +kernel
theorem d_Nu_choose_43 : decode (M_Nu_choose).cc 43 = .ok (.aload_n 1, 1) := by decide +kernel
theorem d_Nu_choose_44 : decode (M_Nu_choose).cc 44 = .ok (.getfield 48, 3) := by decide +kernel
theorem d_Nu_choose_47 : decode (M_Nu_choose).cc 47 = .ok (.iload 6, 2) := by decide +kernel
theorem d_Nu_choose_49 : decode (M_Nu_choose).cc 49 = .ok (.iaload, 1) := by decide +kernel
theorem d_Nu_choose_50 : decode (M_Nu_choose).cc 50 = .ok (.aload_n 2, 1) := by decide +kernel
theorem d_Nu_choose_51 : decode (M_Nu_choose).cc 51 = .ok (.iload_n 3, 1) := by decide +kernel
theorem d_Nu_choose_52 : decode (M_Nu_choose).cc 52 = .ok (.iaload, 1) := by decide +kernel
theorem d_Nu_choose_53 : decode (M_Nu_choose).cc 53 = .ok (.if_icmp .ne 69, 3) := by decide +kernel
theorem d_Nu_choose_56 : decode (M_Nu_choose).cc 56 = .ok (.iload 4, 2) := by decide +kernel
theorem d_Nu_choose_58 : decode (M_Nu_choose).cc 58 = .ok (.aload_n 0, 1) := by decide +kernel
theorem d_Nu_choose_59 : decode (M_Nu_choose).cc 59 = .ok (.aload_n 1, 1) := by decide +kernel
theorem d_Nu_choose_60 : decode (M_Nu_choose).cc 60 = .ok (.iload_n 3, 1) := by decide +kernel
theorem d_Nu_choose_61 : decode (M_Nu_choose).cc 61 = .ok (.iload 6, 2) := by decide +kernel
theorem d_Nu_choose_63 : decode (M_Nu_choose).cc 63 = .ok (.invokevirtual 51, 3) := by decide +kernel
theorem d_Nu_choose_66 : decode (M_Nu_choose).cc 66 = .ok (.iload 5, 2) := by decide +kernel
theorem d_Nu_choose_68 : decode (M_Nu_choose).cc 68 = .ok (.ishl, 1) := by decide +kernel
theorem d_Nu_choose_69 : decode (M_Nu_choose).cc 69 = .ok (.ior, 1) := by decide +kernel
theorem d_Nu_choose_70 : decode (M_Nu_choose).cc 70 = .ok (.istore 7, 2) := by decide +kernel
theorem d_Nu_choose_72 : decode (M_Nu_choose).cc 72 = .ok (.iload 7, 2) := by decide +kernel
theorem d_Nu_choose_74 : decode (M_Nu_choose).cc 74 = .ok (.iload 5, 2) := by decide +kernel
theorem d_Nu_choose_76 : decode (M_Nu_choose).cc 76 = .ok (.ishr, 1) := by decide +kernel
theorem d_Nu_choose_77 : decode (M_Nu_choose).cc 77 = .ok (.aload_n 0, 1) := by decide +kernel
theorem d_Nu_choose_78 : decode (M_Nu_choose).cc 78 = .ok (.getfield 26, 3) := by decide +kernel
theorem d_Nu_choose_81 : decode (M_Nu_choose).cc 81 = .ok (.iload 5, 2) := by decide +kernel
theorem d_Nu_choose_83 : decode (M_Nu_choose).cc 83 = .ok (.ishr, 1) := by decide +kernel
theorem d_Nu_choose_84 : decode (M_Nu_choose).cc 84 = .ok (.if_icmp .lt 38, 3) := by decide +kernel
theorem d_Nu_choose_87 : decode (M_Nu_choose).cc 87 = .ok (.aload_n 0, 1) := by decide +kernel
theorem d_Nu_choose_88 : decode (M_Nu_choose).cc 88 = .ok (.getfield 9, 3) := by decide +kernel
theorem d_Nu_choose_91 : decode (M_Nu_choose).cc 91 = .ok (.iload_n 3, 1) := by decide +kernel
theorem d_Nu_choose_92 : decode (M_Nu_choose).cc 92 = .ok (.iload 6, 2) := by decide +kernel
theorem d_Nu_choose_94 : decode (M_Nu_choose).cc 94 = .ok (.iastore, 1) := by decide +kernel
theorem d_Nu_choose_95 : decode (M_Nu_choose).cc 95 = .ok (.aload_n 0, 1) := by decide +kernel
theorem d_Nu_choose_96 : decode (M_Nu_choose).cc 96 = .ok (.getfield 15, 3) := by decide +kernel
theorem d_Nu_choose_99 : decode (M_Nu_choose).cc 99 = .ok (.iload 6, 2) := by decide +kernel
theorem d_Nu_choose_101 : decode (M_Nu_choose).cc 101 = .ok (.iconst 1, 1) := by decide +kernel
theorem d_Nu_choose_102 : decode (M_Nu_choose).cc 102 = .ok (.bastore, 1) := by decide +kernel
theorem d_Nu_choose_103 : decode (M_Nu_choose).cc 103 = .ok (.aload_n 0, 1) := by decide +kernel
theorem d_Nu_choose_104 : decode (M_Nu_choose).cc 104 = .ok (.aload_n 1, 1) := by decide +kernel
theorem d_Nu_choose_105 : decode (M_Nu_choose).cc 105 = .ok (.aload_n 2, 1) := by decide +kernel
theorem d_Nu_choose_106 : decode (M_Nu_choose).cc 106 = .ok (.iload_n 3, 1) := by decide +kernel
theorem d_Nu_choose_107 : decode (M_Nu_choose).cc 107 = .ok (.iconst 1, 1) := by decide +kernel
theorem d_Nu_choose_108 : decode (M_Nu_choose).cc 108 = .ok (.iadd, 1) := by decide +kernel
theorem d_Nu_choose_109 : decode (M_Nu_choose).cc 109 = .ok (.iload 7, 2) := by decide +kernel
theorem d_Nu_choose_111 : decode (M_Nu_choose).cc 111 = .ok (.invokevirtual 32, 3) := by decide +kernel
theorem d_Nu_choose_114 : decode (M_Nu_choose).cc 114 = .ok (.aload_n 0, 1) := by decide +kernel
theorem d_Nu_choose_115 : decode (M_Nu_choose).cc 115 = .ok (.getfield 15, 3) := by decide +kernel
theorem d_Nu_choose_118 : decode (M_Nu_choose).cc 118 = .ok (.iload 6, 2) := by decide +kernel
theorem d_Nu_choose_120 : decode (M_Nu_choose).cc 120 = .ok (.iconst 0, 1) := by decide +kernel
theorem d_Nu_choose_121 : decode (M_Nu_choose).cc 121 = .ok (.bastore, 1) := by decide +kernel
theorem d_Nu_choose_122 : decode (M_Nu_choose).cc 122 = .ok (.iinc 6 1, 3) := by decide +kernel
theorem d_Nu_choose_125 : decode (M_Nu_choose).cc 125 = .ok (.goto (-101), 3) := by decide +kernel
theorem d_Nu_choose_128 : decode (M_Nu_choose).cc 128 = .ok (.return_, 1) := by decide +kernel
theorem d_Nu_noteCode_0 : decode (M_Nu_noteCode).cc 0 = .ok (.iload_n 1, 1) := by decide +kernel
theorem d_Nu_noteCode_1 : decode (M_Nu_noteCode).cc 1 = .ok (.aload_n 0, 1) := by decide +kernel
theorem d_Nu_noteCode_2 : decode (M_Nu_noteCode).cc 2 = .ok (.getfield 26, 3) := by decide +kernel
theorem d_Nu_noteCode_5 : decode (M_Nu_noteCode).cc 5 = .ok (.if_icmp .le 13, 3) := by decide +kernel
theorem d_Nu_noteCode_8 : decode (M_Nu_noteCode).cc 8 = .ok (.aload_n 0, 1) := by decide +kernel
theorem d_Nu_noteCode_9 : decode (M_Nu_noteCode).cc 9 = .ok (.iload_n 1, 1) := by decide +kernel
theorem d_Nu_noteCode_10 : decode (M_Nu_noteCode).cc 10 = .ok (.putfield 26, 3) := by decide +kernel
theorem d_Nu_noteCode_13 : decode (M_Nu_noteCode).cc 13 = .ok (.aload_n 0, 1) := by decide +kernel
theorem d_Nu_noteCode_14 : decode (M_Nu_noteCode).cc 14 = .ok (.iconst 0, 1) := by decide +kernel
theorem d_Nu_noteCode_15 : decode (M_Nu_noteCode).cc 15 = .ok (.putfield 29, 3) := by decide +kernel
theorem d_Nu_noteCode_18 : decode (M_Nu_noteCode).cc 18 = .ok (.aload_n 0, 1) := by decide +kernel
theorem d_Nu_noteCode_19 : decode (M_Nu_noteCode).cc 19 = .ok (.dup, 1) := by decide +kernel
theorem d_Nu_noteCode_20 : decode (M_Nu_noteCode).cc 20 = .ok (.getfield 29, 3) := by decide +kernel
theorem d_Nu_noteCode_23 : decode (M_Nu_noteCode).cc 23 = .ok (.iconst 1, 1) := by decide +kernel
theorem d_Nu_noteCode_24 : decode (M_Nu_noteCode).cc 24 = .ok (.iadd, 1) := by decide +kernel
theorem d_Nu_noteCode_25 : decode (M_Nu_noteCode).cc 25 = .ok (.putfield 29, 3) := by decide +kernel
theorem d_Nu_noteCode_28 : decode (M_Nu_noteCode).cc 28 = .ok (.return_, 1) := by decide +kernel
theorem d_IL_place_0 : decode (M_IL_place).cc 0 = .ok (.aload_n 0, 1) := by decide +kernel
theorem d_IL_place_1 : decode (M_IL_place).cc 1 = .ok (.getfield 65, 3) := by decide +kernel
theorem d_IL_place_4 : decode (M_IL_place).cc 4 = .ok (.ireturn, 1) := by decide +kernel
theorem d_IL_count_0 : decode (M_IL_count).cc 0 = .ok (.iload_n 1, 1) := by decide +kernel
theorem d_IL_count_1 : decode (M_IL_count).cc 1 = .ok (.tableswitch 51 0 2 #[27, 35, 43], 27) := by decide +kernel
theorem d_IL_count_28 : decode (M_IL_count).cc 28 = .ok (.aload_n 0, 1) := by decide +kernel
theorem d_IL_count_29 : decode (M_IL_count).cc 29 = .ok (.getfield 61, 3) := by decide +kernel
theorem d_IL_count_32 : decode (M_IL_count).cc 32 = .ok (.getfield 97, 3) := by decide +kernel
theorem d_IL_count_35 : decode (M_IL_count).cc 35 = .ok (.ireturn, 1) := by decide +kernel
theorem d_IL_count_36 : decode (M_IL_count).cc 36 = .ok (.aload_n 0, 1) := by decide +kernel
theorem d_IL_count_37 : decode (M_IL_count).cc 37 = .ok (.getfield 61, 3) := by decide +kernel
theorem d_IL_count_40 : decode (M_IL_count).cc 40 = .ok (.getfield 109, 3) := by decide +kernel
theorem d_IL_count_43 : decode (M_IL_count).cc 43 = .ok (.ireturn, 1) := by decide +kernel
theorem d_IL_count_44 : decode (M_IL_count).cc 44 = .ok (.aload_n 0, 1) := by decide +kernel
theorem d_IL_count_45 : decode (M_IL_count).cc 45 = .ok (.getfield 61, 3) := by decide +kernel
theorem d_IL_count_48 : decode (M_IL_count).cc 48 = .ok (.getfield 112, 3) := by decide +kernel
theorem d_IL_count_51 : decode (M_IL_count).cc 51 = .ok (.ireturn, 1) := by decide +kernel
theorem d_IL_count_52 : decode (M_IL_count).cc 52 = .ok (.iconst (-1), 1) := by decide +kernel
theorem d_IL_count_53 : decode (M_IL_count).cc 53 = .ok (.ireturn, 1) := by decide +kernel
theorem d_IL_character_0 : decode (M_IL_character).cc 0 = .ok (.aload_n 0, 1) := by decide +kernel
theorem d_IL_character_1 : decode (M_IL_character).cc 1 = .ok (.getfield 10, 3) := by decide +kernel
theorem d_IL_character_4 : decode (M_IL_character).cc 4 = .ok (.iload_n 1, 1) := by decide +kernel
theorem d_IL_character_5 : decode (M_IL_character).cc 5 = .ok (.invokevirtual 150, 3) := by decide +kernel
theorem d_IL_character_8 : decode (M_IL_character).cc 8 = .ok (.ireturn, 1) := by decide +kernel
theorem d_IL_type_0 : decode (M_IL_type).cc 0 = .ok (.aload_n 0, 1) := by decide +kernel
theorem d_IL_type_1 : decode (M_IL_type).cc 1 = .ok (.getfield 10, 3) := by decide +kernel
theorem d_IL_type_4 : decode (M_IL_type).cc 4 = .ok (.getfield 69, 3) := by decide +kernel
theorem d_IL_type_7 : decode (M_IL_type).cc 7 = .ok (.bipush 60, 2) := by decide +kernel
theorem d_IL_type_9 : decode (M_IL_type).cc 9 = .ok (.if_icmp .ne 11, 3) := by decide +kernel
theorem d_IL_type_12 : decode (M_IL_type).cc 12 = .ok (.new 72, 3) := by decide +kernel
theorem d_IL_type_15 : decode (M_IL_type).cc 15 = .ok (.dup, 1) := by decide +kernel
theorem d_IL_type_16 : decode (M_IL_type).cc 16 = .ok (.invokespecial 74, 3) := by decide +kernel
theorem d_IL_type_19 : decode (M_IL_type).cc 19 = .ok (.athrow, 1) := by decide +kernel
theorem d_IL_type_20 : decode (M_IL_type).cc 20 = .ok (.aload_n 0, 1) := by decide +kernel
theorem d_IL_type_21 : decode (M_IL_type).cc 21 = .ok (.getfield 10, 3) := by decide +kernel
theorem d_IL_type_24 : decode (M_IL_type).cc 24 = .ok (.iload_n 1, 1) := by decide +kernel
theorem d_IL_type_25 : decode (M_IL_type).cc 25 = .ok (.invokevirtual 75, 3) := by decide +kernel
theorem d_IL_type_28 : decode (M_IL_type).cc 28 = .ok (.aload_n 0, 1) := by decide +kernel
theorem d_IL_type_29 : decode (M_IL_type).cc 29 = .ok (.getfield 10, 3) := by decide +kernel
theorem d_IL_type_32 : decode (M_IL_type).cc 32 = .ok (.getfield 69, 3) := by decide +kernel
theorem d_IL_type_35 : decode (M_IL_type).cc 35 = .ok (.ireturn, 1) := by decide +kernel
theorem d_IL_element_0 : decode (M_IL_element).cc 0 = .ok (.aload_n 0, 1) := by decide +kernel
theorem d_IL_element_1 : decode (M_IL_element).cc 1 = .ok (.iload_n 1, 1) := by decide +kernel
theorem d_IL_element_2 : decode (M_IL_element).cc 2 = .ok (.invokevirtual 115, 3) := by decide +kernel
theorem d_IL_element_5 : decode (M_IL_element).cc 5 = .ok (.aload_n 0, 1) := by decide +kernel
theorem d_IL_element_6 : decode (M_IL_element).cc 6 = .ok (.getfield 61, 3) := by decide +kernel
theorem d_IL_element_9 : decode (M_IL_element).cc 9 = .ok (.getfield 119, 3) := by decide +kernel
theorem d_IL_element_12 : decode (M_IL_element).cc 12 = .ok (.iload_n 1, 1) := by decide +kernel
theorem d_IL_element_13 : decode (M_IL_element).cc 13 = .ok (.iaload, 1) := by decide +kernel
theorem d_IL_element_14 : decode (M_IL_element).cc 14 = .ok (.ireturn, 1) := by decide +kernel
theorem d_IL_checkAtom_0 : decode (M_IL_checkAtom).cc 0 = .ok (.iload_n 1, 1) := by decide +kernel
theorem d_IL_checkAtom_1 : decode (M_IL_checkAtom).cc 1 = .ok (.ifCond .lt 14, 3) := by decide +kernel
theorem d_IL_checkAtom_4 : decode (M_IL_checkAtom).cc 4 = .ok (.iload_n 1, 1) := by decide +kernel
theorem d_IL_checkAtom_5 : decode (M_IL_checkAtom).cc 5 = .ok (.aload_n 0, 1) := by decide +kernel
theorem d_IL_checkAtom_6 : decode (M_IL_checkAtom).cc 6 = .ok (.getfield 61, 3) := by decide +kernel
theorem d_IL_checkAtom_9 : decode (M_IL_checkAtom).cc 9 = .ok (.getfield 109, 3) := by decide +kernel
theorem d_IL_checkAtom_12 : decode (M_IL_checkAtom).cc 12 = .ok (.if_icmp .lt 11, 3) := by decide +kernel
theorem d_IL_checkAtom_15 : decode (M_IL_checkAtom).cc 15 = .ok (.new 153, 3) := by decide +kernel
theorem d_IL_checkAtom_18 : decode (M_IL_checkAtom).cc 18 = .ok (.dup, 1) := by decide +kernel
theorem d_IL_checkAtom_19 : decode (M_IL_checkAtom).cc 19 = .ok (.invokespecial 155, 3) := by decide +kernel
theorem d_IL_checkAtom_22 : decode (M_IL_checkAtom).cc 22 = .ok (.athrow, 1) := by decide +kernel
theorem d_IL_checkAtom_23 : decode (M_IL_checkAtom).cc 23 = .ok (.return_, 1) := by decide +kernel
theorem d_IL_bond_0 : decode (M_IL_bond).cc 0 = .ok (.aload_n 0, 1) := by decide +kernel
theorem d_IL_bond_1 : decode (M_IL_bond).cc 1 = .ok (.iload_n 1, 1) := by decide +kernel
theorem d_IL_bond_2 : decode (M_IL_bond).cc 2 = .ok (.invokevirtual 122, 3) := by decide +kernel
theorem d_IL_bond_5 : decode (M_IL_bond).cc 5 = .ok (.aload_n 0, 1) := by decide +kernel
theorem d_IL_bond_6 : decode (M_IL_bond).cc 6 = .ok (.iload_n 2, 1) := by decide +kernel
theorem d_IL_bond_7 : decode (M_IL_bond).cc 7 = .ok (.invokevirtual 115, 3) := by decide +kernel
theorem d_IL_bond_10 : decode (M_IL_bond).cc 10 = .ok (.aload_n 0, 1) := by decide +kernel
theorem d_IL_bond_11 : decode (M_IL_bond).cc 11 = .ok (.iload_n 3, 1) := by decide +kernel
theorem d_IL_bond_12 : decode (M_IL_bond).cc 12 = .ok (.invokevirtual 115, 3) := by decide +kernel
theorem d_IL_bond_15 : decode (M_IL_bond).cc 15 = .ok (.aload_n 0, 1) := by decide +kernel
theorem d_IL_bond_16 : decode (M_IL_bond).cc 16 = .ok (.getfield 54, 3) := by decide +kernel
theorem d_IL_bond_19 : decode (M_IL_bond).cc 19 = .ok (.aload_n 0, 1) := by decide +kernel
theorem d_IL_bond_20 : decode (M_IL_bond).cc 20 = .ok (.getfield 61, 3) := by decide +kernel
theorem d_IL_bond_23 : decode (M_IL_bond).cc 23 = .ok (.iload_n 1, 1) := by decide +kernel
theorem d_IL_bond_24 : decode (M_IL_bond).cc 24 = .ok (.invokevirtual 125, 3) := by decide +kernel
theorem d_IL_bond_27 : decode (M_IL_bond).cc 27 = .ok (.aload_n 0, 1) := by decide +kernel
theorem d_IL_bond_28 : decode (M_IL_bond).cc 28 = .ok (.getfield 54, 3) := by decide +kernel
theorem d_IL_bond_31 : decode (M_IL_bond).cc 31 = .ok (.iload_n 2, 1) := by decide +kernel
theorem d_IL_bond_32 : decode (M_IL_bond).cc 32 = .ok (.iload_n 3, 1) := by decide +kernel
theorem d_IL_bond_33 : decode (M_IL_bond).cc 33 = .ok (.invokevirtual 129, 3) := by decide +kernel
theorem d_IL_bond_36 : decode (M_IL_bond).cc 36 = .ok (.ireturn, 1) := by decide +kernel
theorem d_IL_checkStructure_0 : decode (M_IL_checkStructure).cc 0 = .ok (.iload_n 1, 1) := by decide +kernel
theorem d_IL_checkStructure_1 : decode (M_IL_checkStructure).cc 1 = .ok (.ifCond .lt 14, 3) := by decide +kernel
theorem d_IL_checkStructure_4 : decode (M_IL_checkStructure).cc 4 = .ok (.iload_n 1, 1) := by decide +kernel
theorem d_IL_checkStructure_5 : decode (M_IL_checkStructure).cc 5 = .ok (.aload_n 0, 1) := by decide +kernel
theorem d_IL_checkStructure_6 : decode (M_IL_checkStructure).cc 6 = .ok (.getfield 61, 3) := by decide +kernel
theorem d_IL_checkStructure_9 : decode (M_IL_checkStructure).cc 9 = .ok (.getfield 97, 3) := by decide +kernel
theorem d_IL_checkStructure_12 : decode (M_IL_checkStructure).cc 12 = .ok (.if_icmp .lt 11, 3) := by decide +kernel
theorem d_IL_checkStructure_15 : decode (M_IL_checkStructure).cc 15 = .ok (.new 153, 3) := by decide +kernel
theorem d_IL_checkStructure_18 : decode (M_IL_checkStructure).cc 18 = .ok (.dup, 1) := by decide +kernel
theorem d_IL_checkStructure_19 : decode (M_IL_checkStructure).cc 19 = .ok (.invokespecial 155, 3) := by decide +kernel
theorem d_IL_checkStructure_22 : decode (M_IL_checkStructure).cc 22 = .ok (.athrow, 1) := by decide +kernel
theorem d_IL_checkStructure_23 : decode (M_IL_checkStructure).cc 23 = .ok (.return_, 1) := by decide +kernel
theorem d_IL_hydrogens_0 : decode (M_IL_hydrogens).cc 0 = .ok (.aload_n 0, 1) := by decide +kernel
theorem d_IL_hydrogens_1 : decode (M_IL_hydrogens).cc 1 = .ok (.iload_n 1, 1) := by decide +kernel
theorem d_IL_hydrogens_2 : decode (M_IL_hydrogens).cc 2 = .ok (.invokevirtual 122, 3) := by decide +kernel
theorem d_IL_hydrogens_5 : decode (M_IL_hydrogens).cc 5 = .ok (.aload_n 0, 1) := by decide +kernel
theorem d_IL_hydrogens_6 : decode (M_IL_hydrogens).cc 6 = .ok (.iload_n 2, 1) := by decide +kernel
theorem d_IL_hydrogens_7 : decode (M_IL_hydrogens).cc 7 = .ok (.invokevirtual 115, 3) := by decide +kernel
theorem d_IL_hydrogens_10 : decode (M_IL_hydrogens).cc 10 = .ok (.aload_n 0, 1) := by decide +kernel
theorem d_IL_hydrogens_11 : decode (M_IL_hydrogens).cc 11 = .ok (.getfield 54, 3) := by decide +kernel
theorem d_IL_hydrogens_14 : decode (M_IL_hydrogens).cc 14 = .ok (.aload_n 0, 1) := by decide +kernel
theorem d_IL_hydrogens_15 : decode (M_IL_hydrogens).cc 15 = .ok (.getfield 61, 3) := by decide +kernel
theorem d_IL_hydrogens_18 : decode (M_IL_hydrogens).cc 18 = .ok (.iload_n 1, 1) := by decide +kernel
theorem d_IL_hydrogens_19 : decode (M_IL_hydrogens).cc 19 = .ok (.invokevirtual 125, 3) := by decide +kernel
theorem d_IL_hydrogens_22 : decode (M_IL_hydrogens).cc 22 = .ok (.aload_n 0, 1) := by decide +kernel
theorem d_IL_hydrogens_23 : decode (M_IL_hydrogens).cc 23 = .ok (.getfield 54, 3) := by decide +kernel
theorem d_IL_hydrogens_26 : decode (M_IL_hydrogens).cc 26 = .ok (.getfield 133, 3) := by decide +kernel
theorem d_IL_hydrogens_29 : decode (M_IL_hydrogens).cc 29 = .ok (.iload_n 2, 1) := by decide +kernel
theorem d_IL_hydrogens_30 : decode (M_IL_hydrogens).cc 30 = .ok (.iaload, 1) := by decide +kernel
theorem d_IL_hydrogens_31 : decode (M_IL_hydrogens).cc 31 = .ok (.ireturn, 1) := by decide +kernel
theorem d_IL_ways_0 : decode (M_IL_ways).cc 0 = .ok (.aload_n 0, 1) := by decide +kernel
theorem d_IL_ways_1 : decode (M_IL_ways).cc 1 = .ok (.iload_n 1, 1) := by decide +kernel
theorem d_IL_ways_2 : decode (M_IL_ways).cc 2 = .ok (.invokevirtual 122, 3) := by decide +kernel
theorem d_IL_ways_5 : decode (M_IL_ways).cc 5 = .ok (.aload_n 0, 1) := by decide +kernel
theorem d_IL_ways_6 : decode (M_IL_ways).cc 6 = .ok (.getfield 54, 3) := by decide +kernel
theorem d_IL_ways_9 : decode (M_IL_ways).cc 9 = .ok (.aload_n 0, 1) := by decide +kernel
theorem d_IL_ways_10 : decode (M_IL_ways).cc 10 = .ok (.getfield 61, 3) := by decide +kernel
theorem d_IL_ways_13 : decode (M_IL_ways).cc 13 = .ok (.iload_n 1, 1) := by decide +kernel
theorem d_IL_ways_14 : decode (M_IL_ways).cc 14 = .ok (.invokevirtual 125, 3) := by decide +kernel
theorem d_IL_ways_17 : decode (M_IL_ways).cc 17 = .ok (.aload_n 0, 1) := by decide +kernel
theorem d_IL_ways_18 : decode (M_IL_ways).cc 18 = .ok (.getfield 40, 3) := by decide +kernel
theorem d_IL_ways_21 : decode (M_IL_ways).cc 21 = .ok (.aload_n 0, 1) := by decide +kernel
theorem d_IL_ways_22 : decode (M_IL_ways).cc 22 = .ok (.getfield 54, 3) := by decide +kernel
theorem d_IL_ways_25 : decode (M_IL_ways).cc 25 = .ok (.aload_n 0, 1) := by decide +kernel
theorem d_IL_ways_26 : decode (M_IL_ways).cc 26 = .ok (.getfield 61, 3) := by decide +kernel
theorem d_IL_ways_29 : decode (M_IL_ways).cc 29 = .ok (.getfield 119, 3) := by decide +kernel
theorem d_IL_ways_32 : decode (M_IL_ways).cc 32 = .ok (.aload_n 0, 1) := by decide +kernel
theorem d_IL_ways_33 : decode (M_IL_ways).cc 33 = .ok (.getfield 61, 3) := by decide +kernel
theorem d_IL_ways_36 : decode (M_IL_ways).cc 36 = .ok (.getfield 136, 3) := by decide +kernel
theorem d_IL_ways_39 : decode (M_IL_ways).cc 39 = .ok (.iload_n 1, 1) := by decide +kernel
theorem d_IL_ways_40 : decode (M_IL_ways).cc 40 = .ok (.iaload, 1) := by decide +kernel
theorem d_IL_ways_41 : decode (M_IL_ways).cc 41 = .ok (.invokevirtual 139, 3) := by decide +kernel
theorem d_IL_ways_44 : decode (M_IL_ways).cc 44 = .ok (.aload_n 0, 1) := by decide +kernel
theorem d_IL_ways_45 : decode (M_IL_ways).cc 45 = .ok (.getfield 40, 3) := by decide +kernel
theorem d_IL_ways_48 : decode (M_IL_ways).cc 48 = .ok (.getfield 143, 3) := by decide +kernel
theorem d_IL_ways_51 : decode (M_IL_ways).cc 51 = .ok (.ireturn, 1) := by decide +kernel
theorem d_IL_write_0 : decode (M_IL_write).cc 0 = .ok (.aload_n 0, 1) := by decide +kernel
theorem d_IL_write_1 : decode (M_IL_write).cc 1 = .ok (.iload_n 1, 1) := by decide +kernel
theorem d_IL_write_2 : decode (M_IL_write).cc 2 = .ok (.invokevirtual 122, 3) := by decide +kernel
theorem d_IL_write_5 : decode (M_IL_write).cc 5 = .ok (.aload_n 0, 1) := by decide +kernel
theorem d_IL_write_6 : decode (M_IL_write).cc 6 = .ok (.getfield 54, 3) := by decide +kernel
theorem d_IL_write_9 : decode (M_IL_write).cc 9 = .ok (.aload_n 0, 1) := by decide +kernel
theorem d_IL_write_10 : decode (M_IL_write).cc 10 = .ok (.getfield 61, 3) := by decide +kernel
theorem d_IL_write_13 : decode (M_IL_write).cc 13 = .ok (.iload_n 1, 1) := by decide +kernel
theorem d_IL_write_14 : decode (M_IL_write).cc 14 = .ok (.invokevirtual 125, 3) := by decide +kernel
theorem d_IL_write_17 : decode (M_IL_write).cc 17 = .ok (.aload_n 0, 1) := by decide +kernel
theorem d_IL_write_18 : decode (M_IL_write).cc 18 = .ok (.getfield 33, 3) := by decide +kernel
theorem d_IL_write_21 : decode (M_IL_write).cc 21 = .ok (.aload_n 0, 1) := by decide +kernel
theorem d_IL_write_22 : decode (M_IL_write).cc 22 = .ok (.getfield 10, 3) := by decide +kernel
theorem d_IL_write_25 : decode (M_IL_write).cc 25 = .ok (.aload_n 0, 1) := by decide +kernel
theorem d_IL_write_26 : decode (M_IL_write).cc 26 = .ok (.getfield 54, 3) := by decide +kernel
theorem d_IL_write_29 : decode (M_IL_write).cc 29 = .ok (.invokevirtual 146, 3) := by decide +kernel
theorem d_IL_write_32 : decode (M_IL_write).cc 32 = .ok (.aload_n 0, 1) := by decide +kernel
theorem d_IL_write_33 : decode (M_IL_write).cc 33 = .ok (.getfield 10, 3) := by decide +kernel
theorem d_IL_write_36 : decode (M_IL_write).cc 36 = .ok (.getfield 69, 3) := by decide +kernel
theorem d_IL_write_39 : decode (M_IL_write).cc 39 = .ok (.ireturn, 1) := by decide +kernel
theorem d_Tw_writeAnew_0 : decode (M_Tw_writeAnew).cc 0 = .ok (.aload_n 0, 1) := by decide +kernel
theorem d_Tw_writeAnew_1 : decode (M_Tw_writeAnew).cc 1 = .ok (.iconst 0, 1) := by decide +kernel
theorem d_Tw_writeAnew_2 : decode (M_Tw_writeAnew).cc 2 = .ok (.putfield 21, 3) := by decide +kernel
theorem d_Tw_writeAnew_5 : decode (M_Tw_writeAnew).cc 5 = .ok (.aload_n 0, 1) := by decide +kernel
theorem d_Tw_writeAnew_6 : decode (M_Tw_writeAnew).cc 6 = .ok (.getfield 9, 3) := by decide +kernel
theorem d_Tw_writeAnew_9 : decode (M_Tw_writeAnew).cc 9 = .ok (.bipush (-2), 2) := by decide +kernel
theorem d_Tw_writeAnew_11 : decode (M_Tw_writeAnew).cc 11 = .ok (.invokestatic 25, 3) := by decide +kernel
theorem d_Tw_writeAnew_14 : decode (M_Tw_writeAnew).cc 14 = .ok (.aload_n 0, 1) := by decide +kernel
theorem d_Tw_writeAnew_15 : decode (M_Tw_writeAnew).cc 15 = .ok (.aload_n 2, 1) := by decide +kernel
theorem d_Tw_writeAnew_16 : decode (M_Tw_writeAnew).cc 16 = .ok (.iconst 0, 1) := by decide +kernel
theorem d_Tw_writeAnew_17 : decode (M_Tw_writeAnew).cc 17 = .ok (.iconst (-1), 1) := by decide +kernel
theorem d_Tw_writeAnew_18 : decode (M_Tw_writeAnew).cc 18 = .ok (.iconst 0, 1) := by decide +kernel
theorem d_Tw_writeAnew_19 : decode (M_Tw_writeAnew).cc 19 = .ok (.invokevirtual 31, 3) := by decide +kernel
theorem d_Tw_writeAnew_22 : decode (M_Tw_writeAnew).cc 22 = .ok (.aload_n 1, 1) := by decide +kernel
theorem d_Tw_writeAnew_23 : decode (M_Tw_writeAnew).cc 23 = .ok (.invokevirtual 35, 3) := by decide +kernel
theorem d_Tw_writeAnew_26 : decode (M_Tw_writeAnew).cc 26 = .ok (.aload_n 0, 1) := by decide +kernel
theorem d_Tw_writeAnew_27 : decode (M_Tw_writeAnew).cc 27 = .ok (.aload_n 1, 1) := by decide +kernel
theorem d_Tw_writeAnew_28 : decode (M_Tw_writeAnew).cc 28 = .ok (.aload_n 2, 1) := by decide +kernel
theorem d_Tw_writeAnew_29 : decode (M_Tw_writeAnew).cc 29 = .ok (.iconst 0, 1) := by decide +kernel
theorem d_Tw_writeAnew_30 : decode (M_Tw_writeAnew).cc 30 = .ok (.iconst 0, 1) := by decide +kernel
theorem d_Tw_writeAnew_31 : decode (M_Tw_writeAnew).cc 31 = .ok (.invokevirtual 40, 3) := by decide +kernel
theorem d_Tw_writeAnew_34 : decode (M_Tw_writeAnew).cc 34 = .ok (.return_, 1) := by decide +kernel
theorem d_Tw_goThrough_0 : decode (M_Tw_goThrough).cc 0 = .ok (.iload 4, 2) := by decide +kernel
theorem d_Tw_goThrough_2 : decode (M_Tw_goThrough).cc 2 = .ok (.bipush 6, 2) := by decide +kernel
theorem d_Tw_goThrough_4 : decode (M_Tw_goThrough).cc 4 = .ok (.if_icmp .lt 4, 3) := by decide +kernel
theorem d_Tw_goThrough_7 : decode (M_Tw_goThrough).cc 7 = .ok (.return_, 1) := by decide +kernel
theorem d_Tw_goThrough_8 : decode (M_Tw_goThrough).cc 8 = .ok (.aload_n 0, 1) := by decide +kernel
theorem d_Tw_goThrough_9 : decode (M_Tw_goThrough).cc 9 = .ok (.getfield 9, 3) := by decide +kernel
theorem d_Tw_goThrough_12 : decode (M_Tw_goThrough).cc 12 = .ok (.iload_n 2, 1) := by decide +kernel
theorem d_Tw_goThrough_13 : decode (M_Tw_goThrough).cc 13 = .ok (.iload_n 3, 1) := by decide +kernel
theorem d_Tw_goThrough_14 : decode (M_Tw_goThrough).cc 14 = .ok (.iastore, 1) := by decide +kernel
theorem d_Tw_goThrough_15 : decode (M_Tw_goThrough).cc 15 = .ok (.iconst 0, 1) := by decide +kernel
theorem d_Tw_goThrough_16 : decode (M_Tw_goThrough).cc 16 = .ok (.istore 5, 2) := by decide +kernel
theorem d_Tw_goThrough_18 : decode (M_Tw_goThrough).cc 18 = .ok (.iload 5, 2) := by decide +kernel
theorem d_Tw_goThrough_20 : decode (M_Tw_goThrough).cc 20 = .ok (.aload_n 1, 1) := by decide +kernel
theorem d_Tw_goThrough_21 : decode (M_Tw_goThrough).cc 21 = .ok (.getfield 44, 3) := by decide +kernel
theorem d_Tw_goThrough_24 : decode (M_Tw_goThrough).cc 24 = .ok (.if_icmp .ge 59, 3) := by decide +kernel
theorem d_Tw_goThrough_27 : decode (M_Tw_goThrough).cc 27 = .ok (.aload_n 1, 1) := by decide +kernel
theorem d_Tw_goThrough_28 : decode (M_Tw_goThrough).cc 28 = .ok (.iload_n 2, 1) := by decide +kernel
theorem d_Tw_goThrough_29 : decode (M_Tw_goThrough).cc 29 = .ok (.iload 5, 2) := by decide +kernel
theorem d_Tw_goThrough_31 : decode (M_Tw_goThrough).cc 31 = .ok (.invokevirtual 49, 3) := by decide +kernel
theorem d_Tw_goThrough_34 : decode (M_Tw_goThrough).cc 34 = .ok (.ifCond .le 43, 3) := by decide +kernel
theorem d_Tw_goThrough_37 : decode (M_Tw_goThrough).cc 37 = .ok (.aload_n 0, 1) := by decide +kernel
theorem d_Tw_goThrough_38 : decode (M_Tw_goThrough).cc 38 = .ok (.getfield 9, 3) := by decide +kernel
theorem d_Tw_goThrough_41 : decode (M_Tw_goThrough).cc 41 = .ok (.iload 5, 2) := by decide +kernel
theorem d_Tw_goThrough_43 : decode (M_Tw_goThrough).cc 43 = .ok (.iaload, 1) := by decide +kernel
theorem d_Tw_goThrough_44 : decode (M_Tw_goThrough).cc 44 = .ok (.bipush (-2), 2) := by decide +kernel
theorem d_Tw_goThrough_46 : decode (M_Tw_goThrough).cc 46 = .ok (.if_icmp .ne 18, 3) := by decide +kernel
theorem d_Tw_goThrough_49 : decode (M_Tw_goThrough).cc 49 = .ok (.aload_n 0, 1) := by decide +kernel
theorem d_Tw_goThrough_50 : decode (M_Tw_goThrough).cc 50 = .ok (.aload_n 1, 1) := by decide +kernel
theorem d_Tw_goThrough_51 : decode (M_Tw_goThrough).cc 51 = .ok (.iload 5, 2) := by decide +kernel
theorem d_Tw_goThrough_53 : decode (M_Tw_goThrough).cc 53 = .ok (.iload_n 2, 1) := by decide +kernel
theorem d_Tw_goThrough_54 : decode (M_Tw_goThrough).cc 54 = .ok (.iload 4, 2) := by decide +kernel
theorem d_Tw_goThrough_56 : decode (M_Tw_goThrough).cc 56 = .ok (.iconst 1, 1) := by decide +kernel
theorem d_Tw_goThrough_57 : decode (M_Tw_goThrough).cc 57 = .ok (.iadd, 1) := by decide +kernel
theorem d_Tw_goThrough_58 : decode (M_Tw_goThrough).cc 58 = .ok (.invokevirtual 31, 3) := by decide +kernel
theorem d_Tw_goThrough_61 : decode (M_Tw_goThrough).cc 61 = .ok (.goto 16, 3) := by decide +kernel
theorem d_Tw_goThrough_64 : decode (M_Tw_goThrough).cc 64 = .ok (.iload 5, 2) := by decide +kernel
theorem d_Tw_goThrough_66 : decode (M_Tw_goThrough).cc 66 = .ok (.iload_n 3, 1) := by decide +kernel
theorem d_Tw_goThrough_67 : decode (M_Tw_goThrough).cc 67 = .ok (.if_icmp .eq 10, 3) := by decide +kernel
theorem d_Tw_goThrough_70 : decode (M_Tw_goThrough).cc 70 = .ok (.aload_n 0, 1) := by decide +kernel
theorem d_Tw_goThrough_71 : decode (M_Tw_goThrough).cc 71 = .ok (.iload_n 2, 1) := by decide +kernel
theorem d_Tw_goThrough_72 : decode (M_Tw_goThrough).cc 72 = .ok (.iload 5, 2) := by decide +kernel
theorem d_Tw_goThrough_74 : decode (M_Tw_goThrough).cc 74 = .ok (.invokevirtual 53, 3) := by decide +kernel
theorem d_Tw_goThrough_77 : decode (M_Tw_goThrough).cc 77 = .ok (.iinc 5 1, 3) := by decide +kernel
theorem d_Tw_goThrough_80 : decode (M_Tw_goThrough).cc 80 = .ok (.goto (-62), 3) := by decide +kernel
theorem d_Tw_goThrough_83 : decode (M_Tw_goThrough).cc 83 = .ok (.return_, 1) := by decide +kernel
theorem d_Tw_meetRing_0 : decode (M_Tw_meetRing).cc 0 = .ok (.iconst 1, 1) := by decide +kernel
theorem d_Tw_meetRing_1 : decode (M_Tw_meetRing).cc 1 = .ok (.istore_n 3, 1) := by decide +kernel
theorem d_Tw_meetRing_2 : decode (M_Tw_meetRing).cc 2 = .ok (.iload_n 3, 1) := by decide +kernel
theorem d_Tw_meetRing_3 : decode (M_Tw_meetRing).cc 3 = .ok (.aload_n 0, 1) := by decide +kernel
theorem d_Tw_meetRing_4 : decode (M_Tw_meetRing).cc 4 = .ok (.getfield 21, 3) := by decide +kernel
theorem d_Tw_meetRing_7 : decode (M_Tw_meetRing).cc 7 = .ok (.if_icmp .gt 30, 3) := by decide +kernel
theorem d_Tw_meetRing_10 : decode (M_Tw_meetRing).cc 10 = .ok (.aload_n 0, 1) := by decide +kernel
theorem d_Tw_meetRing_11 : decode (M_Tw_meetRing).cc 11 = .ok (.getfield 15, 3) := by decide +kernel
theorem d_Tw_meetRing_14 : decode (M_Tw_meetRing).cc 14 = .ok (.iload_n 3, 1) := by decide +kernel
theorem d_Tw_meetRing_15 : decode (M_Tw_meetRing).cc 15 = .ok (.iaload, 1) := by decide +kernel
theorem d_Tw_meetRing_16 : decode (M_Tw_meetRing).cc 16 = .ok (.iload_n 2, 1) := by decide +kernel
theorem d_Tw_meetRing_17 : decode (M_Tw_meetRing).cc 17 = .ok (.if_icmp .ne 14, 3) := by decide +kernel
theorem d_Tw_meetRing_20 : decode (M_Tw_meetRing).cc 20 = .ok (.aload_n 0, 1) := by decide +kernel
theorem d_Tw_meetRing_21 : decode (M_Tw_meetRing).cc 21 = .ok (.getfield 18, 3) := by decide +kernel
theorem d_Tw_meetRing_24 : decode (M_Tw_meetRing).cc 24 = .ok (.iload_n 3, 1) := by decide +kernel
theorem d_Tw_meetRing_25 : decode (M_Tw_meetRing).cc 25 = .ok (.iaload, 1) := by decide +kernel
theorem d_Tw_meetRing_26 : decode (M_Tw_meetRing).cc 26 = .ok (.iload_n 1, 1) := by decide +kernel
theorem d_Tw_meetRing_27 : decode (M_Tw_meetRing).cc 27 = .ok (.if_icmp .ne 4, 3) := by decide +kernel
theorem d_Tw_meetRing_30 : decode (M_Tw_meetRing).cc 30 = .ok (.return_, 1) := by decide +kernel
theorem d_Tw_meetRing_31 : decode (M_Tw_meetRing).cc 31 = .ok (.iinc 3 1, 3) := by decide +kernel
theorem d_Tw_meetRing_34 : decode (M_Tw_meetRing).cc 34 = .ok (.goto (-32), 3) := by decide +kernel
theorem d_Tw_meetRing_37 : decode (M_Tw_meetRing).cc 37 = .ok (.aload_n 0, 1) := by decide +kernel
theorem d_Tw_meetRing_38 : decode (M_Tw_meetRing).cc 38 = .ok (.getfield 21, 3) := by decide +kernel
theorem d_Tw_meetRing_41 : decode (M_Tw_meetRing).cc 41 = .ok (.bipush 9, 2) := by decide +kernel
theorem d_Tw_meetRing_43 : decode (M_Tw_meetRing).cc 43 = .ok (.if_icmp .ge 33, 3) := by decide +kernel
theorem d_Tw_meetRing_46 : decode (M_Tw_meetRing).cc 46 = .ok (.aload_n 0, 1) := by decide +kernel
theorem d_Tw_meetRing_47 : decode (M_Tw_meetRing).cc 47 = .ok (.dup, 1) := by decide +kernel
theorem d_Tw_meetRing_48 : decode (M_Tw_meetRing).cc 48 = .ok (.getfield 21, 3) := by decide +kernel
theorem d_Tw_meetRing_51 : decode (M_Tw_meetRing).cc 51 = .ok (.iconst 1, 1) := by decide +kernel
theorem d_Tw_meetRing_52 : decode (M_Tw_meetRing).cc 52 = .ok (.iadd, 1) := by decide +kernel
theorem d_Tw_meetRing_53 : decode (M_Tw_meetRing).cc 53 = .ok (.putfield 21, 3) := by decide +kernel
theorem d_Tw_meetRing_56 : decode (M_Tw_meetRing).cc 56 = .ok (.aload_n 0, 1) := by decide +kernel
theorem d_Tw_meetRing_57 : decode (M_Tw_meetRing).cc 57 = .ok (.getfield 15, 3) := by decide +kernel
theorem d_Tw_meetRing_60 : decode (M_Tw_meetRing).cc 60 = .ok (.aload_n 0, 1) := by decide +kernel
theorem d_Tw_meetRing_61 : decode (M_Tw_meetRing).cc 61 = .ok (.getfield 21, 3) := by decide +kernel
theorem d_Tw_meetRing_64 : decode (M_Tw_meetRing).cc 64 = .ok (.iload_n 1, 1) := by decide +kernel
theorem d_Tw_meetRing_65 : decode (M_Tw_meetRing).cc 65 = .ok (.iastore, 1) := by decide +kernel
theorem d_Tw_meetRing_66 : decode (M_Tw_meetRing).cc 66 = .ok (.aload_n 0, 1) := by decide +kernel
theorem d_Tw_meetRing_67 : decode (M_Tw_meetRing).cc 67 = .ok (.getfield 18, 3) := by decide +kernel
theorem d_Tw_meetRing_70 : decode (M_Tw_meetRing).cc 70 = .ok (.aload_n 0, 1) := by decide +kernel
theorem d_Tw_meetRing_71 : decode (M_Tw_meetRing).cc 71 = .ok (.getfield 21, 3) := by decide +kernel
theorem d_Tw_meetRing_74 : decode (M_Tw_meetRing).cc 74 = .ok (.iload_n 2, 1) := by decide +kernel
theorem d_Tw_meetRing_75 : decode (M_Tw_meetRing).cc 75 = .ok (.iastore, 1) := by decide +kernel
theorem d_Tw_meetRing_76 : decode (M_Tw_meetRing).cc 76 = .ok (.return_, 1) := by decide +kernel
theorem d_Tw_putAtom_0 : decode (M_Tw_putAtom).cc 0 = .ok (.iload 4, 2) := by decide +kernel
theorem d_Tw_putAtom_2 : decode (M_Tw_putAtom).cc 2 = .ok (.bipush 6, 2) := by decide +kernel
theorem d_Tw_putAtom_4 : decode (M_Tw_putAtom).cc 4 = .ok (.if_icmp .lt 4, 3) := by decide +kernel
theorem d_Tw_putAtom_7 : decode (M_Tw_putAtom).cc 7 = .ok (.return_, 1) := by decide +kernel
theorem d_Tw_putAtom_8 : decode (M_Tw_putAtom).cc 8 = .ok (.aload_n 1, 1) := by decide +kernel
theorem d_Tw_putAtom_9 : decode (M_Tw_putAtom).cc 9 = .ok (.aload_n 2, 1) := by decide +kernel
theorem d_Tw_putAtom_10 : decode (M_Tw_putAtom).cc 10 = .ok (.getfield 57, 3) := by decide +kernel
theorem d_Tw_putAtom_13 : decode (M_Tw_putAtom).cc 13 = .ok (.iload_n 3, 1) := by decide +kernel
theorem d_Tw_putAtom_14 : decode (M_Tw_putAtom).cc 14 = .ok (.iaload, 1) := by decide +kernel
theorem d_Tw_putAtom_15 : decode (M_Tw_putAtom).cc 15 = .ok (.invokevirtual 60, 3) := by decide +kernel
theorem d_Tw_putAtom_18 : decode (M_Tw_putAtom).cc 18 = .ok (.aload_n 0, 1) := by decide +kernel
theorem d_Tw_putAtom_19 : decode (M_Tw_putAtom).cc 19 = .ok (.aload_n 1, 1) := by decide +kernel
theorem d_Tw_putAtom_20 : decode (M_Tw_putAtom).cc 20 = .ok (.aload_n 2, 1) := by decide +kernel
theorem d_Tw_putAtom_21 : decode (M_Tw_putAtom).cc 21 = .ok (.iload_n 3, 1) := by decide +kernel
theorem d_Tw_putAtom_22 : decode (M_Tw_putAtom).cc 22 = .ok (.invokevirtual 64, 3) := by decide +kernel
theorem d_Tw_putAtom_25 : decode (M_Tw_putAtom).cc 25 = .ok (.aload_n 0, 1) := by decide +kernel
theorem d_Tw_putAtom_26 : decode (M_Tw_putAtom).cc 26 = .ok (.iload_n 3, 1) := by decide +kernel
theorem d_Tw_putAtom_27 : decode (M_Tw_putAtom).cc 27 = .ok (.invokevirtual 68, 3) := by decide +kernel
theorem d_Tw_putAtom_30 : decode (M_Tw_putAtom).cc 30 = .ok (.istore 5, 2) := by decide +kernel
theorem d_Tw_putAtom_32 : decode (M_Tw_putAtom).cc 32 = .ok (.iconst 0, 1) := by decide +kernel
theorem d_Tw_putAtom_33 : decode (M_Tw_putAtom).cc 33 = .ok (.istore 6, 2) := by decide +kernel
theorem d_Tw_putAtom_35 : decode (M_Tw_putAtom).cc 35 = .ok (.iload 6, 2) := by decide +kernel
theorem d_Tw_putAtom_37 : decode (M_Tw_putAtom).cc 37 = .ok (.iload 5, 2) := by decide +kernel
theorem d_Tw_putAtom_39 : decode (M_Tw_putAtom).cc 39 = .ok (.if_icmp .ge 55, 3) := by decide +kernel
theorem d_Tw_putAtom_42 : decode (M_Tw_putAtom).cc 42 = .ok (.aload_n 0, 1) := by decide +kernel
theorem d_Tw_putAtom_43 : decode (M_Tw_putAtom).cc 43 = .ok (.getfield 9, 3) := by decide +kernel
theorem d_Tw_putAtom_46 : decode (M_Tw_putAtom).cc 46 = .ok (.iload 6, 2) := by decide +kernel
theorem d_Tw_putAtom_48 : decode (M_Tw_putAtom).cc 48 = .ok (.iaload, 1) := by decide +kernel
theorem d_Tw_putAtom_49 : decode (M_Tw_putAtom).cc 49 = .ok (.iload_n 3, 1) := by decide +kernel
theorem d_Tw_putAtom_50 : decode (M_Tw_putAtom).cc 50 = .ok (.if_icmp .ne 38, 3) := by decide +kernel
theorem d_Tw_putAtom_53 : decode (M_Tw_putAtom).cc 53 = .ok (.aload_n 1, 1) := by decide +kernel
theorem d_Tw_putAtom_54 : decode (M_Tw_putAtom).cc 54 = .ok (.bipush 40, 2) := by decide +kernel
theorem d_Tw_putAtom_56 : decode (M_Tw_putAtom).cc 56 = .ok (.invokevirtual 72, 3) := by decide +kernel
theorem d_Tw_putAtom_59 : decode (M_Tw_putAtom).cc 59 = .ok (.aload_n 1, 1) := by decide +kernel
theorem d_Tw_putAtom_60 : decode (M_Tw_putAtom).cc 60 = .ok (.aload_n 2, 1) := by decide +kernel
theorem d_Tw_putAtom_61 : decode (M_Tw_putAtom).cc 61 = .ok (.iload_n 3, 1) := by decide +kernel
theorem d_Tw_putAtom_62 : decode (M_Tw_putAtom).cc 62 = .ok (.iload 6, 2) := by decide +kernel
theorem d_Tw_putAtom_64 : decode (M_Tw_putAtom).cc 64 = .ok (.invokevirtual 49, 3) := by decide +kernel
theorem d_Tw_putAtom_67 : decode (M_Tw_putAtom).cc 67 = .ok (.invokevirtual 76, 3) := by decide +kernel
theorem d_Tw_putAtom_70 : decode (M_Tw_putAtom).cc 70 = .ok (.aload_n 0, 1) := by decide +kernel
theorem d_Tw_putAtom_71 : decode (M_Tw_putAtom).cc 71 = .ok (.aload_n 1, 1) := by decide +kernel
theorem d_Tw_putAtom_72 : decode (M_Tw_putAtom).cc 72 = .ok (.aload_n 2, 1) := by decide +kernel
theorem d_Tw_putAtom_73 : decode (M_Tw_putAtom).cc 73 = .ok (.iload 6, 2) := by decide +kernel
theorem d_Tw_putAtom_75 : decode (M_Tw_putAtom).cc 75 = .ok (.iload 4, 2) := by decide +kernel
theorem d_Tw_putAtom_77 : decode (M_Tw_putAtom).cc 77 = .ok (.iconst 1, 1) := by decide +kernel
theorem d_Tw_putAtom_78 : decode (M_Tw_putAtom).cc 78 = .ok (.iadd, 1) := by decide +kernel
theorem d_Tw_putAtom_79 : decode (M_Tw_putAtom).cc 79 = .ok (.invokevirtual 40, 3) := by decide +kernel
theorem d_Tw_putAtom_82 : decode (M_Tw_putAtom).cc 82 = .ok (.aload_n 1, 1) := by decide +kernel
theorem d_Tw_putAtom_83 : decode (M_Tw_putAtom).cc 83 = .ok (.bipush 41, 2) := by decide +kernel
theorem d_Tw_putAtom_85 : decode (M_Tw_putAtom).cc 85 = .ok (.invokevirtual 72, 3) := by decide +kernel
theorem d_Tw_putAtom_88 : decode (M_Tw_putAtom).cc 88 = .ok (.iinc 6 1, 3) := by decide +kernel
theorem d_Tw_putAtom_91 : decode (M_Tw_putAtom).cc 91 = .ok (.goto (-56), 3) := by decide +kernel
theorem d_Tw_putAtom_94 : decode (M_Tw_putAtom).cc 94 = .ok (.iload 5, 2) := by decide +kernel
theorem d_Tw_putAtom_96 : decode (M_Tw_putAtom).cc 96 = .ok (.iconst (-1), 1) := by decide +kernel
theorem d_Tw_putAtom_97 : decode (M_Tw_putAtom).cc 97 = .ok (.if_icmp .eq 26, 3) := by decide +kernel
theorem d_Tw_putAtom_100 : decode (M_Tw_putAtom).cc 100 = .ok (.aload_n 1, 1) := by decide +kernel
theorem d_Tw_putAtom_101 : decode (M_Tw_putAtom).cc 101 = .ok (.aload_n 2, 1) := by decide +kernel
theorem d_Tw_putAtom_102 : decode (M_Tw_putAtom).cc 102 = .ok (.iload_n 3, 1) := by decide +kernel
theorem d_Tw_putAtom_103 : decode (M_Tw_putAtom).cc 103 = .ok (.iload 5, 2) := by decide +kernel
theorem d_Tw_putAtom_105 : decode (M_Tw_putAtom).cc 105 = .ok (.invokevirtual 49, 3) := by decide +kernel
theorem d_Tw_putAtom_108 : decode (M_Tw_putAtom).cc 108 = .ok (.invokevirtual 76, 3) := by decide +kernel
theorem d_Tw_putAtom_111 : decode (M_Tw_putAtom).cc 111 = .ok (.aload_n 0, 1) := by decide +kernel
theorem d_Tw_putAtom_112 : decode (M_Tw_putAtom).cc 112 = .ok (.aload_n 1, 1) := by decide +kernel
theorem d_Tw_putAtom_113 : decode (M_Tw_putAtom).cc 113 = .ok (.aload_n 2, 1) := by decide +kernel
theorem d_Tw_putAtom_114 : decode (M_Tw_putAtom).cc 114 = .ok (.iload 5, 2) := by decide +kernel
theorem d_Tw_putAtom_116 : decode (M_Tw_putAtom).cc 116 = .ok (.iload 4, 2) := by decide +kernel
theorem d_Tw_putAtom_118 : decode (M_Tw_putAtom).cc 118 = .ok (.iconst 1, 1) := by decide +kernel
theorem d_Tw_putAtom_119 : decode (M_Tw_putAtom).cc 119 = .ok (.iadd, 1) := by decide +kernel
theorem d_Tw_putAtom_120 : decode (M_Tw_putAtom).cc 120 = .ok (.invokevirtual 40, 3) := by decide +kernel
theorem d_Tw_putAtom_123 : decode (M_Tw_putAtom).cc 123 = .ok (.return_, 1) := by decide +kernel
theorem d_Tw_putRings_0 : decode (M_Tw_putRings).cc 0 = .ok (.iconst 1, 1) := by decide +kernel
theorem d_Tw_putRings_1 : decode (M_Tw_putRings).cc 1 = .ok (.istore 4, 2) := by decide +kernel
theorem d_Tw_putRings_3 : decode (M_Tw_putRings).cc 3 = .ok (.iload 4, 2) := by decide +kernel
theorem d_Tw_putRings_5 : decode (M_Tw_putRings).cc 5 = .ok (.aload_n 0, 1) := by decide +kernel
theorem d_Tw_putRings_6 : decode (M_Tw_putRings).cc 6 = .ok (.getfield 21, 3) := by decide +kernel
theorem d_Tw_putRings_9 : decode (M_Tw_putRings).cc 9 = .ok (.if_icmp .gt 63, 3) := by decide +kernel
theorem d_Tw_putRings_12 : decode (M_Tw_putRings).cc 12 = .ok (.aload_n 0, 1) := by decide +kernel
theorem d_Tw_putRings_13 : decode (M_Tw_putRings).cc 13 = .ok (.getfield 15, 3) := by decide +kernel
theorem d_Tw_putRings_16 : decode (M_Tw_putRings).cc 16 = .ok (.iload 4, 2) := by decide +kernel
theorem d_Tw_putRings_18 : decode (M_Tw_putRings).cc 18 = .ok (.iaload, 1) := by decide +kernel
theorem d_Tw_putRings_19 : decode (M_Tw_putRings).cc 19 = .ok (.iload_n 3, 1) := by decide +kernel
theorem d_Tw_putRings_20 : decode (M_Tw_putRings).cc 20 = .ok (.if_icmp .eq 14, 3) := by decide +kernel
theorem d_Tw_putRings_23 : decode (M_Tw_putRings).cc 23 = .ok (.aload_n 0, 1) := by decide +kernel
theorem d_Tw_putRings_24 : decode (M_Tw_putRings).cc 24 = .ok (.getfield 18, 3) := by decide +kernel
theorem d_Tw_putRings_27 : decode (M_Tw_putRings).cc 27 = .ok (.iload 4, 2) := by decide +kernel
theorem d_Tw_putRings_29 : decode (M_Tw_putRings).cc 29 = .ok (.iaload, 1) := by decide +kernel
theorem d_Tw_putRings_30 : decode (M_Tw_putRings).cc 30 = .ok (.iload_n 3, 1) := by decide +kernel
theorem d_Tw_putRings_31 : decode (M_Tw_putRings).cc 31 = .ok (.if_icmp .ne 35, 3) := by decide +kernel
theorem d_Tw_putRings_34 : decode (M_Tw_putRings).cc 34 = .ok (.aload_n 1, 1) := by decide +kernel
theorem d_Tw_putRings_35 : decode (M_Tw_putRings).cc 35 = .ok (.aload_n 2, 1) := by decide +kernel
theorem d_Tw_putRings_36 : decode (M_Tw_putRings).cc 36 = .ok (.aload_n 0, 1) := by decide +kernel
theorem d_Tw_putRings_37 : decode (M_Tw_putRings).cc 37 = .ok (.getfield 15, 3) := by decide +kernel
theorem d_Tw_putRings_40 : decode (M_Tw_putRings).cc 40 = .ok (.iload 4, 2) := by decide +kernel
theorem d_Tw_putRings_42 : decode (M_Tw_putRings).cc 42 = .ok (.iaload, 1) := by decide +kernel
theorem d_Tw_putRings_43 : decode (M_Tw_putRings).cc 43 = .ok (.aload_n 0, 1) := by decide +kernel
theorem d_Tw_putRings_44 : decode (M_Tw_putRings).cc 44 = .ok (.getfield 18, 3) := by decide +kernel
theorem d_Tw_putRings_47 : decode (M_Tw_putRings).cc 47 = .ok (.iload 4, 2) := by decide +kernel
theorem d_Tw_putRings_49 : decode (M_Tw_putRings).cc 49 = .ok (.iaload, 1) := by decide +kernel
theorem d_Tw_putRings_50 : decode (M_Tw_putRings).cc 50 = .ok (.invokevirtual 49, 3) := by decide +kernel
theorem d_Tw_putRings_53 : decode (M_Tw_putRings).cc 53 = .ok (.invokevirtual 76, 3) := by decide +kernel
theorem d_Tw_putRings_56 : decode (M_Tw_putRings).cc 56 = .ok (.aload_n 1, 1) := by decide +kernel
theorem d_Tw_putRings_57 : decode (M_Tw_putRings).cc 57 = .ok (.bipush 48, 2) := by decide +kernel
theorem d_Tw_putRings_59 : decode (M_Tw_putRings).cc 59 = .ok (.iload 4, 2) := by decide +kernel
theorem d_Tw_putRings_61 : decode (M_Tw_putRings).cc 61 = .ok (.iadd, 1) := by decide +kernel
theorem d_Tw_putRings_62 : decode (M_Tw_putRings).cc 62 = .ok (.i2c, 1) := by decide +kernel
theorem d_Tw_putRings_63 : decode (M_Tw_putRings).cc 63 = .ok (.invokevirtual 72, 3) := by decide +kernel
theorem d_Tw_putRings_66 : decode (M_Tw_putRings).cc 66 = .ok (.iinc 4 1, 3) := by decide +kernel
theorem d_Tw_putRings_69 : decode (M_Tw_putRings).cc 69 = .ok (.goto (-66), 3) := by decide +kernel
theorem d_Tw_putRings_72 : decode (M_Tw_putRings).cc 72 = .ok (.return_, 1) := by decide +kernel
theorem d_Tw_lastFurtherOn_0 : decode (M_Tw_lastFurtherOn).cc 0 = .ok (.iconst 5, 1) := by decide +kernel
theorem d_Tw_lastFurtherOn_1 : decode (M_Tw_lastFurtherOn).cc 1 = .ok (.istore_n 2, 1) := by decide +kernel
theorem d_Tw_lastFurtherOn_2 : decode (M_Tw_lastFurtherOn).cc 2 = .ok (.iload_n 2, 1) := by decide +kernel
theorem d_Tw_lastFurtherOn_3 : decode (M_Tw_lastFurtherOn).cc 3 = .ok (.ifCond .lt 21, 3) := by decide +kernel
theorem d_Tw_lastFurtherOn_6 : decode (M_Tw_lastFurtherOn).cc 6 = .ok (.aload_n 0, 1) := by decide +kernel
theorem d_Tw_lastFurtherOn_7 : decode (M_Tw_lastFurtherOn).cc 7 = .ok (.getfield 9, 3) := by decide +kernel
theorem d_Tw_lastFurtherOn_10 : decode (M_Tw_lastFurtherOn).cc 10 = .ok (.iload_n 2, 1) := by decide +kernel
theorem d_Tw_lastFurtherOn_11 : decode (M_Tw_lastFurtherOn).cc 11 = .ok (.iaload, 1) := by decide +kernel
theorem d_Tw_lastFurtherOn_12 : decode (M_Tw_lastFurtherOn).cc 12 = .ok (.iload_n 1, 1) := by decide +kernel
theorem d_Tw_lastFurtherOn_13 : decode (M_Tw_lastFurtherOn).cc 13 = .ok (.if_icmp .ne 5, 3) := by decide +kernel
theorem d_Tw_lastFurtherOn_16 : decode (M_Tw_lastFurtherOn).cc 16 = .ok (.iload_n 2, 1) := by decide +kernel
theorem d_Tw_lastFurtherOn_17 : decode (M_Tw_lastFurtherOn).cc 17 = .ok (.ireturn, 1) := by decide +kernel
theorem d_Tw_lastFurtherOn_18 : decode (M_Tw_lastFurtherOn).cc 18 = .ok (.iinc 2 (-1), 3) := by decide +kernel
theorem d_Tw_lastFurtherOn_21 : decode (M_Tw_lastFurtherOn).cc 21 = .ok (.goto (-19), 3) := by decide +kernel
theorem d_Tw_lastFurtherOn_24 : decode (M_Tw_lastFurtherOn).cc 24 = .ok (.iconst (-1), 1) := by decide +kernel
theorem d_Tw_lastFurtherOn_25 : decode (M_Tw_lastFurtherOn).cc 25 = .ok (.ireturn, 1) := by decide +kernel
