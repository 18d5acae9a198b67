/-! what each instruction is (by names.py) -/
theorem d_Ln_init_0 : decode (M_Ln_init).cc 0 = .ok (.aload_n 0, 1) := by decide +kernel
theorem d_Ln_init_1 : decode (M_Ln_init).cc 1 = .ok (.invokespecial 3, 3) := by decide +kernel
theorem d_Ln_init_4 : decode (M_Ln_init).cc 4 = .ok (.aload_n 0, 1) := by decide +kernel
theorem d_Ln_init_5 : decode (M_Ln_init).cc 5 = .ok (.bipush 60, 2) := by decide +kernel
theorem d_Ln_init_7 : decode (M_Ln_init).cc 7 = .ok (.newarray .char, 2) := by decide +kernel
theorem d_Ln_init_9 : decode (M_Ln_init).cc 9 = .ok (.putfield 9, 3) := by decide +kernel
theorem d_Ln_init_12 : decode (M_Ln_init).cc 12 = .ok (.return_, 1) := by decide +kernel
theorem d_Fr_init_0 : decode (M_Fr_init).cc 0 = .ok (.aload_n 0, 1) := by decide +kernel
theorem d_Fr_init_1 : decode (M_Fr_init).cc 1 = .ok (.invokespecial 3, 3) := by decide +kernel
theorem d_Fr_init_4 : decode (M_Fr_init).cc 4 = .ok (.aload_n 0, 1) := by decide +kernel
theorem d_Fr_init_5 : decode (M_Fr_init).cc 5 = .ok (.bipush 10, 2) := by decide +kernel
theorem d_Fr_init_7 : decode (M_Fr_init).cc 7 = .ok (.newarray .int, 2) := by decide +kernel
theorem d_Fr_init_9 : decode (M_Fr_init).cc 9 = .ok (.putfield 9, 3) := by decide +kernel
theorem d_Fr_init_12 : decode (M_Fr_init).cc 12 = .ok (.return_, 1) := by decide +kernel
theorem d_Ml_init_0 : decode (M_Ml_init).cc 0 = .ok (.aload_n 0, 1) := by decide +kernel
theorem d_Ml_init_1 : decode (M_Ml_init).cc 1 = .ok (.invokespecial 3, 3) := by decide +kernel
theorem d_Ml_init_4 : decode (M_Ml_init).cc 4 = .ok (.aload_n 0, 1) := by decide +kernel
theorem d_Ml_init_5 : decode (M_Ml_init).cc 5 = .ok (.bipush 6, 2) := by decide +kernel
theorem d_Ml_init_7 : decode (M_Ml_init).cc 7 = .ok (.newarray .int, 2) := by decide +kernel
theorem d_Ml_init_9 : decode (M_Ml_init).cc 9 = .ok (.putfield 9, 3) := by decide +kernel
theorem d_Ml_init_12 : decode (M_Ml_init).cc 12 = .ok (.aload_n 0, 1) := by decide +kernel
theorem d_Ml_init_13 : decode (M_Ml_init).cc 13 = .ok (.bipush 6, 2) := by decide +kernel
theorem d_Ml_init_15 : decode (M_Ml_init).cc 15 = .ok (.newarray .int, 2) := by decide +kernel
theorem d_Ml_init_17 : decode (M_Ml_init).cc 17 = .ok (.putfield 15, 3) := by decide +kernel
theorem d_Ml_init_20 : decode (M_Ml_init).cc 20 = .ok (.aload_n 0, 1) := by decide +kernel
theorem d_Ml_init_21 : decode (M_Ml_init).cc 21 = .ok (.bipush 36, 2) := by decide +kernel
theorem d_Ml_init_23 : decode (M_Ml_init).cc 23 = .ok (.newarray .int, 2) := by decide +kernel
theorem d_Ml_init_25 : decode (M_Ml_init).cc 25 = .ok (.putfield 18, 3) := by decide +kernel
theorem d_Ml_init_28 : decode (M_Ml_init).cc 28 = .ok (.return_, 1) := by decide +kernel
theorem d_Ca_init_0 : decode (M_Ca_init).cc 0 = .ok (.aload_n 0, 1) := by decide +kernel
theorem d_Ca_init_1 : decode (M_Ca_init).cc 1 = .ok (.invokespecial 3, 3) := by decide +kernel
theorem d_Ca_init_4 : decode (M_Ca_init).cc 4 = .ok (.aload_n 0, 1) := by decide +kernel
theorem d_Ca_init_5 : decode (M_Ca_init).cc 5 = .ok (.bipush 6, 2) := by decide +kernel
theorem d_Ca_init_7 : decode (M_Ca_init).cc 7 = .ok (.newarray .int, 2) := by decide +kernel
theorem d_Ca_init_9 : decode (M_Ca_init).cc 9 = .ok (.putfield 9, 3) := by decide +kernel
theorem d_Ca_init_12 : decode (M_Ca_init).cc 12 = .ok (.aload_n 0, 1) := by decide +kernel
theorem d_Ca_init_13 : decode (M_Ca_init).cc 13 = .ok (.sipush 500, 3) := by decide +kernel
theorem d_Ca_init_16 : decode (M_Ca_init).cc 16 = .ok (.newarray .int, 2) := by decide +kernel
theorem d_Ca_init_18 : decode (M_Ca_init).cc 18 = .ok (.putfield 15, 3) := by decide +kernel
theorem d_Ca_init_21 : decode (M_Ca_init).cc 21 = .ok (.return_, 1) := by decide +kernel
theorem d_Ln_clear_0 : decode (M_Ln_clear).cc 0 = .ok (.aload_n 0, 1) := by decide +kernel
theorem d_Ln_clear_1 : decode (M_Ln_clear).cc 1 = .ok (.iconst 0, 1) := by decide +kernel
theorem d_Ln_clear_2 : decode (M_Ln_clear).cc 2 = .ok (.putfield 15, 3) := by decide +kernel
theorem d_Ln_clear_5 : decode (M_Ln_clear).cc 5 = .ok (.return_, 1) := by decide +kernel
theorem d_Fr_readFrom_0 : decode (M_Fr_readFrom).cc 0 = .ok (.aload_n 0, 1) := by decide +kernel
theorem d_Fr_readFrom_1 : decode (M_Fr_readFrom).cc 1 = .ok (.getfield 9, 3) := by decide +kernel
theorem d_Fr_readFrom_4 : decode (M_Fr_readFrom).cc 4 = .ok (.iconst 0, 1) := by decide +kernel
theorem d_Fr_readFrom_5 : decode (M_Fr_readFrom).cc 5 = .ok (.invokestatic 15, 3) := by decide +kernel
theorem d_Fr_readFrom_8 : decode (M_Fr_readFrom).cc 8 = .ok (.aload_n 0, 1) := by decide +kernel
theorem d_Fr_readFrom_9 : decode (M_Fr_readFrom).cc 9 = .ok (.iconst 0, 1) := by decide +kernel
theorem d_Fr_readFrom_10 : decode (M_Fr_readFrom).cc 10 = .ok (.putfield 21, 3) := by decide +kernel
theorem d_Fr_readFrom_13 : decode (M_Fr_readFrom).cc 13 = .ok (.aload_n 1, 1) := by decide +kernel
theorem d_Fr_readFrom_14 : decode (M_Fr_readFrom).cc 14 = .ok (.getfield 25, 3) := by decide +kernel
theorem d_Fr_readFrom_17 : decode (M_Fr_readFrom).cc 17 = .ok (.ifCond .ne 6, 3) := by decide +kernel
theorem d_Fr_readFrom_20 : decode (M_Fr_readFrom).cc 20 = .ok (.bipush (-2), 2) := by decide +kernel
theorem d_Fr_readFrom_22 : decode (M_Fr_readFrom).cc 22 = .ok (.ireturn, 1) := by decide +kernel
theorem d_Fr_readFrom_23 : decode (M_Fr_readFrom).cc 23 = .ok (.iconst 0, 1) := by decide +kernel
theorem d_Fr_readFrom_24 : decode (M_Fr_readFrom).cc 24 = .ok (.istore_n 2, 1) := by decide +kernel
theorem d_Fr_readFrom_25 : decode (M_Fr_readFrom).cc 25 = .ok (.iload_n 2, 1) := by decide +kernel
theorem d_Fr_readFrom_26 : decode (M_Fr_readFrom).cc 26 = .ok (.bipush 60, 2) := by decide +kernel
theorem d_Fr_readFrom_28 : decode (M_Fr_readFrom).cc 28 = .ok (.if_icmp .ge 33, 3) := by decide +kernel
theorem d_Fr_readFrom_31 : decode (M_Fr_readFrom).cc 31 = .ok (.aload_n 0, 1) := by decide +kernel
theorem d_Fr_readFrom_32 : decode (M_Fr_readFrom).cc 32 = .ok (.getfield 21, 3) := by decide +kernel
theorem d_Fr_readFrom_35 : decode (M_Fr_readFrom).cc 35 = .ok (.aload_n 1, 1) := by decide +kernel
theorem d_Fr_readFrom_36 : decode (M_Fr_readFrom).cc 36 = .ok (.getfield 25, 3) := by decide +kernel
theorem d_Fr_readFrom_39 : decode (M_Fr_readFrom).cc 39 = .ok (.if_icmp .ge 22, 3) := by decide +kernel
theorem d_Fr_readFrom_42 : decode (M_Fr_readFrom).cc 42 = .ok (.aload_n 0, 1) := by decide +kernel
theorem d_Fr_readFrom_43 : decode (M_Fr_readFrom).cc 43 = .ok (.aload_n 1, 1) := by decide +kernel
theorem d_Fr_readFrom_44 : decode (M_Fr_readFrom).cc 44 = .ok (.invokevirtual 30, 3) := by decide +kernel
theorem d_Fr_readFrom_47 : decode (M_Fr_readFrom).cc 47 = .ok (.istore_n 3, 1) := by decide +kernel
theorem d_Fr_readFrom_48 : decode (M_Fr_readFrom).cc 48 = .ok (.iload_n 3, 1) := by decide +kernel
theorem d_Fr_readFrom_49 : decode (M_Fr_readFrom).cc 49 = .ok (.iconst (-1), 1) := by decide +kernel
theorem d_Fr_readFrom_50 : decode (M_Fr_readFrom).cc 50 = .ok (.if_icmp .eq 5, 3) := by decide +kernel
theorem d_Fr_readFrom_53 : decode (M_Fr_readFrom).cc 53 = .ok (.iload_n 3, 1) := by decide +kernel
theorem d_Fr_readFrom_54 : decode (M_Fr_readFrom).cc 54 = .ok (.ireturn, 1) := by decide +kernel
theorem d_Fr_readFrom_55 : decode (M_Fr_readFrom).cc 55 = .ok (.iinc 2 1, 3) := by decide +kernel
theorem d_Fr_readFrom_58 : decode (M_Fr_readFrom).cc 58 = .ok (.goto (-33), 3) := by decide +kernel
theorem d_Fr_readFrom_61 : decode (M_Fr_readFrom).cc 61 = .ok (.aload_n 0, 1) := by decide +kernel
theorem d_Fr_readFrom_62 : decode (M_Fr_readFrom).cc 62 = .ok (.invokevirtual 34, 3) := by decide +kernel
theorem d_Fr_readFrom_65 : decode (M_Fr_readFrom).cc 65 = .ok (.istore_n 2, 1) := by decide +kernel
theorem d_Fr_readFrom_66 : decode (M_Fr_readFrom).cc 66 = .ok (.iload_n 2, 1) := by decide +kernel
theorem d_Fr_readFrom_67 : decode (M_Fr_readFrom).cc 67 = .ok (.iconst 1, 1) := by decide +kernel
theorem d_Fr_readFrom_68 : decode (M_Fr_readFrom).cc 68 = .ok (.if_icmp .lt 9, 3) := by decide +kernel
theorem d_Fr_readFrom_71 : decode (M_Fr_readFrom).cc 71 = .ok (.iload_n 2, 1) := by decide +kernel
theorem d_Fr_readFrom_72 : decode (M_Fr_readFrom).cc 72 = .ok (.bipush 6, 2) := by decide +kernel
theorem d_Fr_readFrom_74 : decode (M_Fr_readFrom).cc 74 = .ok (.if_icmp .le 8, 3) := by decide +kernel
theorem d_Fr_readFrom_77 : decode (M_Fr_readFrom).cc 77 = .ok (.bipush (-5), 2) := by decide +kernel
theorem d_Fr_readFrom_79 : decode (M_Fr_readFrom).cc 79 = .ok (.goto 4, 3) := by decide +kernel
theorem d_Fr_readFrom_82 : decode (M_Fr_readFrom).cc 82 = .ok (.iconst (-1), 1) := by decide +kernel
theorem d_Fr_readFrom_83 : decode (M_Fr_readFrom).cc 83 = .ok (.ireturn, 1) := by decide +kernel
theorem d_Ar_fill_0 : decode (M_Ar_fill).cc 0 = .ok (.iconst 0, 1) := by decide +kernel
theorem d_Ar_fill_1 : decode (M_Ar_fill).cc 1 = .ok (.istore_n 2, 1) := by decide +kernel
theorem d_Ar_fill_2 : decode (M_Ar_fill).cc 2 = .ok (.aload_n 0, 1) := by decide +kernel
theorem d_Ar_fill_3 : decode (M_Ar_fill).cc 3 = .ok (.arraylength, 1) := by decide +kernel
theorem d_Ar_fill_4 : decode (M_Ar_fill).cc 4 = .ok (.istore_n 3, 1) := by decide +kernel
theorem d_Ar_fill_5 : decode (M_Ar_fill).cc 5 = .ok (.iload_n 2, 1) := by decide +kernel
theorem d_Ar_fill_6 : decode (M_Ar_fill).cc 6 = .ok (.iload_n 3, 1) := by decide +kernel
theorem d_Ar_fill_7 : decode (M_Ar_fill).cc 7 = .ok (.if_icmp .ge 13, 3) := by decide +kernel
theorem d_Ar_fill_10 : decode (M_Ar_fill).cc 10 = .ok (.aload_n 0, 1) := by decide +kernel
theorem d_Ar_fill_11 : decode (M_Ar_fill).cc 11 = .ok (.iload_n 2, 1) := by decide +kernel
theorem d_Ar_fill_12 : decode (M_Ar_fill).cc 12 = .ok (.iload_n 1, 1) := by decide +kernel
theorem d_Ar_fill_13 : decode (M_Ar_fill).cc 13 = .ok (.iastore, 1) := by decide +kernel
theorem d_Ar_fill_14 : decode (M_Ar_fill).cc 14 = .ok (.iinc 2 1, 3) := by decide +kernel
theorem d_Ar_fill_17 : decode (M_Ar_fill).cc 17 = .ok (.goto (-12), 3) := by decide +kernel
theorem d_Ar_fill_20 : decode (M_Ar_fill).cc 20 = .ok (.return_, 1) := by decide +kernel
theorem d_Fr_readElement_0 : decode (M_Fr_readElement).cc 0 = .ok (.aload_n 1, 1) := by decide +kernel
theorem d_Fr_readElement_1 : decode (M_Fr_readElement).cc 1 = .ok (.aload_n 0, 1) := by decide +kernel
theorem d_Fr_readElement_2 : decode (M_Fr_readElement).cc 2 = .ok (.getfield 21, 3) := by decide +kernel
theorem d_Fr_readElement_5 : decode (M_Fr_readElement).cc 5 = .ok (.invokevirtual 38, 3) := by decide +kernel
theorem d_Fr_readElement_8 : decode (M_Fr_readElement).cc 8 = .ok (.istore_n 2, 1) := by decide +kernel
theorem d_Fr_readElement_9 : decode (M_Fr_readElement).cc 9 = .ok (.iload_n 2, 1) := by decide +kernel
theorem d_Fr_readElement_10 : decode (M_Fr_readElement).cc 10 = .ok (.iconst (-1), 1) := by decide +kernel
theorem d_Fr_readElement_11 : decode (M_Fr_readElement).cc 11 = .ok (.if_icmp .ne 6, 3) := by decide +kernel
theorem d_Fr_readElement_14 : decode (M_Fr_readElement).cc 14 = .ok (.bipush (-2), 2) := by decide +kernel
theorem d_Fr_readElement_16 : decode (M_Fr_readElement).cc 16 = .ok (.ireturn, 1) := by decide +kernel
theorem d_Fr_readElement_17 : decode (M_Fr_readElement).cc 17 = .ok (.aload_n 0, 1) := by decide +kernel
theorem d_Fr_readElement_18 : decode (M_Fr_readElement).cc 18 = .ok (.getfield 9, 3) := by decide +kernel
theorem d_Fr_readElement_21 : decode (M_Fr_readElement).cc 21 = .ok (.iload_n 2, 1) := by decide +kernel
theorem d_Fr_readElement_22 : decode (M_Fr_readElement).cc 22 = .ok (.iaload, 1) := by decide +kernel
theorem d_Fr_readElement_23 : decode (M_Fr_readElement).cc 23 = .ok (.ifCond .le 6, 3) := by decide +kernel
theorem d_Fr_readElement_26 : decode (M_Fr_readElement).cc 26 = .ok (.bipush (-3), 2) := by decide +kernel
theorem d_Fr_readElement_28 : decode (M_Fr_readElement).cc 28 = .ok (.ireturn, 1) := by decide +kernel
theorem d_Fr_readElement_29 : decode (M_Fr_readElement).cc 29 = .ok (.aload_n 0, 1) := by decide +kernel
theorem d_Fr_readElement_30 : decode (M_Fr_readElement).cc 30 = .ok (.dup, 1) := by decide +kernel
theorem d_Fr_readElement_31 : decode (M_Fr_readElement).cc 31 = .ok (.getfield 21, 3) := by decide +kernel
theorem d_Fr_readElement_34 : decode (M_Fr_readElement).cc 34 = .ok (.iload_n 2, 1) := by decide +kernel
theorem d_Fr_readElement_35 : decode (M_Fr_readElement).cc 35 = .ok (.invokestatic 42, 3) := by decide +kernel
theorem d_Fr_readElement_38 : decode (M_Fr_readElement).cc 38 = .ok (.iadd, 1) := by decide +kernel
theorem d_Fr_readElement_39 : decode (M_Fr_readElement).cc 39 = .ok (.putfield 21, 3) := by decide +kernel
theorem d_Fr_readElement_42 : decode (M_Fr_readElement).cc 42 = .ok (.aload_n 0, 1) := by decide +kernel
theorem d_Fr_readElement_43 : decode (M_Fr_readElement).cc 43 = .ok (.aload_n 1, 1) := by decide +kernel
theorem d_Fr_readElement_44 : decode (M_Fr_readElement).cc 44 = .ok (.invokevirtual 45, 3) := by decide +kernel
theorem d_Fr_readElement_47 : decode (M_Fr_readElement).cc 47 = .ok (.istore_n 3, 1) := by decide +kernel
theorem d_Fr_readElement_48 : decode (M_Fr_readElement).cc 48 = .ok (.iload_n 3, 1) := by decide +kernel
theorem d_Fr_readElement_49 : decode (M_Fr_readElement).cc 49 = .ok (.ifCond .ne 7, 3) := by decide +kernel
theorem d_Fr_readElement_52 : decode (M_Fr_readElement).cc 52 = .ok (.iconst 1, 1) := by decide +kernel
theorem d_Fr_readElement_53 : decode (M_Fr_readElement).cc 53 = .ok (.goto 9, 3) := by decide +kernel
theorem d_Fr_readElement_56 : decode (M_Fr_readElement).cc 56 = .ok (.aload_n 0, 1) := by decide +kernel
theorem d_Fr_readElement_57 : decode (M_Fr_readElement).cc 57 = .ok (.aload_n 1, 1) := by decide +kernel
theorem d_Fr_readElement_58 : decode (M_Fr_readElement).cc 58 = .ok (.iload_n 3, 1) := by decide +kernel
theorem d_Fr_readElement_59 : decode (M_Fr_readElement).cc 59 = .ok (.invokevirtual 48, 3) := by decide +kernel
theorem d_Fr_readElement_62 : decode (M_Fr_readElement).cc 62 = .ok (.istore 4, 2) := by decide +kernel
theorem d_Fr_readElement_64 : decode (M_Fr_readElement).cc 64 = .ok (.iload 4, 2) := by decide +kernel
theorem d_Fr_readElement_66 : decode (M_Fr_readElement).cc 66 = .ok (.iconst (-1), 1) := by decide +kernel
theorem d_Fr_readElement_67 : decode (M_Fr_readElement).cc 67 = .ok (.if_icmp .ne 6, 3) := by decide +kernel
theorem d_Fr_readElement_70 : decode (M_Fr_readElement).cc 70 = .ok (.bipush (-4), 2) := by decide +kernel
theorem d_Fr_readElement_72 : decode (M_Fr_readElement).cc 72 = .ok (.ireturn, 1) := by decide +kernel
theorem d_Fr_readElement_73 : decode (M_Fr_readElement).cc 73 = .ok (.aload_n 0, 1) := by decide +kernel
theorem d_Fr_readElement_74 : decode (M_Fr_readElement).cc 74 = .ok (.getfield 9, 3) := by decide +kernel
theorem d_Fr_readElement_77 : decode (M_Fr_readElement).cc 77 = .ok (.iload_n 2, 1) := by decide +kernel
theorem d_Fr_readElement_78 : decode (M_Fr_readElement).cc 78 = .ok (.iload 4, 2) := by decide +kernel
theorem d_Fr_readElement_80 : decode (M_Fr_readElement).cc 80 = .ok (.iastore, 1) := by decide +kernel
theorem d_Fr_readElement_81 : decode (M_Fr_readElement).cc 81 = .ok (.aload_n 0, 1) := by decide +kernel
theorem d_Fr_readElement_82 : decode (M_Fr_readElement).cc 82 = .ok (.dup, 1) := by decide +kernel
theorem d_Fr_readElement_83 : decode (M_Fr_readElement).cc 83 = .ok (.getfield 21, 3) := by decide +kernel
theorem d_Fr_readElement_86 : decode (M_Fr_readElement).cc 86 = .ok (.iload_n 3, 1) := by decide +kernel
theorem d_Fr_readElement_87 : decode (M_Fr_readElement).cc 87 = .ok (.iadd, 1) := by decide +kernel
theorem d_Fr_readElement_88 : decode (M_Fr_readElement).cc 88 = .ok (.putfield 21, 3) := by decide +kernel
theorem d_Fr_readElement_91 : decode (M_Fr_readElement).cc 91 = .ok (.iconst (-1), 1) := by decide +kernel
theorem d_Fr_readElement_92 : decode (M_Fr_readElement).cc 92 = .ok (.ireturn, 1) := by decide +kernel
theorem d_Ln_elementAt_0 : decode (M_Ln_elementAt).cc 0 = .ok (.iconst (-1), 1) := by decide +kernel
theorem d_Ln_elementAt_1 : decode (M_Ln_elementAt).cc 1 = .ok (.istore_n 2, 1) := by decide +kernel
theorem d_Ln_elementAt_2 : decode (M_Ln_elementAt).cc 2 = .ok (.iconst 0, 1) := by decide +kernel
theorem d_Ln_elementAt_3 : decode (M_Ln_elementAt).cc 3 = .ok (.istore_n 3, 1) := by decide +kernel
theorem d_Ln_elementAt_4 : decode (M_Ln_elementAt).cc 4 = .ok (.iload_n 3, 1) := by decide +kernel
theorem d_Ln_elementAt_5 : decode (M_Ln_elementAt).cc 5 = .ok (.bipush 10, 2) := by decide +kernel
theorem d_Ln_elementAt_7 : decode (M_Ln_elementAt).cc 7 = .ok (.if_icmp .ge 52, 3) := by decide +kernel
theorem d_Ln_elementAt_10 : decode (M_Ln_elementAt).cc 10 = .ok (.getstatic 19, 3) := by decide +kernel
theorem d_Ln_elementAt_13 : decode (M_Ln_elementAt).cc 13 = .ok (.iload_n 3, 1) := by decide +kernel
theorem d_Ln_elementAt_14 : decode (M_Ln_elementAt).cc 14 = .ok (.caload, 1) := by decide +kernel
theorem d_Ln_elementAt_15 : decode (M_Ln_elementAt).cc 15 = .ok (.aload_n 0, 1) := by decide +kernel
theorem d_Ln_elementAt_16 : decode (M_Ln_elementAt).cc 16 = .ok (.iload_n 1, 1) := by decide +kernel
theorem d_Ln_elementAt_17 : decode (M_Ln_elementAt).cc 17 = .ok (.invokevirtual 22, 3) := by decide +kernel
theorem d_Ln_elementAt_20 : decode (M_Ln_elementAt).cc 20 = .ok (.if_icmp .ne 33, 3) := by decide +kernel
theorem d_Ln_elementAt_23 : decode (M_Ln_elementAt).cc 23 = .ok (.getstatic 26, 3) := by decide +kernel
theorem d_Ln_elementAt_26 : decode (M_Ln_elementAt).cc 26 = .ok (.iload_n 3, 1) := by decide +kernel
theorem d_Ln_elementAt_27 : decode (M_Ln_elementAt).cc 27 = .ok (.caload, 1) := by decide +kernel
theorem d_Ln_elementAt_28 : decode (M_Ln_elementAt).cc 28 = .ok (.ifCond .ne 8, 3) := by decide +kernel
theorem d_Ln_elementAt_31 : decode (M_Ln_elementAt).cc 31 = .ok (.iload_n 3, 1) := by decide +kernel
theorem d_Ln_elementAt_32 : decode (M_Ln_elementAt).cc 32 = .ok (.istore_n 2, 1) := by decide +kernel
theorem d_Ln_elementAt_33 : decode (M_Ln_elementAt).cc 33 = .ok (.goto 20, 3) := by decide +kernel
theorem d_Ln_elementAt_36 : decode (M_Ln_elementAt).cc 36 = .ok (.getstatic 26, 3) := by decide +kernel
theorem d_Ln_elementAt_39 : decode (M_Ln_elementAt).cc 39 = .ok (.iload_n 3, 1) := by decide +kernel
theorem d_Ln_elementAt_40 : decode (M_Ln_elementAt).cc 40 = .ok (.caload, 1) := by decide +kernel
theorem d_Ln_elementAt_41 : decode (M_Ln_elementAt).cc 41 = .ok (.aload_n 0, 1) := by decide +kernel
theorem d_Ln_elementAt_42 : decode (M_Ln_elementAt).cc 42 = .ok (.iload_n 1, 1) := by decide +kernel
theorem d_Ln_elementAt_43 : decode (M_Ln_elementAt).cc 43 = .ok (.iconst 1, 1) := by decide +kernel
theorem d_Ln_elementAt_44 : decode (M_Ln_elementAt).cc 44 = .ok (.iadd, 1) := by decide +kernel
theorem d_Ln_elementAt_45 : decode (M_Ln_elementAt).cc 45 = .ok (.invokevirtual 22, 3) := by decide +kernel
theorem d_Ln_elementAt_48 : decode (M_Ln_elementAt).cc 48 = .ok (.if_icmp .ne 5, 3) := by decide +kernel
theorem d_Ln_elementAt_51 : decode (M_Ln_elementAt).cc 51 = .ok (.iload_n 3, 1) := by decide +kernel
theorem d_Ln_elementAt_52 : decode (M_Ln_elementAt).cc 52 = .ok (.ireturn, 1) := by decide +kernel
theorem d_Ln_elementAt_53 : decode (M_Ln_elementAt).cc 53 = .ok (.iinc 3 1, 3) := by decide +kernel
theorem d_Ln_elementAt_56 : decode (M_Ln_elementAt).cc 56 = .ok (.goto (-52), 3) := by decide +kernel
theorem d_Ln_elementAt_59 : decode (M_Ln_elementAt).cc 59 = .ok (.iload_n 2, 1) := by decide +kernel
theorem d_Ln_elementAt_60 : decode (M_Ln_elementAt).cc 60 = .ok (.ireturn, 1) := by decide +kernel
theorem d_Ln_at_0 : decode (M_Ln_at).cc 0 = .ok (.iload_n 1, 1) := by decide +kernel
theorem d_Ln_at_1 : decode (M_Ln_at).cc 1 = .ok (.ifCond .lt 20, 3) := by decide +kernel
theorem d_Ln_at_4 : decode (M_Ln_at).cc 4 = .ok (.iload_n 1, 1) := by decide +kernel
theorem d_Ln_at_5 : decode (M_Ln_at).cc 5 = .ok (.aload_n 0, 1) := by decide +kernel
theorem d_Ln_at_6 : decode (M_Ln_at).cc 6 = .ok (.getfield 15, 3) := by decide +kernel
theorem d_Ln_at_9 : decode (M_Ln_at).cc 9 = .ok (.if_icmp .ge 12, 3) := by decide +kernel
theorem d_Ln_at_12 : decode (M_Ln_at).cc 12 = .ok (.aload_n 0, 1) := by decide +kernel
theorem d_Ln_at_13 : decode (M_Ln_at).cc 13 = .ok (.getfield 9, 3) := by decide +kernel
theorem d_Ln_at_16 : decode (M_Ln_at).cc 16 = .ok (.iload_n 1, 1) := by decide +kernel
theorem d_Ln_at_17 : decode (M_Ln_at).cc 17 = .ok (.caload, 1) := by decide +kernel
theorem d_Ln_at_18 : decode (M_Ln_at).cc 18 = .ok (.goto 5, 3) := by decide +kernel
theorem d_Ln_at_21 : decode (M_Ln_at).cc 21 = .ok (.bipush 32, 2) := by decide +kernel
theorem d_Ln_at_23 : decode (M_Ln_at).cc 23 = .ok (.ireturn, 1) := by decide +kernel
theorem d_Fr_digitsAhead_0 : decode (M_Fr_digitsAhead).cc 0 = .ok (.aload_n 0, 1) := by decide +kernel
theorem d_Fr_digitsAhead_1 : decode (M_Fr_digitsAhead).cc 1 = .ok (.getfield 21, 3) := by decide +kernel
theorem d_Fr_digitsAhead_4 : decode (M_Fr_digitsAhead).cc 4 = .ok (.istore_n 2, 1) := by decide +kernel
theorem d_Fr_digitsAhead_5 : decode (M_Fr_digitsAhead).cc 5 = .ok (.iload_n 2, 1) := by decide +kernel
theorem d_Fr_digitsAhead_6 : decode (M_Fr_digitsAhead).cc 6 = .ok (.aload_n 1, 1) := by decide +kernel
theorem d_Fr_digitsAhead_7 : decode (M_Fr_digitsAhead).cc 7 = .ok (.getfield 25, 3) := by decide +kernel
theorem d_Fr_digitsAhead_10 : decode (M_Fr_digitsAhead).cc 10 = .ok (.if_icmp .ge 20, 3) := by decide +kernel
theorem d_Fr_digitsAhead_13 : decode (M_Fr_digitsAhead).cc 13 = .ok (.aload_n 1, 1) := by decide +kernel
theorem d_Fr_digitsAhead_14 : decode (M_Fr_digitsAhead).cc 14 = .ok (.iload_n 2, 1) := by decide +kernel
theorem d_Fr_digitsAhead_15 : decode (M_Fr_digitsAhead).cc 15 = .ok (.invokevirtual 52, 3) := by decide +kernel
theorem d_Fr_digitsAhead_18 : decode (M_Fr_digitsAhead).cc 18 = .ok (.invokestatic 55, 3) := by decide +kernel
theorem d_Fr_digitsAhead_21 : decode (M_Fr_digitsAhead).cc 21 = .ok (.ifCond .eq 9, 3) := by decide +kernel
theorem d_Fr_digitsAhead_24 : decode (M_Fr_digitsAhead).cc 24 = .ok (.iinc 2 1, 3) := by decide +kernel
theorem d_Fr_digitsAhead_27 : decode (M_Fr_digitsAhead).cc 27 = .ok (.goto (-22), 3) := by decide +kernel
theorem d_Fr_digitsAhead_30 : decode (M_Fr_digitsAhead).cc 30 = .ok (.iload_n 2, 1) := by decide +kernel
theorem d_Fr_digitsAhead_31 : decode (M_Fr_digitsAhead).cc 31 = .ok (.aload_n 0, 1) := by decide +kernel
theorem d_Fr_digitsAhead_32 : decode (M_Fr_digitsAhead).cc 32 = .ok (.getfield 21, 3) := by decide +kernel
theorem d_Fr_digitsAhead_35 : decode (M_Fr_digitsAhead).cc 35 = .ok (.isub, 1) := by decide +kernel
theorem d_Fr_digitsAhead_36 : decode (M_Fr_digitsAhead).cc 36 = .ok (.ireturn, 1) := by decide +kernel
theorem d_Fr_numberAhead_0 : decode (M_Fr_numberAhead).cc 0 = .ok (.iload_n 2, 1) := by decide +kernel
theorem d_Fr_numberAhead_1 : decode (M_Fr_numberAhead).cc 1 = .ok (.iconst 2, 1) := by decide +kernel
theorem d_Fr_numberAhead_2 : decode (M_Fr_numberAhead).cc 2 = .ok (.if_icmp .gt 16, 3) := by decide +kernel
theorem d_Fr_numberAhead_5 : decode (M_Fr_numberAhead).cc 5 = .ok (.aload_n 1, 1) := by decide +kernel
theorem d_Fr_numberAhead_6 : decode (M_Fr_numberAhead).cc 6 = .ok (.aload_n 0, 1) := by decide +kernel
theorem d_Fr_numberAhead_7 : decode (M_Fr_numberAhead).cc 7 = .ok (.getfield 21, 3) := by decide +kernel
theorem d_Fr_numberAhead_10 : decode (M_Fr_numberAhead).cc 10 = .ok (.invokevirtual 52, 3) := by decide +kernel
theorem d_Fr_numberAhead_13 : decode (M_Fr_numberAhead).cc 13 = .ok (.bipush 48, 2) := by decide +kernel
theorem d_Fr_numberAhead_15 : decode (M_Fr_numberAhead).cc 15 = .ok (.if_icmp .ne 5, 3) := by decide +kernel
theorem d_Fr_numberAhead_18 : decode (M_Fr_numberAhead).cc 18 = .ok (.iconst (-1), 1) := by decide +kernel
theorem d_Fr_numberAhead_19 : decode (M_Fr_numberAhead).cc 19 = .ok (.ireturn, 1) := by decide +kernel
theorem d_Fr_numberAhead_20 : decode (M_Fr_numberAhead).cc 20 = .ok (.aload_n 1, 1) := by decide +kernel
theorem d_Fr_numberAhead_21 : decode (M_Fr_numberAhead).cc 21 = .ok (.aload_n 0, 1) := by decide +kernel
theorem d_Fr_numberAhead_22 : decode (M_Fr_numberAhead).cc 22 = .ok (.getfield 21, 3) := by decide +kernel
theorem d_Fr_numberAhead_25 : decode (M_Fr_numberAhead).cc 25 = .ok (.invokevirtual 52, 3) := by decide +kernel
theorem d_Fr_numberAhead_28 : decode (M_Fr_numberAhead).cc 28 = .ok (.bipush 48, 2) := by decide +kernel
theorem d_Fr_numberAhead_30 : decode (M_Fr_numberAhead).cc 30 = .ok (.isub, 1) := by decide +kernel
theorem d_Fr_numberAhead_31 : decode (M_Fr_numberAhead).cc 31 = .ok (.istore_n 3, 1) := by decide +kernel
theorem d_Fr_numberAhead_32 : decode (M_Fr_numberAhead).cc 32 = .ok (.iload_n 2, 1) := by decide +kernel
theorem d_Fr_numberAhead_33 : decode (M_Fr_numberAhead).cc 33 = .ok (.iconst 2, 1) := by decide +kernel
theorem d_Fr_numberAhead_34 : decode (M_Fr_numberAhead).cc 34 = .ok (.if_icmp .ne 22, 3) := by decide +kernel
theorem d_Fr_numberAhead_37 : decode (M_Fr_numberAhead).cc 37 = .ok (.iload_n 3, 1) := by decide +kernel
theorem d_Fr_numberAhead_38 : decode (M_Fr_numberAhead).cc 38 = .ok (.bipush 10, 2) := by decide +kernel
theorem d_Fr_numberAhead_40 : decode (M_Fr_numberAhead).cc 40 = .ok (.imul, 1) := by decide +kernel
theorem d_Fr_numberAhead_41 : decode (M_Fr_numberAhead).cc 41 = .ok (.aload_n 1, 1) := by decide +kernel
theorem d_Fr_numberAhead_42 : decode (M_Fr_numberAhead).cc 42 = .ok (.aload_n 0, 1) := by decide +kernel
theorem d_Fr_numberAhead_43 : decode (M_Fr_numberAhead).cc 43 = .ok (.getfield 21, 3) := by decide +kernel
theorem d_Fr_numberAhead_46 : decode (M_Fr_numberAhead).cc 46 = .ok (.iconst 1, 1) := by decide +kernel
theorem d_Fr_numberAhead_47 : decode (M_Fr_numberAhead).cc 47 = .ok (.iadd, 1) := by decide +kernel
theorem d_Fr_numberAhead_48 : decode (M_Fr_numberAhead).cc 48 = .ok (.invokevirtual 52, 3) := by decide +kernel
theorem d_Fr_numberAhead_51 : decode (M_Fr_numberAhead).cc 51 = .ok (.iadd, 1) := by decide +kernel
theorem d_Fr_numberAhead_52 : decode (M_Fr_numberAhead).cc 52 = .ok (.bipush 48, 2) := by decide +kernel
theorem d_Fr_numberAhead_54 : decode (M_Fr_numberAhead).cc 54 = .ok (.isub, 1) := by decide +kernel
theorem d_Fr_numberAhead_55 : decode (M_Fr_numberAhead).cc 55 = .ok (.istore_n 3, 1) := by decide +kernel
theorem d_Fr_numberAhead_56 : decode (M_Fr_numberAhead).cc 56 = .ok (.iload_n 3, 1) := by decide +kernel
theorem d_Fr_numberAhead_57 : decode (M_Fr_numberAhead).cc 57 = .ok (.iconst 1, 1) := by decide +kernel
theorem d_Fr_numberAhead_58 : decode (M_Fr_numberAhead).cc 58 = .ok (.if_icmp .ne 7, 3) := by decide +kernel
theorem d_Fr_numberAhead_61 : decode (M_Fr_numberAhead).cc 61 = .ok (.iconst (-1), 1) := by decide +kernel
theorem d_Fr_numberAhead_62 : decode (M_Fr_numberAhead).cc 62 = .ok (.goto 4, 3) := by decide +kernel
theorem d_Fr_numberAhead_65 : decode (M_Fr_numberAhead).cc 65 = .ok (.iload_n 3, 1) := by decide +kernel
theorem d_Fr_numberAhead_66 : decode (M_Fr_numberAhead).cc 66 = .ok (.ireturn, 1) := by decide +kernel
theorem d_Fr_heavyAtoms_0 : decode (M_Fr_heavyAtoms).cc 0 = .ok (.iconst 0, 1) := by decide +kernel
theorem d_Fr_heavyAtoms_1 : decode (M_Fr_heavyAtoms).cc 1 = .ok (.istore_n 1, 1) := by decide +kernel
theorem d_Fr_heavyAtoms_2 : decode (M_Fr_heavyAtoms).cc 2 = .ok (.iconst 0, 1) := by decide +kernel
theorem d_Fr_heavyAtoms_3 : decode (M_Fr_heavyAtoms).cc 3 = .ok (.istore_n 2, 1) := by decide +kernel
theorem d_Fr_heavyAtoms_4 : decode (M_Fr_heavyAtoms).cc 4 = .ok (.iload_n 2, 1) := by decide +kernel
theorem d_Fr_heavyAtoms_5 : decode (M_Fr_heavyAtoms).cc 5 = .ok (.bipush 10, 2) := by decide +kernel
theorem d_Fr_heavyAtoms_7 : decode (M_Fr_heavyAtoms).cc 7 = .ok (.if_icmp .ge 24, 3) := by decide +kernel
theorem d_Fr_heavyAtoms_10 : decode (M_Fr_heavyAtoms).cc 10 = .ok (.iload_n 2, 1) := by decide +kernel
theorem d_Fr_heavyAtoms_11 : decode (M_Fr_heavyAtoms).cc 11 = .ok (.bipush 9, 2) := by decide +kernel
theorem d_Fr_heavyAtoms_13 : decode (M_Fr_heavyAtoms).cc 13 = .ok (.if_icmp .eq 12, 3) := by decide +kernel
theorem d_Fr_heavyAtoms_16 : decode (M_Fr_heavyAtoms).cc 16 = .ok (.iload_n 1, 1) := by decide +kernel
theorem d_Fr_heavyAtoms_17 : decode (M_Fr_heavyAtoms).cc 17 = .ok (.aload_n 0, 1) := by decide +kernel
theorem d_Fr_heavyAtoms_18 : decode (M_Fr_heavyAtoms).cc 18 = .ok (.getfield 9, 3) := by decide +kernel
theorem d_Fr_heavyAtoms_21 : decode (M_Fr_heavyAtoms).cc 21 = .ok (.iload_n 2, 1) := by decide +kernel
theorem d_Fr_heavyAtoms_22 : decode (M_Fr_heavyAtoms).cc 22 = .ok (.iaload, 1) := by decide +kernel
theorem d_Fr_heavyAtoms_23 : decode (M_Fr_heavyAtoms).cc 23 = .ok (.iadd, 1) := by decide +kernel
theorem d_Fr_heavyAtoms_24 : decode (M_Fr_heavyAtoms).cc 24 = .ok (.istore_n 1, 1) := by decide +kernel
theorem d_Fr_heavyAtoms_25 : decode (M_Fr_heavyAtoms).cc 25 = .ok (.iinc 2 1, 3) := by decide +kernel
theorem d_Fr_heavyAtoms_28 : decode (M_Fr_heavyAtoms).cc 28 = .ok (.goto (-24), 3) := by decide +kernel
theorem d_Fr_heavyAtoms_31 : decode (M_Fr_heavyAtoms).cc 31 = .ok (.iload_n 1, 1) := by decide +kernel
theorem d_Fr_heavyAtoms_32 : decode (M_Fr_heavyAtoms).cc 32 = .ok (.ireturn, 1) := by decide +kernel
theorem d_Ca_take_0 : decode (M_Ca_take).cc 0 = .ok (.aload_n 0, 1) := by decide +kernel
theorem d_Ca_take_1 : decode (M_Ca_take).cc 1 = .ok (.iconst 0, 1) := by decide +kernel
theorem d_Ca_take_2 : decode (M_Ca_take).cc 2 = .ok (.putfield 18, 3) := by decide +kernel
theorem d_Ca_take_5 : decode (M_Ca_take).cc 5 = .ok (.aload_n 0, 1) := by decide +kernel
theorem d_Ca_take_6 : decode (M_Ca_take).cc 6 = .ok (.iconst 0, 1) := by decide +kernel
theorem d_Ca_take_7 : decode (M_Ca_take).cc 7 = .ok (.putfield 22, 3) := by decide +kernel
theorem d_Ca_take_10 : decode (M_Ca_take).cc 10 = .ok (.aload_n 0, 1) := by decide +kernel
theorem d_Ca_take_11 : decode (M_Ca_take).cc 11 = .ok (.aload_n 1, 1) := by decide +kernel
theorem d_Ca_take_12 : decode (M_Ca_take).cc 12 = .ok (.bipush 9, 2) := by decide +kernel
theorem d_Ca_take_14 : decode (M_Ca_take).cc 14 = .ok (.iaload, 1) := by decide +kernel
theorem d_Ca_take_15 : decode (M_Ca_take).cc 15 = .ok (.putfield 25, 3) := by decide +kernel
theorem d_Ca_take_18 : decode (M_Ca_take).cc 18 = .ok (.iconst 0, 1) := by decide +kernel
theorem d_Ca_take_19 : decode (M_Ca_take).cc 19 = .ok (.istore_n 2, 1) := by decide +kernel
theorem d_Ca_take_20 : decode (M_Ca_take).cc 20 = .ok (.iload_n 2, 1) := by decide +kernel
theorem d_Ca_take_21 : decode (M_Ca_take).cc 21 = .ok (.bipush 9, 2) := by decide +kernel
theorem d_Ca_take_23 : decode (M_Ca_take).cc 23 = .ok (.if_icmp .ge 53, 3) := by decide +kernel
theorem d_Ca_take_26 : decode (M_Ca_take).cc 26 = .ok (.iconst 0, 1) := by decide +kernel
theorem d_Ca_take_27 : decode (M_Ca_take).cc 27 = .ok (.istore_n 3, 1) := by decide +kernel
theorem d_Ca_take_28 : decode (M_Ca_take).cc 28 = .ok (.iload_n 3, 1) := by decide +kernel
theorem d_Ca_take_29 : decode (M_Ca_take).cc 29 = .ok (.aload_n 1, 1) := by decide +kernel
theorem d_Ca_take_30 : decode (M_Ca_take).cc 30 = .ok (.iload_n 2, 1) := by decide +kernel
theorem d_Ca_take_31 : decode (M_Ca_take).cc 31 = .ok (.iaload, 1) := by decide +kernel
theorem d_Ca_take_32 : decode (M_Ca_take).cc 32 = .ok (.if_icmp .ge 38, 3) := by decide +kernel
theorem d_Ca_take_35 : decode (M_Ca_take).cc 35 = .ok (.aload_n 0, 1) := by decide +kernel
theorem d_Ca_take_36 : decode (M_Ca_take).cc 36 = .ok (.getfield 18, 3) := by decide +kernel
theorem d_Ca_take_39 : decode (M_Ca_take).cc 39 = .ok (.bipush 6, 2) := by decide +kernel
theorem d_Ca_take_41 : decode (M_Ca_take).cc 41 = .ok (.if_icmp .ge 29, 3) := by decide +kernel
theorem d_Ca_take_44 : decode (M_Ca_take).cc 44 = .ok (.aload_n 0, 1) := by decide +kernel
theorem d_Ca_take_45 : decode (M_Ca_take).cc 45 = .ok (.getfield 9, 3) := by decide +kernel
theorem d_Ca_take_48 : decode (M_Ca_take).cc 48 = .ok (.aload_n 0, 1) := by decide +kernel
theorem d_Ca_take_49 : decode (M_Ca_take).cc 49 = .ok (.getfield 18, 3) := by decide +kernel
theorem d_Ca_take_52 : decode (M_Ca_take).cc 52 = .ok (.iload_n 2, 1) := by decide +kernel
theorem d_Ca_take_53 : decode (M_Ca_take).cc 53 = .ok (.iastore, 1) := by decide +kernel
theorem d_Ca_take_54 : decode (M_Ca_take).cc 54 = .ok (.aload_n 0, 1) := by decide +kernel
theorem d_Ca_take_55 : decode (M_Ca_take).cc 55 = .ok (.dup, 1) := by decide +kernel
theorem d_Ca_take_56 : decode (M_Ca_take).cc 56 = .ok (.getfield 18, 3) := by decide +kernel
theorem d_Ca_take_59 : decode (M_Ca_take).cc 59 = .ok (.iconst 1, 1) := by decide +kernel
theorem d_Ca_take_60 : decode (M_Ca_take).cc 60 = .ok (.iadd, 1) := by decide +kernel
theorem d_Ca_take_61 : decode (M_Ca_take).cc 61 = .ok (.putfield 18, 3) := by decide +kernel
theorem d_Ca_take_64 : decode (M_Ca_take).cc 64 = .ok (.iinc 3 1, 3) := by decide +kernel
theorem d_Ca_take_67 : decode (M_Ca_take).cc 67 = .ok (.goto (-39), 3) := by decide +kernel
theorem d_Ca_take_70 : decode (M_Ca_take).cc 70 = .ok (.iinc 2 1, 3) := by decide +kernel
theorem d_Ca_take_73 : decode (M_Ca_take).cc 73 = .ok (.goto (-53), 3) := by decide +kernel
theorem d_Ca_take_76 : decode (M_Ca_take).cc 76 = .ok (.return_, 1) := by decide +kernel
theorem d_Ca_hasSameFormula_0 : decode (M_Ca_hasSameFormula).cc 0 = .ok (.aload_n 0, 1) := by decide +kernel
theorem d_Ca_hasSameFormula_1 : decode (M_Ca_hasSameFormula).cc 1 = .ok (.getfield 18, 3) := by decide +kernel
theorem d_Ca_hasSameFormula_4 : decode (M_Ca_hasSameFormula).cc 4 = .ok (.aload_n 1, 1) := by decide +kernel
theorem d_Ca_hasSameFormula_5 : decode (M_Ca_hasSameFormula).cc 5 = .ok (.getfield 18, 3) := by decide +kernel
theorem d_Ca_hasSameFormula_8 : decode (M_Ca_hasSameFormula).cc 8 = .ok (.if_icmp .ne 14, 3) := by decide +kernel
theorem d_Ca_hasSameFormula_11 : decode (M_Ca_hasSameFormula).cc 11 = .ok (.aload_n 0, 1) := by decide +kernel
theorem d_Ca_hasSameFormula_12 : decode (M_Ca_hasSameFormula).cc 12 = .ok (.getfield 25, 3) := by decide +kernel
theorem d_Ca_hasSameFormula_15 : decode (M_Ca_hasSameFormula).cc 15 = .ok (.aload_n 1, 1) := by decide +kernel
theorem d_Ca_hasSameFormula_16 : decode (M_Ca_hasSameFormula).cc 16 = .ok (.getfield 25, 3) := by decide +kernel
theorem d_Ca_hasSameFormula_19 : decode (M_Ca_hasSameFormula).cc 19 = .ok (.if_icmp .eq 5, 3) := by decide +kernel
theorem d_Ca_hasSameFormula_22 : decode (M_Ca_hasSameFormula).cc 22 = .ok (.iconst 0, 1) := by decide +kernel
theorem d_Ca_hasSameFormula_23 : decode (M_Ca_hasSameFormula).cc 23 = .ok (.ireturn, 1) := by decide +kernel
theorem d_Ca_hasSameFormula_24 : decode (M_Ca_hasSameFormula).cc 24 = .ok (.iconst 0, 1) := by decide +kernel
theorem d_Ca_hasSameFormula_25 : decode (M_Ca_hasSameFormula).cc 25 = .ok (.istore_n 2, 1) := by decide +kernel
theorem d_Ca_hasSameFormula_26 : decode (M_Ca_hasSameFormula).cc 26 = .ok (.iload_n 2, 1) := by decide +kernel
theorem d_Ca_hasSameFormula_27 : decode (M_Ca_hasSameFormula).cc 27 = .ok (.aload_n 0, 1) := by decide +kernel
theorem d_Ca_hasSameFormula_28 : decode (M_Ca_hasSameFormula).cc 28 = .ok (.getfield 18, 3) := by decide +kernel
theorem d_Ca_hasSameFormula_31 : decode (M_Ca_hasSameFormula).cc 31 = .ok (.if_icmp .ge 26, 3) := by decide +kernel
theorem d_Ca_hasSameFormula_34 : decode (M_Ca_hasSameFormula).cc 34 = .ok (.aload_n 0, 1) := by decide +kernel
theorem d_Ca_hasSameFormula_35 : decode (M_Ca_hasSameFormula).cc 35 = .ok (.getfield 9, 3) := by decide +kernel
theorem d_Ca_hasSameFormula_38 : decode (M_Ca_hasSameFormula).cc 38 = .ok (.iload_n 2, 1) := by decide +kernel
theorem d_Ca_hasSameFormula_39 : decode (M_Ca_hasSameFormula).cc 39 = .ok (.iaload, 1) := by decide +kernel
theorem d_Ca_hasSameFormula_40 : decode (M_Ca_hasSameFormula).cc 40 = .ok (.aload_n 1, 1) := by decide +kernel
theorem d_Ca_hasSameFormula_41 : decode (M_Ca_hasSameFormula).cc 41 = .ok (.getfield 9, 3) := by decide +kernel
theorem d_Ca_hasSameFormula_44 : decode (M_Ca_hasSameFormula).cc 44 = .ok (.iload_n 2, 1) := by decide +kernel
theorem d_Ca_hasSameFormula_45 : decode (M_Ca_hasSameFormula).cc 45 = .ok (.iaload, 1) := by decide +kernel
theorem d_Ca_hasSameFormula_46 : decode (M_Ca_hasSameFormula).cc 46 = .ok (.if_icmp .eq 5, 3) := by decide +kernel
theorem d_Ca_hasSameFormula_49 : decode (M_Ca_hasSameFormula).cc 49 = .ok (.iconst 0, 1) := by decide +kernel
theorem d_Ca_hasSameFormula_50 : decode (M_Ca_hasSameFormula).cc 50 = .ok (.ireturn, 1) := by decide +kernel
theorem d_Ca_hasSameFormula_51 : decode (M_Ca_hasSameFormula).cc 51 = .ok (.iinc 2 1, 3) := by decide +kernel
theorem d_Ca_hasSameFormula_54 : decode (M_Ca_hasSameFormula).cc 54 = .ok (.goto (-28), 3) := by decide +kernel
theorem d_Ca_hasSameFormula_57 : decode (M_Ca_hasSameFormula).cc 57 = .ok (.iconst 1, 1) := by decide +kernel
theorem d_Ca_hasSameFormula_58 : decode (M_Ca_hasSameFormula).cc 58 = .ok (.ireturn, 1) := by decide +kernel
theorem d_Ml_addAtomsOf_0 : decode (M_Ml_addAtomsOf).cc 0 = .ok (.aload_n 0, 1) := by decide +kernel
theorem d_Ml_addAtomsOf_1 : decode (M_Ml_addAtomsOf).cc 1 = .ok (.invokevirtual 34, 3) := by decide +kernel
theorem d_Ml_addAtomsOf_4 : decode (M_Ml_addAtomsOf).cc 4 = .ok (.iconst 0, 1) := by decide +kernel
theorem d_Ml_addAtomsOf_5 : decode (M_Ml_addAtomsOf).cc 5 = .ok (.istore_n 2, 1) := by decide +kernel
theorem d_Ml_addAtomsOf_6 : decode (M_Ml_addAtomsOf).cc 6 = .ok (.iload_n 2, 1) := by decide +kernel
theorem d_Ml_addAtomsOf_7 : decode (M_Ml_addAtomsOf).cc 7 = .ok (.aload_n 1, 1) := by decide +kernel
theorem d_Ml_addAtomsOf_8 : decode (M_Ml_addAtomsOf).cc 8 = .ok (.getfield 37, 3) := by decide +kernel
theorem d_Ml_addAtomsOf_11 : decode (M_Ml_addAtomsOf).cc 11 = .ok (.if_icmp .ge 19, 3) := by decide +kernel
theorem d_Ml_addAtomsOf_14 : decode (M_Ml_addAtomsOf).cc 14 = .ok (.aload_n 0, 1) := by decide +kernel
theorem d_Ml_addAtomsOf_15 : decode (M_Ml_addAtomsOf).cc 15 = .ok (.aload_n 1, 1) := by decide +kernel
theorem d_Ml_addAtomsOf_16 : decode (M_Ml_addAtomsOf).cc 16 = .ok (.getfield 40, 3) := by decide +kernel
theorem d_Ml_addAtomsOf_19 : decode (M_Ml_addAtomsOf).cc 19 = .ok (.iload_n 2, 1) := by decide +kernel
theorem d_Ml_addAtomsOf_20 : decode (M_Ml_addAtomsOf).cc 20 = .ok (.iaload, 1) := by decide +kernel
theorem d_Ml_addAtomsOf_21 : decode (M_Ml_addAtomsOf).cc 21 = .ok (.invokevirtual 41, 3) := by decide +kernel
theorem d_Ml_addAtomsOf_24 : decode (M_Ml_addAtomsOf).cc 24 = .ok (.iinc 2 1, 3) := by decide +kernel
theorem d_Ml_addAtomsOf_27 : decode (M_Ml_addAtomsOf).cc 27 = .ok (.goto (-21), 3) := by decide +kernel
theorem d_Ml_addAtomsOf_30 : decode (M_Ml_addAtomsOf).cc 30 = .ok (.return_, 1) := by decide +kernel
theorem d_Ml_clear_0 : decode (M_Ml_clear).cc 0 = .ok (.aload_n 0, 1) := by decide +kernel
theorem d_Ml_clear_1 : decode (M_Ml_clear).cc 1 = .ok (.iconst 0, 1) := by decide +kernel
theorem d_Ml_clear_2 : decode (M_Ml_clear).cc 2 = .ok (.putfield 21, 3) := by decide +kernel
theorem d_Ml_clear_5 : decode (M_Ml_clear).cc 5 = .ok (.aload_n 0, 1) := by decide +kernel
theorem d_Ml_clear_6 : decode (M_Ml_clear).cc 6 = .ok (.getfield 18, 3) := by decide +kernel
theorem d_Ml_clear_9 : decode (M_Ml_clear).cc 9 = .ok (.iconst 0, 1) := by decide +kernel
theorem d_Ml_clear_10 : decode (M_Ml_clear).cc 10 = .ok (.invokestatic 25, 3) := by decide +kernel
theorem d_Ml_clear_13 : decode (M_Ml_clear).cc 13 = .ok (.return_, 1) := by decide +kernel
theorem d_Ml_addAtom_0 : decode (M_Ml_addAtom).cc 0 = .ok (.aload_n 0, 1) := by decide +kernel
theorem d_Ml_addAtom_1 : decode (M_Ml_addAtom).cc 1 = .ok (.getfield 21, 3) := by decide +kernel
theorem d_Ml_addAtom_4 : decode (M_Ml_addAtom).cc 4 = .ok (.bipush 6, 2) := by decide +kernel
theorem d_Ml_addAtom_6 : decode (M_Ml_addAtom).cc 6 = .ok (.if_icmp .ge 37, 3) := by decide +kernel
theorem d_Ml_addAtom_9 : decode (M_Ml_addAtom).cc 9 = .ok (.aload_n 0, 1) := by decide +kernel
theorem d_Ml_addAtom_10 : decode (M_Ml_addAtom).cc 10 = .ok (.getfield 9, 3) := by decide +kernel
theorem d_Ml_addAtom_13 : decode (M_Ml_addAtom).cc 13 = .ok (.aload_n 0, 1) := by decide +kernel
theorem d_Ml_addAtom_14 : decode (M_Ml_addAtom).cc 14 = .ok (.getfield 21, 3) := by decide +kernel
theorem d_Ml_addAtom_17 : decode (M_Ml_addAtom).cc 17 = .ok (.iload_n 1, 1) := by decide +kernel
theorem d_Ml_addAtom_18 : decode (M_Ml_addAtom).cc 18 = .ok (.iastore, 1) := by decide +kernel
theorem d_Ml_addAtom_19 : decode (M_Ml_addAtom).cc 19 = .ok (.aload_n 0, 1) := by decide +kernel
theorem d_Ml_addAtom_20 : decode (M_Ml_addAtom).cc 20 = .ok (.getfield 15, 3) := by decide +kernel
theorem d_Ml_addAtom_23 : decode (M_Ml_addAtom).cc 23 = .ok (.aload_n 0, 1) := by decide +kernel
theorem d_Ml_addAtom_24 : decode (M_Ml_addAtom).cc 24 = .ok (.getfield 21, 3) := by decide +kernel
theorem d_Ml_addAtom_27 : decode (M_Ml_addAtom).cc 27 = .ok (.getstatic 31, 3) := by decide +kernel
theorem d_Ml_addAtom_30 : decode (M_Ml_addAtom).cc 30 = .ok (.iload_n 1, 1) := by decide +kernel
theorem d_Ml_addAtom_31 : decode (M_Ml_addAtom).cc 31 = .ok (.iaload, 1) := by decide +kernel
theorem d_Ml_addAtom_32 : decode (M_Ml_addAtom).cc 32 = .ok (.iastore, 1) := by decide +kernel
theorem d_Ml_addAtom_33 : decode (M_Ml_addAtom).cc 33 = .ok (.aload_n 0, 1) := by decide +kernel
theorem d_Ml_addAtom_34 : decode (M_Ml_addAtom).cc 34 = .ok (.dup, 1) := by decide +kernel
theorem d_Ml_addAtom_35 : decode (M_Ml_addAtom).cc 35 = .ok (.getfield 21, 3) := by decide +kernel
theorem d_Ml_addAtom_38 : decode (M_Ml_addAtom).cc 38 = .ok (.iconst 1, 1) := by decide +kernel
theorem d_Ml_addAtom_39 : decode (M_Ml_addAtom).cc 39 = .ok (.iadd, 1) := by decide +kernel
theorem d_Ml_addAtom_40 : decode (M_Ml_addAtom).cc 40 = .ok (.putfield 21, 3) := by decide +kernel
theorem d_Ml_addAtom_43 : decode (M_Ml_addAtom).cc 43 = .ok (.return_, 1) := by decide +kernel
theorem d_Ml_between_0 : decode (M_Ml_between).cc 0 = .ok (.aload_n 0, 1) := by decide +kernel
theorem d_Ml_between_1 : decode (M_Ml_between).cc 1 = .ok (.getfield 18, 3) := by decide +kernel
theorem d_Ml_between_4 : decode (M_Ml_between).cc 4 = .ok (.iload_n 1, 1) := by decide +kernel
theorem d_Ml_between_5 : decode (M_Ml_between).cc 5 = .ok (.bipush 6, 2) := by decide +kernel
theorem d_Ml_between_7 : decode (M_Ml_between).cc 7 = .ok (.imul, 1) := by decide +kernel
theorem d_Ml_between_8 : decode (M_Ml_between).cc 8 = .ok (.iload_n 2, 1) := by decide +kernel
theorem d_Ml_between_9 : decode (M_Ml_between).cc 9 = .ok (.iadd, 1) := by decide +kernel
theorem d_Ml_between_10 : decode (M_Ml_between).cc 10 = .ok (.iaload, 1) := by decide +kernel
theorem d_Ml_between_11 : decode (M_Ml_between).cc 11 = .ok (.ireturn, 1) := by decide +kernel
theorem d_Ca_add_0 : decode (M_Ca_add).cc 0 = .ok (.aload_n 0, 1) := by decide +kernel
theorem d_Ca_add_1 : decode (M_Ca_add).cc 1 = .ok (.getfield 22, 3) := by decide +kernel
theorem d_Ca_add_4 : decode (M_Ca_add).cc 4 = .ok (.sipush 500, 3) := by decide +kernel
theorem d_Ca_add_7 : decode (M_Ca_add).cc 7 = .ok (.if_icmp .ge 13, 3) := by decide +kernel
theorem d_Ca_add_10 : decode (M_Ca_add).cc 10 = .ok (.aload_n 0, 1) := by decide +kernel
theorem d_Ca_add_11 : decode (M_Ca_add).cc 11 = .ok (.getfield 15, 3) := by decide +kernel
theorem d_Ca_add_14 : decode (M_Ca_add).cc 14 = .ok (.aload_n 0, 1) := by decide +kernel
theorem d_Ca_add_15 : decode (M_Ca_add).cc 15 = .ok (.getfield 22, 3) := by decide +kernel
theorem d_Ca_add_18 : decode (M_Ca_add).cc 18 = .ok (.iload_n 1, 1) := by decide +kernel
theorem d_Ca_add_19 : decode (M_Ca_add).cc 19 = .ok (.iastore, 1) := by decide +kernel
theorem d_Ca_add_20 : decode (M_Ca_add).cc 20 = .ok (.aload_n 0, 1) := by decide +kernel
theorem d_Ca_add_21 : decode (M_Ca_add).cc 21 = .ok (.dup, 1) := by decide +kernel
theorem d_Ca_add_22 : decode (M_Ca_add).cc 22 = .ok (.getfield 22, 3) := by decide +kernel
theorem d_Ca_add_25 : decode (M_Ca_add).cc 25 = .ok (.iconst 1, 1) := by decide +kernel
theorem d_Ca_add_26 : decode (M_Ca_add).cc 26 = .ok (.iadd, 1) := by decide +kernel
theorem d_Ca_add_27 : decode (M_Ca_add).cc 27 = .ok (.putfield 22, 3) := by decide +kernel
theorem d_Ca_add_30 : decode (M_Ca_add).cc 30 = .ok (.return_, 1) := by decide +kernel
theorem d_Ma_min_0 : decode (M_Ma_min).cc 0 = .ok (.iload_n 0, 1) := by decide +kernel
theorem d_Ma_min_1 : decode (M_Ma_min).cc 1 = .ok (.iload_n 1, 1) := by decide +kernel
theorem d_Ma_min_2 : decode (M_Ma_min).cc 2 = .ok (.if_icmp .gt 7, 3) := by decide +kernel
theorem d_Ma_min_5 : decode (M_Ma_min).cc 5 = .ok (.iload_n 0, 1) := by decide +kernel
theorem d_Ma_min_6 : decode (M_Ma_min).cc 6 = .ok (.goto 4, 3) := by decide +kernel
theorem d_Ma_min_9 : decode (M_Ma_min).cc 9 = .ok (.iload_n 1, 1) := by decide +kernel
theorem d_Ma_min_10 : decode (M_Ma_min).cc 10 = .ok (.ireturn, 1) := by decide +kernel
theorem d_Ca_isOverfull_0 : decode (M_Ca_isOverfull).cc 0 = .ok (.aload_n 0, 1) := by decide +kernel
theorem d_Ca_isOverfull_1 : decode (M_Ca_isOverfull).cc 1 = .ok (.getfield 22, 3) := by decide +kernel
theorem d_Ca_isOverfull_4 : decode (M_Ca_isOverfull).cc 4 = .ok (.sipush 500, 3) := by decide +kernel
theorem d_Ca_isOverfull_7 : decode (M_Ca_isOverfull).cc 7 = .ok (.if_icmp .le 7, 3) := by decide +kernel
theorem d_Ca_isOverfull_10 : decode (M_Ca_isOverfull).cc 10 = .ok (.iconst 1, 1) := by decide +kernel
theorem d_Ca_isOverfull_11 : decode (M_Ca_isOverfull).cc 11 = .ok (.goto 4, 3) := by decide +kernel
theorem d_Ca_isOverfull_14 : decode (M_Ca_isOverfull).cc 14 = .ok (.iconst 0, 1) := by decide +kernel
theorem d_Ca_isOverfull_15 : decode (M_Ca_isOverfull).cc 15 = .ok (.ireturn, 1) := by decide +kernel
theorem d_Ml_bind_0 : decode (M_Ml_bind).cc 0 = .ok (.iload_n 3, 1) := by decide +kernel
theorem d_Ml_bind_1 : decode (M_Ml_bind).cc 1 = .ok (.aload_n 0, 1) := by decide +kernel
theorem d_Ml_bind_2 : decode (M_Ml_bind).cc 2 = .ok (.iload_n 1, 1) := by decide +kernel
theorem d_Ml_bind_3 : decode (M_Ml_bind).cc 3 = .ok (.iload_n 2, 1) := by decide +kernel
theorem d_Ml_bind_4 : decode (M_Ml_bind).cc 4 = .ok (.invokevirtual 60, 3) := by decide +kernel
theorem d_Ml_bind_7 : decode (M_Ml_bind).cc 7 = .ok (.isub, 1) := by decide +kernel
theorem d_Ml_bind_8 : decode (M_Ml_bind).cc 8 = .ok (.istore 4, 2) := by decide +kernel
theorem d_Ml_bind_10 : decode (M_Ml_bind).cc 10 = .ok (.aload_n 0, 1) := by decide +kernel
theorem d_Ml_bind_11 : decode (M_Ml_bind).cc 11 = .ok (.getfield 15, 3) := by decide +kernel
theorem d_Ml_bind_14 : decode (M_Ml_bind).cc 14 = .ok (.iload_n 1, 1) := by decide +kernel
theorem d_Ml_bind_15 : decode (M_Ml_bind).cc 15 = .ok (.dup2, 1) := by decide +kernel
theorem d_Ml_bind_16 : decode (M_Ml_bind).cc 16 = .ok (.iaload, 1) := by decide +kernel
theorem d_Ml_bind_17 : decode (M_Ml_bind).cc 17 = .ok (.iload 4, 2) := by decide +kernel
theorem d_Ml_bind_19 : decode (M_Ml_bind).cc 19 = .ok (.isub, 1) := by decide +kernel
theorem d_Ml_bind_20 : decode (M_Ml_bind).cc 20 = .ok (.iastore, 1) := by decide +kernel
theorem d_Ml_bind_21 : decode (M_Ml_bind).cc 21 = .ok (.aload_n 0, 1) := by decide +kernel
theorem d_Ml_bind_22 : decode (M_Ml_bind).cc 22 = .ok (.getfield 15, 3) := by decide +kernel
theorem d_Ml_bind_25 : decode (M_Ml_bind).cc 25 = .ok (.iload_n 2, 1) := by decide +kernel
theorem d_Ml_bind_26 : decode (M_Ml_bind).cc 26 = .ok (.dup2, 1) := by decide +kernel
theorem d_Ml_bind_27 : decode (M_Ml_bind).cc 27 = .ok (.iaload, 1) := by decide +kernel
theorem d_Ml_bind_28 : decode (M_Ml_bind).cc 28 = .ok (.iload 4, 2) := by decide +kernel
theorem d_Ml_bind_30 : decode (M_Ml_bind).cc 30 = .ok (.isub, 1) := by decide +kernel
theorem d_Ml_bind_31 : decode (M_Ml_bind).cc 31 = .ok (.iastore, 1) := by decide +kernel
theorem d_Ml_bind_32 : decode (M_Ml_bind).cc 32 = .ok (.aload_n 0, 1) := by decide +kernel
theorem d_Ml_bind_33 : decode (M_Ml_bind).cc 33 = .ok (.getfield 18, 3) := by decide +kernel
theorem d_Ml_bind_36 : decode (M_Ml_bind).cc 36 = .ok (.iload_n 1, 1) := by decide +kernel
theorem d_Ml_bind_37 : decode (M_Ml_bind).cc 37 = .ok (.bipush 6, 2) := by decide +kernel
theorem d_Ml_bind_39 : decode (M_Ml_bind).cc 39 = .ok (.imul, 1) := by decide +kernel
theorem d_Ml_bind_40 : decode (M_Ml_bind).cc 40 = .ok (.iload_n 2, 1) := by decide +kernel
theorem d_Ml_bind_41 : decode (M_Ml_bind).cc 41 = .ok (.iadd, 1) := by decide +kernel
theorem d_Ml_bind_42 : decode (M_Ml_bind).cc 42 = .ok (.iload_n 3, 1) := by decide +kernel
theorem d_Ml_bind_43 : decode (M_Ml_bind).cc 43 = .ok (.iastore, 1) := by decide +kernel
theorem d_Ml_bind_44 : decode (M_Ml_bind).cc 44 = .ok (.aload_n 0, 1) := by decide +kernel
theorem d_Ml_bind_45 : decode (M_Ml_bind).cc 45 = .ok (.getfield 18, 3) := by decide +kernel
theorem d_Ml_bind_48 : decode (M_Ml_bind).cc 48 = .ok (.iload_n 2, 1) := by decide +kernel
theorem d_Ml_bind_49 : decode (M_Ml_bind).cc 49 = .ok (.bipush 6, 2) := by decide +kernel
theorem d_Ml_bind_51 : decode (M_Ml_bind).cc 51 = .ok (.imul, 1) := by decide +kernel
theorem d_Ml_bind_52 : decode (M_Ml_bind).cc 52 = .ok (.iload_n 1, 1) := by decide +kernel
theorem d_Ml_bind_53 : decode (M_Ml_bind).cc 53 = .ok (.iadd, 1) := by decide +kernel
theorem d_Ml_bind_54 : decode (M_Ml_bind).cc 54 = .ok (.iload_n 3, 1) := by decide +kernel
theorem d_Ml_bind_55 : decode (M_Ml_bind).cc 55 = .ok (.iastore, 1) := by decide +kernel
theorem d_Ml_bind_56 : decode (M_Ml_bind).cc 56 = .ok (.return_, 1) := by decide +kernel
theorem d_Ca_copy_0 : decode (M_Ca_copy).cc 0 = .ok (.aload_n 0, 1) := by decide +kernel
theorem d_Ca_copy_1 : decode (M_Ca_copy).cc 1 = .ok (.aload_n 1, 1) := by decide +kernel
theorem d_Ca_copy_2 : decode (M_Ca_copy).cc 2 = .ok (.getfield 18, 3) := by decide +kernel
theorem d_Ca_copy_5 : decode (M_Ca_copy).cc 5 = .ok (.putfield 18, 3) := by decide +kernel
theorem d_Ca_copy_8 : decode (M_Ca_copy).cc 8 = .ok (.aload_n 0, 1) := by decide +kernel
theorem d_Ca_copy_9 : decode (M_Ca_copy).cc 9 = .ok (.aload_n 1, 1) := by decide +kernel
theorem d_Ca_copy_10 : decode (M_Ca_copy).cc 10 = .ok (.getfield 25, 3) := by decide +kernel
theorem d_Ca_copy_13 : decode (M_Ca_copy).cc 13 = .ok (.putfield 25, 3) := by decide +kernel
theorem d_Ca_copy_16 : decode (M_Ca_copy).cc 16 = .ok (.aload_n 0, 1) := by decide +kernel
theorem d_Ca_copy_17 : decode (M_Ca_copy).cc 17 = .ok (.aload_n 1, 1) := by decide +kernel
theorem d_Ca_copy_18 : decode (M_Ca_copy).cc 18 = .ok (.getfield 22, 3) := by decide +kernel
theorem d_Ca_copy_21 : decode (M_Ca_copy).cc 21 = .ok (.putfield 22, 3) := by decide +kernel
theorem d_Ca_copy_24 : decode (M_Ca_copy).cc 24 = .ok (.aload_n 1, 1) := by decide +kernel
theorem d_Ca_copy_25 : decode (M_Ca_copy).cc 25 = .ok (.getfield 9, 3) := by decide +kernel
theorem d_Ca_copy_28 : decode (M_Ca_copy).cc 28 = .ok (.iconst 0, 1) := by decide +kernel
theorem d_Ca_copy_29 : decode (M_Ca_copy).cc 29 = .ok (.aload_n 0, 1) := by decide +kernel
theorem d_Ca_copy_30 : decode (M_Ca_copy).cc 30 = .ok (.getfield 9, 3) := by decide +kernel
theorem d_Ca_copy_33 : decode (M_Ca_copy).cc 33 = .ok (.iconst 0, 1) := by decide +kernel
theorem d_Ca_copy_34 : decode (M_Ca_copy).cc 34 = .ok (.bipush 6, 2) := by decide +kernel
theorem d_Ca_copy_36 : decode (M_Ca_copy).cc 36 = .ok (.invokestatic 28, 3) := by decide +kernel
theorem d_Ca_copy_39 : decode (M_Ca_copy).cc 39 = .ok (.aload_n 1, 1) := by decide +kernel
theorem d_Ca_copy_40 : decode (M_Ca_copy).cc 40 = .ok (.getfield 15, 3) := by decide +kernel
theorem d_Ca_copy_43 : decode (M_Ca_copy).cc 43 = .ok (.iconst 0, 1) := by decide +kernel
theorem d_Ca_copy_44 : decode (M_Ca_copy).cc 44 = .ok (.aload_n 0, 1) := by decide +kernel
theorem d_Ca_copy_45 : decode (M_Ca_copy).cc 45 = .ok (.getfield 15, 3) := by decide +kernel
theorem d_Ca_copy_48 : decode (M_Ca_copy).cc 48 = .ok (.iconst 0, 1) := by decide +kernel
theorem d_Ca_copy_49 : decode (M_Ca_copy).cc 49 = .ok (.sipush 500, 3) := by decide +kernel
theorem d_Ca_copy_52 : decode (M_Ca_copy).cc 52 = .ok (.invokestatic 28, 3) := by decide +kernel
theorem d_Ca_copy_55 : decode (M_Ca_copy).cc 55 = .ok (.return_, 1) := by decide +kernel
theorem d_Ma_max_0 : decode (M_Ma_max).cc 0 = .ok (.iload_n 0, 1) := by decide +kernel
theorem d_Ma_max_1 : decode (M_Ma_max).cc 1 = .ok (.iload_n 1, 1) := by decide +kernel
theorem d_Ma_max_2 : decode (M_Ma_max).cc 2 = .ok (.if_icmp .lt 7, 3) := by decide +kernel
theorem d_Ma_max_5 : decode (M_Ma_max).cc 5 = .ok (.iload_n 0, 1) := by decide +kernel
theorem d_Ma_max_6 : decode (M_Ma_max).cc 6 = .ok (.goto 4, 3) := by decide +kernel
theorem d_Ma_max_9 : decode (M_Ma_max).cc 9 = .ok (.iload_n 1, 1) := by decide +kernel
theorem d_Ma_max_10 : decode (M_Ma_max).cc 10 = .ok (.ireturn, 1) := by decide +kernel
theorem d_Ml_isOverbound_0 : decode (M_Ml_isOverbound).cc 0 = .ok (.iconst 0, 1) := by decide +kernel
theorem d_Ml_isOverbound_1 : decode (M_Ml_isOverbound).cc 1 = .ok (.istore_n 1, 1) := by decide +kernel
theorem d_Ml_isOverbound_2 : decode (M_Ml_isOverbound).cc 2 = .ok (.iload_n 1, 1) := by decide +kernel
theorem d_Ml_isOverbound_3 : decode (M_Ml_isOverbound).cc 3 = .ok (.aload_n 0, 1) := by decide +kernel
theorem d_Ml_isOverbound_4 : decode (M_Ml_isOverbound).cc 4 = .ok (.getfield 21, 3) := by decide +kernel
theorem d_Ml_isOverbound_7 : decode (M_Ml_isOverbound).cc 7 = .ok (.if_icmp .ge 20, 3) := by decide +kernel
theorem d_Ml_isOverbound_10 : decode (M_Ml_isOverbound).cc 10 = .ok (.aload_n 0, 1) := by decide +kernel
theorem d_Ml_isOverbound_11 : decode (M_Ml_isOverbound).cc 11 = .ok (.getfield 15, 3) := by decide +kernel
theorem d_Ml_isOverbound_14 : decode (M_Ml_isOverbound).cc 14 = .ok (.iload_n 1, 1) := by decide +kernel
theorem d_Ml_isOverbound_15 : decode (M_Ml_isOverbound).cc 15 = .ok (.iaload, 1) := by decide +kernel
theorem d_Ml_isOverbound_16 : decode (M_Ml_isOverbound).cc 16 = .ok (.ifCond .ge 5, 3) := by decide +kernel
theorem d_Ml_isOverbound_19 : decode (M_Ml_isOverbound).cc 19 = .ok (.iconst 1, 1) := by decide +kernel
theorem d_Ml_isOverbound_20 : decode (M_Ml_isOverbound).cc 20 = .ok (.ireturn, 1) := by decide +kernel
theorem d_Ml_isOverbound_21 : decode (M_Ml_isOverbound).cc 21 = .ok (.iinc 1 1, 3) := by decide +kernel
theorem d_Ml_isOverbound_24 : decode (M_Ml_isOverbound).cc 24 = .ok (.goto (-22), 3) := by decide +kernel
theorem d_Ml_isOverbound_27 : decode (M_Ml_isOverbound).cc 27 = .ok (.iconst 0, 1) := by decide +kernel
theorem d_Ml_isOverbound_28 : decode (M_Ml_isOverbound).cc 28 = .ok (.ireturn, 1) := by decide +kernel
theorem d_Ca_hasFormulaOf_0 : decode (M_Ca_hasFormulaOf).cc 0 = .ok (.aload_n 0, 1) := by decide +kernel
theorem d_Ca_hasFormulaOf_1 : decode (M_Ca_hasFormulaOf).cc 1 = .ok (.getfield 18, 3) := by decide +kernel
theorem d_Ca_hasFormulaOf_4 : decode (M_Ca_hasFormulaOf).cc 4 = .ok (.aload_n 1, 1) := by decide +kernel
theorem d_Ca_hasFormulaOf_5 : decode (M_Ca_hasFormulaOf).cc 5 = .ok (.getfield 34, 3) := by decide +kernel
theorem d_Ca_hasFormulaOf_8 : decode (M_Ca_hasFormulaOf).cc 8 = .ok (.if_icmp .ne 14, 3) := by decide +kernel
theorem d_Ca_hasFormulaOf_11 : decode (M_Ca_hasFormulaOf).cc 11 = .ok (.aload_n 0, 1) := by decide +kernel
theorem d_Ca_hasFormulaOf_12 : decode (M_Ca_hasFormulaOf).cc 12 = .ok (.getfield 25, 3) := by decide +kernel
theorem d_Ca_hasFormulaOf_15 : decode (M_Ca_hasFormulaOf).cc 15 = .ok (.aload_n 1, 1) := by decide +kernel
theorem d_Ca_hasFormulaOf_16 : decode (M_Ca_hasFormulaOf).cc 16 = .ok (.invokevirtual 37, 3) := by decide +kernel
theorem d_Ca_hasFormulaOf_19 : decode (M_Ca_hasFormulaOf).cc 19 = .ok (.if_icmp .eq 5, 3) := by decide +kernel
theorem d_Ca_hasFormulaOf_22 : decode (M_Ca_hasFormulaOf).cc 22 = .ok (.iconst 0, 1) := by decide +kernel
theorem d_Ca_hasFormulaOf_23 : decode (M_Ca_hasFormulaOf).cc 23 = .ok (.ireturn, 1) := by decide +kernel
theorem d_Ca_hasFormulaOf_24 : decode (M_Ca_hasFormulaOf).cc 24 = .ok (.iconst 0, 1) := by decide +kernel
theorem d_Ca_hasFormulaOf_25 : decode (M_Ca_hasFormulaOf).cc 25 = .ok (.istore_n 2, 1) := by decide +kernel
theorem d_Ca_hasFormulaOf_26 : decode (M_Ca_hasFormulaOf).cc 26 = .ok (.iload_n 2, 1) := by decide +kernel
theorem d_Ca_hasFormulaOf_27 : decode (M_Ca_hasFormulaOf).cc 27 = .ok (.aload_n 0, 1) := by decide +kernel
theorem d_Ca_hasFormulaOf_28 : decode (M_Ca_hasFormulaOf).cc 28 = .ok (.getfield 18, 3) := by decide +kernel
theorem d_Ca_hasFormulaOf_31 : decode (M_Ca_hasFormulaOf).cc 31 = .ok (.if_icmp .ge 45, 3) := by decide +kernel
theorem d_Ca_hasFormulaOf_34 : decode (M_Ca_hasFormulaOf).cc 34 = .ok (.aload_n 0, 1) := by decide +kernel
theorem d_Ca_hasFormulaOf_35 : decode (M_Ca_hasFormulaOf).cc 35 = .ok (.getfield 9, 3) := by decide +kernel
theorem d_Ca_hasFormulaOf_38 : decode (M_Ca_hasFormulaOf).cc 38 = .ok (.iload_n 2, 1) := by decide +kernel
theorem d_Ca_hasFormulaOf_39 : decode (M_Ca_hasFormulaOf).cc 39 = .ok (.iaload, 1) := by decide +kernel
theorem d_Ca_hasFormulaOf_40 : decode (M_Ca_hasFormulaOf).cc 40 = .ok (.istore_n 3, 1) := by decide +kernel
theorem d_Ca_hasFormulaOf_41 : decode (M_Ca_hasFormulaOf).cc 41 = .ok (.iload_n 3, 1) := by decide +kernel
theorem d_Ca_hasFormulaOf_42 : decode (M_Ca_hasFormulaOf).cc 42 = .ok (.aload_n 1, 1) := by decide +kernel
theorem d_Ca_hasFormulaOf_43 : decode (M_Ca_hasFormulaOf).cc 43 = .ok (.getfield 41, 3) := by decide +kernel
theorem d_Ca_hasFormulaOf_46 : decode (M_Ca_hasFormulaOf).cc 46 = .ok (.aload_n 0, 1) := by decide +kernel
theorem d_Ca_hasFormulaOf_47 : decode (M_Ca_hasFormulaOf).cc 47 = .ok (.getfield 18, 3) := by decide +kernel
theorem d_Ca_hasFormulaOf_50 : decode (M_Ca_hasFormulaOf).cc 50 = .ok (.invokestatic 42, 3) := by decide +kernel
theorem d_Ca_hasFormulaOf_53 : decode (M_Ca_hasFormulaOf).cc 53 = .ok (.iload_n 3, 1) := by decide +kernel
theorem d_Ca_hasFormulaOf_54 : decode (M_Ca_hasFormulaOf).cc 54 = .ok (.aload_n 0, 1) := by decide +kernel
theorem d_Ca_hasFormulaOf_55 : decode (M_Ca_hasFormulaOf).cc 55 = .ok (.getfield 9, 3) := by decide +kernel
theorem d_Ca_hasFormulaOf_58 : decode (M_Ca_hasFormulaOf).cc 58 = .ok (.aload_n 0, 1) := by decide +kernel
theorem d_Ca_hasFormulaOf_59 : decode (M_Ca_hasFormulaOf).cc 59 = .ok (.getfield 18, 3) := by decide +kernel
theorem d_Ca_hasFormulaOf_62 : decode (M_Ca_hasFormulaOf).cc 62 = .ok (.invokestatic 42, 3) := by decide +kernel
theorem d_Ca_hasFormulaOf_65 : decode (M_Ca_hasFormulaOf).cc 65 = .ok (.if_icmp .eq 5, 3) := by decide +kernel
theorem d_Ca_hasFormulaOf_68 : decode (M_Ca_hasFormulaOf).cc 68 = .ok (.iconst 0, 1) := by decide +kernel
theorem d_Ca_hasFormulaOf_69 : decode (M_Ca_hasFormulaOf).cc 69 = .ok (.ireturn, 1) := by decide +kernel
theorem d_Ca_hasFormulaOf_70 : decode (M_Ca_hasFormulaOf).cc 70 = .ok (.iinc 2 1, 3) := by decide +kernel
theorem d_Ca_hasFormulaOf_73 : decode (M_Ca_hasFormulaOf).cc 73 = .ok (.goto (-47), 3) := by decide +kernel
theorem d_Ca_hasFormulaOf_76 : decode (M_Ca_hasFormulaOf).cc 76 = .ok (.iconst 1, 1) := by decide +kernel
theorem d_Ca_hasFormulaOf_77 : decode (M_Ca_hasFormulaOf).cc 77 = .ok (.ireturn, 1) := by decide +kernel
theorem d_Ml_freeSum_0 : decode (M_Ml_freeSum).cc 0 = .ok (.iconst 0, 1) := by decide +kernel
theorem d_Ml_freeSum_1 : decode (M_Ml_freeSum).cc 1 = .ok (.istore_n 1, 1) := by decide +kernel
theorem d_Ml_freeSum_2 : decode (M_Ml_freeSum).cc 2 = .ok (.iconst 0, 1) := by decide +kernel
theorem d_Ml_freeSum_3 : decode (M_Ml_freeSum).cc 3 = .ok (.istore_n 2, 1) := by decide +kernel
theorem d_Ml_freeSum_4 : decode (M_Ml_freeSum).cc 4 = .ok (.iload_n 2, 1) := by decide +kernel
theorem d_Ml_freeSum_5 : decode (M_Ml_freeSum).cc 5 = .ok (.aload_n 0, 1) := by decide +kernel
theorem d_Ml_freeSum_6 : decode (M_Ml_freeSum).cc 6 = .ok (.getfield 21, 3) := by decide +kernel
theorem d_Ml_freeSum_9 : decode (M_Ml_freeSum).cc 9 = .ok (.if_icmp .ge 18, 3) := by decide +kernel
theorem d_Ml_freeSum_12 : decode (M_Ml_freeSum).cc 12 = .ok (.iload_n 1, 1) := by decide +kernel
theorem d_Ml_freeSum_13 : decode (M_Ml_freeSum).cc 13 = .ok (.aload_n 0, 1) := by decide +kernel
theorem d_Ml_freeSum_14 : decode (M_Ml_freeSum).cc 14 = .ok (.getfield 15, 3) := by decide +kernel
theorem d_Ml_freeSum_17 : decode (M_Ml_freeSum).cc 17 = .ok (.iload_n 2, 1) := by decide +kernel
theorem d_Ml_freeSum_18 : decode (M_Ml_freeSum).cc 18 = .ok (.iaload, 1) := by decide +kernel
theorem d_Ml_freeSum_19 : decode (M_Ml_freeSum).cc 19 = .ok (.iadd, 1) := by decide +kernel
theorem d_Ml_freeSum_20 : decode (M_Ml_freeSum).cc 20 = .ok (.istore_n 1, 1) := by decide +kernel
theorem d_Ml_freeSum_21 : decode (M_Ml_freeSum).cc 21 = .ok (.iinc 2 1, 3) := by decide +kernel
theorem d_Ml_freeSum_24 : decode (M_Ml_freeSum).cc 24 = .ok (.goto (-20), 3) := by decide +kernel
theorem d_Ml_freeSum_27 : decode (M_Ml_freeSum).cc 27 = .ok (.iload_n 1, 1) := by decide +kernel
theorem d_Ml_freeSum_28 : decode (M_Ml_freeSum).cc 28 = .ok (.ireturn, 1) := by decide +kernel
theorem d_Ca_find_0 : decode (M_Ca_find).cc 0 = .ok (.iconst 0, 1) := by decide +kernel
theorem d_Ca_find_1 : decode (M_Ca_find).cc 1 = .ok (.istore_n 2, 1) := by decide +kernel
theorem d_Ca_find_2 : decode (M_Ca_find).cc 2 = .ok (.iload_n 2, 1) := by decide +kernel
theorem d_Ca_find_3 : decode (M_Ca_find).cc 3 = .ok (.aload_n 0, 1) := by decide +kernel
theorem d_Ca_find_4 : decode (M_Ca_find).cc 4 = .ok (.getfield 22, 3) := by decide +kernel
theorem d_Ca_find_7 : decode (M_Ca_find).cc 7 = .ok (.if_icmp .ge 21, 3) := by decide +kernel
theorem d_Ca_find_10 : decode (M_Ca_find).cc 10 = .ok (.aload_n 0, 1) := by decide +kernel
theorem d_Ca_find_11 : decode (M_Ca_find).cc 11 = .ok (.getfield 15, 3) := by decide +kernel
theorem d_Ca_find_14 : decode (M_Ca_find).cc 14 = .ok (.iload_n 2, 1) := by decide +kernel
theorem d_Ca_find_15 : decode (M_Ca_find).cc 15 = .ok (.iaload, 1) := by decide +kernel
theorem d_Ca_find_16 : decode (M_Ca_find).cc 16 = .ok (.iload_n 1, 1) := by decide +kernel
theorem d_Ca_find_17 : decode (M_Ca_find).cc 17 = .ok (.if_icmp .ne 5, 3) := by decide +kernel
theorem d_Ca_find_20 : decode (M_Ca_find).cc 20 = .ok (.iload_n 2, 1) := by decide +kernel
theorem d_Ca_find_21 : decode (M_Ca_find).cc 21 = .ok (.ireturn, 1) := by decide +kernel
theorem d_Ca_find_22 : decode (M_Ca_find).cc 22 = .ok (.iinc 2 1, 3) := by decide +kernel
theorem d_Ca_find_25 : decode (M_Ca_find).cc 25 = .ok (.goto (-23), 3) := by decide +kernel
theorem d_Ca_find_28 : decode (M_Ca_find).cc 28 = .ok (.iconst (-1), 1) := by decide +kernel
theorem d_Ca_find_29 : decode (M_Ca_find).cc 29 = .ok (.ireturn, 1) := by decide +kernel
theorem d_Ln_add_0 : decode (M_Ln_add).cc 0 = .ok (.aload_n 0, 1) := by decide +kernel
theorem d_Ln_add_1 : decode (M_Ln_add).cc 1 = .ok (.getfield 15, 3) := by decide +kernel
theorem d_Ln_add_4 : decode (M_Ln_add).cc 4 = .ok (.bipush 60, 2) := by decide +kernel
theorem d_Ln_add_6 : decode (M_Ln_add).cc 6 = .ok (.if_icmp .ge 23, 3) := by decide +kernel
theorem d_Ln_add_9 : decode (M_Ln_add).cc 9 = .ok (.aload_n 0, 1) := by decide +kernel
theorem d_Ln_add_10 : decode (M_Ln_add).cc 10 = .ok (.getfield 9, 3) := by decide +kernel
theorem d_Ln_add_13 : decode (M_Ln_add).cc 13 = .ok (.aload_n 0, 1) := by decide +kernel
theorem d_Ln_add_14 : decode (M_Ln_add).cc 14 = .ok (.getfield 15, 3) := by decide +kernel
theorem d_Ln_add_17 : decode (M_Ln_add).cc 17 = .ok (.iload_n 1, 1) := by decide +kernel
theorem d_Ln_add_18 : decode (M_Ln_add).cc 18 = .ok (.castore, 1) := by decide +kernel
theorem d_Ln_add_19 : decode (M_Ln_add).cc 19 = .ok (.aload_n 0, 1) := by decide +kernel
theorem d_Ln_add_20 : decode (M_Ln_add).cc 20 = .ok (.dup, 1) := by decide +kernel
theorem d_Ln_add_21 : decode (M_Ln_add).cc 21 = .ok (.getfield 15, 3) := by decide +kernel
theorem d_Ln_add_24 : decode (M_Ln_add).cc 24 = .ok (.iconst 1, 1) := by decide +kernel
theorem d_Ln_add_25 : decode (M_Ln_add).cc 25 = .ok (.iadd, 1) := by decide +kernel
theorem d_Ln_add_26 : decode (M_Ln_add).cc 26 = .ok (.putfield 15, 3) := by decide +kernel
theorem d_Ln_add_29 : decode (M_Ln_add).cc 29 = .ok (.return_, 1) := by decide +kernel
theorem d_Ml_build_0 : decode (M_Ml_build).cc 0 = .ok (.aload_n 0, 1) := by decide +kernel
theorem d_Ml_build_1 : decode (M_Ml_build).cc 1 = .ok (.aload_n 1, 1) := by decide +kernel
theorem d_Ml_build_2 : decode (M_Ml_build).cc 2 = .ok (.invokevirtual 45, 3) := by decide +kernel
theorem d_Ml_build_5 : decode (M_Ml_build).cc 5 = .ok (.aload_n 1, 1) := by decide +kernel
theorem d_Ml_build_6 : decode (M_Ml_build).cc 6 = .ok (.getfield 49, 3) := by decide +kernel
theorem d_Ml_build_9 : decode (M_Ml_build).cc 9 = .ok (.iload_n 2, 1) := by decide +kernel
theorem d_Ml_build_10 : decode (M_Ml_build).cc 10 = .ok (.iaload, 1) := by decide +kernel
theorem d_Ml_build_11 : decode (M_Ml_build).cc 11 = .ok (.istore_n 3, 1) := by decide +kernel
theorem d_Ml_build_12 : decode (M_Ml_build).cc 12 = .ok (.iconst 1, 1) := by decide +kernel
theorem d_Ml_build_13 : decode (M_Ml_build).cc 13 = .ok (.istore 4, 2) := by decide +kernel
theorem d_Ml_build_15 : decode (M_Ml_build).cc 15 = .ok (.iload 4, 2) := by decide +kernel
theorem d_Ml_build_17 : decode (M_Ml_build).cc 17 = .ok (.aload_n 0, 1) := by decide +kernel
theorem d_Ml_build_18 : decode (M_Ml_build).cc 18 = .ok (.getfield 21, 3) := by decide +kernel
theorem d_Ml_build_21 : decode (M_Ml_build).cc 21 = .ok (.if_icmp .ge 53, 3) := by decide +kernel
theorem d_Ml_build_24 : decode (M_Ml_build).cc 24 = .ok (.iload_n 3, 1) := by decide +kernel
theorem d_Ml_build_25 : decode (M_Ml_build).cc 25 = .ok (.iload 4, 2) := by decide +kernel
theorem d_Ml_build_27 : decode (M_Ml_build).cc 27 = .ok (.invokestatic 52, 3) := by decide +kernel
theorem d_Ml_build_30 : decode (M_Ml_build).cc 30 = .ok (.ishr, 1) := by decide +kernel
theorem d_Ml_build_31 : decode (M_Ml_build).cc 31 = .ok (.istore 5, 2) := by decide +kernel
theorem d_Ml_build_33 : decode (M_Ml_build).cc 33 = .ok (.iload 4, 2) := by decide +kernel
theorem d_Ml_build_35 : decode (M_Ml_build).cc 35 = .ok (.iconst 1, 1) := by decide +kernel
theorem d_Ml_build_36 : decode (M_Ml_build).cc 36 = .ok (.isub, 1) := by decide +kernel
theorem d_Ml_build_37 : decode (M_Ml_build).cc 37 = .ok (.istore 6, 2) := by decide +kernel
theorem d_Ml_build_39 : decode (M_Ml_build).cc 39 = .ok (.iload 6, 2) := by decide +kernel
theorem d_Ml_build_41 : decode (M_Ml_build).cc 41 = .ok (.ifCond .lt 27, 3) := by decide +kernel
theorem d_Ml_build_44 : decode (M_Ml_build).cc 44 = .ok (.aload_n 0, 1) := by decide +kernel
theorem d_Ml_build_45 : decode (M_Ml_build).cc 45 = .ok (.iload 4, 2) := by decide +kernel
theorem d_Ml_build_47 : decode (M_Ml_build).cc 47 = .ok (.iload 6, 2) := by decide +kernel
theorem d_Ml_build_49 : decode (M_Ml_build).cc 49 = .ok (.iload 5, 2) := by decide +kernel
theorem d_Ml_build_51 : decode (M_Ml_build).cc 51 = .ok (.iconst 3, 1) := by decide +kernel
theorem d_Ml_build_52 : decode (M_Ml_build).cc 52 = .ok (.iand, 1) := by decide +kernel
theorem d_Ml_build_53 : decode (M_Ml_build).cc 53 = .ok (.invokevirtual 56, 3) := by decide +kernel
theorem d_Ml_build_56 : decode (M_Ml_build).cc 56 = .ok (.iload 5, 2) := by decide +kernel
theorem d_Ml_build_58 : decode (M_Ml_build).cc 58 = .ok (.iconst 2, 1) := by decide +kernel
theorem d_Ml_build_59 : decode (M_Ml_build).cc 59 = .ok (.ishr, 1) := by decide +kernel
theorem d_Ml_build_60 : decode (M_Ml_build).cc 60 = .ok (.istore 5, 2) := by decide +kernel
theorem d_Ml_build_62 : decode (M_Ml_build).cc 62 = .ok (.iinc 6 (-1), 3) := by decide +kernel
theorem d_Ml_build_65 : decode (M_Ml_build).cc 65 = .ok (.goto (-26), 3) := by decide +kernel
theorem d_Ml_build_68 : decode (M_Ml_build).cc 68 = .ok (.iinc 4 1, 3) := by decide +kernel
theorem d_Ml_build_71 : decode (M_Ml_build).cc 71 = .ok (.goto (-56), 3) := by decide +kernel
theorem d_Ml_build_74 : decode (M_Ml_build).cc 74 = .ok (.return_, 1) := by decide +kernel
theorem d_Ln_addElement_0 : decode (M_Ln_addElement).cc 0 = .ok (.aload_n 0, 1) := by decide +kernel
theorem d_Ln_addElement_1 : decode (M_Ln_addElement).cc 1 = .ok (.getstatic 19, 3) := by decide +kernel
theorem d_Ln_addElement_4 : decode (M_Ln_addElement).cc 4 = .ok (.iload_n 1, 1) := by decide +kernel
theorem d_Ln_addElement_5 : decode (M_Ln_addElement).cc 5 = .ok (.caload, 1) := by decide +kernel
theorem d_Ln_addElement_6 : decode (M_Ln_addElement).cc 6 = .ok (.invokevirtual 29, 3) := by decide +kernel
theorem d_Ln_addElement_9 : decode (M_Ln_addElement).cc 9 = .ok (.getstatic 26, 3) := by decide +kernel
theorem d_Ln_addElement_12 : decode (M_Ln_addElement).cc 12 = .ok (.iload_n 1, 1) := by decide +kernel
theorem d_Ln_addElement_13 : decode (M_Ln_addElement).cc 13 = .ok (.caload, 1) := by decide +kernel
theorem d_Ln_addElement_14 : decode (M_Ln_addElement).cc 14 = .ok (.ifCond .eq 12, 3) := by decide +kernel
theorem d_Ln_addElement_17 : decode (M_Ln_addElement).cc 17 = .ok (.aload_n 0, 1) := by decide +kernel
theorem d_Ln_addElement_18 : decode (M_Ln_addElement).cc 18 = .ok (.getstatic 26, 3) := by decide +kernel
theorem d_Ln_addElement_21 : decode (M_Ln_addElement).cc 21 = .ok (.iload_n 1, 1) := by decide +kernel
theorem d_Ln_addElement_22 : decode (M_Ln_addElement).cc 22 = .ok (.caload, 1) := by decide +kernel
theorem d_Ln_addElement_23 : decode (M_Ln_addElement).cc 23 = .ok (.invokevirtual 29, 3) := by decide +kernel
theorem d_Ln_addElement_26 : decode (M_Ln_addElement).cc 26 = .ok (.return_, 1) := by decide +kernel
theorem d_Ln_addBond_0 : decode (M_Ln_addBond).cc 0 = .ok (.iload_n 1, 1) := by decide +kernel
theorem d_Ln_addBond_1 : decode (M_Ln_addBond).cc 1 = .ok (.iconst 2, 1) := by decide +kernel
theorem d_Ln_addBond_2 : decode (M_Ln_addBond).cc 2 = .ok (.if_icmp .ne 12, 3) := by decide +kernel
theorem d_Ln_addBond_5 : decode (M_Ln_addBond).cc 5 = .ok (.aload_n 0, 1) := by decide +kernel
theorem d_Ln_addBond_6 : decode (M_Ln_addBond).cc 6 = .ok (.bipush 61, 2) := by decide +kernel
theorem d_Ln_addBond_8 : decode (M_Ln_addBond).cc 8 = .ok (.invokevirtual 29, 3) := by decide +kernel
theorem d_Ln_addBond_11 : decode (M_Ln_addBond).cc 11 = .ok (.goto 14, 3) := by decide +kernel
theorem d_Ln_addBond_14 : decode (M_Ln_addBond).cc 14 = .ok (.iload_n 1, 1) := by decide +kernel
theorem d_Ln_addBond_15 : decode (M_Ln_addBond).cc 15 = .ok (.iconst 3, 1) := by decide +kernel
theorem d_Ln_addBond_16 : decode (M_Ln_addBond).cc 16 = .ok (.if_icmp .ne 9, 3) := by decide +kernel
theorem d_Ln_addBond_19 : decode (M_Ln_addBond).cc 19 = .ok (.aload_n 0, 1) := by decide +kernel
theorem d_Ln_addBond_20 : decode (M_Ln_addBond).cc 20 = .ok (.bipush 35, 2) := by decide +kernel
theorem d_Ln_addBond_22 : decode (M_Ln_addBond).cc 22 = .ok (.invokevirtual 29, 3) := by decide +kernel
theorem d_Ln_addBond_25 : decode (M_Ln_addBond).cc 25 = .ok (.return_, 1) := by decide +kernel
