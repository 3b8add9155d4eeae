theorem d_init_D_0 : decode prog_1_method_1_code 0 = .ok (.aload_n 0, 1) := by decide +kernel
theorem d_init_D_1 : decode prog_1_method_1_code 1 = .ok (.invokespecial 1, 3) := by decide +kernel
theorem d_init_D_4 : decode prog_1_method_1_code 4 = .ok (.aload_n 0, 1) := by decide +kernel
theorem d_init_D_5 : decode prog_1_method_1_code 5 = .ok (.sipush 240, 3) := by decide +kernel
theorem d_init_D_8 : decode prog_1_method_1_code 8 = .ok (.anewarray 9, 3) := by decide +kernel
theorem d_init_D_11 : decode prog_1_method_1_code 11 = .ok (.putfield 11, 3) := by decide +kernel
theorem d_init_D_14 : decode prog_1_method_1_code 14 = .ok (.aload_n 0, 1) := by decide +kernel
theorem d_init_D_15 : decode prog_1_method_1_code 15 = .ok (.bipush 32, 2) := by decide +kernel
theorem d_init_D_17 : decode prog_1_method_1_code 17 = .ok (.anewarray 9, 3) := by decide +kernel
theorem d_init_D_20 : decode prog_1_method_1_code 20 = .ok (.putfield 15, 3) := by decide +kernel
theorem d_init_D_23 : decode prog_1_method_1_code 23 = .ok (.iconst 0, 1) := by decide +kernel
theorem d_init_D_24 : decode prog_1_method_1_code 24 = .ok (.istore_n 1, 1) := by decide +kernel
theorem d_init_D_25 : decode prog_1_method_1_code 25 = .ok (.iload_n 1, 1) := by decide +kernel
theorem d_init_D_26 : decode prog_1_method_1_code 26 = .ok (.bipush 32, 2) := by decide +kernel
theorem d_init_D_28 : decode prog_1_method_1_code 28 = .ok (.if_icmp .ge 23, 3) := by decide +kernel
theorem d_init_D_31 : decode prog_1_method_1_code 31 = .ok (.aload_n 0, 1) := by decide +kernel
theorem d_init_D_32 : decode prog_1_method_1_code 32 = .ok (.getfield 15, 3) := by decide +kernel
theorem d_init_D_35 : decode prog_1_method_1_code 35 = .ok (.iload_n 1, 1) := by decide +kernel
theorem d_init_D_36 : decode prog_1_method_1_code 36 = .ok (.new 9, 3) := by decide +kernel
theorem d_init_D_39 : decode prog_1_method_1_code 39 = .ok (.dup, 1) := by decide +kernel
theorem d_init_D_40 : decode prog_1_method_1_code 40 = .ok (.iload_n 1, 1) := by decide +kernel
theorem d_init_D_41 : decode prog_1_method_1_code 41 = .ok (.invokespecial 18, 3) := by decide +kernel
theorem d_init_D_44 : decode prog_1_method_1_code 44 = .ok (.aastore, 1) := by decide +kernel
theorem d_init_D_45 : decode prog_1_method_1_code 45 = .ok (.iinc 1 1, 3) := by decide +kernel
theorem d_init_D_48 : decode prog_1_method_1_code 48 = .ok (.goto (-23), 3) := by decide +kernel
theorem d_init_D_51 : decode prog_1_method_1_code 51 = .ok (.aload_n 0, 1) := by decide +kernel
theorem d_init_D_52 : decode prog_1_method_1_code 52 = .ok (.bipush 8, 2) := by decide +kernel
theorem d_init_D_54 : decode prog_1_method_1_code 54 = .ok (.anewarray 21, 3) := by decide +kernel
theorem d_init_D_57 : decode prog_1_method_1_code 57 = .ok (.putfield 23, 3) := by decide +kernel
theorem d_init_D_60 : decode prog_1_method_1_code 60 = .ok (.iconst 0, 1) := by decide +kernel
theorem d_init_D_61 : decode prog_1_method_1_code 61 = .ok (.istore_n 1, 1) := by decide +kernel
theorem d_init_D_62 : decode prog_1_method_1_code 62 = .ok (.iload_n 1, 1) := by decide +kernel
theorem d_init_D_63 : decode prog_1_method_1_code 63 = .ok (.bipush 8, 2) := by decide +kernel
theorem d_init_D_65 : decode prog_1_method_1_code 65 = .ok (.if_icmp .ge 23, 3) := by decide +kernel
theorem d_init_D_68 : decode prog_1_method_1_code 68 = .ok (.aload_n 0, 1) := by decide +kernel
theorem d_init_D_69 : decode prog_1_method_1_code 69 = .ok (.getfield 23, 3) := by decide +kernel
theorem d_init_D_72 : decode prog_1_method_1_code 72 = .ok (.iload_n 1, 1) := by decide +kernel
theorem d_init_D_73 : decode prog_1_method_1_code 73 = .ok (.new 21, 3) := by decide +kernel
theorem d_init_D_76 : decode prog_1_method_1_code 76 = .ok (.dup, 1) := by decide +kernel
theorem d_init_D_77 : decode prog_1_method_1_code 77 = .ok (.iload_n 1, 1) := by decide +kernel
theorem d_init_D_78 : decode prog_1_method_1_code 78 = .ok (.invokespecial 27, 3) := by decide +kernel
theorem d_init_D_81 : decode prog_1_method_1_code 81 = .ok (.aastore, 1) := by decide +kernel
theorem d_init_D_82 : decode prog_1_method_1_code 82 = .ok (.iinc 1 1, 3) := by decide +kernel
theorem d_init_D_85 : decode prog_1_method_1_code 85 = .ok (.goto (-23), 3) := by decide +kernel
theorem d_init_D_88 : decode prog_1_method_1_code 88 = .ok (.aload_n 0, 1) := by decide +kernel
theorem d_init_D_89 : decode prog_1_method_1_code 89 = .ok (.bipush 16, 2) := by decide +kernel
theorem d_init_D_91 : decode prog_1_method_1_code 91 = .ok (.newarray .int, 2) := by decide +kernel
theorem d_init_D_93 : decode prog_1_method_1_code 93 = .ok (.putfield 28, 3) := by decide +kernel
theorem d_init_D_96 : decode prog_1_method_1_code 96 = .ok (.aload_n 0, 1) := by decide +kernel
theorem d_init_D_97 : decode prog_1_method_1_code 97 = .ok (.iconst 0, 1) := by decide +kernel
theorem d_init_D_98 : decode prog_1_method_1_code 98 = .ok (.putfield 32, 3) := by decide +kernel
theorem d_init_D_101 : decode prog_1_method_1_code 101 = .ok (.aload_n 0, 1) := by decide +kernel
theorem d_init_D_102 : decode prog_1_method_1_code 102 = .ok (.new 36, 3) := by decide +kernel
theorem d_init_D_105 : decode prog_1_method_1_code 105 = .ok (.dup, 1) := by decide +kernel
theorem d_init_D_106 : decode prog_1_method_1_code 106 = .ok (.invokespecial 38, 3) := by decide +kernel
theorem d_init_D_109 : decode prog_1_method_1_code 109 = .ok (.putfield 39, 3) := by decide +kernel
theorem d_init_D_112 : decode prog_1_method_1_code 112 = .ok (.aload_n 0, 1) := by decide +kernel
theorem d_init_D_113 : decode prog_1_method_1_code 113 = .ok (.new 43, 3) := by decide +kernel
theorem d_init_D_116 : decode prog_1_method_1_code 116 = .ok (.dup, 1) := by decide +kernel
theorem d_init_D_117 : decode prog_1_method_1_code 117 = .ok (.invokespecial 45, 3) := by decide +kernel
theorem d_init_D_120 : decode prog_1_method_1_code 120 = .ok (.putfield 46, 3) := by decide +kernel
theorem d_init_D_123 : decode prog_1_method_1_code 123 = .ok (.return_, 1) := by decide +kernel
theorem d_init_F_0 : decode prog_3_method_1_code 0 = .ok (.aload_n 0, 1) := by decide +kernel
theorem d_init_F_1 : decode prog_3_method_1_code 1 = .ok (.invokespecial 3, 3) := by decide +kernel
theorem d_init_F_4 : decode prog_3_method_1_code 4 = .ok (.aload_n 0, 1) := by decide +kernel
theorem d_init_F_5 : decode prog_3_method_1_code 5 = .ok (.iload_n 1, 1) := by decide +kernel
theorem d_init_F_6 : decode prog_3_method_1_code 6 = .ok (.putfield 9, 3) := by decide +kernel
theorem d_init_F_9 : decode prog_3_method_1_code 9 = .ok (.return_, 1) := by decide +kernel
theorem d_init_P_0 : decode prog_4_method_1_code 0 = .ok (.aload_n 0, 1) := by decide +kernel
theorem d_init_P_1 : decode prog_4_method_1_code 1 = .ok (.invokespecial 3, 3) := by decide +kernel
theorem d_init_P_4 : decode prog_4_method_1_code 4 = .ok (.aload_n 0, 1) := by decide +kernel
theorem d_init_P_5 : decode prog_4_method_1_code 5 = .ok (.sipush 512, 3) := by decide +kernel
theorem d_init_P_8 : decode prog_4_method_1_code 8 = .ok (.newarray .byte, 2) := by decide +kernel
theorem d_init_P_10 : decode prog_4_method_1_code 10 = .ok (.putfield 9, 3) := by decide +kernel
theorem d_init_P_13 : decode prog_4_method_1_code 13 = .ok (.aload_n 0, 1) := by decide +kernel
theorem d_init_P_14 : decode prog_4_method_1_code 14 = .ok (.iload_n 1, 1) := by decide +kernel
theorem d_init_P_15 : decode prog_4_method_1_code 15 = .ok (.putfield 15, 3) := by decide +kernel
theorem d_init_P_18 : decode prog_4_method_1_code 18 = .ok (.return_, 1) := by decide +kernel
theorem d_init_C_0 : decode prog_2_method_1_code 0 = .ok (.aload_n 0, 1) := by decide +kernel
theorem d_init_C_1 : decode prog_2_method_1_code 1 = .ok (.invokespecial 3, 3) := by decide +kernel
theorem d_init_C_4 : decode prog_2_method_1_code 4 = .ok (.aload_n 0, 1) := by decide +kernel
theorem d_init_C_5 : decode prog_2_method_1_code 5 = .ok (.sipush 128, 3) := by decide +kernel
theorem d_init_C_8 : decode prog_2_method_1_code 8 = .ok (.newarray .byte, 2) := by decide +kernel
theorem d_init_C_10 : decode prog_2_method_1_code 10 = .ok (.putfield 9, 3) := by decide +kernel
theorem d_init_C_13 : decode prog_2_method_1_code 13 = .ok (.return_, 1) := by decide +kernel
theorem d_init_S_0 : decode prog_5_method_1_code 0 = .ok (.aload_n 0, 1) := by decide +kernel
theorem d_init_S_1 : decode prog_5_method_1_code 1 = .ok (.invokespecial 3, 3) := by decide +kernel
theorem d_init_S_4 : decode prog_5_method_1_code 4 = .ok (.aload_n 0, 1) := by decide +kernel
theorem d_init_S_5 : decode prog_5_method_1_code 5 = .ok (.sipush 4096, 3) := by decide +kernel
theorem d_init_S_8 : decode prog_5_method_1_code 8 = .ok (.newarray .byte, 2) := by decide +kernel
theorem d_init_S_10 : decode prog_5_method_1_code 10 = .ok (.putfield 9, 3) := by decide +kernel
theorem d_init_S_13 : decode prog_5_method_1_code 13 = .ok (.return_, 1) := by decide +kernel
theorem d_open_0 : decode prog_1_method_2_code 0 = .ok (.iload_n 1, 1) := by decide +kernel
theorem d_open_1 : decode prog_1_method_2_code 1 = .ok (.invokestatic 50, 3) := by decide +kernel
theorem d_open_4 : decode prog_1_method_2_code 4 = .ok (.ifCond .eq 18, 3) := by decide +kernel
theorem d_open_7 : decode prog_1_method_2_code 7 = .ok (.iload_n 2, 1) := by decide +kernel
theorem d_open_8 : decode prog_1_method_2_code 8 = .ok (.invokestatic 54, 3) := by decide +kernel
theorem d_open_11 : decode prog_1_method_2_code 11 = .ok (.ifCond .eq 11, 3) := by decide +kernel
theorem d_open_14 : decode prog_1_method_2_code 14 = .ok (.iload 4, 2) := by decide +kernel
theorem d_open_16 : decode prog_1_method_2_code 16 = .ok (.invokestatic 57, 3) := by decide +kernel
theorem d_open_19 : decode prog_1_method_2_code 19 = .ok (.ifCond .ne 5, 3) := by decide +kernel
theorem d_open_22 : decode prog_1_method_2_code 22 = .ok (.iconst (-1), 1) := by decide +kernel
theorem d_open_23 : decode prog_1_method_2_code 23 = .ok (.ireturn, 1) := by decide +kernel
theorem d_open_24 : decode prog_1_method_2_code 24 = .ok (.aload_n 0, 1) := by decide +kernel
theorem d_open_25 : decode prog_1_method_2_code 25 = .ok (.iload_n 1, 1) := by decide +kernel
theorem d_open_26 : decode prog_1_method_2_code 26 = .ok (.iconst 0, 1) := by decide +kernel
theorem d_open_27 : decode prog_1_method_2_code 27 = .ok (.invokevirtual 60, 3) := by decide +kernel
theorem d_open_30 : decode prog_1_method_2_code 30 = .ok (.istore 5, 2) := by decide +kernel
theorem d_open_32 : decode prog_1_method_2_code 32 = .ok (.aload_n 0, 1) := by decide +kernel
theorem d_open_33 : decode prog_1_method_2_code 33 = .ok (.iconst 0, 1) := by decide +kernel
theorem d_open_34 : decode prog_1_method_2_code 34 = .ok (.invokevirtual 64, 3) := by decide +kernel
theorem d_open_37 : decode prog_1_method_2_code 37 = .ok (.astore 6, 2) := by decide +kernel
theorem d_open_39 : decode prog_1_method_2_code 39 = .ok (.iload 5, 2) := by decide +kernel
theorem d_open_41 : decode prog_1_method_2_code 41 = .ok (.iconst (-1), 1) := by decide +kernel
theorem d_open_42 : decode prog_1_method_2_code 42 = .ok (.if_icmp .eq 8, 3) := by decide +kernel
theorem d_open_45 : decode prog_1_method_2_code 45 = .ok (.aload 6, 2) := by decide +kernel
theorem d_open_47 : decode prog_1_method_2_code 47 = .ok (.ifnonnull 5, 3) := by decide +kernel
theorem d_open_50 : decode prog_1_method_2_code 50 = .ok (.iconst (-1), 1) := by decide +kernel
theorem d_open_51 : decode prog_1_method_2_code 51 = .ok (.ireturn, 1) := by decide +kernel
theorem d_open_52 : decode prog_1_method_2_code 52 = .ok (.aload 6, 2) := by decide +kernel
theorem d_open_54 : decode prog_1_method_2_code 54 = .ok (.iload_n 2, 1) := by decide +kernel
theorem d_open_55 : decode prog_1_method_2_code 55 = .ok (.iload 4, 2) := by decide +kernel
theorem d_open_57 : decode prog_1_method_2_code 57 = .ok (.invokevirtual 68, 3) := by decide +kernel
theorem d_open_60 : decode prog_1_method_2_code 60 = .ok (.iload_n 2, 1) := by decide +kernel
theorem d_open_61 : decode prog_1_method_2_code 61 = .ok (.iconst 2, 1) := by decide +kernel
theorem d_open_62 : decode prog_1_method_2_code 62 = .ok (.if_icmp .ne 9, 3) := by decide +kernel
theorem d_open_65 : decode prog_1_method_2_code 65 = .ok (.aload 6, 2) := by decide +kernel
theorem d_open_67 : decode prog_1_method_2_code 67 = .ok (.iload_n 3, 1) := by decide +kernel
theorem d_open_68 : decode prog_1_method_2_code 68 = .ok (.putfield 72, 3) := by decide +kernel
theorem d_open_71 : decode prog_1_method_2_code 71 = .ok (.aload_n 0, 1) := by decide +kernel
theorem d_open_72 : decode prog_1_method_2_code 72 = .ok (.iload_n 1, 1) := by decide +kernel
theorem d_open_73 : decode prog_1_method_2_code 73 = .ok (.iload 5, 2) := by decide +kernel
theorem d_open_75 : decode prog_1_method_2_code 75 = .ok (.aload 6, 2) := by decide +kernel
theorem d_open_77 : decode prog_1_method_2_code 77 = .ok (.invokevirtual 75, 3) := by decide +kernel
theorem d_open_80 : decode prog_1_method_2_code 80 = .ok (.iload 5, 2) := by decide +kernel
theorem d_open_82 : decode prog_1_method_2_code 82 = .ok (.ireturn, 1) := by decide +kernel
theorem d_isProcess_0 : decode prog_1_method_20_code 0 = .ok (.iload_n 0, 1) := by decide +kernel
theorem d_isProcess_1 : decode prog_1_method_20_code 1 = .ok (.ifCond .lt 13, 3) := by decide +kernel
theorem d_isProcess_4 : decode prog_1_method_20_code 4 = .ok (.iload_n 0, 1) := by decide +kernel
theorem d_isProcess_5 : decode prog_1_method_20_code 5 = .ok (.bipush 15, 2) := by decide +kernel
theorem d_isProcess_7 : decode prog_1_method_20_code 7 = .ok (.if_icmp .ge 7, 3) := by decide +kernel
theorem d_isProcess_10 : decode prog_1_method_20_code 10 = .ok (.iconst 1, 1) := by decide +kernel
theorem d_isProcess_11 : decode prog_1_method_20_code 11 = .ok (.goto 4, 3) := by decide +kernel
theorem d_isProcess_14 : decode prog_1_method_20_code 14 = .ok (.iconst 0, 1) := by decide +kernel
theorem d_isProcess_15 : decode prog_1_method_20_code 15 = .ok (.ireturn, 1) := by decide +kernel
theorem d_isOpenable_0 : decode prog_1_method_22_code 0 = .ok (.iload_n 0, 1) := by decide +kernel
theorem d_isOpenable_1 : decode prog_1_method_22_code 1 = .ok (.iconst 2, 1) := by decide +kernel
theorem d_isOpenable_2 : decode prog_1_method_22_code 2 = .ok (.if_icmp .eq 8, 3) := by decide +kernel
theorem d_isOpenable_5 : decode prog_1_method_22_code 5 = .ok (.iload_n 0, 1) := by decide +kernel
theorem d_isOpenable_6 : decode prog_1_method_22_code 6 = .ok (.iconst 3, 1) := by decide +kernel
theorem d_isOpenable_7 : decode prog_1_method_22_code 7 = .ok (.if_icmp .ne 7, 3) := by decide +kernel
theorem d_isOpenable_10 : decode prog_1_method_22_code 10 = .ok (.iconst 1, 1) := by decide +kernel
theorem d_isOpenable_11 : decode prog_1_method_22_code 11 = .ok (.goto 4, 3) := by decide +kernel
theorem d_isOpenable_14 : decode prog_1_method_22_code 14 = .ok (.iconst 0, 1) := by decide +kernel
theorem d_isOpenable_15 : decode prog_1_method_22_code 15 = .ok (.ireturn, 1) := by decide +kernel
theorem d_isHow_0 : decode prog_1_method_23_code 0 = .ok (.iload_n 0, 1) := by decide +kernel
theorem d_isHow_1 : decode prog_1_method_23_code 1 = .ok (.iconst 1, 1) := by decide +kernel
theorem d_isHow_2 : decode prog_1_method_23_code 2 = .ok (.if_icmp .lt 12, 3) := by decide +kernel
theorem d_isHow_5 : decode prog_1_method_23_code 5 = .ok (.iload_n 0, 1) := by decide +kernel
theorem d_isHow_6 : decode prog_1_method_23_code 6 = .ok (.iconst 3, 1) := by decide +kernel
theorem d_isHow_7 : decode prog_1_method_23_code 7 = .ok (.if_icmp .gt 7, 3) := by decide +kernel
theorem d_isHow_10 : decode prog_1_method_23_code 10 = .ok (.iconst 1, 1) := by decide +kernel
theorem d_isHow_11 : decode prog_1_method_23_code 11 = .ok (.goto 4, 3) := by decide +kernel
theorem d_isHow_14 : decode prog_1_method_23_code 14 = .ok (.iconst 0, 1) := by decide +kernel
theorem d_isHow_15 : decode prog_1_method_23_code 15 = .ok (.ireturn, 1) := by decide +kernel
theorem d_freeDescriptor_0 : decode prog_1_method_26_code 0 = .ok (.iload_n 2, 1) := by decide +kernel
theorem d_freeDescriptor_1 : decode prog_1_method_26_code 1 = .ok (.istore_n 3, 1) := by decide +kernel
theorem d_freeDescriptor_2 : decode prog_1_method_26_code 2 = .ok (.iload_n 3, 1) := by decide +kernel
theorem d_freeDescriptor_3 : decode prog_1_method_26_code 3 = .ok (.bipush 16, 2) := by decide +kernel
theorem d_freeDescriptor_5 : decode prog_1_method_26_code 5 = .ok (.if_icmp .ge 20, 3) := by decide +kernel
theorem d_freeDescriptor_8 : decode prog_1_method_26_code 8 = .ok (.aload_n 0, 1) := by decide +kernel
theorem d_freeDescriptor_9 : decode prog_1_method_26_code 9 = .ok (.iload_n 1, 1) := by decide +kernel
theorem d_freeDescriptor_10 : decode prog_1_method_26_code 10 = .ok (.iload_n 3, 1) := by decide +kernel
theorem d_freeDescriptor_11 : decode prog_1_method_26_code 11 = .ok (.invokevirtual 90, 3) := by decide +kernel
theorem d_freeDescriptor_14 : decode prog_1_method_26_code 14 = .ok (.ifnonnull 5, 3) := by decide +kernel
theorem d_freeDescriptor_17 : decode prog_1_method_26_code 17 = .ok (.iload_n 3, 1) := by decide +kernel
theorem d_freeDescriptor_18 : decode prog_1_method_26_code 18 = .ok (.ireturn, 1) := by decide +kernel
theorem d_freeDescriptor_19 : decode prog_1_method_26_code 19 = .ok (.iinc 3 1, 3) := by decide +kernel
theorem d_freeDescriptor_22 : decode prog_1_method_26_code 22 = .ok (.goto (-20), 3) := by decide +kernel
theorem d_freeDescriptor_25 : decode prog_1_method_26_code 25 = .ok (.iconst (-1), 1) := by decide +kernel
theorem d_freeDescriptor_26 : decode prog_1_method_26_code 26 = .ok (.ireturn, 1) := by decide +kernel
theorem d_fileOf_0 : decode prog_1_method_25_code 0 = .ok (.iload_n 1, 1) := by decide +kernel
theorem d_fileOf_1 : decode prog_1_method_25_code 1 = .ok (.invokestatic 50, 3) := by decide +kernel
theorem d_fileOf_4 : decode prog_1_method_25_code 4 = .ok (.ifCond .eq 10, 3) := by decide +kernel
theorem d_fileOf_7 : decode prog_1_method_25_code 7 = .ok (.iload_n 2, 1) := by decide +kernel
theorem d_fileOf_8 : decode prog_1_method_25_code 8 = .ok (.invokestatic 185, 3) := by decide +kernel
theorem d_fileOf_11 : decode prog_1_method_25_code 11 = .ok (.ifCond .ne 5, 3) := by decide +kernel
theorem d_fileOf_14 : decode prog_1_method_25_code 14 = .ok (.aconst_null, 1) := by decide +kernel
theorem d_fileOf_15 : decode prog_1_method_25_code 15 = .ok (.areturn, 1) := by decide +kernel
theorem d_fileOf_16 : decode prog_1_method_25_code 16 = .ok (.aload_n 0, 1) := by decide +kernel
theorem d_fileOf_17 : decode prog_1_method_25_code 17 = .ok (.getfield 11, 3) := by decide +kernel
theorem d_fileOf_20 : decode prog_1_method_25_code 20 = .ok (.iload_n 1, 1) := by decide +kernel
theorem d_fileOf_21 : decode prog_1_method_25_code 21 = .ok (.bipush 16, 2) := by decide +kernel
theorem d_fileOf_23 : decode prog_1_method_25_code 23 = .ok (.imul, 1) := by decide +kernel
theorem d_fileOf_24 : decode prog_1_method_25_code 24 = .ok (.iload_n 2, 1) := by decide +kernel
theorem d_fileOf_25 : decode prog_1_method_25_code 25 = .ok (.iadd, 1) := by decide +kernel
theorem d_fileOf_26 : decode prog_1_method_25_code 26 = .ok (.aaload, 1) := by decide +kernel
theorem d_fileOf_27 : decode prog_1_method_25_code 27 = .ok (.areturn, 1) := by decide +kernel
theorem d_isDescriptor_0 : decode prog_1_method_21_code 0 = .ok (.iload_n 0, 1) := by decide +kernel
theorem d_isDescriptor_1 : decode prog_1_method_21_code 1 = .ok (.ifCond .lt 13, 3) := by decide +kernel
theorem d_isDescriptor_4 : decode prog_1_method_21_code 4 = .ok (.iload_n 0, 1) := by decide +kernel
theorem d_isDescriptor_5 : decode prog_1_method_21_code 5 = .ok (.bipush 16, 2) := by decide +kernel
theorem d_isDescriptor_7 : decode prog_1_method_21_code 7 = .ok (.if_icmp .ge 7, 3) := by decide +kernel
theorem d_isDescriptor_10 : decode prog_1_method_21_code 10 = .ok (.iconst 1, 1) := by decide +kernel
theorem d_isDescriptor_11 : decode prog_1_method_21_code 11 = .ok (.goto 4, 3) := by decide +kernel
theorem d_isDescriptor_14 : decode prog_1_method_21_code 14 = .ok (.iconst 0, 1) := by decide +kernel
theorem d_isDescriptor_15 : decode prog_1_method_21_code 15 = .ok (.ireturn, 1) := by decide +kernel
theorem d_freeFile_0 : decode prog_1_method_28_code 0 = .ok (.iload_n 1, 1) := by decide +kernel
theorem d_freeFile_1 : decode prog_1_method_28_code 1 = .ok (.ifCond .ge 5, 3) := by decide +kernel
theorem d_freeFile_4 : decode prog_1_method_28_code 4 = .ok (.aconst_null, 1) := by decide +kernel
theorem d_freeFile_5 : decode prog_1_method_28_code 5 = .ok (.areturn, 1) := by decide +kernel
theorem d_freeFile_6 : decode prog_1_method_28_code 6 = .ok (.iload_n 1, 1) := by decide +kernel
theorem d_freeFile_7 : decode prog_1_method_28_code 7 = .ok (.istore_n 2, 1) := by decide +kernel
theorem d_freeFile_8 : decode prog_1_method_28_code 8 = .ok (.iload_n 2, 1) := by decide +kernel
theorem d_freeFile_9 : decode prog_1_method_28_code 9 = .ok (.aload_n 0, 1) := by decide +kernel
theorem d_freeFile_10 : decode prog_1_method_28_code 10 = .ok (.getfield 15, 3) := by decide +kernel
theorem d_freeFile_13 : decode prog_1_method_28_code 13 = .ok (.arraylength, 1) := by decide +kernel
theorem d_freeFile_14 : decode prog_1_method_28_code 14 = .ok (.if_icmp .ge 29, 3) := by decide +kernel
theorem d_freeFile_17 : decode prog_1_method_28_code 17 = .ok (.aload_n 0, 1) := by decide +kernel
theorem d_freeFile_18 : decode prog_1_method_28_code 18 = .ok (.getfield 15, 3) := by decide +kernel
theorem d_freeFile_21 : decode prog_1_method_28_code 21 = .ok (.iload_n 2, 1) := by decide +kernel
theorem d_freeFile_22 : decode prog_1_method_28_code 22 = .ok (.aaload, 1) := by decide +kernel
theorem d_freeFile_23 : decode prog_1_method_28_code 23 = .ok (.astore_n 3, 1) := by decide +kernel
theorem d_freeFile_24 : decode prog_1_method_28_code 24 = .ok (.aload_n 3, 1) := by decide +kernel
theorem d_freeFile_25 : decode prog_1_method_28_code 25 = .ok (.ifnull 12, 3) := by decide +kernel
theorem d_freeFile_28 : decode prog_1_method_28_code 28 = .ok (.aload_n 3, 1) := by decide +kernel
theorem d_freeFile_29 : decode prog_1_method_28_code 29 = .ok (.getfield 127, 3) := by decide +kernel
theorem d_freeFile_32 : decode prog_1_method_28_code 32 = .ok (.ifCond .ne 5, 3) := by decide +kernel
theorem d_freeFile_35 : decode prog_1_method_28_code 35 = .ok (.aload_n 3, 1) := by decide +kernel
theorem d_freeFile_36 : decode prog_1_method_28_code 36 = .ok (.areturn, 1) := by decide +kernel
theorem d_freeFile_37 : decode prog_1_method_28_code 37 = .ok (.iinc 2 1, 3) := by decide +kernel
theorem d_freeFile_40 : decode prog_1_method_28_code 40 = .ok (.goto (-32), 3) := by decide +kernel
theorem d_freeFile_43 : decode prog_1_method_28_code 43 = .ok (.aconst_null, 1) := by decide +kernel
theorem d_freeFile_44 : decode prog_1_method_28_code 44 = .ok (.areturn, 1) := by decide +kernel
theorem d_File_begin_0 : decode prog_3_method_2_code 0 = .ok (.aload_n 0, 1) := by decide +kernel
theorem d_File_begin_1 : decode prog_3_method_2_code 1 = .ok (.iload_n 1, 1) := by decide +kernel
theorem d_File_begin_2 : decode prog_3_method_2_code 2 = .ok (.putfield 15, 3) := by decide +kernel
theorem d_File_begin_5 : decode prog_3_method_2_code 5 = .ok (.aload_n 0, 1) := by decide +kernel
theorem d_File_begin_6 : decode prog_3_method_2_code 6 = .ok (.iconst 0, 1) := by decide +kernel
theorem d_File_begin_7 : decode prog_3_method_2_code 7 = .ok (.putfield 18, 3) := by decide +kernel
theorem d_File_begin_10 : decode prog_3_method_2_code 10 = .ok (.aload_n 0, 1) := by decide +kernel
theorem d_File_begin_11 : decode prog_3_method_2_code 11 = .ok (.aconst_null, 1) := by decide +kernel
theorem d_File_begin_12 : decode prog_3_method_2_code 12 = .ok (.putfield 21, 3) := by decide +kernel
theorem d_File_begin_15 : decode prog_3_method_2_code 15 = .ok (.aload_n 0, 1) := by decide +kernel
theorem d_File_begin_16 : decode prog_3_method_2_code 16 = .ok (.iload_n 2, 1) := by decide +kernel
theorem d_File_begin_17 : decode prog_3_method_2_code 17 = .ok (.iconst 1, 1) := by decide +kernel
theorem d_File_begin_18 : decode prog_3_method_2_code 18 = .ok (.iand, 1) := by decide +kernel
theorem d_File_begin_19 : decode prog_3_method_2_code 19 = .ok (.ifCond .eq 7, 3) := by decide +kernel
theorem d_File_begin_22 : decode prog_3_method_2_code 22 = .ok (.iconst 1, 1) := by decide +kernel
theorem d_File_begin_23 : decode prog_3_method_2_code 23 = .ok (.goto 4, 3) := by decide +kernel
theorem d_File_begin_26 : decode prog_3_method_2_code 26 = .ok (.iconst 0, 1) := by decide +kernel
theorem d_File_begin_27 : decode prog_3_method_2_code 27 = .ok (.putfield 25, 3) := by decide +kernel
theorem d_File_begin_30 : decode prog_3_method_2_code 30 = .ok (.aload_n 0, 1) := by decide +kernel
theorem d_File_begin_31 : decode prog_3_method_2_code 31 = .ok (.iload_n 2, 1) := by decide +kernel
theorem d_File_begin_32 : decode prog_3_method_2_code 32 = .ok (.iconst 2, 1) := by decide +kernel
theorem d_File_begin_33 : decode prog_3_method_2_code 33 = .ok (.iand, 1) := by decide +kernel
theorem d_File_begin_34 : decode prog_3_method_2_code 34 = .ok (.ifCond .eq 7, 3) := by decide +kernel
theorem d_File_begin_37 : decode prog_3_method_2_code 37 = .ok (.iconst 1, 1) := by decide +kernel
theorem d_File_begin_38 : decode prog_3_method_2_code 38 = .ok (.goto 4, 3) := by decide +kernel
theorem d_File_begin_41 : decode prog_3_method_2_code 41 = .ok (.iconst 0, 1) := by decide +kernel
theorem d_File_begin_42 : decode prog_3_method_2_code 42 = .ok (.putfield 29, 3) := by decide +kernel
theorem d_File_begin_45 : decode prog_3_method_2_code 45 = .ok (.aload_n 0, 1) := by decide +kernel
theorem d_File_begin_46 : decode prog_3_method_2_code 46 = .ok (.iconst 0, 1) := by decide +kernel
theorem d_File_begin_47 : decode prog_3_method_2_code 47 = .ok (.putfield 32, 3) := by decide +kernel
theorem d_File_begin_50 : decode prog_3_method_2_code 50 = .ok (.aload_n 0, 1) := by decide +kernel
theorem d_File_begin_51 : decode prog_3_method_2_code 51 = .ok (.iconst 0, 1) := by decide +kernel
theorem d_File_begin_52 : decode prog_3_method_2_code 52 = .ok (.putfield 35, 3) := by decide +kernel
theorem d_File_begin_55 : decode prog_3_method_2_code 55 = .ok (.return_, 1) := by decide +kernel
theorem d_setName_0 : decode prog_1_method_31_code 0 = .ok (.iload_n 1, 1) := by decide +kernel
theorem d_setName_1 : decode prog_1_method_31_code 1 = .ok (.invokestatic 50, 3) := by decide +kernel
theorem d_setName_4 : decode prog_1_method_31_code 4 = .ok (.ifCond .eq 32, 3) := by decide +kernel
theorem d_setName_7 : decode prog_1_method_31_code 7 = .ok (.iload_n 2, 1) := by decide +kernel
theorem d_setName_8 : decode prog_1_method_31_code 8 = .ok (.invokestatic 185, 3) := by decide +kernel
theorem d_setName_11 : decode prog_1_method_31_code 11 = .ok (.ifCond .eq 25, 3) := by decide +kernel
theorem d_setName_14 : decode prog_1_method_31_code 14 = .ok (.aload_n 0, 1) := by decide +kernel
theorem d_setName_15 : decode prog_1_method_31_code 15 = .ok (.getfield 11, 3) := by decide +kernel
theorem d_setName_18 : decode prog_1_method_31_code 18 = .ok (.iload_n 1, 1) := by decide +kernel
theorem d_setName_19 : decode prog_1_method_31_code 19 = .ok (.bipush 16, 2) := by decide +kernel
theorem d_setName_21 : decode prog_1_method_31_code 21 = .ok (.imul, 1) := by decide +kernel
theorem d_setName_22 : decode prog_1_method_31_code 22 = .ok (.iload_n 2, 1) := by decide +kernel
theorem d_setName_23 : decode prog_1_method_31_code 23 = .ok (.iadd, 1) := by decide +kernel
theorem d_setName_24 : decode prog_1_method_31_code 24 = .ok (.aload_n 3, 1) := by decide +kernel
theorem d_setName_25 : decode prog_1_method_31_code 25 = .ok (.aastore, 1) := by decide +kernel
theorem d_setName_26 : decode prog_1_method_31_code 26 = .ok (.aload_n 3, 1) := by decide +kernel
theorem d_setName_27 : decode prog_1_method_31_code 27 = .ok (.dup, 1) := by decide +kernel
theorem d_setName_28 : decode prog_1_method_31_code 28 = .ok (.getfield 127, 3) := by decide +kernel
theorem d_setName_31 : decode prog_1_method_31_code 31 = .ok (.iconst 1, 1) := by decide +kernel
theorem d_setName_32 : decode prog_1_method_31_code 32 = .ok (.iadd, 1) := by decide +kernel
theorem d_setName_33 : decode prog_1_method_31_code 33 = .ok (.putfield 127, 3) := by decide +kernel
theorem d_setName_36 : decode prog_1_method_31_code 36 = .ok (.return_, 1) := by decide +kernel
theorem d_pipe_0 : decode prog_1_method_3_code 0 = .ok (.iload_n 1, 1) := by decide +kernel
theorem d_pipe_1 : decode prog_1_method_3_code 1 = .ok (.invokestatic 50, 3) := by decide +kernel
theorem d_pipe_4 : decode prog_1_method_3_code 4 = .ok (.ifCond .ne 5, 3) := by decide +kernel
theorem d_pipe_7 : decode prog_1_method_3_code 7 = .ok (.iconst (-1), 1) := by decide +kernel
theorem d_pipe_8 : decode prog_1_method_3_code 8 = .ok (.ireturn, 1) := by decide +kernel
theorem d_pipe_9 : decode prog_1_method_3_code 9 = .ok (.aload_n 0, 1) := by decide +kernel
theorem d_pipe_10 : decode prog_1_method_3_code 10 = .ok (.iload_n 1, 1) := by decide +kernel
theorem d_pipe_11 : decode prog_1_method_3_code 11 = .ok (.iconst 0, 1) := by decide +kernel
theorem d_pipe_12 : decode prog_1_method_3_code 12 = .ok (.invokevirtual 60, 3) := by decide +kernel
theorem d_pipe_15 : decode prog_1_method_3_code 15 = .ok (.istore_n 2, 1) := by decide +kernel
theorem d_pipe_16 : decode prog_1_method_3_code 16 = .ok (.iload_n 2, 1) := by decide +kernel
theorem d_pipe_17 : decode prog_1_method_3_code 17 = .ok (.iconst (-1), 1) := by decide +kernel
theorem d_pipe_18 : decode prog_1_method_3_code 18 = .ok (.if_icmp .ne 5, 3) := by decide +kernel
theorem d_pipe_21 : decode prog_1_method_3_code 21 = .ok (.iconst (-1), 1) := by decide +kernel
theorem d_pipe_22 : decode prog_1_method_3_code 22 = .ok (.ireturn, 1) := by decide +kernel
theorem d_pipe_23 : decode prog_1_method_3_code 23 = .ok (.aload_n 0, 1) := by decide +kernel
theorem d_pipe_24 : decode prog_1_method_3_code 24 = .ok (.iload_n 1, 1) := by decide +kernel
theorem d_pipe_25 : decode prog_1_method_3_code 25 = .ok (.iload_n 2, 1) := by decide +kernel
theorem d_pipe_26 : decode prog_1_method_3_code 26 = .ok (.iconst 1, 1) := by decide +kernel
theorem d_pipe_27 : decode prog_1_method_3_code 27 = .ok (.iadd, 1) := by decide +kernel
theorem d_pipe_28 : decode prog_1_method_3_code 28 = .ok (.invokevirtual 60, 3) := by decide +kernel
theorem d_pipe_31 : decode prog_1_method_3_code 31 = .ok (.istore_n 3, 1) := by decide +kernel
theorem d_pipe_32 : decode prog_1_method_3_code 32 = .ok (.iload_n 3, 1) := by decide +kernel
theorem d_pipe_33 : decode prog_1_method_3_code 33 = .ok (.iconst (-1), 1) := by decide +kernel
theorem d_pipe_34 : decode prog_1_method_3_code 34 = .ok (.if_icmp .ne 5, 3) := by decide +kernel
theorem d_pipe_37 : decode prog_1_method_3_code 37 = .ok (.iconst (-1), 1) := by decide +kernel
theorem d_pipe_38 : decode prog_1_method_3_code 38 = .ok (.ireturn, 1) := by decide +kernel
theorem d_pipe_39 : decode prog_1_method_3_code 39 = .ok (.aload_n 0, 1) := by decide +kernel
theorem d_pipe_40 : decode prog_1_method_3_code 40 = .ok (.iconst 0, 1) := by decide +kernel
theorem d_pipe_41 : decode prog_1_method_3_code 41 = .ok (.invokevirtual 64, 3) := by decide +kernel
theorem d_pipe_44 : decode prog_1_method_3_code 44 = .ok (.astore 4, 2) := by decide +kernel
theorem d_pipe_46 : decode prog_1_method_3_code 46 = .ok (.aload 4, 2) := by decide +kernel
theorem d_pipe_48 : decode prog_1_method_3_code 48 = .ok (.ifnonnull 5, 3) := by decide +kernel
theorem d_pipe_51 : decode prog_1_method_3_code 51 = .ok (.iconst (-1), 1) := by decide +kernel
theorem d_pipe_52 : decode prog_1_method_3_code 52 = .ok (.ireturn, 1) := by decide +kernel
theorem d_pipe_53 : decode prog_1_method_3_code 53 = .ok (.aload_n 0, 1) := by decide +kernel
theorem d_pipe_54 : decode prog_1_method_3_code 54 = .ok (.aload 4, 2) := by decide +kernel
theorem d_pipe_56 : decode prog_1_method_3_code 56 = .ok (.getfield 79, 3) := by decide +kernel
theorem d_pipe_59 : decode prog_1_method_3_code 59 = .ok (.iconst 1, 1) := by decide +kernel
theorem d_pipe_60 : decode prog_1_method_3_code 60 = .ok (.iadd, 1) := by decide +kernel
theorem d_pipe_61 : decode prog_1_method_3_code 61 = .ok (.invokevirtual 64, 3) := by decide +kernel
theorem d_pipe_64 : decode prog_1_method_3_code 64 = .ok (.astore 5, 2) := by decide +kernel
theorem d_pipe_66 : decode prog_1_method_3_code 66 = .ok (.aload_n 0, 1) := by decide +kernel
theorem d_pipe_67 : decode prog_1_method_3_code 67 = .ok (.invokevirtual 82, 3) := by decide +kernel
theorem d_pipe_70 : decode prog_1_method_3_code 70 = .ok (.astore 6, 2) := by decide +kernel
theorem d_pipe_72 : decode prog_1_method_3_code 72 = .ok (.aload 5, 2) := by decide +kernel
theorem d_pipe_74 : decode prog_1_method_3_code 74 = .ok (.ifnull 8, 3) := by decide +kernel
theorem d_pipe_77 : decode prog_1_method_3_code 77 = .ok (.aload 6, 2) := by decide +kernel
theorem d_pipe_79 : decode prog_1_method_3_code 79 = .ok (.ifnonnull 5, 3) := by decide +kernel
theorem d_pipe_82 : decode prog_1_method_3_code 82 = .ok (.iconst (-1), 1) := by decide +kernel
theorem d_pipe_83 : decode prog_1_method_3_code 83 = .ok (.ireturn, 1) := by decide +kernel
theorem d_pipe_84 : decode prog_1_method_3_code 84 = .ok (.aload 6, 2) := by decide +kernel
theorem d_pipe_86 : decode prog_1_method_3_code 86 = .ok (.aload 4, 2) := by decide +kernel
theorem d_pipe_88 : decode prog_1_method_3_code 88 = .ok (.aload 5, 2) := by decide +kernel
theorem d_pipe_90 : decode prog_1_method_3_code 90 = .ok (.invokestatic 86, 3) := by decide +kernel
theorem d_pipe_93 : decode prog_1_method_3_code 93 = .ok (.aload_n 0, 1) := by decide +kernel
theorem d_pipe_94 : decode prog_1_method_3_code 94 = .ok (.iload_n 1, 1) := by decide +kernel
theorem d_pipe_95 : decode prog_1_method_3_code 95 = .ok (.iload_n 2, 1) := by decide +kernel
theorem d_pipe_96 : decode prog_1_method_3_code 96 = .ok (.aload 4, 2) := by decide +kernel
theorem d_pipe_98 : decode prog_1_method_3_code 98 = .ok (.invokevirtual 75, 3) := by decide +kernel
theorem d_pipe_101 : decode prog_1_method_3_code 101 = .ok (.aload_n 0, 1) := by decide +kernel
theorem d_pipe_102 : decode prog_1_method_3_code 102 = .ok (.iload_n 1, 1) := by decide +kernel
theorem d_pipe_103 : decode prog_1_method_3_code 103 = .ok (.iload_n 3, 1) := by decide +kernel
theorem d_pipe_104 : decode prog_1_method_3_code 104 = .ok (.aload 5, 2) := by decide +kernel
theorem d_pipe_106 : decode prog_1_method_3_code 106 = .ok (.invokevirtual 75, 3) := by decide +kernel
theorem d_pipe_109 : decode prog_1_method_3_code 109 = .ok (.iload_n 2, 1) := by decide +kernel
theorem d_pipe_110 : decode prog_1_method_3_code 110 = .ok (.bipush 16, 2) := by decide +kernel
theorem d_pipe_112 : decode prog_1_method_3_code 112 = .ok (.iload_n 3, 1) := by decide +kernel
theorem d_pipe_113 : decode prog_1_method_3_code 113 = .ok (.imul, 1) := by decide +kernel
theorem d_pipe_114 : decode prog_1_method_3_code 114 = .ok (.iadd, 1) := by decide +kernel
theorem d_pipe_115 : decode prog_1_method_3_code 115 = .ok (.ireturn, 1) := by decide +kernel
theorem d_freePipe_0 : decode prog_1_method_29_code 0 = .ok (.iconst 0, 1) := by decide +kernel
theorem d_freePipe_1 : decode prog_1_method_29_code 1 = .ok (.istore_n 1, 1) := by decide +kernel
theorem d_freePipe_2 : decode prog_1_method_29_code 2 = .ok (.iload_n 1, 1) := by decide +kernel
theorem d_freePipe_3 : decode prog_1_method_29_code 3 = .ok (.aload_n 0, 1) := by decide +kernel
theorem d_freePipe_4 : decode prog_1_method_29_code 4 = .ok (.getfield 23, 3) := by decide +kernel
theorem d_freePipe_7 : decode prog_1_method_29_code 7 = .ok (.arraylength, 1) := by decide +kernel
theorem d_freePipe_8 : decode prog_1_method_29_code 8 = .ok (.if_icmp .ge 29, 3) := by decide +kernel
theorem d_freePipe_11 : decode prog_1_method_29_code 11 = .ok (.aload_n 0, 1) := by decide +kernel
theorem d_freePipe_12 : decode prog_1_method_29_code 12 = .ok (.getfield 23, 3) := by decide +kernel
theorem d_freePipe_15 : decode prog_1_method_29_code 15 = .ok (.iload_n 1, 1) := by decide +kernel
theorem d_freePipe_16 : decode prog_1_method_29_code 16 = .ok (.aaload, 1) := by decide +kernel
theorem d_freePipe_17 : decode prog_1_method_29_code 17 = .ok (.astore_n 2, 1) := by decide +kernel
theorem d_freePipe_18 : decode prog_1_method_29_code 18 = .ok (.aload_n 2, 1) := by decide +kernel
theorem d_freePipe_19 : decode prog_1_method_29_code 19 = .ok (.ifnull 12, 3) := by decide +kernel
theorem d_freePipe_22 : decode prog_1_method_29_code 22 = .ok (.aload_n 2, 1) := by decide +kernel
theorem d_freePipe_23 : decode prog_1_method_29_code 23 = .ok (.invokevirtual 150, 3) := by decide +kernel
theorem d_freePipe_26 : decode prog_1_method_29_code 26 = .ok (.ifCond .eq 5, 3) := by decide +kernel
theorem d_freePipe_29 : decode prog_1_method_29_code 29 = .ok (.aload_n 2, 1) := by decide +kernel
theorem d_freePipe_30 : decode prog_1_method_29_code 30 = .ok (.areturn, 1) := by decide +kernel
theorem d_freePipe_31 : decode prog_1_method_29_code 31 = .ok (.iinc 1 1, 3) := by decide +kernel
theorem d_freePipe_34 : decode prog_1_method_29_code 34 = .ok (.goto (-32), 3) := by decide +kernel
theorem d_freePipe_37 : decode prog_1_method_29_code 37 = .ok (.aconst_null, 1) := by decide +kernel
theorem d_freePipe_38 : decode prog_1_method_29_code 38 = .ok (.areturn, 1) := by decide +kernel
theorem d_Pipe_isGone_0 : decode prog_4_method_3_code 0 = .ok (.aload_n 0, 1) := by decide +kernel
theorem d_Pipe_isGone_1 : decode prog_4_method_3_code 1 = .ok (.getfield 25, 3) := by decide +kernel
theorem d_Pipe_isGone_4 : decode prog_4_method_3_code 4 = .ok (.ifCond .ne 14, 3) := by decide +kernel
theorem d_Pipe_isGone_7 : decode prog_4_method_3_code 7 = .ok (.aload_n 0, 1) := by decide +kernel
theorem d_Pipe_isGone_8 : decode prog_4_method_3_code 8 = .ok (.getfield 29, 3) := by decide +kernel
theorem d_Pipe_isGone_11 : decode prog_4_method_3_code 11 = .ok (.ifCond .ne 7, 3) := by decide +kernel
theorem d_Pipe_isGone_14 : decode prog_4_method_3_code 14 = .ok (.iconst 1, 1) := by decide +kernel
theorem d_Pipe_isGone_15 : decode prog_4_method_3_code 15 = .ok (.goto 4, 3) := by decide +kernel
theorem d_Pipe_isGone_18 : decode prog_4_method_3_code 18 = .ok (.iconst 0, 1) := by decide +kernel
theorem d_Pipe_isGone_19 : decode prog_4_method_3_code 19 = .ok (.ireturn, 1) := by decide +kernel
theorem d_joinEnds_0 : decode prog_1_method_30_code 0 = .ok (.aload_n 0, 1) := by decide +kernel
theorem d_joinEnds_1 : decode prog_1_method_30_code 1 = .ok (.invokevirtual 188, 3) := by decide +kernel
theorem d_joinEnds_4 : decode prog_1_method_30_code 4 = .ok (.aload_n 1, 1) := by decide +kernel
theorem d_joinEnds_5 : decode prog_1_method_30_code 5 = .ok (.iconst 1, 1) := by decide +kernel
theorem d_joinEnds_6 : decode prog_1_method_30_code 6 = .ok (.iconst 1, 1) := by decide +kernel
theorem d_joinEnds_7 : decode prog_1_method_30_code 7 = .ok (.invokevirtual 68, 3) := by decide +kernel
theorem d_joinEnds_10 : decode prog_1_method_30_code 10 = .ok (.aload_n 1, 1) := by decide +kernel
theorem d_joinEnds_11 : decode prog_1_method_30_code 11 = .ok (.aload_n 0, 1) := by decide +kernel
theorem d_joinEnds_12 : decode prog_1_method_30_code 12 = .ok (.putfield 108, 3) := by decide +kernel
theorem d_joinEnds_15 : decode prog_1_method_30_code 15 = .ok (.aload_n 2, 1) := by decide +kernel
theorem d_joinEnds_16 : decode prog_1_method_30_code 16 = .ok (.iconst 1, 1) := by decide +kernel
theorem d_joinEnds_17 : decode prog_1_method_30_code 17 = .ok (.iconst 2, 1) := by decide +kernel
theorem d_joinEnds_18 : decode prog_1_method_30_code 18 = .ok (.invokevirtual 68, 3) := by decide +kernel
theorem d_joinEnds_21 : decode prog_1_method_30_code 21 = .ok (.aload_n 2, 1) := by decide +kernel
theorem d_joinEnds_22 : decode prog_1_method_30_code 22 = .ok (.aload_n 0, 1) := by decide +kernel
theorem d_joinEnds_23 : decode prog_1_method_30_code 23 = .ok (.putfield 108, 3) := by decide +kernel
theorem d_joinEnds_26 : decode prog_1_method_30_code 26 = .ok (.return_, 1) := by decide +kernel
theorem d_Pipe_begin_0 : decode prog_4_method_2_code 0 = .ok (.aload_n 0, 1) := by decide +kernel
theorem d_Pipe_begin_1 : decode prog_4_method_2_code 1 = .ok (.iconst 0, 1) := by decide +kernel
theorem d_Pipe_begin_2 : decode prog_4_method_2_code 2 = .ok (.putfield 19, 3) := by decide +kernel
theorem d_Pipe_begin_5 : decode prog_4_method_2_code 5 = .ok (.aload_n 0, 1) := by decide +kernel
theorem d_Pipe_begin_6 : decode prog_4_method_2_code 6 = .ok (.iconst 0, 1) := by decide +kernel
theorem d_Pipe_begin_7 : decode prog_4_method_2_code 7 = .ok (.putfield 22, 3) := by decide +kernel
theorem d_Pipe_begin_10 : decode prog_4_method_2_code 10 = .ok (.aload_n 0, 1) := by decide +kernel
theorem d_Pipe_begin_11 : decode prog_4_method_2_code 11 = .ok (.iconst 1, 1) := by decide +kernel
theorem d_Pipe_begin_12 : decode prog_4_method_2_code 12 = .ok (.putfield 25, 3) := by decide +kernel
theorem d_Pipe_begin_15 : decode prog_4_method_2_code 15 = .ok (.aload_n 0, 1) := by decide +kernel
theorem d_Pipe_begin_16 : decode prog_4_method_2_code 16 = .ok (.iconst 1, 1) := by decide +kernel
theorem d_Pipe_begin_17 : decode prog_4_method_2_code 17 = .ok (.putfield 29, 3) := by decide +kernel
theorem d_Pipe_begin_20 : decode prog_4_method_2_code 20 = .ok (.return_, 1) := by decide +kernel
theorem d_again_0 : decode prog_1_method_4_code 0 = .ok (.aload_n 0, 1) := by decide +kernel
theorem d_again_1 : decode prog_1_method_4_code 1 = .ok (.iload_n 1, 1) := by decide +kernel
theorem d_again_2 : decode prog_1_method_4_code 2 = .ok (.iload_n 2, 1) := by decide +kernel
theorem d_again_3 : decode prog_1_method_4_code 3 = .ok (.invokevirtual 90, 3) := by decide +kernel
theorem d_again_6 : decode prog_1_method_4_code 6 = .ok (.astore_n 3, 1) := by decide +kernel
theorem d_again_7 : decode prog_1_method_4_code 7 = .ok (.aload_n 3, 1) := by decide +kernel
theorem d_again_8 : decode prog_1_method_4_code 8 = .ok (.ifnonnull 5, 3) := by decide +kernel
theorem d_again_11 : decode prog_1_method_4_code 11 = .ok (.iconst (-1), 1) := by decide +kernel
theorem d_again_12 : decode prog_1_method_4_code 12 = .ok (.ireturn, 1) := by decide +kernel
theorem d_again_13 : decode prog_1_method_4_code 13 = .ok (.aload_n 0, 1) := by decide +kernel
theorem d_again_14 : decode prog_1_method_4_code 14 = .ok (.iload_n 1, 1) := by decide +kernel
theorem d_again_15 : decode prog_1_method_4_code 15 = .ok (.iconst 0, 1) := by decide +kernel
theorem d_again_16 : decode prog_1_method_4_code 16 = .ok (.invokevirtual 60, 3) := by decide +kernel
theorem d_again_19 : decode prog_1_method_4_code 19 = .ok (.istore 4, 2) := by decide +kernel
theorem d_again_21 : decode prog_1_method_4_code 21 = .ok (.iload 4, 2) := by decide +kernel
theorem d_again_23 : decode prog_1_method_4_code 23 = .ok (.iconst (-1), 1) := by decide +kernel
theorem d_again_24 : decode prog_1_method_4_code 24 = .ok (.if_icmp .ne 5, 3) := by decide +kernel
theorem d_again_27 : decode prog_1_method_4_code 27 = .ok (.iconst (-1), 1) := by decide +kernel
theorem d_again_28 : decode prog_1_method_4_code 28 = .ok (.ireturn, 1) := by decide +kernel
theorem d_again_29 : decode prog_1_method_4_code 29 = .ok (.aload_n 0, 1) := by decide +kernel
theorem d_again_30 : decode prog_1_method_4_code 30 = .ok (.iload_n 1, 1) := by decide +kernel
theorem d_again_31 : decode prog_1_method_4_code 31 = .ok (.iload 4, 2) := by decide +kernel
theorem d_again_33 : decode prog_1_method_4_code 33 = .ok (.aload_n 3, 1) := by decide +kernel
theorem d_again_34 : decode prog_1_method_4_code 34 = .ok (.invokevirtual 75, 3) := by decide +kernel
theorem d_again_37 : decode prog_1_method_4_code 37 = .ok (.iload 4, 2) := by decide +kernel
theorem d_again_39 : decode prog_1_method_4_code 39 = .ok (.ireturn, 1) := by decide +kernel
theorem d_close_0 : decode prog_1_method_5_code 0 = .ok (.aload_n 0, 1) := by decide +kernel
theorem d_close_1 : decode prog_1_method_5_code 1 = .ok (.iload_n 1, 1) := by decide +kernel
theorem d_close_2 : decode prog_1_method_5_code 2 = .ok (.iload_n 2, 1) := by decide +kernel
theorem d_close_3 : decode prog_1_method_5_code 3 = .ok (.invokevirtual 90, 3) := by decide +kernel
theorem d_close_6 : decode prog_1_method_5_code 6 = .ok (.astore_n 3, 1) := by decide +kernel
theorem d_close_7 : decode prog_1_method_5_code 7 = .ok (.aload_n 3, 1) := by decide +kernel
theorem d_close_8 : decode prog_1_method_5_code 8 = .ok (.ifnonnull 5, 3) := by decide +kernel
theorem d_close_11 : decode prog_1_method_5_code 11 = .ok (.iconst (-1), 1) := by decide +kernel
theorem d_close_12 : decode prog_1_method_5_code 12 = .ok (.ireturn, 1) := by decide +kernel
theorem d_close_13 : decode prog_1_method_5_code 13 = .ok (.aload_n 0, 1) := by decide +kernel
theorem d_close_14 : decode prog_1_method_5_code 14 = .ok (.iload_n 1, 1) := by decide +kernel
theorem d_close_15 : decode prog_1_method_5_code 15 = .ok (.iload_n 2, 1) := by decide +kernel
theorem d_close_16 : decode prog_1_method_5_code 16 = .ok (.aload_n 3, 1) := by decide +kernel
theorem d_close_17 : decode prog_1_method_5_code 17 = .ok (.invokevirtual 94, 3) := by decide +kernel
theorem d_close_20 : decode prog_1_method_5_code 20 = .ok (.ifCond .eq 10, 3) := by decide +kernel
theorem d_close_23 : decode prog_1_method_5_code 23 = .ok (.aload_n 3, 1) := by decide +kernel
theorem d_close_24 : decode prog_1_method_5_code 24 = .ok (.getfield 72, 3) := by decide +kernel
theorem d_close_27 : decode prog_1_method_5_code 27 = .ok (.goto 4, 3) := by decide +kernel
theorem d_close_30 : decode prog_1_method_5_code 30 = .ok (.iconst 0, 1) := by decide +kernel
theorem d_close_31 : decode prog_1_method_5_code 31 = .ok (.ireturn, 1) := by decide +kernel
theorem d_dropName_0 : decode prog_1_method_32_code 0 = .ok (.iload_n 1, 1) := by decide +kernel
theorem d_dropName_1 : decode prog_1_method_32_code 1 = .ok (.invokestatic 50, 3) := by decide +kernel
theorem d_dropName_4 : decode prog_1_method_32_code 4 = .ok (.ifCond .eq 10, 3) := by decide +kernel
theorem d_dropName_7 : decode prog_1_method_32_code 7 = .ok (.iload_n 2, 1) := by decide +kernel
theorem d_dropName_8 : decode prog_1_method_32_code 8 = .ok (.invokestatic 185, 3) := by decide +kernel
theorem d_dropName_11 : decode prog_1_method_32_code 11 = .ok (.ifCond .ne 5, 3) := by decide +kernel
theorem d_dropName_14 : decode prog_1_method_32_code 14 = .ok (.iconst 0, 1) := by decide +kernel
theorem d_dropName_15 : decode prog_1_method_32_code 15 = .ok (.ireturn, 1) := by decide +kernel
theorem d_dropName_16 : decode prog_1_method_32_code 16 = .ok (.aload_n 0, 1) := by decide +kernel
theorem d_dropName_17 : decode prog_1_method_32_code 17 = .ok (.getfield 11, 3) := by decide +kernel
theorem d_dropName_20 : decode prog_1_method_32_code 20 = .ok (.iload_n 1, 1) := by decide +kernel
theorem d_dropName_21 : decode prog_1_method_32_code 21 = .ok (.bipush 16, 2) := by decide +kernel
theorem d_dropName_23 : decode prog_1_method_32_code 23 = .ok (.imul, 1) := by decide +kernel
theorem d_dropName_24 : decode prog_1_method_32_code 24 = .ok (.iload_n 2, 1) := by decide +kernel
theorem d_dropName_25 : decode prog_1_method_32_code 25 = .ok (.iadd, 1) := by decide +kernel
theorem d_dropName_26 : decode prog_1_method_32_code 26 = .ok (.aconst_null, 1) := by decide +kernel
theorem d_dropName_27 : decode prog_1_method_32_code 27 = .ok (.aastore, 1) := by decide +kernel
theorem d_dropName_28 : decode prog_1_method_32_code 28 = .ok (.aload_n 3, 1) := by decide +kernel
theorem d_dropName_29 : decode prog_1_method_32_code 29 = .ok (.dup, 1) := by decide +kernel
theorem d_dropName_30 : decode prog_1_method_32_code 30 = .ok (.getfield 127, 3) := by decide +kernel
theorem d_dropName_33 : decode prog_1_method_32_code 33 = .ok (.iconst 1, 1) := by decide +kernel
theorem d_dropName_34 : decode prog_1_method_32_code 34 = .ok (.isub, 1) := by decide +kernel
theorem d_dropName_35 : decode prog_1_method_32_code 35 = .ok (.putfield 127, 3) := by decide +kernel
theorem d_dropName_38 : decode prog_1_method_32_code 38 = .ok (.aload_n 3, 1) := by decide +kernel
theorem d_dropName_39 : decode prog_1_method_32_code 39 = .ok (.getfield 127, 3) := by decide +kernel
theorem d_dropName_42 : decode prog_1_method_32_code 42 = .ok (.ifCond .le 5, 3) := by decide +kernel
theorem d_dropName_45 : decode prog_1_method_32_code 45 = .ok (.iconst 0, 1) := by decide +kernel
theorem d_dropName_46 : decode prog_1_method_32_code 46 = .ok (.ireturn, 1) := by decide +kernel
theorem d_dropName_47 : decode prog_1_method_32_code 47 = .ok (.aload_n 3, 1) := by decide +kernel
theorem d_dropName_48 : decode prog_1_method_32_code 48 = .ok (.getfield 108, 3) := by decide +kernel
theorem d_dropName_51 : decode prog_1_method_32_code 51 = .ok (.ifnull 14, 3) := by decide +kernel
theorem d_dropName_54 : decode prog_1_method_32_code 54 = .ok (.aload_n 3, 1) := by decide +kernel
theorem d_dropName_55 : decode prog_1_method_32_code 55 = .ok (.getfield 108, 3) := by decide +kernel
theorem d_dropName_58 : decode prog_1_method_32_code 58 = .ok (.aload_n 3, 1) := by decide +kernel
theorem d_dropName_59 : decode prog_1_method_32_code 59 = .ok (.getfield 113, 3) := by decide +kernel
theorem d_dropName_62 : decode prog_1_method_32_code 62 = .ok (.invokevirtual 190, 3) := by decide +kernel
theorem d_dropName_65 : decode prog_1_method_32_code 65 = .ok (.aload_n 3, 1) := by decide +kernel
theorem d_dropName_66 : decode prog_1_method_32_code 66 = .ok (.getfield 105, 3) := by decide +kernel
theorem d_dropName_69 : decode prog_1_method_32_code 69 = .ok (.iconst 2, 1) := by decide +kernel
theorem d_dropName_70 : decode prog_1_method_32_code 70 = .ok (.if_icmp .ne 7, 3) := by decide +kernel
theorem d_dropName_73 : decode prog_1_method_32_code 73 = .ok (.iconst 1, 1) := by decide +kernel
theorem d_dropName_74 : decode prog_1_method_32_code 74 = .ok (.goto 4, 3) := by decide +kernel
theorem d_dropName_77 : decode prog_1_method_32_code 77 = .ok (.iconst 0, 1) := by decide +kernel
theorem d_dropName_78 : decode prog_1_method_32_code 78 = .ok (.ireturn, 1) := by decide +kernel
theorem d_Pipe_endClosed_0 : decode prog_4_method_5_code 0 = .ok (.iload_n 1, 1) := by decide +kernel
theorem d_Pipe_endClosed_1 : decode prog_4_method_5_code 1 = .ok (.ifCond .eq 11, 3) := by decide +kernel
theorem d_Pipe_endClosed_4 : decode prog_4_method_5_code 4 = .ok (.aload_n 0, 1) := by decide +kernel
theorem d_Pipe_endClosed_5 : decode prog_4_method_5_code 5 = .ok (.iconst 0, 1) := by decide +kernel
theorem d_Pipe_endClosed_6 : decode prog_4_method_5_code 6 = .ok (.putfield 25, 3) := by decide +kernel
theorem d_Pipe_endClosed_9 : decode prog_4_method_5_code 9 = .ok (.goto 8, 3) := by decide +kernel
theorem d_Pipe_endClosed_12 : decode prog_4_method_5_code 12 = .ok (.aload_n 0, 1) := by decide +kernel
theorem d_Pipe_endClosed_13 : decode prog_4_method_5_code 13 = .ok (.iconst 0, 1) := by decide +kernel
theorem d_Pipe_endClosed_14 : decode prog_4_method_5_code 14 = .ok (.putfield 29, 3) := by decide +kernel
theorem d_Pipe_endClosed_17 : decode prog_4_method_5_code 17 = .ok (.return_, 1) := by decide +kernel
theorem d_closeAll_0 : decode prog_1_method_6_code 0 = .ok (.iload_n 1, 1) := by decide +kernel
theorem d_closeAll_1 : decode prog_1_method_6_code 1 = .ok (.invokestatic 50, 3) := by decide +kernel
theorem d_closeAll_4 : decode prog_1_method_6_code 4 = .ok (.ifCond .ne 5, 3) := by decide +kernel
theorem d_closeAll_7 : decode prog_1_method_6_code 7 = .ok (.iconst (-1), 1) := by decide +kernel
theorem d_closeAll_8 : decode prog_1_method_6_code 8 = .ok (.ireturn, 1) := by decide +kernel
theorem d_closeAll_9 : decode prog_1_method_6_code 9 = .ok (.aload_n 0, 1) := by decide +kernel
theorem d_closeAll_10 : decode prog_1_method_6_code 10 = .ok (.iconst 0, 1) := by decide +kernel
theorem d_closeAll_11 : decode prog_1_method_6_code 11 = .ok (.putfield 32, 3) := by decide +kernel
theorem d_closeAll_14 : decode prog_1_method_6_code 14 = .ok (.iconst 0, 1) := by decide +kernel
theorem d_closeAll_15 : decode prog_1_method_6_code 15 = .ok (.istore_n 2, 1) := by decide +kernel
theorem d_closeAll_16 : decode prog_1_method_6_code 16 = .ok (.iload_n 2, 1) := by decide +kernel
theorem d_closeAll_17 : decode prog_1_method_6_code 17 = .ok (.bipush 16, 2) := by decide +kernel
theorem d_closeAll_19 : decode prog_1_method_6_code 19 = .ok (.if_icmp .ge 38, 3) := by decide +kernel
theorem d_closeAll_22 : decode prog_1_method_6_code 22 = .ok (.aload_n 0, 1) := by decide +kernel
theorem d_closeAll_23 : decode prog_1_method_6_code 23 = .ok (.iload_n 1, 1) := by decide +kernel
theorem d_closeAll_24 : decode prog_1_method_6_code 24 = .ok (.iload_n 2, 1) := by decide +kernel
theorem d_closeAll_25 : decode prog_1_method_6_code 25 = .ok (.invokevirtual 90, 3) := by decide +kernel
theorem d_closeAll_28 : decode prog_1_method_6_code 28 = .ok (.astore_n 3, 1) := by decide +kernel
theorem d_closeAll_29 : decode prog_1_method_6_code 29 = .ok (.aload_n 3, 1) := by decide +kernel
theorem d_closeAll_30 : decode prog_1_method_6_code 30 = .ok (.ifnull 21, 3) := by decide +kernel
theorem d_closeAll_33 : decode prog_1_method_6_code 33 = .ok (.aload_n 0, 1) := by decide +kernel
theorem d_closeAll_34 : decode prog_1_method_6_code 34 = .ok (.iload_n 1, 1) := by decide +kernel
theorem d_closeAll_35 : decode prog_1_method_6_code 35 = .ok (.iload_n 2, 1) := by decide +kernel
theorem d_closeAll_36 : decode prog_1_method_6_code 36 = .ok (.aload_n 3, 1) := by decide +kernel
theorem d_closeAll_37 : decode prog_1_method_6_code 37 = .ok (.invokevirtual 94, 3) := by decide +kernel
theorem d_closeAll_40 : decode prog_1_method_6_code 40 = .ok (.ifCond .eq 11, 3) := by decide +kernel
theorem d_closeAll_43 : decode prog_1_method_6_code 43 = .ok (.aload_n 0, 1) := by decide +kernel
theorem d_closeAll_44 : decode prog_1_method_6_code 44 = .ok (.aload_n 3, 1) := by decide +kernel
theorem d_closeAll_45 : decode prog_1_method_6_code 45 = .ok (.getfield 72, 3) := by decide +kernel
theorem d_closeAll_48 : decode prog_1_method_6_code 48 = .ok (.invokevirtual 98, 3) := by decide +kernel
theorem d_closeAll_51 : decode prog_1_method_6_code 51 = .ok (.iinc 2 1, 3) := by decide +kernel
theorem d_closeAll_54 : decode prog_1_method_6_code 54 = .ok (.goto (-38), 3) := by decide +kernel
theorem d_closeAll_57 : decode prog_1_method_6_code 57 = .ok (.aload_n 0, 1) := by decide +kernel
theorem d_closeAll_58 : decode prog_1_method_6_code 58 = .ok (.getfield 32, 3) := by decide +kernel
theorem d_closeAll_61 : decode prog_1_method_6_code 61 = .ok (.ireturn, 1) := by decide +kernel
theorem d_keepLeft_0 : decode prog_1_method_33_code 0 = .ok (.aload_n 0, 1) := by decide +kernel
theorem d_keepLeft_1 : decode prog_1_method_33_code 1 = .ok (.getfield 32, 3) := by decide +kernel
theorem d_keepLeft_4 : decode prog_1_method_33_code 4 = .ok (.ifCond .lt 35, 3) := by decide +kernel
theorem d_keepLeft_7 : decode prog_1_method_33_code 7 = .ok (.aload_n 0, 1) := by decide +kernel
theorem d_keepLeft_8 : decode prog_1_method_33_code 8 = .ok (.getfield 32, 3) := by decide +kernel
theorem d_keepLeft_11 : decode prog_1_method_33_code 11 = .ok (.aload_n 0, 1) := by decide +kernel
theorem d_keepLeft_12 : decode prog_1_method_33_code 12 = .ok (.getfield 28, 3) := by decide +kernel
theorem d_keepLeft_15 : decode prog_1_method_33_code 15 = .ok (.arraylength, 1) := by decide +kernel
theorem d_keepLeft_16 : decode prog_1_method_33_code 16 = .ok (.if_icmp .ge 23, 3) := by decide +kernel
theorem d_keepLeft_19 : decode prog_1_method_33_code 19 = .ok (.aload_n 0, 1) := by decide +kernel
theorem d_keepLeft_20 : decode prog_1_method_33_code 20 = .ok (.getfield 28, 3) := by decide +kernel
theorem d_keepLeft_23 : decode prog_1_method_33_code 23 = .ok (.aload_n 0, 1) := by decide +kernel
theorem d_keepLeft_24 : decode prog_1_method_33_code 24 = .ok (.getfield 32, 3) := by decide +kernel
theorem d_keepLeft_27 : decode prog_1_method_33_code 27 = .ok (.iload_n 1, 1) := by decide +kernel
theorem d_keepLeft_28 : decode prog_1_method_33_code 28 = .ok (.iastore, 1) := by decide +kernel
theorem d_keepLeft_29 : decode prog_1_method_33_code 29 = .ok (.aload_n 0, 1) := by decide +kernel
theorem d_keepLeft_30 : decode prog_1_method_33_code 30 = .ok (.dup, 1) := by decide +kernel
theorem d_keepLeft_31 : decode prog_1_method_33_code 31 = .ok (.getfield 32, 3) := by decide +kernel
theorem d_keepLeft_34 : decode prog_1_method_33_code 34 = .ok (.iconst 1, 1) := by decide +kernel
theorem d_keepLeft_35 : decode prog_1_method_33_code 35 = .ok (.iadd, 1) := by decide +kernel
theorem d_keepLeft_36 : decode prog_1_method_33_code 36 = .ok (.putfield 32, 3) := by decide +kernel
theorem d_keepLeft_39 : decode prog_1_method_33_code 39 = .ok (.return_, 1) := by decide +kernel
theorem d_left_0 : decode prog_1_method_7_code 0 = .ok (.iload_n 1, 1) := by decide +kernel
theorem d_left_1 : decode prog_1_method_7_code 1 = .ok (.ifCond .lt 20, 3) := by decide +kernel
theorem d_left_4 : decode prog_1_method_7_code 4 = .ok (.iload_n 1, 1) := by decide +kernel
theorem d_left_5 : decode prog_1_method_7_code 5 = .ok (.aload_n 0, 1) := by decide +kernel
theorem d_left_6 : decode prog_1_method_7_code 6 = .ok (.getfield 32, 3) := by decide +kernel
theorem d_left_9 : decode prog_1_method_7_code 9 = .ok (.if_icmp .ge 12, 3) := by decide +kernel
theorem d_left_12 : decode prog_1_method_7_code 12 = .ok (.iload_n 1, 1) := by decide +kernel
theorem d_left_13 : decode prog_1_method_7_code 13 = .ok (.aload_n 0, 1) := by decide +kernel
theorem d_left_14 : decode prog_1_method_7_code 14 = .ok (.getfield 28, 3) := by decide +kernel
theorem d_left_17 : decode prog_1_method_7_code 17 = .ok (.arraylength, 1) := by decide +kernel
theorem d_left_18 : decode prog_1_method_7_code 18 = .ok (.if_icmp .lt 5, 3) := by decide +kernel
theorem d_left_21 : decode prog_1_method_7_code 21 = .ok (.iconst 0, 1) := by decide +kernel
theorem d_left_22 : decode prog_1_method_7_code 22 = .ok (.ireturn, 1) := by decide +kernel
theorem d_left_23 : decode prog_1_method_7_code 23 = .ok (.aload_n 0, 1) := by decide +kernel
theorem d_left_24 : decode prog_1_method_7_code 24 = .ok (.getfield 28, 3) := by decide +kernel
theorem d_left_27 : decode prog_1_method_7_code 27 = .ok (.iload_n 1, 1) := by decide +kernel
theorem d_left_28 : decode prog_1_method_7_code 28 = .ok (.iaload, 1) := by decide +kernel
theorem d_left_29 : decode prog_1_method_7_code 29 = .ok (.ireturn, 1) := by decide +kernel
theorem d_copy_0 : decode prog_1_method_8_code 0 = .ok (.iload_n 1, 1) := by decide +kernel
theorem d_copy_1 : decode prog_1_method_8_code 1 = .ok (.invokestatic 50, 3) := by decide +kernel
theorem d_copy_4 : decode prog_1_method_8_code 4 = .ok (.ifCond .eq 15, 3) := by decide +kernel
theorem d_copy_7 : decode prog_1_method_8_code 7 = .ok (.iload_n 2, 1) := by decide +kernel
theorem d_copy_8 : decode prog_1_method_8_code 8 = .ok (.invokestatic 50, 3) := by decide +kernel
theorem d_copy_11 : decode prog_1_method_8_code 11 = .ok (.ifCond .eq 8, 3) := by decide +kernel
theorem d_copy_14 : decode prog_1_method_8_code 14 = .ok (.iload_n 1, 1) := by decide +kernel
theorem d_copy_15 : decode prog_1_method_8_code 15 = .ok (.iload_n 2, 1) := by decide +kernel
theorem d_copy_16 : decode prog_1_method_8_code 16 = .ok (.if_icmp .ne 5, 3) := by decide +kernel
theorem d_copy_19 : decode prog_1_method_8_code 19 = .ok (.iconst (-1), 1) := by decide +kernel
theorem d_copy_20 : decode prog_1_method_8_code 20 = .ok (.ireturn, 1) := by decide +kernel
theorem d_copy_21 : decode prog_1_method_8_code 21 = .ok (.aload_n 0, 1) := by decide +kernel
theorem d_copy_22 : decode prog_1_method_8_code 22 = .ok (.iload_n 1, 1) := by decide +kernel
theorem d_copy_23 : decode prog_1_method_8_code 23 = .ok (.invokevirtual 101, 3) := by decide +kernel
theorem d_copy_26 : decode prog_1_method_8_code 26 = .ok (.ifCond .le 5, 3) := by decide +kernel
theorem d_copy_29 : decode prog_1_method_8_code 29 = .ok (.iconst (-1), 1) := by decide +kernel
theorem d_copy_30 : decode prog_1_method_8_code 30 = .ok (.ireturn, 1) := by decide +kernel
theorem d_copy_31 : decode prog_1_method_8_code 31 = .ok (.iconst 0, 1) := by decide +kernel
theorem d_copy_32 : decode prog_1_method_8_code 32 = .ok (.istore_n 3, 1) := by decide +kernel
theorem d_copy_33 : decode prog_1_method_8_code 33 = .ok (.iload_n 3, 1) := by decide +kernel
theorem d_copy_34 : decode prog_1_method_8_code 34 = .ok (.bipush 16, 2) := by decide +kernel
theorem d_copy_36 : decode prog_1_method_8_code 36 = .ok (.if_icmp .ge 30, 3) := by decide +kernel
theorem d_copy_39 : decode prog_1_method_8_code 39 = .ok (.aload_n 0, 1) := by decide +kernel
theorem d_copy_40 : decode prog_1_method_8_code 40 = .ok (.iload_n 2, 1) := by decide +kernel
theorem d_copy_41 : decode prog_1_method_8_code 41 = .ok (.iload_n 3, 1) := by decide +kernel
theorem d_copy_42 : decode prog_1_method_8_code 42 = .ok (.invokevirtual 90, 3) := by decide +kernel
theorem d_copy_45 : decode prog_1_method_8_code 45 = .ok (.astore 4, 2) := by decide +kernel
theorem d_copy_47 : decode prog_1_method_8_code 47 = .ok (.aload 4, 2) := by decide +kernel
theorem d_copy_49 : decode prog_1_method_8_code 49 = .ok (.ifnull 11, 3) := by decide +kernel
theorem d_copy_52 : decode prog_1_method_8_code 52 = .ok (.aload_n 0, 1) := by decide +kernel
theorem d_copy_53 : decode prog_1_method_8_code 53 = .ok (.iload_n 1, 1) := by decide +kernel
theorem d_copy_54 : decode prog_1_method_8_code 54 = .ok (.iload_n 3, 1) := by decide +kernel
theorem d_copy_55 : decode prog_1_method_8_code 55 = .ok (.aload 4, 2) := by decide +kernel
theorem d_copy_57 : decode prog_1_method_8_code 57 = .ok (.invokevirtual 75, 3) := by decide +kernel
theorem d_copy_60 : decode prog_1_method_8_code 60 = .ok (.iinc 3 1, 3) := by decide +kernel
theorem d_copy_63 : decode prog_1_method_8_code 63 = .ok (.goto (-30), 3) := by decide +kernel
theorem d_copy_66 : decode prog_1_method_8_code 66 = .ok (.aload_n 0, 1) := by decide +kernel
theorem d_copy_67 : decode prog_1_method_8_code 67 = .ok (.iload_n 1, 1) := by decide +kernel
theorem d_copy_68 : decode prog_1_method_8_code 68 = .ok (.invokevirtual 101, 3) := by decide +kernel
theorem d_copy_71 : decode prog_1_method_8_code 71 = .ok (.ireturn, 1) := by decide +kernel
theorem d_usedDescriptors_0 : decode prog_1_method_27_code 0 = .ok (.iconst 0, 1) := by decide +kernel
theorem d_usedDescriptors_1 : decode prog_1_method_27_code 1 = .ok (.istore_n 2, 1) := by decide +kernel
theorem d_usedDescriptors_2 : decode prog_1_method_27_code 2 = .ok (.iconst 0, 1) := by decide +kernel
theorem d_usedDescriptors_3 : decode prog_1_method_27_code 3 = .ok (.istore_n 3, 1) := by decide +kernel
theorem d_usedDescriptors_4 : decode prog_1_method_27_code 4 = .ok (.iload_n 3, 1) := by decide +kernel
theorem d_usedDescriptors_5 : decode prog_1_method_27_code 5 = .ok (.bipush 16, 2) := by decide +kernel
theorem d_usedDescriptors_7 : decode prog_1_method_27_code 7 = .ok (.if_icmp .ge 21, 3) := by decide +kernel
theorem d_usedDescriptors_10 : decode prog_1_method_27_code 10 = .ok (.aload_n 0, 1) := by decide +kernel
theorem d_usedDescriptors_11 : decode prog_1_method_27_code 11 = .ok (.iload_n 1, 1) := by decide +kernel
theorem d_usedDescriptors_12 : decode prog_1_method_27_code 12 = .ok (.iload_n 3, 1) := by decide +kernel
theorem d_usedDescriptors_13 : decode prog_1_method_27_code 13 = .ok (.invokevirtual 90, 3) := by decide +kernel
theorem d_usedDescriptors_16 : decode prog_1_method_27_code 16 = .ok (.ifnull 6, 3) := by decide +kernel
theorem d_usedDescriptors_19 : decode prog_1_method_27_code 19 = .ok (.iinc 2 1, 3) := by decide +kernel
theorem d_usedDescriptors_22 : decode prog_1_method_27_code 22 = .ok (.iinc 3 1, 3) := by decide +kernel
theorem d_usedDescriptors_25 : decode prog_1_method_27_code 25 = .ok (.goto (-21), 3) := by decide +kernel
theorem d_usedDescriptors_28 : decode prog_1_method_27_code 28 = .ok (.iload_n 2, 1) := by decide +kernel
theorem d_usedDescriptors_29 : decode prog_1_method_27_code 29 = .ok (.ireturn, 1) := by decide +kernel
theorem d_about_0 : decode prog_1_method_9_code 0 = .ok (.aload_n 0, 1) := by decide +kernel
theorem d_about_1 : decode prog_1_method_9_code 1 = .ok (.iload_n 1, 1) := by decide +kernel
theorem d_about_2 : decode prog_1_method_9_code 2 = .ok (.iload_n 2, 1) := by decide +kernel
theorem d_about_3 : decode prog_1_method_9_code 3 = .ok (.invokevirtual 90, 3) := by decide +kernel
theorem d_about_6 : decode prog_1_method_9_code 6 = .ok (.astore 4, 2) := by decide +kernel
theorem d_about_8 : decode prog_1_method_9_code 8 = .ok (.aload 4, 2) := by decide +kernel
theorem d_about_10 : decode prog_1_method_9_code 10 = .ok (.ifnonnull 5, 3) := by decide +kernel
theorem d_about_13 : decode prog_1_method_9_code 13 = .ok (.iconst (-1), 1) := by decide +kernel
theorem d_about_14 : decode prog_1_method_9_code 14 = .ok (.ireturn, 1) := by decide +kernel
theorem d_about_15 : decode prog_1_method_9_code 15 = .ok (.iload_n 3, 1) := by decide +kernel
theorem d_about_16 : decode prog_1_method_9_code 16 = .ok (.tableswitch 111 0 6 #[44, 50, 75, 84, 93, 99, 105], 44) := by decide +kernel
theorem d_about_60 : decode prog_1_method_9_code 60 = .ok (.aload 4, 2) := by decide +kernel
theorem d_about_62 : decode prog_1_method_9_code 62 = .ok (.getfield 105, 3) := by decide +kernel
theorem d_about_65 : decode prog_1_method_9_code 65 = .ok (.ireturn, 1) := by decide +kernel
theorem d_about_66 : decode prog_1_method_9_code 66 = .ok (.aload 4, 2) := by decide +kernel
theorem d_about_68 : decode prog_1_method_9_code 68 = .ok (.getfield 108, 3) := by decide +kernel
theorem d_about_71 : decode prog_1_method_9_code 71 = .ok (.ifnonnull 11, 3) := by decide +kernel
theorem d_about_74 : decode prog_1_method_9_code 74 = .ok (.aload 4, 2) := by decide +kernel
theorem d_about_76 : decode prog_1_method_9_code 76 = .ok (.getfield 72, 3) := by decide +kernel
theorem d_about_79 : decode prog_1_method_9_code 79 = .ok (.goto 11, 3) := by decide +kernel
theorem d_about_82 : decode prog_1_method_9_code 82 = .ok (.aload 4, 2) := by decide +kernel
theorem d_about_84 : decode prog_1_method_9_code 84 = .ok (.getfield 108, 3) := by decide +kernel
theorem d_about_87 : decode prog_1_method_9_code 87 = .ok (.getfield 112, 3) := by decide +kernel
theorem d_about_90 : decode prog_1_method_9_code 90 = .ok (.ireturn, 1) := by decide +kernel
theorem d_about_91 : decode prog_1_method_9_code 91 = .ok (.aload 4, 2) := by decide +kernel
theorem d_about_93 : decode prog_1_method_9_code 93 = .ok (.getfield 113, 3) := by decide +kernel
theorem d_about_96 : decode prog_1_method_9_code 96 = .ok (.invokestatic 117, 3) := by decide +kernel
theorem d_about_99 : decode prog_1_method_9_code 99 = .ok (.ireturn, 1) := by decide +kernel
theorem d_about_100 : decode prog_1_method_9_code 100 = .ok (.aload 4, 2) := by decide +kernel
theorem d_about_102 : decode prog_1_method_9_code 102 = .ok (.getfield 121, 3) := by decide +kernel
theorem d_about_105 : decode prog_1_method_9_code 105 = .ok (.invokestatic 117, 3) := by decide +kernel
theorem d_about_108 : decode prog_1_method_9_code 108 = .ok (.ireturn, 1) := by decide +kernel
theorem d_about_109 : decode prog_1_method_9_code 109 = .ok (.aload 4, 2) := by decide +kernel
theorem d_about_111 : decode prog_1_method_9_code 111 = .ok (.getfield 124, 3) := by decide +kernel
theorem d_about_114 : decode prog_1_method_9_code 114 = .ok (.ireturn, 1) := by decide +kernel
theorem d_about_115 : decode prog_1_method_9_code 115 = .ok (.aload 4, 2) := by decide +kernel
theorem d_about_117 : decode prog_1_method_9_code 117 = .ok (.getfield 127, 3) := by decide +kernel
theorem d_about_120 : decode prog_1_method_9_code 120 = .ok (.ireturn, 1) := by decide +kernel
theorem d_about_121 : decode prog_1_method_9_code 121 = .ok (.aload 4, 2) := by decide +kernel
theorem d_about_123 : decode prog_1_method_9_code 123 = .ok (.getfield 79, 3) := by decide +kernel
theorem d_about_126 : decode prog_1_method_9_code 126 = .ok (.ireturn, 1) := by decide +kernel
theorem d_about_127 : decode prog_1_method_9_code 127 = .ok (.iconst (-1), 1) := by decide +kernel
theorem d_about_128 : decode prog_1_method_9_code 128 = .ok (.ireturn, 1) := by decide +kernel
theorem d_oneIf_0 : decode prog_1_method_24_code 0 = .ok (.iload_n 0, 1) := by decide +kernel
theorem d_oneIf_1 : decode prog_1_method_24_code 1 = .ok (.ifCond .eq 7, 3) := by decide +kernel
theorem d_oneIf_4 : decode prog_1_method_24_code 4 = .ok (.iconst 1, 1) := by decide +kernel
theorem d_oneIf_5 : decode prog_1_method_24_code 5 = .ok (.goto 4, 3) := by decide +kernel
theorem d_oneIf_8 : decode prog_1_method_24_code 8 = .ok (.iconst 0, 1) := by decide +kernel
theorem d_oneIf_9 : decode prog_1_method_24_code 9 = .ok (.ireturn, 1) := by decide +kernel
theorem d_move_0 : decode prog_1_method_10_code 0 = .ok (.aload_n 0, 1) := by decide +kernel
theorem d_move_1 : decode prog_1_method_10_code 1 = .ok (.iload_n 1, 1) := by decide +kernel
theorem d_move_2 : decode prog_1_method_10_code 2 = .ok (.iload_n 2, 1) := by decide +kernel
theorem d_move_3 : decode prog_1_method_10_code 3 = .ok (.invokevirtual 90, 3) := by decide +kernel
theorem d_move_6 : decode prog_1_method_10_code 6 = .ok (.astore 4, 2) := by decide +kernel
theorem d_move_8 : decode prog_1_method_10_code 8 = .ok (.aload 4, 2) := by decide +kernel
theorem d_move_10 : decode prog_1_method_10_code 10 = .ok (.ifnull 16, 3) := by decide +kernel
theorem d_move_13 : decode prog_1_method_10_code 13 = .ok (.aload 4, 2) := by decide +kernel
theorem d_move_15 : decode prog_1_method_10_code 15 = .ok (.getfield 105, 3) := by decide +kernel
theorem d_move_18 : decode prog_1_method_10_code 18 = .ok (.iconst 2, 1) := by decide +kernel
theorem d_move_19 : decode prog_1_method_10_code 19 = .ok (.if_icmp .ne 7, 3) := by decide +kernel
theorem d_move_22 : decode prog_1_method_10_code 22 = .ok (.iload_n 3, 1) := by decide +kernel
theorem d_move_23 : decode prog_1_method_10_code 23 = .ok (.ifCond .ge 5, 3) := by decide +kernel
theorem d_move_26 : decode prog_1_method_10_code 26 = .ok (.iconst 0, 1) := by decide +kernel
theorem d_move_27 : decode prog_1_method_10_code 27 = .ok (.ireturn, 1) := by decide +kernel
theorem d_move_28 : decode prog_1_method_10_code 28 = .ok (.aload 4, 2) := by decide +kernel
theorem d_move_30 : decode prog_1_method_10_code 30 = .ok (.iload_n 3, 1) := by decide +kernel
theorem d_move_31 : decode prog_1_method_10_code 31 = .ok (.putfield 124, 3) := by decide +kernel
theorem d_move_34 : decode prog_1_method_10_code 34 = .ok (.iconst 1, 1) := by decide +kernel
theorem d_move_35 : decode prog_1_method_10_code 35 = .ok (.ireturn, 1) := by decide +kernel
theorem d_put_0 : decode prog_1_method_11_code 0 = .ok (.aload_n 0, 1) := by decide +kernel
theorem d_put_1 : decode prog_1_method_11_code 1 = .ok (.iload_n 1, 1) := by decide +kernel
theorem d_put_2 : decode prog_1_method_11_code 2 = .ok (.iload_n 2, 1) := by decide +kernel
theorem d_put_3 : decode prog_1_method_11_code 3 = .ok (.invokevirtual 90, 3) := by decide +kernel
theorem d_put_6 : decode prog_1_method_11_code 6 = .ok (.astore 4, 2) := by decide +kernel
theorem d_put_8 : decode prog_1_method_11_code 8 = .ok (.aload 4, 2) := by decide +kernel
theorem d_put_10 : decode prog_1_method_11_code 10 = .ok (.ifnull 11, 3) := by decide +kernel
theorem d_put_13 : decode prog_1_method_11_code 13 = .ok (.aload 4, 2) := by decide +kernel
theorem d_put_15 : decode prog_1_method_11_code 15 = .ok (.getfield 121, 3) := by decide +kernel
theorem d_put_18 : decode prog_1_method_11_code 18 = .ok (.ifCond .ne 5, 3) := by decide +kernel
theorem d_put_21 : decode prog_1_method_11_code 21 = .ok (.iconst (-1), 1) := by decide +kernel
theorem d_put_22 : decode prog_1_method_11_code 22 = .ok (.ireturn, 1) := by decide +kernel
theorem d_put_23 : decode prog_1_method_11_code 23 = .ok (.aload 4, 2) := by decide +kernel
theorem d_put_25 : decode prog_1_method_11_code 25 = .ok (.getfield 108, 3) := by decide +kernel
theorem d_put_28 : decode prog_1_method_11_code 28 = .ok (.astore 5, 2) := by decide +kernel
theorem d_put_30 : decode prog_1_method_11_code 30 = .ok (.aload 5, 2) := by decide +kernel
theorem d_put_32 : decode prog_1_method_11_code 32 = .ok (.ifnonnull 5, 3) := by decide +kernel
theorem d_put_35 : decode prog_1_method_11_code 35 = .ok (.iconst (-1), 1) := by decide +kernel
theorem d_put_36 : decode prog_1_method_11_code 36 = .ok (.ireturn, 1) := by decide +kernel
theorem d_put_37 : decode prog_1_method_11_code 37 = .ok (.aload 5, 2) := by decide +kernel
theorem d_put_39 : decode prog_1_method_11_code 39 = .ok (.getfield 130, 3) := by decide +kernel
theorem d_put_42 : decode prog_1_method_11_code 42 = .ok (.ifCond .ne 6, 3) := by decide +kernel
theorem d_put_45 : decode prog_1_method_11_code 45 = .ok (.bipush (-2), 2) := by decide +kernel
theorem d_put_47 : decode prog_1_method_11_code 47 = .ok (.ireturn, 1) := by decide +kernel
theorem d_put_48 : decode prog_1_method_11_code 48 = .ok (.aload 5, 2) := by decide +kernel
theorem d_put_50 : decode prog_1_method_11_code 50 = .ok (.invokevirtual 133, 3) := by decide +kernel
theorem d_put_53 : decode prog_1_method_11_code 53 = .ok (.ifCond .eq 6, 3) := by decide +kernel
theorem d_put_56 : decode prog_1_method_11_code 56 = .ok (.bipush (-3), 2) := by decide +kernel
theorem d_put_58 : decode prog_1_method_11_code 58 = .ok (.ireturn, 1) := by decide +kernel
theorem d_put_59 : decode prog_1_method_11_code 59 = .ok (.aload 5, 2) := by decide +kernel
theorem d_put_61 : decode prog_1_method_11_code 61 = .ok (.iload_n 3, 1) := by decide +kernel
theorem d_put_62 : decode prog_1_method_11_code 62 = .ok (.invokevirtual 137, 3) := by decide +kernel
theorem d_put_65 : decode prog_1_method_11_code 65 = .ok (.iconst 0, 1) := by decide +kernel
theorem d_put_66 : decode prog_1_method_11_code 66 = .ok (.ireturn, 1) := by decide +kernel
theorem d_Pipe_isFull_0 : decode prog_4_method_4_code 0 = .ok (.aload_n 0, 1) := by decide +kernel
theorem d_Pipe_isFull_1 : decode prog_4_method_4_code 1 = .ok (.getfield 22, 3) := by decide +kernel
theorem d_Pipe_isFull_4 : decode prog_4_method_4_code 4 = .ok (.sipush 512, 3) := by decide +kernel
theorem d_Pipe_isFull_7 : decode prog_4_method_4_code 7 = .ok (.if_icmp .lt 7, 3) := by decide +kernel
theorem d_Pipe_isFull_10 : decode prog_4_method_4_code 10 = .ok (.iconst 1, 1) := by decide +kernel
theorem d_Pipe_isFull_11 : decode prog_4_method_4_code 11 = .ok (.goto 4, 3) := by decide +kernel
theorem d_Pipe_isFull_14 : decode prog_4_method_4_code 14 = .ok (.iconst 0, 1) := by decide +kernel
theorem d_Pipe_isFull_15 : decode prog_4_method_4_code 15 = .ok (.ireturn, 1) := by decide +kernel
theorem d_Pipe_addLast_0 : decode prog_4_method_6_code 0 = .ok (.aload_n 0, 1) := by decide +kernel
theorem d_Pipe_addLast_1 : decode prog_4_method_6_code 1 = .ok (.getfield 9, 3) := by decide +kernel
theorem d_Pipe_addLast_4 : decode prog_4_method_6_code 4 = .ok (.aload_n 0, 1) := by decide +kernel
theorem d_Pipe_addLast_5 : decode prog_4_method_6_code 5 = .ok (.getfield 19, 3) := by decide +kernel
theorem d_Pipe_addLast_8 : decode prog_4_method_6_code 8 = .ok (.aload_n 0, 1) := by decide +kernel
theorem d_Pipe_addLast_9 : decode prog_4_method_6_code 9 = .ok (.getfield 22, 3) := by decide +kernel
theorem d_Pipe_addLast_12 : decode prog_4_method_6_code 12 = .ok (.iadd, 1) := by decide +kernel
theorem d_Pipe_addLast_13 : decode prog_4_method_6_code 13 = .ok (.sipush 511, 3) := by decide +kernel
theorem d_Pipe_addLast_16 : decode prog_4_method_6_code 16 = .ok (.iand, 1) := by decide +kernel
theorem d_Pipe_addLast_17 : decode prog_4_method_6_code 17 = .ok (.iload_n 1, 1) := by decide +kernel
theorem d_Pipe_addLast_18 : decode prog_4_method_6_code 18 = .ok (.i2b, 1) := by decide +kernel
theorem d_Pipe_addLast_19 : decode prog_4_method_6_code 19 = .ok (.bastore, 1) := by decide +kernel
theorem d_Pipe_addLast_20 : decode prog_4_method_6_code 20 = .ok (.aload_n 0, 1) := by decide +kernel
theorem d_Pipe_addLast_21 : decode prog_4_method_6_code 21 = .ok (.dup, 1) := by decide +kernel
theorem d_Pipe_addLast_22 : decode prog_4_method_6_code 22 = .ok (.getfield 22, 3) := by decide +kernel
theorem d_Pipe_addLast_25 : decode prog_4_method_6_code 25 = .ok (.iconst 1, 1) := by decide +kernel
theorem d_Pipe_addLast_26 : decode prog_4_method_6_code 26 = .ok (.iadd, 1) := by decide +kernel
theorem d_Pipe_addLast_27 : decode prog_4_method_6_code 27 = .ok (.putfield 22, 3) := by decide +kernel
theorem d_Pipe_addLast_30 : decode prog_4_method_6_code 30 = .ok (.return_, 1) := by decide +kernel
theorem d_take_0 : decode prog_1_method_12_code 0 = .ok (.aload_n 0, 1) := by decide +kernel
theorem d_take_1 : decode prog_1_method_12_code 1 = .ok (.iload_n 1, 1) := by decide +kernel
theorem d_take_2 : decode prog_1_method_12_code 2 = .ok (.iload_n 2, 1) := by decide +kernel
theorem d_take_3 : decode prog_1_method_12_code 3 = .ok (.invokevirtual 90, 3) := by decide +kernel
theorem d_take_6 : decode prog_1_method_12_code 6 = .ok (.astore_n 3, 1) := by decide +kernel
theorem d_take_7 : decode prog_1_method_12_code 7 = .ok (.aload_n 3, 1) := by decide +kernel
theorem d_take_8 : decode prog_1_method_12_code 8 = .ok (.ifnull 10, 3) := by decide +kernel
theorem d_take_11 : decode prog_1_method_12_code 11 = .ok (.aload_n 3, 1) := by decide +kernel
theorem d_take_12 : decode prog_1_method_12_code 12 = .ok (.getfield 113, 3) := by decide +kernel
theorem d_take_15 : decode prog_1_method_12_code 15 = .ok (.ifCond .ne 5, 3) := by decide +kernel
theorem d_take_18 : decode prog_1_method_12_code 18 = .ok (.iconst (-1), 1) := by decide +kernel
theorem d_take_19 : decode prog_1_method_12_code 19 = .ok (.ireturn, 1) := by decide +kernel
theorem d_take_20 : decode prog_1_method_12_code 20 = .ok (.aload_n 3, 1) := by decide +kernel
theorem d_take_21 : decode prog_1_method_12_code 21 = .ok (.getfield 108, 3) := by decide +kernel
theorem d_take_24 : decode prog_1_method_12_code 24 = .ok (.astore 4, 2) := by decide +kernel
theorem d_take_26 : decode prog_1_method_12_code 26 = .ok (.aload 4, 2) := by decide +kernel
theorem d_take_28 : decode prog_1_method_12_code 28 = .ok (.ifnonnull 5, 3) := by decide +kernel
theorem d_take_31 : decode prog_1_method_12_code 31 = .ok (.iconst (-1), 1) := by decide +kernel
theorem d_take_32 : decode prog_1_method_12_code 32 = .ok (.ireturn, 1) := by decide +kernel
theorem d_take_33 : decode prog_1_method_12_code 33 = .ok (.aload 4, 2) := by decide +kernel
theorem d_take_35 : decode prog_1_method_12_code 35 = .ok (.getfield 140, 3) := by decide +kernel
theorem d_take_38 : decode prog_1_method_12_code 38 = .ok (.ifCond .le 9, 3) := by decide +kernel
theorem d_take_41 : decode prog_1_method_12_code 41 = .ok (.aload 4, 2) := by decide +kernel
theorem d_take_43 : decode prog_1_method_12_code 43 = .ok (.invokevirtual 143, 3) := by decide +kernel
theorem d_take_46 : decode prog_1_method_12_code 46 = .ok (.ireturn, 1) := by decide +kernel
theorem d_take_47 : decode prog_1_method_12_code 47 = .ok (.aload 4, 2) := by decide +kernel
theorem d_take_49 : decode prog_1_method_12_code 49 = .ok (.getfield 147, 3) := by decide +kernel
theorem d_take_52 : decode prog_1_method_12_code 52 = .ok (.ifCond .eq 8, 3) := by decide +kernel
theorem d_take_55 : decode prog_1_method_12_code 55 = .ok (.bipush (-3), 2) := by decide +kernel
theorem d_take_57 : decode prog_1_method_12_code 57 = .ok (.goto 5, 3) := by decide +kernel
theorem d_take_60 : decode prog_1_method_12_code 60 = .ok (.bipush (-4), 2) := by decide +kernel
theorem d_take_62 : decode prog_1_method_12_code 62 = .ok (.ireturn, 1) := by decide +kernel
theorem d_Pipe_removeFirst_0 : decode prog_4_method_7_code 0 = .ok (.aload_n 0, 1) := by decide +kernel
theorem d_Pipe_removeFirst_1 : decode prog_4_method_7_code 1 = .ok (.getfield 9, 3) := by decide +kernel
theorem d_Pipe_removeFirst_4 : decode prog_4_method_7_code 4 = .ok (.aload_n 0, 1) := by decide +kernel
theorem d_Pipe_removeFirst_5 : decode prog_4_method_7_code 5 = .ok (.getfield 19, 3) := by decide +kernel
theorem d_Pipe_removeFirst_8 : decode prog_4_method_7_code 8 = .ok (.sipush 511, 3) := by decide +kernel
theorem d_Pipe_removeFirst_11 : decode prog_4_method_7_code 11 = .ok (.iand, 1) := by decide +kernel
theorem d_Pipe_removeFirst_12 : decode prog_4_method_7_code 12 = .ok (.baload, 1) := by decide +kernel
theorem d_Pipe_removeFirst_13 : decode prog_4_method_7_code 13 = .ok (.sipush 255, 3) := by decide +kernel
theorem d_Pipe_removeFirst_16 : decode prog_4_method_7_code 16 = .ok (.iand, 1) := by decide +kernel
theorem d_Pipe_removeFirst_17 : decode prog_4_method_7_code 17 = .ok (.istore_n 1, 1) := by decide +kernel
theorem d_Pipe_removeFirst_18 : decode prog_4_method_7_code 18 = .ok (.aload_n 0, 1) := by decide +kernel
theorem d_Pipe_removeFirst_19 : decode prog_4_method_7_code 19 = .ok (.aload_n 0, 1) := by decide +kernel
theorem d_Pipe_removeFirst_20 : decode prog_4_method_7_code 20 = .ok (.getfield 19, 3) := by decide +kernel
theorem d_Pipe_removeFirst_23 : decode prog_4_method_7_code 23 = .ok (.iconst 1, 1) := by decide +kernel
theorem d_Pipe_removeFirst_24 : decode prog_4_method_7_code 24 = .ok (.iadd, 1) := by decide +kernel
theorem d_Pipe_removeFirst_25 : decode prog_4_method_7_code 25 = .ok (.sipush 511, 3) := by decide +kernel
theorem d_Pipe_removeFirst_28 : decode prog_4_method_7_code 28 = .ok (.iand, 1) := by decide +kernel
theorem d_Pipe_removeFirst_29 : decode prog_4_method_7_code 29 = .ok (.putfield 19, 3) := by decide +kernel
theorem d_Pipe_removeFirst_32 : decode prog_4_method_7_code 32 = .ok (.aload_n 0, 1) := by decide +kernel
theorem d_Pipe_removeFirst_33 : decode prog_4_method_7_code 33 = .ok (.dup, 1) := by decide +kernel
theorem d_Pipe_removeFirst_34 : decode prog_4_method_7_code 34 = .ok (.getfield 22, 3) := by decide +kernel
theorem d_Pipe_removeFirst_37 : decode prog_4_method_7_code 37 = .ok (.iconst 1, 1) := by decide +kernel
theorem d_Pipe_removeFirst_38 : decode prog_4_method_7_code 38 = .ok (.isub, 1) := by decide +kernel
theorem d_Pipe_removeFirst_39 : decode prog_4_method_7_code 39 = .ok (.putfield 22, 3) := by decide +kernel
theorem d_Pipe_removeFirst_42 : decode prog_4_method_7_code 42 = .ok (.iload_n 1, 1) := by decide +kernel
theorem d_Pipe_removeFirst_43 : decode prog_4_method_7_code 43 = .ok (.ireturn, 1) := by decide +kernel
theorem d_ends_0 : decode prog_1_method_13_code 0 = .ok (.iload_n 1, 1) := by decide +kernel
theorem d_ends_1 : decode prog_1_method_13_code 1 = .ok (.ifCond .lt 12, 3) := by decide +kernel
theorem d_ends_4 : decode prog_1_method_13_code 4 = .ok (.iload_n 1, 1) := by decide +kernel
theorem d_ends_5 : decode prog_1_method_13_code 5 = .ok (.aload_n 0, 1) := by decide +kernel
theorem d_ends_6 : decode prog_1_method_13_code 6 = .ok (.getfield 23, 3) := by decide +kernel
theorem d_ends_9 : decode prog_1_method_13_code 9 = .ok (.arraylength, 1) := by decide +kernel
theorem d_ends_10 : decode prog_1_method_13_code 10 = .ok (.if_icmp .lt 5, 3) := by decide +kernel
theorem d_ends_13 : decode prog_1_method_13_code 13 = .ok (.iconst (-1), 1) := by decide +kernel
theorem d_ends_14 : decode prog_1_method_13_code 14 = .ok (.ireturn, 1) := by decide +kernel
theorem d_ends_15 : decode prog_1_method_13_code 15 = .ok (.aload_n 0, 1) := by decide +kernel
theorem d_ends_16 : decode prog_1_method_13_code 16 = .ok (.getfield 23, 3) := by decide +kernel
theorem d_ends_19 : decode prog_1_method_13_code 19 = .ok (.iload_n 1, 1) := by decide +kernel
theorem d_ends_20 : decode prog_1_method_13_code 20 = .ok (.aaload, 1) := by decide +kernel
theorem d_ends_21 : decode prog_1_method_13_code 21 = .ok (.astore_n 3, 1) := by decide +kernel
theorem d_ends_22 : decode prog_1_method_13_code 22 = .ok (.aload_n 3, 1) := by decide +kernel
theorem d_ends_23 : decode prog_1_method_13_code 23 = .ok (.ifnull 10, 3) := by decide +kernel
theorem d_ends_26 : decode prog_1_method_13_code 26 = .ok (.aload_n 3, 1) := by decide +kernel
theorem d_ends_27 : decode prog_1_method_13_code 27 = .ok (.invokevirtual 150, 3) := by decide +kernel
theorem d_ends_30 : decode prog_1_method_13_code 30 = .ok (.ifCond .eq 5, 3) := by decide +kernel
theorem d_ends_33 : decode prog_1_method_13_code 33 = .ok (.iconst (-1), 1) := by decide +kernel
theorem d_ends_34 : decode prog_1_method_13_code 34 = .ok (.ireturn, 1) := by decide +kernel
theorem d_ends_35 : decode prog_1_method_13_code 35 = .ok (.iload_n 2, 1) := by decide +kernel
theorem d_ends_36 : decode prog_1_method_13_code 36 = .ok (.tableswitch 49 0 2 #[28, 33, 41], 28) := by decide +kernel
theorem d_ends_64 : decode prog_1_method_13_code 64 = .ok (.aload_n 3, 1) := by decide +kernel
theorem d_ends_65 : decode prog_1_method_13_code 65 = .ok (.getfield 140, 3) := by decide +kernel
theorem d_ends_68 : decode prog_1_method_13_code 68 = .ok (.ireturn, 1) := by decide +kernel
theorem d_ends_69 : decode prog_1_method_13_code 69 = .ok (.aload_n 3, 1) := by decide +kernel
theorem d_ends_70 : decode prog_1_method_13_code 70 = .ok (.getfield 130, 3) := by decide +kernel
theorem d_ends_73 : decode prog_1_method_13_code 73 = .ok (.invokestatic 117, 3) := by decide +kernel
theorem d_ends_76 : decode prog_1_method_13_code 76 = .ok (.ireturn, 1) := by decide +kernel
theorem d_ends_77 : decode prog_1_method_13_code 77 = .ok (.aload_n 3, 1) := by decide +kernel
theorem d_ends_78 : decode prog_1_method_13_code 78 = .ok (.getfield 147, 3) := by decide +kernel
theorem d_ends_81 : decode prog_1_method_13_code 81 = .ok (.invokestatic 117, 3) := by decide +kernel
theorem d_ends_84 : decode prog_1_method_13_code 84 = .ok (.ireturn, 1) := by decide +kernel
theorem d_ends_85 : decode prog_1_method_13_code 85 = .ok (.iconst (-1), 1) := by decide +kernel
theorem d_ends_86 : decode prog_1_method_13_code 86 = .ok (.ireturn, 1) := by decide +kernel
theorem d_type_0 : decode prog_1_method_14_code 0 = .ok (.iload_n 1, 1) := by decide +kernel
theorem d_type_1 : decode prog_1_method_14_code 1 = .ok (.ifCond .lt 10, 3) := by decide +kernel
theorem d_type_4 : decode prog_1_method_14_code 4 = .ok (.iload_n 1, 1) := by decide +kernel
theorem d_type_5 : decode prog_1_method_14_code 5 = .ok (.sipush 255, 3) := by decide +kernel
theorem d_type_8 : decode prog_1_method_14_code 8 = .ok (.if_icmp .le 5, 3) := by decide +kernel
theorem d_type_11 : decode prog_1_method_14_code 11 = .ok (.iconst 0, 1) := by decide +kernel
theorem d_type_12 : decode prog_1_method_14_code 12 = .ok (.ireturn, 1) := by decide +kernel
theorem d_type_13 : decode prog_1_method_14_code 13 = .ok (.iload_n 1, 1) := by decide +kernel
theorem d_type_14 : decode prog_1_method_14_code 14 = .ok (.bipush 8, 2) := by decide +kernel
theorem d_type_16 : decode prog_1_method_14_code 16 = .ok (.if_icmp .eq 9, 3) := by decide +kernel
theorem d_type_19 : decode prog_1_method_14_code 19 = .ok (.iload_n 1, 1) := by decide +kernel
theorem d_type_20 : decode prog_1_method_14_code 20 = .ok (.bipush 127, 2) := by decide +kernel
theorem d_type_22 : decode prog_1_method_14_code 22 = .ok (.if_icmp .ne 20, 3) := by decide +kernel
theorem d_type_25 : decode prog_1_method_14_code 25 = .ok (.aload_n 0, 1) := by decide +kernel
theorem d_type_26 : decode prog_1_method_14_code 26 = .ok (.iconst 1, 1) := by decide +kernel
theorem d_type_27 : decode prog_1_method_14_code 27 = .ok (.aload_n 0, 1) := by decide +kernel
theorem d_type_28 : decode prog_1_method_14_code 28 = .ok (.getfield 39, 3) := by decide +kernel
theorem d_type_31 : decode prog_1_method_14_code 31 = .ok (.invokevirtual 153, 3) := by decide +kernel
theorem d_type_34 : decode prog_1_method_14_code 34 = .ok (.invokestatic 156, 3) := by decide +kernel
theorem d_type_37 : decode prog_1_method_14_code 37 = .ok (.invokevirtual 161, 3) := by decide +kernel
