theorem d_M_put_33 : decode prog_7_method_23_code 33 = .ok (.iload 4, 2) := by decide +kernel
theorem d_M_put_35 : decode prog_7_method_23_code 35 = .ok (.iaload, 1) := by decide +kernel
theorem d_M_put_36 : decode prog_7_method_23_code 36 = .ok (.iconst 2, 1) := by decide +kernel
theorem d_M_put_37 : decode prog_7_method_23_code 37 = .ok (.if_icmp .eq 5, 3) := by decide +kernel
theorem d_M_put_40 : decode prog_7_method_23_code 40 = .ok (.iconst (-1), 1) := by decide +kernel
theorem d_M_put_41 : decode prog_7_method_23_code 41 = .ok (.ireturn, 1) := by decide +kernel
theorem d_M_put_42 : decode prog_7_method_23_code 42 = .ok (.aload_n 0, 1) := by decide +kernel
theorem d_M_put_43 : decode prog_7_method_23_code 43 = .ok (.getfield 16, 3) := by decide +kernel
theorem d_M_put_46 : decode prog_7_method_23_code 46 = .ok (.iload 4, 2) := by decide +kernel
theorem d_M_put_48 : decode prog_7_method_23_code 48 = .ok (.iaload, 1) := by decide +kernel
theorem d_M_put_49 : decode prog_7_method_23_code 49 = .ok (.istore 5, 2) := by decide +kernel
theorem d_M_put_51 : decode prog_7_method_23_code 51 = .ok (.aload_n 0, 1) := by decide +kernel
theorem d_M_put_52 : decode prog_7_method_23_code 52 = .ok (.iload 5, 2) := by decide +kernel
theorem d_M_put_54 : decode prog_7_method_23_code 54 = .ok (.iconst 1, 1) := by decide +kernel
theorem d_M_put_55 : decode prog_7_method_23_code 55 = .ok (.invokevirtual 53, 3) := by decide +kernel
theorem d_M_put_58 : decode prog_7_method_23_code 58 = .ok (.ifCond .ge 6, 3) := by decide +kernel
theorem d_M_put_61 : decode prog_7_method_23_code 61 = .ok (.bipush (-2), 2) := by decide +kernel
theorem d_M_put_63 : decode prog_7_method_23_code 63 = .ok (.ireturn, 1) := by decide +kernel
theorem d_M_put_64 : decode prog_7_method_23_code 64 = .ok (.aload_n 0, 1) := by decide +kernel
theorem d_M_put_65 : decode prog_7_method_23_code 65 = .ok (.getfield 25, 3) := by decide +kernel
theorem d_M_put_68 : decode prog_7_method_23_code 68 = .ok (.iload 5, 2) := by decide +kernel
theorem d_M_put_70 : decode prog_7_method_23_code 70 = .ok (.iaload, 1) := by decide +kernel
theorem d_M_put_71 : decode prog_7_method_23_code 71 = .ok (.sipush 512, 3) := by decide +kernel
theorem d_M_put_74 : decode prog_7_method_23_code 74 = .ok (.if_icmp .ne 6, 3) := by decide +kernel
theorem d_M_put_77 : decode prog_7_method_23_code 77 = .ok (.bipush (-3), 2) := by decide +kernel
theorem d_M_put_79 : decode prog_7_method_23_code 79 = .ok (.ireturn, 1) := by decide +kernel
theorem d_M_put_80 : decode prog_7_method_23_code 80 = .ok (.aload_n 0, 1) := by decide +kernel
theorem d_M_put_81 : decode prog_7_method_23_code 81 = .ok (.getfield 28, 3) := by decide +kernel
theorem d_M_put_84 : decode prog_7_method_23_code 84 = .ok (.sipush 512, 3) := by decide +kernel
theorem d_M_put_87 : decode prog_7_method_23_code 87 = .ok (.iload 5, 2) := by decide +kernel
theorem d_M_put_89 : decode prog_7_method_23_code 89 = .ok (.imul, 1) := by decide +kernel
theorem d_M_put_90 : decode prog_7_method_23_code 90 = .ok (.aload_n 0, 1) := by decide +kernel
theorem d_M_put_91 : decode prog_7_method_23_code 91 = .ok (.getfield 25, 3) := by decide +kernel
theorem d_M_put_94 : decode prog_7_method_23_code 94 = .ok (.iload 5, 2) := by decide +kernel
theorem d_M_put_96 : decode prog_7_method_23_code 96 = .ok (.iaload, 1) := by decide +kernel
theorem d_M_put_97 : decode prog_7_method_23_code 97 = .ok (.iadd, 1) := by decide +kernel
theorem d_M_put_98 : decode prog_7_method_23_code 98 = .ok (.iload_n 3, 1) := by decide +kernel
theorem d_M_put_99 : decode prog_7_method_23_code 99 = .ok (.i2b, 1) := by decide +kernel
theorem d_M_put_100 : decode prog_7_method_23_code 100 = .ok (.bastore, 1) := by decide +kernel
theorem d_M_put_101 : decode prog_7_method_23_code 101 = .ok (.aload_n 0, 1) := by decide +kernel
theorem d_M_put_102 : decode prog_7_method_23_code 102 = .ok (.getfield 25, 3) := by decide +kernel
theorem d_M_put_105 : decode prog_7_method_23_code 105 = .ok (.iload 5, 2) := by decide +kernel
theorem d_M_put_107 : decode prog_7_method_23_code 107 = .ok (.dup2, 1) := by decide +kernel
theorem d_M_put_108 : decode prog_7_method_23_code 108 = .ok (.iaload, 1) := by decide +kernel
theorem d_M_put_109 : decode prog_7_method_23_code 109 = .ok (.iconst 1, 1) := by decide +kernel
theorem d_M_put_110 : decode prog_7_method_23_code 110 = .ok (.iadd, 1) := by decide +kernel
theorem d_M_put_111 : decode prog_7_method_23_code 111 = .ok (.iastore, 1) := by decide +kernel
theorem d_M_put_112 : decode prog_7_method_23_code 112 = .ok (.iconst 0, 1) := by decide +kernel
theorem d_M_put_113 : decode prog_7_method_23_code 113 = .ok (.ireturn, 1) := by decide +kernel
theorem d_M_take_0 : decode prog_7_method_24_code 0 = .ok (.aload_n 0, 1) := by decide +kernel
theorem d_M_take_1 : decode prog_7_method_24_code 1 = .ok (.iconst 0, 1) := by decide +kernel
theorem d_M_take_2 : decode prog_7_method_24_code 2 = .ok (.putfield 41, 3) := by decide +kernel
theorem d_M_take_5 : decode prog_7_method_24_code 5 = .ok (.aload_n 0, 1) := by decide +kernel
theorem d_M_take_6 : decode prog_7_method_24_code 6 = .ok (.iload_n 1, 1) := by decide +kernel
theorem d_M_take_7 : decode prog_7_method_24_code 7 = .ok (.iload_n 2, 1) := by decide +kernel
theorem d_M_take_8 : decode prog_7_method_24_code 8 = .ok (.invokevirtual 77, 3) := by decide +kernel
theorem d_M_take_11 : decode prog_7_method_24_code 11 = .ok (.istore_n 3, 1) := by decide +kernel
theorem d_M_take_12 : decode prog_7_method_24_code 12 = .ok (.iload_n 3, 1) := by decide +kernel
theorem d_M_take_13 : decode prog_7_method_24_code 13 = .ok (.ifCond .lt 23, 3) := by decide +kernel
theorem d_M_take_16 : decode prog_7_method_24_code 16 = .ok (.aload_n 0, 1) := by decide +kernel
theorem d_M_take_17 : decode prog_7_method_24_code 17 = .ok (.getfield 13, 3) := by decide +kernel
theorem d_M_take_20 : decode prog_7_method_24_code 20 = .ok (.iload_n 3, 1) := by decide +kernel
theorem d_M_take_21 : decode prog_7_method_24_code 21 = .ok (.iaload, 1) := by decide +kernel
theorem d_M_take_22 : decode prog_7_method_24_code 22 = .ok (.iconst 1, 1) := by decide +kernel
theorem d_M_take_23 : decode prog_7_method_24_code 23 = .ok (.if_icmp .ne 13, 3) := by decide +kernel
theorem d_M_take_26 : decode prog_7_method_24_code 26 = .ok (.aload_n 0, 1) := by decide +kernel
theorem d_M_take_27 : decode prog_7_method_24_code 27 = .ok (.getfield 19, 3) := by decide +kernel
theorem d_M_take_30 : decode prog_7_method_24_code 30 = .ok (.iload_n 3, 1) := by decide +kernel
theorem d_M_take_31 : decode prog_7_method_24_code 31 = .ok (.iaload, 1) := by decide +kernel
theorem d_M_take_32 : decode prog_7_method_24_code 32 = .ok (.iconst 1, 1) := by decide +kernel
theorem d_M_take_33 : decode prog_7_method_24_code 33 = .ok (.if_icmp .eq 5, 3) := by decide +kernel
theorem d_M_take_36 : decode prog_7_method_24_code 36 = .ok (.iconst (-1), 1) := by decide +kernel
theorem d_M_take_37 : decode prog_7_method_24_code 37 = .ok (.ireturn, 1) := by decide +kernel
theorem d_M_take_38 : decode prog_7_method_24_code 38 = .ok (.aload_n 0, 1) := by decide +kernel
theorem d_M_take_39 : decode prog_7_method_24_code 39 = .ok (.getfield 16, 3) := by decide +kernel
theorem d_M_take_42 : decode prog_7_method_24_code 42 = .ok (.iload_n 3, 1) := by decide +kernel
theorem d_M_take_43 : decode prog_7_method_24_code 43 = .ok (.iaload, 1) := by decide +kernel
theorem d_M_take_44 : decode prog_7_method_24_code 44 = .ok (.istore 4, 2) := by decide +kernel
theorem d_M_take_46 : decode prog_7_method_24_code 46 = .ok (.aload_n 0, 1) := by decide +kernel
theorem d_M_take_47 : decode prog_7_method_24_code 47 = .ok (.getfield 25, 3) := by decide +kernel
theorem d_M_take_50 : decode prog_7_method_24_code 50 = .ok (.iload 4, 2) := by decide +kernel
theorem d_M_take_52 : decode prog_7_method_24_code 52 = .ok (.iaload, 1) := by decide +kernel
theorem d_M_take_53 : decode prog_7_method_24_code 53 = .ok (.ifCond .ne 21, 3) := by decide +kernel
theorem d_M_take_56 : decode prog_7_method_24_code 56 = .ok (.aload_n 0, 1) := by decide +kernel
theorem d_M_take_57 : decode prog_7_method_24_code 57 = .ok (.iload 4, 2) := by decide +kernel
theorem d_M_take_59 : decode prog_7_method_24_code 59 = .ok (.iconst 2, 1) := by decide +kernel
theorem d_M_take_60 : decode prog_7_method_24_code 60 = .ok (.invokevirtual 53, 3) := by decide +kernel
theorem d_M_take_63 : decode prog_7_method_24_code 63 = .ok (.ifCond .ge 8, 3) := by decide +kernel
theorem d_M_take_66 : decode prog_7_method_24_code 66 = .ok (.bipush (-4), 2) := by decide +kernel
theorem d_M_take_68 : decode prog_7_method_24_code 68 = .ok (.goto 5, 3) := by decide +kernel
theorem d_M_take_71 : decode prog_7_method_24_code 71 = .ok (.bipush (-3), 2) := by decide +kernel
theorem d_M_take_73 : decode prog_7_method_24_code 73 = .ok (.ireturn, 1) := by decide +kernel
theorem d_M_take_74 : decode prog_7_method_24_code 74 = .ok (.aload_n 0, 1) := by decide +kernel
theorem d_M_take_75 : decode prog_7_method_24_code 75 = .ok (.getfield 28, 3) := by decide +kernel
theorem d_M_take_78 : decode prog_7_method_24_code 78 = .ok (.sipush 512, 3) := by decide +kernel
theorem d_M_take_81 : decode prog_7_method_24_code 81 = .ok (.iload 4, 2) := by decide +kernel
theorem d_M_take_83 : decode prog_7_method_24_code 83 = .ok (.imul, 1) := by decide +kernel
theorem d_M_take_84 : decode prog_7_method_24_code 84 = .ok (.baload, 1) := by decide +kernel
theorem d_M_take_85 : decode prog_7_method_24_code 85 = .ok (.sipush 255, 3) := by decide +kernel
theorem d_M_take_88 : decode prog_7_method_24_code 88 = .ok (.iand, 1) := by decide +kernel
theorem d_M_take_89 : decode prog_7_method_24_code 89 = .ok (.istore 5, 2) := by decide +kernel
theorem d_M_take_91 : decode prog_7_method_24_code 91 = .ok (.aload_n 0, 1) := by decide +kernel
theorem d_M_take_92 : decode prog_7_method_24_code 92 = .ok (.getfield 25, 3) := by decide +kernel
theorem d_M_take_95 : decode prog_7_method_24_code 95 = .ok (.iload 4, 2) := by decide +kernel
theorem d_M_take_97 : decode prog_7_method_24_code 97 = .ok (.dup2, 1) := by decide +kernel
theorem d_M_take_98 : decode prog_7_method_24_code 98 = .ok (.iaload, 1) := by decide +kernel
theorem d_M_take_99 : decode prog_7_method_24_code 99 = .ok (.iconst 1, 1) := by decide +kernel
theorem d_M_take_100 : decode prog_7_method_24_code 100 = .ok (.isub, 1) := by decide +kernel
theorem d_M_take_101 : decode prog_7_method_24_code 101 = .ok (.iastore, 1) := by decide +kernel
theorem d_M_take_102 : decode prog_7_method_24_code 102 = .ok (.iconst 0, 1) := by decide +kernel
theorem d_M_take_103 : decode prog_7_method_24_code 103 = .ok (.istore 6, 2) := by decide +kernel
theorem d_M_take_105 : decode prog_7_method_24_code 105 = .ok (.iload 6, 2) := by decide +kernel
theorem d_M_take_107 : decode prog_7_method_24_code 107 = .ok (.aload_n 0, 1) := by decide +kernel
theorem d_M_take_108 : decode prog_7_method_24_code 108 = .ok (.getfield 25, 3) := by decide +kernel
theorem d_M_take_111 : decode prog_7_method_24_code 111 = .ok (.iload 4, 2) := by decide +kernel
theorem d_M_take_113 : decode prog_7_method_24_code 113 = .ok (.iaload, 1) := by decide +kernel
theorem d_M_take_114 : decode prog_7_method_24_code 114 = .ok (.if_icmp .ge 39, 3) := by decide +kernel
theorem d_M_take_117 : decode prog_7_method_24_code 117 = .ok (.aload_n 0, 1) := by decide +kernel
theorem d_M_take_118 : decode prog_7_method_24_code 118 = .ok (.getfield 28, 3) := by decide +kernel
theorem d_M_take_121 : decode prog_7_method_24_code 121 = .ok (.sipush 512, 3) := by decide +kernel
theorem d_M_take_124 : decode prog_7_method_24_code 124 = .ok (.iload 4, 2) := by decide +kernel
theorem d_M_take_126 : decode prog_7_method_24_code 126 = .ok (.imul, 1) := by decide +kernel
theorem d_M_take_127 : decode prog_7_method_24_code 127 = .ok (.iload 6, 2) := by decide +kernel
theorem d_M_take_129 : decode prog_7_method_24_code 129 = .ok (.iadd, 1) := by decide +kernel
theorem d_M_take_130 : decode prog_7_method_24_code 130 = .ok (.aload_n 0, 1) := by decide +kernel
theorem d_M_take_131 : decode prog_7_method_24_code 131 = .ok (.getfield 28, 3) := by decide +kernel
theorem d_M_take_134 : decode prog_7_method_24_code 134 = .ok (.sipush 512, 3) := by decide +kernel
theorem d_M_take_137 : decode prog_7_method_24_code 137 = .ok (.iload 4, 2) := by decide +kernel
theorem d_M_take_139 : decode prog_7_method_24_code 139 = .ok (.imul, 1) := by decide +kernel
theorem d_M_take_140 : decode prog_7_method_24_code 140 = .ok (.iload 6, 2) := by decide +kernel
theorem d_M_take_142 : decode prog_7_method_24_code 142 = .ok (.iadd, 1) := by decide +kernel
theorem d_M_take_143 : decode prog_7_method_24_code 143 = .ok (.iconst 1, 1) := by decide +kernel
theorem d_M_take_144 : decode prog_7_method_24_code 144 = .ok (.iadd, 1) := by decide +kernel
theorem d_M_take_145 : decode prog_7_method_24_code 145 = .ok (.baload, 1) := by decide +kernel
theorem d_M_take_146 : decode prog_7_method_24_code 146 = .ok (.bastore, 1) := by decide +kernel
theorem d_M_take_147 : decode prog_7_method_24_code 147 = .ok (.iinc 6 1, 3) := by decide +kernel
theorem d_M_take_150 : decode prog_7_method_24_code 150 = .ok (.goto (-45), 3) := by decide +kernel
theorem d_M_take_153 : decode prog_7_method_24_code 153 = .ok (.iload 5, 2) := by decide +kernel
theorem d_M_take_155 : decode prog_7_method_24_code 155 = .ok (.ireturn, 1) := by decide +kernel
theorem d_M_ends_0 : decode prog_7_method_25_code 0 = .ok (.aload_n 0, 1) := by decide +kernel
theorem d_M_ends_1 : decode prog_7_method_25_code 1 = .ok (.iconst 0, 1) := by decide +kernel
theorem d_M_ends_2 : decode prog_7_method_25_code 2 = .ok (.putfield 41, 3) := by decide +kernel
theorem d_M_ends_5 : decode prog_7_method_25_code 5 = .ok (.iload_n 1, 1) := by decide +kernel
theorem d_M_ends_6 : decode prog_7_method_25_code 6 = .ok (.ifCond .lt 26, 3) := by decide +kernel
theorem d_M_ends_9 : decode prog_7_method_25_code 9 = .ok (.iload_n 1, 1) := by decide +kernel
theorem d_M_ends_10 : decode prog_7_method_25_code 10 = .ok (.bipush 7, 2) := by decide +kernel
theorem d_M_ends_12 : decode prog_7_method_25_code 12 = .ok (.if_icmp .gt 20, 3) := by decide +kernel
theorem d_M_ends_15 : decode prog_7_method_25_code 15 = .ok (.aload_n 0, 1) := by decide +kernel
theorem d_M_ends_16 : decode prog_7_method_25_code 16 = .ok (.iload_n 1, 1) := by decide +kernel
theorem d_M_ends_17 : decode prog_7_method_25_code 17 = .ok (.invokevirtual 71, 3) := by decide +kernel
theorem d_M_ends_20 : decode prog_7_method_25_code 20 = .ok (.ifCond .eq 12, 3) := by decide +kernel
theorem d_M_ends_23 : decode prog_7_method_25_code 23 = .ok (.iload_n 2, 1) := by decide +kernel
theorem d_M_ends_24 : decode prog_7_method_25_code 24 = .ok (.ifCond .lt 8, 3) := by decide +kernel
theorem d_M_ends_27 : decode prog_7_method_25_code 27 = .ok (.iload_n 2, 1) := by decide +kernel
theorem d_M_ends_28 : decode prog_7_method_25_code 28 = .ok (.iconst 2, 1) := by decide +kernel
theorem d_M_ends_29 : decode prog_7_method_25_code 29 = .ok (.if_icmp .le 5, 3) := by decide +kernel
theorem d_M_ends_32 : decode prog_7_method_25_code 32 = .ok (.iconst (-1), 1) := by decide +kernel
theorem d_M_ends_33 : decode prog_7_method_25_code 33 = .ok (.ireturn, 1) := by decide +kernel
theorem d_M_ends_34 : decode prog_7_method_25_code 34 = .ok (.iload_n 2, 1) := by decide +kernel
theorem d_M_ends_35 : decode prog_7_method_25_code 35 = .ok (.ifCond .ne 12, 3) := by decide +kernel
theorem d_M_ends_38 : decode prog_7_method_25_code 38 = .ok (.aload_n 0, 1) := by decide +kernel
theorem d_M_ends_39 : decode prog_7_method_25_code 39 = .ok (.getfield 25, 3) := by decide +kernel
theorem d_M_ends_42 : decode prog_7_method_25_code 42 = .ok (.iload_n 1, 1) := by decide +kernel
theorem d_M_ends_43 : decode prog_7_method_25_code 43 = .ok (.iaload, 1) := by decide +kernel
theorem d_M_ends_44 : decode prog_7_method_25_code 44 = .ok (.goto 17, 3) := by decide +kernel
theorem d_M_ends_47 : decode prog_7_method_25_code 47 = .ok (.aload_n 0, 1) := by decide +kernel
theorem d_M_ends_48 : decode prog_7_method_25_code 48 = .ok (.iload_n 1, 1) := by decide +kernel
theorem d_M_ends_49 : decode prog_7_method_25_code 49 = .ok (.iload_n 2, 1) := by decide +kernel
theorem d_M_ends_50 : decode prog_7_method_25_code 50 = .ok (.invokevirtual 53, 3) := by decide +kernel
theorem d_M_ends_53 : decode prog_7_method_25_code 53 = .ok (.ifCond .lt 7, 3) := by decide +kernel
theorem d_M_ends_56 : decode prog_7_method_25_code 56 = .ok (.iconst 1, 1) := by decide +kernel
theorem d_M_ends_57 : decode prog_7_method_25_code 57 = .ok (.goto 4, 3) := by decide +kernel
theorem d_M_ends_60 : decode prog_7_method_25_code 60 = .ok (.iconst 0, 1) := by decide +kernel
theorem d_M_ends_61 : decode prog_7_method_25_code 61 = .ok (.ireturn, 1) := by decide +kernel
theorem d_M_type_0 : decode prog_7_method_28_code 0 = .ok (.aload_n 0, 1) := by decide +kernel
theorem d_M_type_1 : decode prog_7_method_28_code 1 = .ok (.iconst 0, 1) := by decide +kernel
theorem d_M_type_2 : decode prog_7_method_28_code 2 = .ok (.putfield 41, 3) := by decide +kernel
theorem d_M_type_5 : decode prog_7_method_28_code 5 = .ok (.iload_n 1, 1) := by decide +kernel
theorem d_M_type_6 : decode prog_7_method_28_code 6 = .ok (.ifCond .lt 10, 3) := by decide +kernel
theorem d_M_type_9 : decode prog_7_method_28_code 9 = .ok (.iload_n 1, 1) := by decide +kernel
theorem d_M_type_10 : decode prog_7_method_28_code 10 = .ok (.sipush 255, 3) := by decide +kernel
theorem d_M_type_13 : decode prog_7_method_28_code 13 = .ok (.if_icmp .le 5, 3) := by decide +kernel
theorem d_M_type_16 : decode prog_7_method_28_code 16 = .ok (.iconst 0, 1) := by decide +kernel
theorem d_M_type_17 : decode prog_7_method_28_code 17 = .ok (.ireturn, 1) := by decide +kernel
theorem d_M_type_18 : decode prog_7_method_28_code 18 = .ok (.iload_n 1, 1) := by decide +kernel
theorem d_M_type_19 : decode prog_7_method_28_code 19 = .ok (.bipush 8, 2) := by decide +kernel
theorem d_M_type_21 : decode prog_7_method_28_code 21 = .ok (.if_icmp .eq 9, 3) := by decide +kernel
theorem d_M_type_24 : decode prog_7_method_28_code 24 = .ok (.iload_n 1, 1) := by decide +kernel
theorem d_M_type_25 : decode prog_7_method_28_code 25 = .ok (.bipush 127, 2) := by decide +kernel
theorem d_M_type_27 : decode prog_7_method_28_code 27 = .ok (.if_icmp .ne 20, 3) := by decide +kernel
theorem d_M_type_30 : decode prog_7_method_28_code 30 = .ok (.aload_n 0, 1) := by decide +kernel
theorem d_M_type_31 : decode prog_7_method_28_code 31 = .ok (.getfield 90, 3) := by decide +kernel
theorem d_M_type_34 : decode prog_7_method_28_code 34 = .ok (.aload_n 0, 1) := by decide +kernel
theorem d_M_type_35 : decode prog_7_method_28_code 35 = .ok (.getfield 97, 3) := by decide +kernel
theorem d_M_type_38 : decode prog_7_method_28_code 38 = .ok (.if_icmp .le 7, 3) := by decide +kernel
theorem d_M_type_41 : decode prog_7_method_28_code 41 = .ok (.aload_n 0, 1) := by decide +kernel
theorem d_M_type_42 : decode prog_7_method_28_code 42 = .ok (.invokevirtual 100, 3) := by decide +kernel
theorem d_M_type_45 : decode prog_7_method_28_code 45 = .ok (.iconst 1, 1) := by decide +kernel
theorem d_M_type_46 : decode prog_7_method_28_code 46 = .ok (.ireturn, 1) := by decide +kernel
theorem d_M_type_47 : decode prog_7_method_28_code 47 = .ok (.iload_n 1, 1) := by decide +kernel
theorem d_M_type_48 : decode prog_7_method_28_code 48 = .ok (.bipush 21, 2) := by decide +kernel
theorem d_M_type_50 : decode prog_7_method_28_code 50 = .ok (.if_icmp .ne 23, 3) := by decide +kernel
theorem d_M_type_53 : decode prog_7_method_28_code 53 = .ok (.aload_n 0, 1) := by decide +kernel
theorem d_M_type_54 : decode prog_7_method_28_code 54 = .ok (.getfield 90, 3) := by decide +kernel
theorem d_M_type_57 : decode prog_7_method_28_code 57 = .ok (.aload_n 0, 1) := by decide +kernel
theorem d_M_type_58 : decode prog_7_method_28_code 58 = .ok (.getfield 97, 3) := by decide +kernel
theorem d_M_type_61 : decode prog_7_method_28_code 61 = .ok (.if_icmp .le 10, 3) := by decide +kernel
theorem d_M_type_64 : decode prog_7_method_28_code 64 = .ok (.aload_n 0, 1) := by decide +kernel
theorem d_M_type_65 : decode prog_7_method_28_code 65 = .ok (.invokevirtual 100, 3) := by decide +kernel
theorem d_M_type_68 : decode prog_7_method_28_code 68 = .ok (.goto (-15), 3) := by decide +kernel
theorem d_M_type_71 : decode prog_7_method_28_code 71 = .ok (.iconst 1, 1) := by decide +kernel
theorem d_M_type_72 : decode prog_7_method_28_code 72 = .ok (.ireturn, 1) := by decide +kernel
theorem d_M_type_73 : decode prog_7_method_28_code 73 = .ok (.aload_n 0, 1) := by decide +kernel
theorem d_M_type_74 : decode prog_7_method_28_code 74 = .ok (.getfield 90, 3) := by decide +kernel
theorem d_M_type_77 : decode prog_7_method_28_code 77 = .ok (.sipush 128, 3) := by decide +kernel
theorem d_M_type_80 : decode prog_7_method_28_code 80 = .ok (.if_icmp .ne 5, 3) := by decide +kernel
theorem d_M_type_83 : decode prog_7_method_28_code 83 = .ok (.iconst 0, 1) := by decide +kernel
theorem d_M_type_84 : decode prog_7_method_28_code 84 = .ok (.ireturn, 1) := by decide +kernel
theorem d_M_type_85 : decode prog_7_method_28_code 85 = .ok (.iload_n 1, 1) := by decide +kernel
theorem d_M_type_86 : decode prog_7_method_28_code 86 = .ok (.bipush 13, 2) := by decide +kernel
theorem d_M_type_88 : decode prog_7_method_28_code 88 = .ok (.if_icmp .ne 8, 3) := by decide +kernel
theorem d_M_type_91 : decode prog_7_method_28_code 91 = .ok (.bipush 10, 2) := by decide +kernel
theorem d_M_type_93 : decode prog_7_method_28_code 93 = .ok (.goto 4, 3) := by decide +kernel
theorem d_M_type_96 : decode prog_7_method_28_code 96 = .ok (.iload_n 1, 1) := by decide +kernel
theorem d_M_type_97 : decode prog_7_method_28_code 97 = .ok (.istore_n 2, 1) := by decide +kernel
theorem d_M_type_98 : decode prog_7_method_28_code 98 = .ok (.aload_n 0, 1) := by decide +kernel
theorem d_M_type_99 : decode prog_7_method_28_code 99 = .ok (.getfield 35, 3) := by decide +kernel
theorem d_M_type_102 : decode prog_7_method_28_code 102 = .ok (.aload_n 0, 1) := by decide +kernel
theorem d_M_type_103 : decode prog_7_method_28_code 103 = .ok (.getfield 90, 3) := by decide +kernel
theorem d_M_type_106 : decode prog_7_method_28_code 106 = .ok (.iload_n 2, 1) := by decide +kernel
theorem d_M_type_107 : decode prog_7_method_28_code 107 = .ok (.iastore, 1) := by decide +kernel
theorem d_M_type_108 : decode prog_7_method_28_code 108 = .ok (.aload_n 0, 1) := by decide +kernel
theorem d_M_type_109 : decode prog_7_method_28_code 109 = .ok (.dup, 1) := by decide +kernel
theorem d_M_type_110 : decode prog_7_method_28_code 110 = .ok (.getfield 90, 3) := by decide +kernel
theorem d_M_type_113 : decode prog_7_method_28_code 113 = .ok (.iconst 1, 1) := by decide +kernel
theorem d_M_type_114 : decode prog_7_method_28_code 114 = .ok (.iadd, 1) := by decide +kernel
theorem d_M_type_115 : decode prog_7_method_28_code 115 = .ok (.putfield 90, 3) := by decide +kernel
theorem d_M_type_118 : decode prog_7_method_28_code 118 = .ok (.aload_n 0, 1) := by decide +kernel
theorem d_M_type_119 : decode prog_7_method_28_code 119 = .ok (.iload_n 2, 1) := by decide +kernel
theorem d_M_type_120 : decode prog_7_method_28_code 120 = .ok (.invokevirtual 93, 3) := by decide +kernel
theorem d_M_type_123 : decode prog_7_method_28_code 123 = .ok (.aload_n 0, 1) := by decide +kernel
theorem d_M_type_124 : decode prog_7_method_28_code 124 = .ok (.iload_n 2, 1) := by decide +kernel
theorem d_M_type_125 : decode prog_7_method_28_code 125 = .ok (.bipush 10, 2) := by decide +kernel
theorem d_M_type_127 : decode prog_7_method_28_code 127 = .ok (.if_icmp .eq 18, 3) := by decide +kernel
theorem d_M_type_130 : decode prog_7_method_28_code 130 = .ok (.iload_n 2, 1) := by decide +kernel
theorem d_M_type_131 : decode prog_7_method_28_code 131 = .ok (.iconst 4, 1) := by decide +kernel
theorem d_M_type_132 : decode prog_7_method_28_code 132 = .ok (.if_icmp .eq 13, 3) := by decide +kernel
theorem d_M_type_135 : decode prog_7_method_28_code 135 = .ok (.aload_n 0, 1) := by decide +kernel
theorem d_M_type_136 : decode prog_7_method_28_code 136 = .ok (.getfield 90, 3) := by decide +kernel
theorem d_M_type_139 : decode prog_7_method_28_code 139 = .ok (.sipush 128, 3) := by decide +kernel
theorem d_M_type_142 : decode prog_7_method_28_code 142 = .ok (.if_icmp .ne 10, 3) := by decide +kernel
theorem d_M_type_145 : decode prog_7_method_28_code 145 = .ok (.aload_n 0, 1) := by decide +kernel
theorem d_M_type_146 : decode prog_7_method_28_code 146 = .ok (.getfield 90, 3) := by decide +kernel
theorem d_M_type_149 : decode prog_7_method_28_code 149 = .ok (.goto 7, 3) := by decide +kernel
theorem d_M_type_152 : decode prog_7_method_28_code 152 = .ok (.aload_n 0, 1) := by decide +kernel
theorem d_M_type_153 : decode prog_7_method_28_code 153 = .ok (.getfield 97, 3) := by decide +kernel
theorem d_M_type_156 : decode prog_7_method_28_code 156 = .ok (.putfield 97, 3) := by decide +kernel
theorem d_M_type_159 : decode prog_7_method_28_code 159 = .ok (.iconst 1, 1) := by decide +kernel
theorem d_M_type_160 : decode prog_7_method_28_code 160 = .ok (.ireturn, 1) := by decide +kernel
theorem d_M_back_0 : decode prog_7_method_27_code 0 = .ok (.aload_n 0, 1) := by decide +kernel
theorem d_M_back_1 : decode prog_7_method_27_code 1 = .ok (.dup, 1) := by decide +kernel
theorem d_M_back_2 : decode prog_7_method_27_code 2 = .ok (.getfield 90, 3) := by decide +kernel
theorem d_M_back_5 : decode prog_7_method_27_code 5 = .ok (.iconst 1, 1) := by decide +kernel
theorem d_M_back_6 : decode prog_7_method_27_code 6 = .ok (.isub, 1) := by decide +kernel
theorem d_M_back_7 : decode prog_7_method_27_code 7 = .ok (.putfield 90, 3) := by decide +kernel
theorem d_M_back_10 : decode prog_7_method_27_code 10 = .ok (.aload_n 0, 1) := by decide +kernel
theorem d_M_back_11 : decode prog_7_method_27_code 11 = .ok (.bipush 8, 2) := by decide +kernel
theorem d_M_back_13 : decode prog_7_method_27_code 13 = .ok (.invokevirtual 93, 3) := by decide +kernel
theorem d_M_back_16 : decode prog_7_method_27_code 16 = .ok (.aload_n 0, 1) := by decide +kernel
theorem d_M_back_17 : decode prog_7_method_27_code 17 = .ok (.bipush 32, 2) := by decide +kernel
theorem d_M_back_19 : decode prog_7_method_27_code 19 = .ok (.invokevirtual 93, 3) := by decide +kernel
theorem d_M_back_22 : decode prog_7_method_27_code 22 = .ok (.aload_n 0, 1) := by decide +kernel
theorem d_M_back_23 : decode prog_7_method_27_code 23 = .ok (.bipush 8, 2) := by decide +kernel
theorem d_M_back_25 : decode prog_7_method_27_code 25 = .ok (.invokevirtual 93, 3) := by decide +kernel
theorem d_M_back_28 : decode prog_7_method_27_code 28 = .ok (.return_, 1) := by decide +kernel
theorem d_M_puts_0 : decode prog_7_method_26_code 0 = .ok (.aload_n 0, 1) := by decide +kernel
theorem d_M_puts_1 : decode prog_7_method_26_code 1 = .ok (.getfield 38, 3) := by decide +kernel
theorem d_M_puts_4 : decode prog_7_method_26_code 4 = .ok (.aload_n 0, 1) := by decide +kernel
theorem d_M_puts_5 : decode prog_7_method_26_code 5 = .ok (.getfield 87, 3) := by decide +kernel
theorem d_M_puts_8 : decode prog_7_method_26_code 8 = .ok (.sipush 4096, 3) := by decide +kernel
theorem d_M_puts_11 : decode prog_7_method_26_code 11 = .ok (.irem, 1) := by decide +kernel
theorem d_M_puts_12 : decode prog_7_method_26_code 12 = .ok (.iload_n 1, 1) := by decide +kernel
theorem d_M_puts_13 : decode prog_7_method_26_code 13 = .ok (.i2b, 1) := by decide +kernel
theorem d_M_puts_14 : decode prog_7_method_26_code 14 = .ok (.bastore, 1) := by decide +kernel
theorem d_M_puts_15 : decode prog_7_method_26_code 15 = .ok (.aload_n 0, 1) := by decide +kernel
theorem d_M_puts_16 : decode prog_7_method_26_code 16 = .ok (.dup, 1) := by decide +kernel
theorem d_M_puts_17 : decode prog_7_method_26_code 17 = .ok (.getfield 87, 3) := by decide +kernel
theorem d_M_puts_20 : decode prog_7_method_26_code 20 = .ok (.iconst 1, 1) := by decide +kernel
theorem d_M_puts_21 : decode prog_7_method_26_code 21 = .ok (.iadd, 1) := by decide +kernel
theorem d_M_puts_22 : decode prog_7_method_26_code 22 = .ok (.putfield 87, 3) := by decide +kernel
theorem d_M_puts_25 : decode prog_7_method_26_code 25 = .ok (.return_, 1) := by decide +kernel
theorem d_M_read_0 : decode prog_7_method_29_code 0 = .ok (.aload_n 0, 1) := by decide +kernel
theorem d_M_read_1 : decode prog_7_method_29_code 1 = .ok (.iconst 0, 1) := by decide +kernel
theorem d_M_read_2 : decode prog_7_method_29_code 2 = .ok (.putfield 41, 3) := by decide +kernel
theorem d_M_read_5 : decode prog_7_method_29_code 5 = .ok (.aload_n 0, 1) := by decide +kernel
theorem d_M_read_6 : decode prog_7_method_29_code 6 = .ok (.getfield 97, 3) := by decide +kernel
theorem d_M_read_9 : decode prog_7_method_29_code 9 = .ok (.ifCond .ne 6, 3) := by decide +kernel
theorem d_M_read_12 : decode prog_7_method_29_code 12 = .ok (.bipush (-3), 2) := by decide +kernel
theorem d_M_read_14 : decode prog_7_method_29_code 14 = .ok (.ireturn, 1) := by decide +kernel
theorem d_M_read_15 : decode prog_7_method_29_code 15 = .ok (.aload_n 0, 1) := by decide +kernel
theorem d_M_read_16 : decode prog_7_method_29_code 16 = .ok (.getfield 35, 3) := by decide +kernel
theorem d_M_read_19 : decode prog_7_method_29_code 19 = .ok (.iconst 0, 1) := by decide +kernel
theorem d_M_read_20 : decode prog_7_method_29_code 20 = .ok (.iaload, 1) := by decide +kernel
theorem d_M_read_21 : decode prog_7_method_29_code 21 = .ok (.istore_n 2, 1) := by decide +kernel
theorem d_M_read_22 : decode prog_7_method_29_code 22 = .ok (.iload_n 2, 1) := by decide +kernel
theorem d_M_read_23 : decode prog_7_method_29_code 23 = .ok (.iconst 4, 1) := by decide +kernel
theorem d_M_read_24 : decode prog_7_method_29_code 24 = .ok (.if_icmp .ne 7, 3) := by decide +kernel
theorem d_M_read_27 : decode prog_7_method_29_code 27 = .ok (.iload_n 1, 1) := by decide +kernel
theorem d_M_read_28 : decode prog_7_method_29_code 28 = .ok (.ifCond .eq 53, 3) := by decide +kernel
theorem d_M_read_31 : decode prog_7_method_29_code 31 = .ok (.aload_n 0, 1) := by decide +kernel
theorem d_M_read_32 : decode prog_7_method_29_code 32 = .ok (.dup, 1) := by decide +kernel
theorem d_M_read_33 : decode prog_7_method_29_code 33 = .ok (.getfield 97, 3) := by decide +kernel
theorem d_M_read_36 : decode prog_7_method_29_code 36 = .ok (.iconst 1, 1) := by decide +kernel
theorem d_M_read_37 : decode prog_7_method_29_code 37 = .ok (.isub, 1) := by decide +kernel
theorem d_M_read_38 : decode prog_7_method_29_code 38 = .ok (.putfield 97, 3) := by decide +kernel
theorem d_M_read_41 : decode prog_7_method_29_code 41 = .ok (.aload_n 0, 1) := by decide +kernel
theorem d_M_read_42 : decode prog_7_method_29_code 42 = .ok (.dup, 1) := by decide +kernel
theorem d_M_read_43 : decode prog_7_method_29_code 43 = .ok (.getfield 90, 3) := by decide +kernel
theorem d_M_read_46 : decode prog_7_method_29_code 46 = .ok (.iconst 1, 1) := by decide +kernel
theorem d_M_read_47 : decode prog_7_method_29_code 47 = .ok (.isub, 1) := by decide +kernel
theorem d_M_read_48 : decode prog_7_method_29_code 48 = .ok (.putfield 90, 3) := by decide +kernel
theorem d_M_read_51 : decode prog_7_method_29_code 51 = .ok (.iconst 0, 1) := by decide +kernel
theorem d_M_read_52 : decode prog_7_method_29_code 52 = .ok (.istore_n 3, 1) := by decide +kernel
theorem d_M_read_53 : decode prog_7_method_29_code 53 = .ok (.iload_n 3, 1) := by decide +kernel
theorem d_M_read_54 : decode prog_7_method_29_code 54 = .ok (.aload_n 0, 1) := by decide +kernel
theorem d_M_read_55 : decode prog_7_method_29_code 55 = .ok (.getfield 90, 3) := by decide +kernel
theorem d_M_read_58 : decode prog_7_method_29_code 58 = .ok (.if_icmp .ge 23, 3) := by decide +kernel
theorem d_M_read_61 : decode prog_7_method_29_code 61 = .ok (.aload_n 0, 1) := by decide +kernel
theorem d_M_read_62 : decode prog_7_method_29_code 62 = .ok (.getfield 35, 3) := by decide +kernel
theorem d_M_read_65 : decode prog_7_method_29_code 65 = .ok (.iload_n 3, 1) := by decide +kernel
theorem d_M_read_66 : decode prog_7_method_29_code 66 = .ok (.aload_n 0, 1) := by decide +kernel
theorem d_M_read_67 : decode prog_7_method_29_code 67 = .ok (.getfield 35, 3) := by decide +kernel
theorem d_M_read_70 : decode prog_7_method_29_code 70 = .ok (.iload_n 3, 1) := by decide +kernel
theorem d_M_read_71 : decode prog_7_method_29_code 71 = .ok (.iconst 1, 1) := by decide +kernel
theorem d_M_read_72 : decode prog_7_method_29_code 72 = .ok (.iadd, 1) := by decide +kernel
theorem d_M_read_73 : decode prog_7_method_29_code 73 = .ok (.iaload, 1) := by decide +kernel
theorem d_M_read_74 : decode prog_7_method_29_code 74 = .ok (.iastore, 1) := by decide +kernel
theorem d_M_read_75 : decode prog_7_method_29_code 75 = .ok (.iinc 3 1, 3) := by decide +kernel
theorem d_M_read_78 : decode prog_7_method_29_code 78 = .ok (.goto (-25), 3) := by decide +kernel
theorem d_M_read_81 : decode prog_7_method_29_code 81 = .ok (.iload_n 2, 1) := by decide +kernel
theorem d_M_read_82 : decode prog_7_method_29_code 82 = .ok (.iconst 4, 1) := by decide +kernel
theorem d_M_read_83 : decode prog_7_method_29_code 83 = .ok (.if_icmp .ne 8, 3) := by decide +kernel
theorem d_M_read_86 : decode prog_7_method_29_code 86 = .ok (.bipush (-4), 2) := by decide +kernel
theorem d_M_read_88 : decode prog_7_method_29_code 88 = .ok (.goto 4, 3) := by decide +kernel
theorem d_M_read_91 : decode prog_7_method_29_code 91 = .ok (.iload_n 2, 1) := by decide +kernel
theorem d_M_read_92 : decode prog_7_method_29_code 92 = .ok (.ireturn, 1) := by decide +kernel
theorem d_M_waiting_0 : decode prog_7_method_30_code 0 = .ok (.aload_n 0, 1) := by decide +kernel
theorem d_M_waiting_1 : decode prog_7_method_30_code 1 = .ok (.iconst 0, 1) := by decide +kernel
theorem d_M_waiting_2 : decode prog_7_method_30_code 2 = .ok (.putfield 41, 3) := by decide +kernel
theorem d_M_waiting_5 : decode prog_7_method_30_code 5 = .ok (.iload_n 1, 1) := by decide +kernel
theorem d_M_waiting_6 : decode prog_7_method_30_code 6 = .ok (.ifCond .ne 10, 3) := by decide +kernel
theorem d_M_waiting_9 : decode prog_7_method_30_code 9 = .ok (.aload_n 0, 1) := by decide +kernel
theorem d_M_waiting_10 : decode prog_7_method_30_code 10 = .ok (.getfield 97, 3) := by decide +kernel
theorem d_M_waiting_13 : decode prog_7_method_30_code 13 = .ok (.goto 16, 3) := by decide +kernel
theorem d_M_waiting_16 : decode prog_7_method_30_code 16 = .ok (.iload_n 1, 1) := by decide +kernel
theorem d_M_waiting_17 : decode prog_7_method_30_code 17 = .ok (.iconst 1, 1) := by decide +kernel
theorem d_M_waiting_18 : decode prog_7_method_30_code 18 = .ok (.if_icmp .ne 10, 3) := by decide +kernel
theorem d_M_waiting_21 : decode prog_7_method_30_code 21 = .ok (.aload_n 0, 1) := by decide +kernel
theorem d_M_waiting_22 : decode prog_7_method_30_code 22 = .ok (.getfield 90, 3) := by decide +kernel
theorem d_M_waiting_25 : decode prog_7_method_30_code 25 = .ok (.goto 4, 3) := by decide +kernel
theorem d_M_waiting_28 : decode prog_7_method_30_code 28 = .ok (.iconst (-1), 1) := by decide +kernel
theorem d_M_waiting_29 : decode prog_7_method_30_code 29 = .ok (.ireturn, 1) := by decide +kernel
theorem d_M_show_0 : decode prog_7_method_31_code 0 = .ok (.aload_n 0, 1) := by decide +kernel
theorem d_M_show_1 : decode prog_7_method_31_code 1 = .ok (.iconst 0, 1) := by decide +kernel
theorem d_M_show_2 : decode prog_7_method_31_code 2 = .ok (.putfield 41, 3) := by decide +kernel
theorem d_M_show_5 : decode prog_7_method_31_code 5 = .ok (.aload_n 0, 1) := by decide +kernel
theorem d_M_show_6 : decode prog_7_method_31_code 6 = .ok (.iload_n 1, 1) := by decide +kernel
theorem d_M_show_7 : decode prog_7_method_31_code 7 = .ok (.invokevirtual 93, 3) := by decide +kernel
theorem d_M_show_10 : decode prog_7_method_31_code 10 = .ok (.return_, 1) := by decide +kernel
theorem d_M_shown_0 : decode prog_7_method_32_code 0 = .ok (.aload_n 0, 1) := by decide +kernel
theorem d_M_shown_1 : decode prog_7_method_32_code 1 = .ok (.iconst 0, 1) := by decide +kernel
theorem d_M_shown_2 : decode prog_7_method_32_code 2 = .ok (.putfield 41, 3) := by decide +kernel
theorem d_M_shown_5 : decode prog_7_method_32_code 5 = .ok (.iload_n 1, 1) := by decide +kernel
theorem d_M_shown_6 : decode prog_7_method_32_code 6 = .ok (.ifCond .lt 40, 3) := by decide +kernel
theorem d_M_shown_9 : decode prog_7_method_32_code 9 = .ok (.iload_n 1, 1) := by decide +kernel
theorem d_M_shown_10 : decode prog_7_method_32_code 10 = .ok (.aload_n 0, 1) := by decide +kernel
theorem d_M_shown_11 : decode prog_7_method_32_code 11 = .ok (.getfield 87, 3) := by decide +kernel
theorem d_M_shown_14 : decode prog_7_method_32_code 14 = .ok (.if_icmp .ge 32, 3) := by decide +kernel
theorem d_M_shown_17 : decode prog_7_method_32_code 17 = .ok (.iload_n 1, 1) := by decide +kernel
theorem d_M_shown_18 : decode prog_7_method_32_code 18 = .ok (.aload_n 0, 1) := by decide +kernel
theorem d_M_shown_19 : decode prog_7_method_32_code 19 = .ok (.getfield 87, 3) := by decide +kernel
theorem d_M_shown_22 : decode prog_7_method_32_code 22 = .ok (.sipush 4096, 3) := by decide +kernel
theorem d_M_shown_25 : decode prog_7_method_32_code 25 = .ok (.isub, 1) := by decide +kernel
theorem d_M_shown_26 : decode prog_7_method_32_code 26 = .ok (.if_icmp .lt 20, 3) := by decide +kernel
theorem d_M_shown_29 : decode prog_7_method_32_code 29 = .ok (.aload_n 0, 1) := by decide +kernel
theorem d_M_shown_30 : decode prog_7_method_32_code 30 = .ok (.getfield 38, 3) := by decide +kernel
theorem d_M_shown_33 : decode prog_7_method_32_code 33 = .ok (.iload_n 1, 1) := by decide +kernel
theorem d_M_shown_34 : decode prog_7_method_32_code 34 = .ok (.sipush 4096, 3) := by decide +kernel
theorem d_M_shown_37 : decode prog_7_method_32_code 37 = .ok (.irem, 1) := by decide +kernel
theorem d_M_shown_38 : decode prog_7_method_32_code 38 = .ok (.baload, 1) := by decide +kernel
theorem d_M_shown_39 : decode prog_7_method_32_code 39 = .ok (.sipush 255, 3) := by decide +kernel
theorem d_M_shown_42 : decode prog_7_method_32_code 42 = .ok (.iand, 1) := by decide +kernel
theorem d_M_shown_43 : decode prog_7_method_32_code 43 = .ok (.goto 4, 3) := by decide +kernel
theorem d_M_shown_46 : decode prog_7_method_32_code 46 = .ok (.iconst (-1), 1) := by decide +kernel
theorem d_M_shown_47 : decode prog_7_method_32_code 47 = .ok (.ireturn, 1) := by decide +kernel
theorem d_M_count_0 : decode prog_7_method_33_code 0 = .ok (.aload_n 0, 1) := by decide +kernel
theorem d_M_count_1 : decode prog_7_method_33_code 1 = .ok (.iconst 0, 1) := by decide +kernel
theorem d_M_count_2 : decode prog_7_method_33_code 2 = .ok (.putfield 41, 3) := by decide +kernel
theorem d_M_count_5 : decode prog_7_method_33_code 5 = .ok (.aload_n 0, 1) := by decide +kernel
theorem d_M_count_6 : decode prog_7_method_33_code 6 = .ok (.getfield 87, 3) := by decide +kernel
theorem d_M_count_9 : decode prog_7_method_33_code 9 = .ok (.ireturn, 1) := by decide +kernel
theorem d_law_0 : decode code 0 = .ok (.new 7, 3) := by decide +kernel
theorem d_law_3 : decode code 3 = .ok (.dup, 1) := by decide +kernel
theorem d_law_4 : decode code 4 = .ok (.invokespecial 9, 3) := by decide +kernel
theorem d_law_7 : decode code 7 = .ok (.astore_n 1, 1) := by decide +kernel
theorem d_law_8 : decode code 8 = .ok (.new 10, 3) := by decide +kernel
theorem d_law_11 : decode code 11 = .ok (.dup, 1) := by decide +kernel
theorem d_law_12 : decode code 12 = .ok (.invokespecial 12, 3) := by decide +kernel
theorem d_law_15 : decode code 15 = .ok (.astore_n 2, 1) := by decide +kernel
theorem d_law_16 : decode code 16 = .ok (.iconst 0, 1) := by decide +kernel
theorem d_law_17 : decode code 17 = .ok (.istore_n 3, 1) := by decide +kernel
theorem d_law_18 : decode code 18 = .ok (.iload_n 3, 1) := by decide +kernel
theorem d_law_19 : decode code 19 = .ok (.aload_n 0, 1) := by decide +kernel
theorem d_law_20 : decode code 20 = .ok (.arraylength, 1) := by decide +kernel
theorem d_law_21 : decode code 21 = .ok (.iconst 5, 1) := by decide +kernel
theorem d_law_22 : decode code 22 = .ok (.isub, 1) := by decide +kernel
theorem d_law_23 : decode code 23 = .ok (.if_icmp .gt 661, 3) := by decide +kernel
theorem d_law_26 : decode code 26 = .ok (.aload_n 0, 1) := by decide +kernel
theorem d_law_27 : decode code 27 = .ok (.iload_n 3, 1) := by decide +kernel
theorem d_law_28 : decode code 28 = .ok (.iaload, 1) := by decide +kernel
theorem d_law_29 : decode code 29 = .ok (.bipush 31, 2) := by decide +kernel
theorem d_law_31 : decode code 31 = .ok (.iand, 1) := by decide +kernel
theorem d_law_32 : decode code 32 = .ok (.tableswitch 646 0 17 #[88, 141, 164, 197, 230, 253, 276, 309, 352, 395, 438, 471, 504, 527, 566, 589, 610, 633], 88) := by decide +kernel
theorem d_law_120 : decode code 120 = .ok (.aload_n 1, 1) := by decide +kernel
theorem d_law_121 : decode code 121 = .ok (.aload_n 0, 1) := by decide +kernel
theorem d_law_122 : decode code 122 = .ok (.iload_n 3, 1) := by decide +kernel
theorem d_law_123 : decode code 123 = .ok (.iconst 1, 1) := by decide +kernel
theorem d_law_124 : decode code 124 = .ok (.iadd, 1) := by decide +kernel
theorem d_law_125 : decode code 125 = .ok (.iaload, 1) := by decide +kernel
theorem d_law_126 : decode code 126 = .ok (.aload_n 0, 1) := by decide +kernel
theorem d_law_127 : decode code 127 = .ok (.iload_n 3, 1) := by decide +kernel
theorem d_law_128 : decode code 128 = .ok (.iconst 2, 1) := by decide +kernel
theorem d_law_129 : decode code 129 = .ok (.iadd, 1) := by decide +kernel
theorem d_law_130 : decode code 130 = .ok (.iaload, 1) := by decide +kernel
theorem d_law_131 : decode code 131 = .ok (.aload_n 0, 1) := by decide +kernel
theorem d_law_132 : decode code 132 = .ok (.iload_n 3, 1) := by decide +kernel
theorem d_law_133 : decode code 133 = .ok (.iconst 3, 1) := by decide +kernel
theorem d_law_134 : decode code 134 = .ok (.iadd, 1) := by decide +kernel
theorem d_law_135 : decode code 135 = .ok (.iaload, 1) := by decide +kernel
theorem d_law_136 : decode code 136 = .ok (.aload_n 0, 1) := by decide +kernel
theorem d_law_137 : decode code 137 = .ok (.iload_n 3, 1) := by decide +kernel
theorem d_law_138 : decode code 138 = .ok (.iconst 4, 1) := by decide +kernel
theorem d_law_139 : decode code 139 = .ok (.iadd, 1) := by decide +kernel
theorem d_law_140 : decode code 140 = .ok (.iaload, 1) := by decide +kernel
theorem d_law_141 : decode code 141 = .ok (.invokevirtual 13, 3) := by decide +kernel
theorem d_law_144 : decode code 144 = .ok (.aload_n 2, 1) := by decide +kernel
theorem d_law_145 : decode code 145 = .ok (.aload_n 0, 1) := by decide +kernel
theorem d_law_146 : decode code 146 = .ok (.iload_n 3, 1) := by decide +kernel
theorem d_law_147 : decode code 147 = .ok (.iconst 1, 1) := by decide +kernel
theorem d_law_148 : decode code 148 = .ok (.iadd, 1) := by decide +kernel
theorem d_law_149 : decode code 149 = .ok (.iaload, 1) := by decide +kernel
theorem d_law_150 : decode code 150 = .ok (.aload_n 0, 1) := by decide +kernel
theorem d_law_151 : decode code 151 = .ok (.iload_n 3, 1) := by decide +kernel
theorem d_law_152 : decode code 152 = .ok (.iconst 2, 1) := by decide +kernel
theorem d_law_153 : decode code 153 = .ok (.iadd, 1) := by decide +kernel
theorem d_law_154 : decode code 154 = .ok (.iaload, 1) := by decide +kernel
theorem d_law_155 : decode code 155 = .ok (.aload_n 0, 1) := by decide +kernel
theorem d_law_156 : decode code 156 = .ok (.iload_n 3, 1) := by decide +kernel
theorem d_law_157 : decode code 157 = .ok (.iconst 3, 1) := by decide +kernel
theorem d_law_158 : decode code 158 = .ok (.iadd, 1) := by decide +kernel
theorem d_law_159 : decode code 159 = .ok (.iaload, 1) := by decide +kernel
theorem d_law_160 : decode code 160 = .ok (.aload_n 0, 1) := by decide +kernel
theorem d_law_161 : decode code 161 = .ok (.iload_n 3, 1) := by decide +kernel
theorem d_law_162 : decode code 162 = .ok (.iconst 4, 1) := by decide +kernel
theorem d_law_163 : decode code 163 = .ok (.iadd, 1) := by decide +kernel
theorem d_law_164 : decode code 164 = .ok (.iaload, 1) := by decide +kernel
theorem d_law_165 : decode code 165 = .ok (.invokevirtual 17, 3) := by decide +kernel
theorem d_law_168 : decode code 168 = .ok (.if_icmp .eq 510, 3) := by decide +kernel
theorem d_law_171 : decode code 171 = .ok (.iconst 0, 1) := by decide +kernel
theorem d_law_172 : decode code 172 = .ok (.ireturn, 1) := by decide +kernel
theorem d_law_173 : decode code 173 = .ok (.aload_n 1, 1) := by decide +kernel
theorem d_law_174 : decode code 174 = .ok (.aload_n 0, 1) := by decide +kernel
theorem d_law_175 : decode code 175 = .ok (.iload_n 3, 1) := by decide +kernel
theorem d_law_176 : decode code 176 = .ok (.iconst 1, 1) := by decide +kernel
theorem d_law_177 : decode code 177 = .ok (.iadd, 1) := by decide +kernel
theorem d_law_178 : decode code 178 = .ok (.iaload, 1) := by decide +kernel
theorem d_law_179 : decode code 179 = .ok (.invokevirtual 18, 3) := by decide +kernel
theorem d_law_182 : decode code 182 = .ok (.aload_n 2, 1) := by decide +kernel
theorem d_law_183 : decode code 183 = .ok (.aload_n 0, 1) := by decide +kernel
theorem d_law_184 : decode code 184 = .ok (.iload_n 3, 1) := by decide +kernel
theorem d_law_185 : decode code 185 = .ok (.iconst 1, 1) := by decide +kernel
theorem d_law_186 : decode code 186 = .ok (.iadd, 1) := by decide +kernel
theorem d_law_187 : decode code 187 = .ok (.iaload, 1) := by decide +kernel
theorem d_law_188 : decode code 188 = .ok (.invokevirtual 22, 3) := by decide +kernel
theorem d_law_191 : decode code 191 = .ok (.if_icmp .eq 487, 3) := by decide +kernel
theorem d_law_194 : decode code 194 = .ok (.iconst 0, 1) := by decide +kernel
theorem d_law_195 : decode code 195 = .ok (.ireturn, 1) := by decide +kernel
theorem d_law_196 : decode code 196 = .ok (.aload_n 1, 1) := by decide +kernel
theorem d_law_197 : decode code 197 = .ok (.aload_n 0, 1) := by decide +kernel
theorem d_law_198 : decode code 198 = .ok (.iload_n 3, 1) := by decide +kernel
theorem d_law_199 : decode code 199 = .ok (.iconst 1, 1) := by decide +kernel
theorem d_law_200 : decode code 200 = .ok (.iadd, 1) := by decide +kernel
theorem d_law_201 : decode code 201 = .ok (.iaload, 1) := by decide +kernel
theorem d_law_202 : decode code 202 = .ok (.aload_n 0, 1) := by decide +kernel
theorem d_law_203 : decode code 203 = .ok (.iload_n 3, 1) := by decide +kernel
theorem d_law_204 : decode code 204 = .ok (.iconst 2, 1) := by decide +kernel
theorem d_law_205 : decode code 205 = .ok (.iadd, 1) := by decide +kernel
theorem d_law_206 : decode code 206 = .ok (.iaload, 1) := by decide +kernel
theorem d_law_207 : decode code 207 = .ok (.invokevirtual 23, 3) := by decide +kernel
theorem d_law_210 : decode code 210 = .ok (.aload_n 2, 1) := by decide +kernel
theorem d_law_211 : decode code 211 = .ok (.aload_n 0, 1) := by decide +kernel
theorem d_law_212 : decode code 212 = .ok (.iload_n 3, 1) := by decide +kernel
theorem d_law_213 : decode code 213 = .ok (.iconst 1, 1) := by decide +kernel
theorem d_law_214 : decode code 214 = .ok (.iadd, 1) := by decide +kernel
theorem d_law_215 : decode code 215 = .ok (.iaload, 1) := by decide +kernel
theorem d_law_216 : decode code 216 = .ok (.aload_n 0, 1) := by decide +kernel
theorem d_law_217 : decode code 217 = .ok (.iload_n 3, 1) := by decide +kernel
theorem d_law_218 : decode code 218 = .ok (.iconst 2, 1) := by decide +kernel
theorem d_law_219 : decode code 219 = .ok (.iadd, 1) := by decide +kernel
theorem d_law_220 : decode code 220 = .ok (.iaload, 1) := by decide +kernel
theorem d_law_221 : decode code 221 = .ok (.invokevirtual 27, 3) := by decide +kernel
theorem d_law_224 : decode code 224 = .ok (.if_icmp .eq 454, 3) := by decide +kernel
theorem d_law_227 : decode code 227 = .ok (.iconst 0, 1) := by decide +kernel
theorem d_law_228 : decode code 228 = .ok (.ireturn, 1) := by decide +kernel
theorem d_law_229 : decode code 229 = .ok (.aload_n 1, 1) := by decide +kernel
theorem d_law_230 : decode code 230 = .ok (.aload_n 0, 1) := by decide +kernel
theorem d_law_231 : decode code 231 = .ok (.iload_n 3, 1) := by decide +kernel
theorem d_law_232 : decode code 232 = .ok (.iconst 1, 1) := by decide +kernel
theorem d_law_233 : decode code 233 = .ok (.iadd, 1) := by decide +kernel
theorem d_law_234 : decode code 234 = .ok (.iaload, 1) := by decide +kernel
theorem d_law_235 : decode code 235 = .ok (.aload_n 0, 1) := by decide +kernel
theorem d_law_236 : decode code 236 = .ok (.iload_n 3, 1) := by decide +kernel
theorem d_law_237 : decode code 237 = .ok (.iconst 2, 1) := by decide +kernel
theorem d_law_238 : decode code 238 = .ok (.iadd, 1) := by decide +kernel
theorem d_law_239 : decode code 239 = .ok (.iaload, 1) := by decide +kernel
theorem d_law_240 : decode code 240 = .ok (.invokevirtual 28, 3) := by decide +kernel
theorem d_law_243 : decode code 243 = .ok (.aload_n 2, 1) := by decide +kernel
theorem d_law_244 : decode code 244 = .ok (.aload_n 0, 1) := by decide +kernel
theorem d_law_245 : decode code 245 = .ok (.iload_n 3, 1) := by decide +kernel
theorem d_law_246 : decode code 246 = .ok (.iconst 1, 1) := by decide +kernel
theorem d_law_247 : decode code 247 = .ok (.iadd, 1) := by decide +kernel
theorem d_law_248 : decode code 248 = .ok (.iaload, 1) := by decide +kernel
theorem d_law_249 : decode code 249 = .ok (.aload_n 0, 1) := by decide +kernel
theorem d_law_250 : decode code 250 = .ok (.iload_n 3, 1) := by decide +kernel
theorem d_law_251 : decode code 251 = .ok (.iconst 2, 1) := by decide +kernel
theorem d_law_252 : decode code 252 = .ok (.iadd, 1) := by decide +kernel
theorem d_law_253 : decode code 253 = .ok (.iaload, 1) := by decide +kernel
theorem d_law_254 : decode code 254 = .ok (.invokevirtual 31, 3) := by decide +kernel
theorem d_law_257 : decode code 257 = .ok (.if_icmp .eq 421, 3) := by decide +kernel
theorem d_law_260 : decode code 260 = .ok (.iconst 0, 1) := by decide +kernel
theorem d_law_261 : decode code 261 = .ok (.ireturn, 1) := by decide +kernel
theorem d_law_262 : decode code 262 = .ok (.aload_n 1, 1) := by decide +kernel
theorem d_law_263 : decode code 263 = .ok (.aload_n 0, 1) := by decide +kernel
theorem d_law_264 : decode code 264 = .ok (.iload_n 3, 1) := by decide +kernel
theorem d_law_265 : decode code 265 = .ok (.iconst 1, 1) := by decide +kernel
theorem d_law_266 : decode code 266 = .ok (.iadd, 1) := by decide +kernel
theorem d_law_267 : decode code 267 = .ok (.iaload, 1) := by decide +kernel
theorem d_law_268 : decode code 268 = .ok (.invokevirtual 32, 3) := by decide +kernel
theorem d_law_271 : decode code 271 = .ok (.aload_n 2, 1) := by decide +kernel
theorem d_law_272 : decode code 272 = .ok (.aload_n 0, 1) := by decide +kernel
theorem d_law_273 : decode code 273 = .ok (.iload_n 3, 1) := by decide +kernel
theorem d_law_274 : decode code 274 = .ok (.iconst 1, 1) := by decide +kernel
theorem d_law_275 : decode code 275 = .ok (.iadd, 1) := by decide +kernel
theorem d_law_276 : decode code 276 = .ok (.iaload, 1) := by decide +kernel
theorem d_law_277 : decode code 277 = .ok (.invokevirtual 35, 3) := by decide +kernel
theorem d_law_280 : decode code 280 = .ok (.if_icmp .eq 398, 3) := by decide +kernel
theorem d_law_283 : decode code 283 = .ok (.iconst 0, 1) := by decide +kernel
theorem d_law_284 : decode code 284 = .ok (.ireturn, 1) := by decide +kernel
theorem d_law_285 : decode code 285 = .ok (.aload_n 1, 1) := by decide +kernel
theorem d_law_286 : decode code 286 = .ok (.aload_n 0, 1) := by decide +kernel
theorem d_law_287 : decode code 287 = .ok (.iload_n 3, 1) := by decide +kernel
theorem d_law_288 : decode code 288 = .ok (.iconst 1, 1) := by decide +kernel
theorem d_law_289 : decode code 289 = .ok (.iadd, 1) := by decide +kernel
theorem d_law_290 : decode code 290 = .ok (.iaload, 1) := by decide +kernel
theorem d_law_291 : decode code 291 = .ok (.invokevirtual 36, 3) := by decide +kernel
theorem d_law_294 : decode code 294 = .ok (.aload_n 2, 1) := by decide +kernel
theorem d_law_295 : decode code 295 = .ok (.aload_n 0, 1) := by decide +kernel
theorem d_law_296 : decode code 296 = .ok (.iload_n 3, 1) := by decide +kernel
theorem d_law_297 : decode code 297 = .ok (.iconst 1, 1) := by decide +kernel
theorem d_law_298 : decode code 298 = .ok (.iadd, 1) := by decide +kernel
theorem d_law_299 : decode code 299 = .ok (.iaload, 1) := by decide +kernel
theorem d_law_300 : decode code 300 = .ok (.invokevirtual 39, 3) := by decide +kernel
theorem d_law_303 : decode code 303 = .ok (.if_icmp .eq 375, 3) := by decide +kernel
theorem d_law_306 : decode code 306 = .ok (.iconst 0, 1) := by decide +kernel
theorem d_law_307 : decode code 307 = .ok (.ireturn, 1) := by decide +kernel
theorem d_law_308 : decode code 308 = .ok (.aload_n 1, 1) := by decide +kernel
theorem d_law_309 : decode code 309 = .ok (.aload_n 0, 1) := by decide +kernel
theorem d_law_310 : decode code 310 = .ok (.iload_n 3, 1) := by decide +kernel
theorem d_law_311 : decode code 311 = .ok (.iconst 1, 1) := by decide +kernel
theorem d_law_312 : decode code 312 = .ok (.iadd, 1) := by decide +kernel
theorem d_law_313 : decode code 313 = .ok (.iaload, 1) := by decide +kernel
theorem d_law_314 : decode code 314 = .ok (.aload_n 0, 1) := by decide +kernel
theorem d_law_315 : decode code 315 = .ok (.iload_n 3, 1) := by decide +kernel
theorem d_law_316 : decode code 316 = .ok (.iconst 2, 1) := by decide +kernel
theorem d_law_317 : decode code 317 = .ok (.iadd, 1) := by decide +kernel
theorem d_law_318 : decode code 318 = .ok (.iaload, 1) := by decide +kernel
theorem d_law_319 : decode code 319 = .ok (.invokevirtual 40, 3) := by decide +kernel
theorem d_law_322 : decode code 322 = .ok (.aload_n 2, 1) := by decide +kernel
theorem d_law_323 : decode code 323 = .ok (.aload_n 0, 1) := by decide +kernel
theorem d_law_324 : decode code 324 = .ok (.iload_n 3, 1) := by decide +kernel
theorem d_law_325 : decode code 325 = .ok (.iconst 1, 1) := by decide +kernel
theorem d_law_326 : decode code 326 = .ok (.iadd, 1) := by decide +kernel
theorem d_law_327 : decode code 327 = .ok (.iaload, 1) := by decide +kernel
theorem d_law_328 : decode code 328 = .ok (.aload_n 0, 1) := by decide +kernel
theorem d_law_329 : decode code 329 = .ok (.iload_n 3, 1) := by decide +kernel
theorem d_law_330 : decode code 330 = .ok (.iconst 2, 1) := by decide +kernel
theorem d_law_331 : decode code 331 = .ok (.iadd, 1) := by decide +kernel
theorem d_law_332 : decode code 332 = .ok (.iaload, 1) := by decide +kernel
theorem d_law_333 : decode code 333 = .ok (.invokevirtual 43, 3) := by decide +kernel
theorem d_law_336 : decode code 336 = .ok (.if_icmp .eq 342, 3) := by decide +kernel
theorem d_law_339 : decode code 339 = .ok (.iconst 0, 1) := by decide +kernel
theorem d_law_340 : decode code 340 = .ok (.ireturn, 1) := by decide +kernel
theorem d_law_341 : decode code 341 = .ok (.aload_n 1, 1) := by decide +kernel
theorem d_law_342 : decode code 342 = .ok (.aload_n 0, 1) := by decide +kernel
theorem d_law_343 : decode code 343 = .ok (.iload_n 3, 1) := by decide +kernel
theorem d_law_344 : decode code 344 = .ok (.iconst 1, 1) := by decide +kernel
theorem d_law_345 : decode code 345 = .ok (.iadd, 1) := by decide +kernel
theorem d_law_346 : decode code 346 = .ok (.iaload, 1) := by decide +kernel
theorem d_law_347 : decode code 347 = .ok (.aload_n 0, 1) := by decide +kernel
theorem d_law_348 : decode code 348 = .ok (.iload_n 3, 1) := by decide +kernel
theorem d_law_349 : decode code 349 = .ok (.iconst 2, 1) := by decide +kernel
theorem d_law_350 : decode code 350 = .ok (.iadd, 1) := by decide +kernel
theorem d_law_351 : decode code 351 = .ok (.iaload, 1) := by decide +kernel
theorem d_law_352 : decode code 352 = .ok (.aload_n 0, 1) := by decide +kernel
theorem d_law_353 : decode code 353 = .ok (.iload_n 3, 1) := by decide +kernel
theorem d_law_354 : decode code 354 = .ok (.iconst 3, 1) := by decide +kernel
theorem d_law_355 : decode code 355 = .ok (.iadd, 1) := by decide +kernel
theorem d_law_356 : decode code 356 = .ok (.iaload, 1) := by decide +kernel
theorem d_law_357 : decode code 357 = .ok (.invokevirtual 44, 3) := by decide +kernel
theorem d_law_360 : decode code 360 = .ok (.aload_n 2, 1) := by decide +kernel
theorem d_law_361 : decode code 361 = .ok (.aload_n 0, 1) := by decide +kernel
theorem d_law_362 : decode code 362 = .ok (.iload_n 3, 1) := by decide +kernel
theorem d_law_363 : decode code 363 = .ok (.iconst 1, 1) := by decide +kernel
theorem d_law_364 : decode code 364 = .ok (.iadd, 1) := by decide +kernel
theorem d_law_365 : decode code 365 = .ok (.iaload, 1) := by decide +kernel
theorem d_law_366 : decode code 366 = .ok (.aload_n 0, 1) := by decide +kernel
theorem d_law_367 : decode code 367 = .ok (.iload_n 3, 1) := by decide +kernel
theorem d_law_368 : decode code 368 = .ok (.iconst 2, 1) := by decide +kernel
theorem d_law_369 : decode code 369 = .ok (.iadd, 1) := by decide +kernel
theorem d_law_370 : decode code 370 = .ok (.iaload, 1) := by decide +kernel
theorem d_law_371 : decode code 371 = .ok (.aload_n 0, 1) := by decide +kernel
theorem d_law_372 : decode code 372 = .ok (.iload_n 3, 1) := by decide +kernel
theorem d_law_373 : decode code 373 = .ok (.iconst 3, 1) := by decide +kernel
theorem d_law_374 : decode code 374 = .ok (.iadd, 1) := by decide +kernel
theorem d_law_375 : decode code 375 = .ok (.iaload, 1) := by decide +kernel
theorem d_law_376 : decode code 376 = .ok (.invokevirtual 48, 3) := by decide +kernel
theorem d_law_379 : decode code 379 = .ok (.if_icmp .eq 299, 3) := by decide +kernel
theorem d_law_382 : decode code 382 = .ok (.iconst 0, 1) := by decide +kernel
theorem d_law_383 : decode code 383 = .ok (.ireturn, 1) := by decide +kernel
theorem d_law_384 : decode code 384 = .ok (.aload_n 1, 1) := by decide +kernel
theorem d_law_385 : decode code 385 = .ok (.aload_n 0, 1) := by decide +kernel
theorem d_law_386 : decode code 386 = .ok (.iload_n 3, 1) := by decide +kernel
theorem d_law_387 : decode code 387 = .ok (.iconst 1, 1) := by decide +kernel
theorem d_law_388 : decode code 388 = .ok (.iadd, 1) := by decide +kernel
theorem d_law_389 : decode code 389 = .ok (.iaload, 1) := by decide +kernel
theorem d_law_390 : decode code 390 = .ok (.aload_n 0, 1) := by decide +kernel
theorem d_law_391 : decode code 391 = .ok (.iload_n 3, 1) := by decide +kernel
theorem d_law_392 : decode code 392 = .ok (.iconst 2, 1) := by decide +kernel
theorem d_law_393 : decode code 393 = .ok (.iadd, 1) := by decide +kernel
theorem d_law_394 : decode code 394 = .ok (.iaload, 1) := by decide +kernel
theorem d_law_395 : decode code 395 = .ok (.aload_n 0, 1) := by decide +kernel
theorem d_law_396 : decode code 396 = .ok (.iload_n 3, 1) := by decide +kernel
theorem d_law_397 : decode code 397 = .ok (.iconst 3, 1) := by decide +kernel
theorem d_law_398 : decode code 398 = .ok (.iadd, 1) := by decide +kernel
theorem d_law_399 : decode code 399 = .ok (.iaload, 1) := by decide +kernel
theorem d_law_400 : decode code 400 = .ok (.invokevirtual 49, 3) := by decide +kernel
theorem d_law_403 : decode code 403 = .ok (.aload_n 2, 1) := by decide +kernel
theorem d_law_404 : decode code 404 = .ok (.aload_n 0, 1) := by decide +kernel
theorem d_law_405 : decode code 405 = .ok (.iload_n 3, 1) := by decide +kernel
theorem d_law_406 : decode code 406 = .ok (.iconst 1, 1) := by decide +kernel
theorem d_law_407 : decode code 407 = .ok (.iadd, 1) := by decide +kernel
theorem d_law_408 : decode code 408 = .ok (.iaload, 1) := by decide +kernel
theorem d_law_409 : decode code 409 = .ok (.aload_n 0, 1) := by decide +kernel
theorem d_law_410 : decode code 410 = .ok (.iload_n 3, 1) := by decide +kernel
theorem d_law_411 : decode code 411 = .ok (.iconst 2, 1) := by decide +kernel
theorem d_law_412 : decode code 412 = .ok (.iadd, 1) := by decide +kernel
theorem d_law_413 : decode code 413 = .ok (.iaload, 1) := by decide +kernel
theorem d_law_414 : decode code 414 = .ok (.aload_n 0, 1) := by decide +kernel
theorem d_law_415 : decode code 415 = .ok (.iload_n 3, 1) := by decide +kernel
theorem d_law_416 : decode code 416 = .ok (.iconst 3, 1) := by decide +kernel
theorem d_law_417 : decode code 417 = .ok (.iadd, 1) := by decide +kernel
theorem d_law_418 : decode code 418 = .ok (.iaload, 1) := by decide +kernel
theorem d_law_419 : decode code 419 = .ok (.invokevirtual 53, 3) := by decide +kernel
theorem d_law_422 : decode code 422 = .ok (.if_icmp .eq 256, 3) := by decide +kernel
theorem d_law_425 : decode code 425 = .ok (.iconst 0, 1) := by decide +kernel
theorem d_law_426 : decode code 426 = .ok (.ireturn, 1) := by decide +kernel
theorem d_law_427 : decode code 427 = .ok (.aload_n 1, 1) := by decide +kernel
theorem d_law_428 : decode code 428 = .ok (.aload_n 0, 1) := by decide +kernel
theorem d_law_429 : decode code 429 = .ok (.iload_n 3, 1) := by decide +kernel
theorem d_law_430 : decode code 430 = .ok (.iconst 1, 1) := by decide +kernel
theorem d_law_431 : decode code 431 = .ok (.iadd, 1) := by decide +kernel
theorem d_law_432 : decode code 432 = .ok (.iaload, 1) := by decide +kernel
theorem d_law_433 : decode code 433 = .ok (.aload_n 0, 1) := by decide +kernel
theorem d_law_434 : decode code 434 = .ok (.iload_n 3, 1) := by decide +kernel
theorem d_law_435 : decode code 435 = .ok (.iconst 2, 1) := by decide +kernel
theorem d_law_436 : decode code 436 = .ok (.iadd, 1) := by decide +kernel
theorem d_law_437 : decode code 437 = .ok (.iaload, 1) := by decide +kernel
theorem d_law_438 : decode code 438 = .ok (.aload_n 0, 1) := by decide +kernel
theorem d_law_439 : decode code 439 = .ok (.iload_n 3, 1) := by decide +kernel
theorem d_law_440 : decode code 440 = .ok (.iconst 3, 1) := by decide +kernel
theorem d_law_441 : decode code 441 = .ok (.iadd, 1) := by decide +kernel
theorem d_law_442 : decode code 442 = .ok (.iaload, 1) := by decide +kernel
theorem d_law_443 : decode code 443 = .ok (.invokevirtual 54, 3) := by decide +kernel
theorem d_law_446 : decode code 446 = .ok (.aload_n 2, 1) := by decide +kernel
theorem d_law_447 : decode code 447 = .ok (.aload_n 0, 1) := by decide +kernel
theorem d_law_448 : decode code 448 = .ok (.iload_n 3, 1) := by decide +kernel
theorem d_law_449 : decode code 449 = .ok (.iconst 1, 1) := by decide +kernel
theorem d_law_450 : decode code 450 = .ok (.iadd, 1) := by decide +kernel
theorem d_law_451 : decode code 451 = .ok (.iaload, 1) := by decide +kernel
theorem d_law_452 : decode code 452 = .ok (.aload_n 0, 1) := by decide +kernel
theorem d_law_453 : decode code 453 = .ok (.iload_n 3, 1) := by decide +kernel
theorem d_law_454 : decode code 454 = .ok (.iconst 2, 1) := by decide +kernel
theorem d_law_455 : decode code 455 = .ok (.iadd, 1) := by decide +kernel
theorem d_law_456 : decode code 456 = .ok (.iaload, 1) := by decide +kernel
theorem d_law_457 : decode code 457 = .ok (.aload_n 0, 1) := by decide +kernel
theorem d_law_458 : decode code 458 = .ok (.iload_n 3, 1) := by decide +kernel
theorem d_law_459 : decode code 459 = .ok (.iconst 3, 1) := by decide +kernel
theorem d_law_460 : decode code 460 = .ok (.iadd, 1) := by decide +kernel
theorem d_law_461 : decode code 461 = .ok (.iaload, 1) := by decide +kernel
theorem d_law_462 : decode code 462 = .ok (.invokevirtual 57, 3) := by decide +kernel
theorem d_law_465 : decode code 465 = .ok (.if_icmp .eq 213, 3) := by decide +kernel
theorem d_law_468 : decode code 468 = .ok (.iconst 0, 1) := by decide +kernel
theorem d_law_469 : decode code 469 = .ok (.ireturn, 1) := by decide +kernel
theorem d_law_470 : decode code 470 = .ok (.aload_n 1, 1) := by decide +kernel
theorem d_law_471 : decode code 471 = .ok (.aload_n 0, 1) := by decide +kernel
theorem d_law_472 : decode code 472 = .ok (.iload_n 3, 1) := by decide +kernel
theorem d_law_473 : decode code 473 = .ok (.iconst 1, 1) := by decide +kernel
theorem d_law_474 : decode code 474 = .ok (.iadd, 1) := by decide +kernel
theorem d_law_475 : decode code 475 = .ok (.iaload, 1) := by decide +kernel
theorem d_law_476 : decode code 476 = .ok (.aload_n 0, 1) := by decide +kernel
theorem d_law_477 : decode code 477 = .ok (.iload_n 3, 1) := by decide +kernel
theorem d_law_478 : decode code 478 = .ok (.iconst 2, 1) := by decide +kernel
theorem d_law_479 : decode code 479 = .ok (.iadd, 1) := by decide +kernel
theorem d_law_480 : decode code 480 = .ok (.iaload, 1) := by decide +kernel
theorem d_law_481 : decode code 481 = .ok (.invokevirtual 58, 3) := by decide +kernel
theorem d_law_484 : decode code 484 = .ok (.aload_n 2, 1) := by decide +kernel
theorem d_law_485 : decode code 485 = .ok (.aload_n 0, 1) := by decide +kernel
theorem d_law_486 : decode code 486 = .ok (.iload_n 3, 1) := by decide +kernel
theorem d_law_487 : decode code 487 = .ok (.iconst 1, 1) := by decide +kernel
theorem d_law_488 : decode code 488 = .ok (.iadd, 1) := by decide +kernel
theorem d_law_489 : decode code 489 = .ok (.iaload, 1) := by decide +kernel
theorem d_law_490 : decode code 490 = .ok (.aload_n 0, 1) := by decide +kernel
theorem d_law_491 : decode code 491 = .ok (.iload_n 3, 1) := by decide +kernel
theorem d_law_492 : decode code 492 = .ok (.iconst 2, 1) := by decide +kernel
theorem d_law_493 : decode code 493 = .ok (.iadd, 1) := by decide +kernel
theorem d_law_494 : decode code 494 = .ok (.iaload, 1) := by decide +kernel
theorem d_law_495 : decode code 495 = .ok (.invokevirtual 61, 3) := by decide +kernel
theorem d_law_498 : decode code 498 = .ok (.if_icmp .eq 180, 3) := by decide +kernel
theorem d_law_501 : decode code 501 = .ok (.iconst 0, 1) := by decide +kernel
theorem d_law_502 : decode code 502 = .ok (.ireturn, 1) := by decide +kernel
theorem d_law_503 : decode code 503 = .ok (.aload_n 1, 1) := by decide +kernel
theorem d_law_504 : decode code 504 = .ok (.aload_n 0, 1) := by decide +kernel
theorem d_law_505 : decode code 505 = .ok (.iload_n 3, 1) := by decide +kernel
theorem d_law_506 : decode code 506 = .ok (.iconst 1, 1) := by decide +kernel
theorem d_law_507 : decode code 507 = .ok (.iadd, 1) := by decide +kernel
theorem d_law_508 : decode code 508 = .ok (.iaload, 1) := by decide +kernel
theorem d_law_509 : decode code 509 = .ok (.aload_n 0, 1) := by decide +kernel
theorem d_law_510 : decode code 510 = .ok (.iload_n 3, 1) := by decide +kernel
theorem d_law_511 : decode code 511 = .ok (.iconst 2, 1) := by decide +kernel
theorem d_law_512 : decode code 512 = .ok (.iadd, 1) := by decide +kernel
theorem d_law_513 : decode code 513 = .ok (.iaload, 1) := by decide +kernel
theorem d_law_514 : decode code 514 = .ok (.invokevirtual 62, 3) := by decide +kernel
theorem d_law_517 : decode code 517 = .ok (.aload_n 2, 1) := by decide +kernel
theorem d_law_518 : decode code 518 = .ok (.aload_n 0, 1) := by decide +kernel
theorem d_law_519 : decode code 519 = .ok (.iload_n 3, 1) := by decide +kernel
theorem d_law_520 : decode code 520 = .ok (.iconst 1, 1) := by decide +kernel
theorem d_law_521 : decode code 521 = .ok (.iadd, 1) := by decide +kernel
theorem d_law_522 : decode code 522 = .ok (.iaload, 1) := by decide +kernel
theorem d_law_523 : decode code 523 = .ok (.aload_n 0, 1) := by decide +kernel
theorem d_law_524 : decode code 524 = .ok (.iload_n 3, 1) := by decide +kernel
theorem d_law_525 : decode code 525 = .ok (.iconst 2, 1) := by decide +kernel
theorem d_law_526 : decode code 526 = .ok (.iadd, 1) := by decide +kernel
theorem d_law_527 : decode code 527 = .ok (.iaload, 1) := by decide +kernel
theorem d_law_528 : decode code 528 = .ok (.invokevirtual 65, 3) := by decide +kernel
theorem d_law_531 : decode code 531 = .ok (.if_icmp .eq 147, 3) := by decide +kernel
theorem d_law_534 : decode code 534 = .ok (.iconst 0, 1) := by decide +kernel
theorem d_law_535 : decode code 535 = .ok (.ireturn, 1) := by decide +kernel
theorem d_law_536 : decode code 536 = .ok (.aload_n 1, 1) := by decide +kernel
theorem d_law_537 : decode code 537 = .ok (.aload_n 0, 1) := by decide +kernel
theorem d_law_538 : decode code 538 = .ok (.iload_n 3, 1) := by decide +kernel
theorem d_law_539 : decode code 539 = .ok (.iconst 1, 1) := by decide +kernel
theorem d_law_540 : decode code 540 = .ok (.iadd, 1) := by decide +kernel
theorem d_law_541 : decode code 541 = .ok (.iaload, 1) := by decide +kernel
theorem d_law_542 : decode code 542 = .ok (.invokevirtual 66, 3) := by decide +kernel
theorem d_law_545 : decode code 545 = .ok (.aload_n 2, 1) := by decide +kernel
theorem d_law_546 : decode code 546 = .ok (.aload_n 0, 1) := by decide +kernel
theorem d_law_547 : decode code 547 = .ok (.iload_n 3, 1) := by decide +kernel
theorem d_law_548 : decode code 548 = .ok (.iconst 1, 1) := by decide +kernel
theorem d_law_549 : decode code 549 = .ok (.iadd, 1) := by decide +kernel
theorem d_law_550 : decode code 550 = .ok (.iaload, 1) := by decide +kernel
theorem d_law_551 : decode code 551 = .ok (.invokevirtual 70, 3) := by decide +kernel
theorem d_law_554 : decode code 554 = .ok (.if_icmp .eq 124, 3) := by decide +kernel
theorem d_law_557 : decode code 557 = .ok (.iconst 0, 1) := by decide +kernel
theorem d_law_558 : decode code 558 = .ok (.ireturn, 1) := by decide +kernel
theorem d_law_559 : decode code 559 = .ok (.aload_n 1, 1) := by decide +kernel
theorem d_law_560 : decode code 560 = .ok (.aload_n 0, 1) := by decide +kernel
theorem d_law_561 : decode code 561 = .ok (.iload_n 3, 1) := by decide +kernel
theorem d_law_562 : decode code 562 = .ok (.iconst 1, 1) := by decide +kernel
theorem d_law_563 : decode code 563 = .ok (.iadd, 1) := by decide +kernel
theorem d_law_564 : decode code 564 = .ok (.iaload, 1) := by decide +kernel
theorem d_law_565 : decode code 565 = .ok (.ifCond .eq 7, 3) := by decide +kernel
theorem d_law_568 : decode code 568 = .ok (.iconst 1, 1) := by decide +kernel
theorem d_law_569 : decode code 569 = .ok (.goto 4, 3) := by decide +kernel
theorem d_law_572 : decode code 572 = .ok (.iconst 0, 1) := by decide +kernel
theorem d_law_573 : decode code 573 = .ok (.invokevirtual 71, 3) := by decide +kernel
theorem d_law_576 : decode code 576 = .ok (.aload_n 2, 1) := by decide +kernel
theorem d_law_577 : decode code 577 = .ok (.aload_n 0, 1) := by decide +kernel
theorem d_law_578 : decode code 578 = .ok (.iload_n 3, 1) := by decide +kernel
theorem d_law_579 : decode code 579 = .ok (.iconst 1, 1) := by decide +kernel
theorem d_law_580 : decode code 580 = .ok (.iadd, 1) := by decide +kernel
theorem d_law_581 : decode code 581 = .ok (.iaload, 1) := by decide +kernel
theorem d_law_582 : decode code 582 = .ok (.ifCond .eq 7, 3) := by decide +kernel
theorem d_law_585 : decode code 585 = .ok (.iconst 1, 1) := by decide +kernel
theorem d_law_586 : decode code 586 = .ok (.goto 4, 3) := by decide +kernel
theorem d_law_589 : decode code 589 = .ok (.iconst 0, 1) := by decide +kernel
theorem d_law_590 : decode code 590 = .ok (.invokevirtual 75, 3) := by decide +kernel
theorem d_law_593 : decode code 593 = .ok (.if_icmp .eq 85, 3) := by decide +kernel
theorem d_law_596 : decode code 596 = .ok (.iconst 0, 1) := by decide +kernel
theorem d_law_597 : decode code 597 = .ok (.ireturn, 1) := by decide +kernel
theorem d_law_598 : decode code 598 = .ok (.aload_n 1, 1) := by decide +kernel
theorem d_law_599 : decode code 599 = .ok (.aload_n 0, 1) := by decide +kernel
theorem d_law_600 : decode code 600 = .ok (.iload_n 3, 1) := by decide +kernel
theorem d_law_601 : decode code 601 = .ok (.iconst 1, 1) := by decide +kernel
theorem d_law_602 : decode code 602 = .ok (.iadd, 1) := by decide +kernel
theorem d_law_603 : decode code 603 = .ok (.iaload, 1) := by decide +kernel
theorem d_law_604 : decode code 604 = .ok (.invokevirtual 76, 3) := by decide +kernel
theorem d_law_607 : decode code 607 = .ok (.aload_n 2, 1) := by decide +kernel
theorem d_law_608 : decode code 608 = .ok (.aload_n 0, 1) := by decide +kernel
theorem d_law_609 : decode code 609 = .ok (.iload_n 3, 1) := by decide +kernel
theorem d_law_610 : decode code 610 = .ok (.iconst 1, 1) := by decide +kernel
theorem d_law_611 : decode code 611 = .ok (.iadd, 1) := by decide +kernel
theorem d_law_612 : decode code 612 = .ok (.iaload, 1) := by decide +kernel
theorem d_law_613 : decode code 613 = .ok (.invokevirtual 79, 3) := by decide +kernel
theorem d_law_616 : decode code 616 = .ok (.if_icmp .eq 62, 3) := by decide +kernel
theorem d_law_619 : decode code 619 = .ok (.iconst 0, 1) := by decide +kernel
theorem d_law_620 : decode code 620 = .ok (.ireturn, 1) := by decide +kernel
theorem d_law_621 : decode code 621 = .ok (.aload_n 1, 1) := by decide +kernel
theorem d_law_622 : decode code 622 = .ok (.aload_n 0, 1) := by decide +kernel
theorem d_law_623 : decode code 623 = .ok (.iload_n 3, 1) := by decide +kernel
theorem d_law_624 : decode code 624 = .ok (.iconst 1, 1) := by decide +kernel
theorem d_law_625 : decode code 625 = .ok (.iadd, 1) := by decide +kernel
theorem d_law_626 : decode code 626 = .ok (.iaload, 1) := by decide +kernel
theorem d_law_627 : decode code 627 = .ok (.invokevirtual 80, 3) := by decide +kernel
theorem d_law_630 : decode code 630 = .ok (.aload_n 2, 1) := by decide +kernel
theorem d_law_631 : decode code 631 = .ok (.aload_n 0, 1) := by decide +kernel
theorem d_law_632 : decode code 632 = .ok (.iload_n 3, 1) := by decide +kernel
theorem d_law_633 : decode code 633 = .ok (.iconst 1, 1) := by decide +kernel
theorem d_law_634 : decode code 634 = .ok (.iadd, 1) := by decide +kernel
theorem d_law_635 : decode code 635 = .ok (.iaload, 1) := by decide +kernel
theorem d_law_636 : decode code 636 = .ok (.invokevirtual 84, 3) := by decide +kernel
theorem d_law_639 : decode code 639 = .ok (.goto 39, 3) := by decide +kernel
theorem d_law_642 : decode code 642 = .ok (.aload_n 1, 1) := by decide +kernel
theorem d_law_643 : decode code 643 = .ok (.aload_n 0, 1) := by decide +kernel
theorem d_law_644 : decode code 644 = .ok (.iload_n 3, 1) := by decide +kernel
theorem d_law_645 : decode code 645 = .ok (.iconst 1, 1) := by decide +kernel
theorem d_law_646 : decode code 646 = .ok (.iadd, 1) := by decide +kernel
theorem d_law_647 : decode code 647 = .ok (.iaload, 1) := by decide +kernel
theorem d_law_648 : decode code 648 = .ok (.invokevirtual 85, 3) := by decide +kernel
theorem d_law_651 : decode code 651 = .ok (.aload_n 2, 1) := by decide +kernel
theorem d_law_652 : decode code 652 = .ok (.aload_n 0, 1) := by decide +kernel
theorem d_law_653 : decode code 653 = .ok (.iload_n 3, 1) := by decide +kernel
theorem d_law_654 : decode code 654 = .ok (.iconst 1, 1) := by decide +kernel
theorem d_law_655 : decode code 655 = .ok (.iadd, 1) := by decide +kernel
theorem d_law_656 : decode code 656 = .ok (.iaload, 1) := by decide +kernel
theorem d_law_657 : decode code 657 = .ok (.invokevirtual 88, 3) := by decide +kernel
theorem d_law_660 : decode code 660 = .ok (.if_icmp .eq 18, 3) := by decide +kernel
theorem d_law_663 : decode code 663 = .ok (.iconst 0, 1) := by decide +kernel
theorem d_law_664 : decode code 664 = .ok (.ireturn, 1) := by decide +kernel
theorem d_law_665 : decode code 665 = .ok (.aload_n 1, 1) := by decide +kernel
theorem d_law_666 : decode code 666 = .ok (.invokevirtual 89, 3) := by decide +kernel
theorem d_law_669 : decode code 669 = .ok (.aload_n 2, 1) := by decide +kernel
theorem d_law_670 : decode code 670 = .ok (.invokevirtual 93, 3) := by decide +kernel
theorem d_law_673 : decode code 673 = .ok (.if_icmp .eq 5, 3) := by decide +kernel
theorem d_law_676 : decode code 676 = .ok (.iconst 0, 1) := by decide +kernel
theorem d_law_677 : decode code 677 = .ok (.ireturn, 1) := by decide +kernel
theorem d_law_678 : decode code 678 = .ok (.iinc 3 5, 3) := by decide +kernel
theorem d_law_681 : decode code 681 = .ok (.goto (-663), 3) := by decide +kernel
theorem d_law_684 : decode code 684 = .ok (.iconst 1, 1) := by decide +kernel
theorem d_law_685 : decode code 685 = .ok (.ireturn, 1) := by decide +kernel
