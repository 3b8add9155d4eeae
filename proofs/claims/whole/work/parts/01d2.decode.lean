theorem d_type_40 : decode prog_1_method_14_code 40 = .ok (.iconst 1, 1) := by decide +kernel
theorem d_type_41 : decode prog_1_method_14_code 41 = .ok (.ireturn, 1) := by decide +kernel
theorem d_type_42 : decode prog_1_method_14_code 42 = .ok (.iload_n 1, 1) := by decide +kernel
theorem d_type_43 : decode prog_1_method_14_code 43 = .ok (.bipush 21, 2) := by decide +kernel
theorem d_type_45 : decode prog_1_method_14_code 45 = .ok (.if_icmp .ne 16, 3) := by decide +kernel
theorem d_type_48 : decode prog_1_method_14_code 48 = .ok (.aload_n 0, 1) := by decide +kernel
theorem d_type_49 : decode prog_1_method_14_code 49 = .ok (.aload_n 0, 1) := by decide +kernel
theorem d_type_50 : decode prog_1_method_14_code 50 = .ok (.getfield 39, 3) := by decide +kernel
theorem d_type_53 : decode prog_1_method_14_code 53 = .ok (.invokevirtual 153, 3) := by decide +kernel
theorem d_type_56 : decode prog_1_method_14_code 56 = .ok (.invokevirtual 161, 3) := by decide +kernel
theorem d_type_59 : decode prog_1_method_14_code 59 = .ok (.iconst 1, 1) := by decide +kernel
theorem d_type_60 : decode prog_1_method_14_code 60 = .ok (.ireturn, 1) := by decide +kernel
theorem d_type_61 : decode prog_1_method_14_code 61 = .ok (.aload_n 0, 1) := by decide +kernel
theorem d_type_62 : decode prog_1_method_14_code 62 = .ok (.getfield 39, 3) := by decide +kernel
theorem d_type_65 : decode prog_1_method_14_code 65 = .ok (.invokevirtual 164, 3) := by decide +kernel
theorem d_type_68 : decode prog_1_method_14_code 68 = .ok (.ifCond .eq 5, 3) := by decide +kernel
theorem d_type_71 : decode prog_1_method_14_code 71 = .ok (.iconst 0, 1) := by decide +kernel
theorem d_type_72 : decode prog_1_method_14_code 72 = .ok (.ireturn, 1) := by decide +kernel
theorem d_type_73 : decode prog_1_method_14_code 73 = .ok (.iload_n 1, 1) := by decide +kernel
theorem d_type_74 : decode prog_1_method_14_code 74 = .ok (.bipush 13, 2) := by decide +kernel
theorem d_type_76 : decode prog_1_method_14_code 76 = .ok (.if_icmp .ne 8, 3) := by decide +kernel
theorem d_type_79 : decode prog_1_method_14_code 79 = .ok (.bipush 10, 2) := by decide +kernel
theorem d_type_81 : decode prog_1_method_14_code 81 = .ok (.goto 4, 3) := by decide +kernel
theorem d_type_84 : decode prog_1_method_14_code 84 = .ok (.iload_n 1, 1) := by decide +kernel
theorem d_type_85 : decode prog_1_method_14_code 85 = .ok (.istore_n 2, 1) := by decide +kernel
theorem d_type_86 : decode prog_1_method_14_code 86 = .ok (.aload_n 0, 1) := by decide +kernel
theorem d_type_87 : decode prog_1_method_14_code 87 = .ok (.getfield 39, 3) := by decide +kernel
theorem d_type_90 : decode prog_1_method_14_code 90 = .ok (.iload_n 2, 1) := by decide +kernel
theorem d_type_91 : decode prog_1_method_14_code 91 = .ok (.invokevirtual 165, 3) := by decide +kernel
theorem d_type_94 : decode prog_1_method_14_code 94 = .ok (.aload_n 0, 1) := by decide +kernel
theorem d_type_95 : decode prog_1_method_14_code 95 = .ok (.getfield 46, 3) := by decide +kernel
theorem d_type_98 : decode prog_1_method_14_code 98 = .ok (.iload_n 2, 1) := by decide +kernel
theorem d_type_99 : decode prog_1_method_14_code 99 = .ok (.invokevirtual 168, 3) := by decide +kernel
theorem d_type_102 : decode prog_1_method_14_code 102 = .ok (.iconst 1, 1) := by decide +kernel
theorem d_type_103 : decode prog_1_method_14_code 103 = .ok (.ireturn, 1) := by decide +kernel
theorem d_Con_lineLength_0 : decode prog_2_method_3_code 0 = .ok (.aload_n 0, 1) := by decide +kernel
theorem d_Con_lineLength_1 : decode prog_2_method_3_code 1 = .ok (.getfield 15, 3) := by decide +kernel
theorem d_Con_lineLength_4 : decode prog_2_method_3_code 4 = .ok (.aload_n 0, 1) := by decide +kernel
theorem d_Con_lineLength_5 : decode prog_2_method_3_code 5 = .ok (.getfield 19, 3) := by decide +kernel
theorem d_Con_lineLength_8 : decode prog_2_method_3_code 8 = .ok (.isub, 1) := by decide +kernel
theorem d_Con_lineLength_9 : decode prog_2_method_3_code 9 = .ok (.ireturn, 1) := by decide +kernel
theorem d_takeBack_0 : decode prog_1_method_34_code 0 = .ok (.iconst 0, 1) := by decide +kernel
theorem d_takeBack_1 : decode prog_1_method_34_code 1 = .ok (.istore_n 2, 1) := by decide +kernel
theorem d_takeBack_2 : decode prog_1_method_34_code 2 = .ok (.iload_n 2, 1) := by decide +kernel
theorem d_takeBack_3 : decode prog_1_method_34_code 3 = .ok (.iload_n 1, 1) := by decide +kernel
theorem d_takeBack_4 : decode prog_1_method_34_code 4 = .ok (.if_icmp .ge 43, 3) := by decide +kernel
theorem d_takeBack_7 : decode prog_1_method_34_code 7 = .ok (.aload_n 0, 1) := by decide +kernel
theorem d_takeBack_8 : decode prog_1_method_34_code 8 = .ok (.getfield 39, 3) := by decide +kernel
theorem d_takeBack_11 : decode prog_1_method_34_code 11 = .ok (.invokevirtual 194, 3) := by decide +kernel
theorem d_takeBack_14 : decode prog_1_method_34_code 14 = .ok (.aload_n 0, 1) := by decide +kernel
theorem d_takeBack_15 : decode prog_1_method_34_code 15 = .ok (.getfield 46, 3) := by decide +kernel
theorem d_takeBack_18 : decode prog_1_method_34_code 18 = .ok (.bipush 8, 2) := by decide +kernel
theorem d_takeBack_20 : decode prog_1_method_34_code 20 = .ok (.invokevirtual 168, 3) := by decide +kernel
theorem d_takeBack_23 : decode prog_1_method_34_code 23 = .ok (.aload_n 0, 1) := by decide +kernel
theorem d_takeBack_24 : decode prog_1_method_34_code 24 = .ok (.getfield 46, 3) := by decide +kernel
theorem d_takeBack_27 : decode prog_1_method_34_code 27 = .ok (.bipush 32, 2) := by decide +kernel
theorem d_takeBack_29 : decode prog_1_method_34_code 29 = .ok (.invokevirtual 168, 3) := by decide +kernel
theorem d_takeBack_32 : decode prog_1_method_34_code 32 = .ok (.aload_n 0, 1) := by decide +kernel
theorem d_takeBack_33 : decode prog_1_method_34_code 33 = .ok (.getfield 46, 3) := by decide +kernel
theorem d_takeBack_36 : decode prog_1_method_34_code 36 = .ok (.bipush 8, 2) := by decide +kernel
theorem d_takeBack_38 : decode prog_1_method_34_code 38 = .ok (.invokevirtual 168, 3) := by decide +kernel
theorem d_takeBack_41 : decode prog_1_method_34_code 41 = .ok (.iinc 2 1, 3) := by decide +kernel
theorem d_takeBack_44 : decode prog_1_method_34_code 44 = .ok (.goto (-42), 3) := by decide +kernel
theorem d_takeBack_47 : decode prog_1_method_34_code 47 = .ok (.return_, 1) := by decide +kernel
theorem d_Con_dropLastOfLine_0 : decode prog_2_method_5_code 0 = .ok (.aload_n 0, 1) := by decide +kernel
theorem d_Con_dropLastOfLine_1 : decode prog_2_method_5_code 1 = .ok (.getfield 15, 3) := by decide +kernel
theorem d_Con_dropLastOfLine_4 : decode prog_2_method_5_code 4 = .ok (.aload_n 0, 1) := by decide +kernel
theorem d_Con_dropLastOfLine_5 : decode prog_2_method_5_code 5 = .ok (.getfield 19, 3) := by decide +kernel
theorem d_Con_dropLastOfLine_8 : decode prog_2_method_5_code 8 = .ok (.if_icmp .le 13, 3) := by decide +kernel
theorem d_Con_dropLastOfLine_11 : decode prog_2_method_5_code 11 = .ok (.aload_n 0, 1) := by decide +kernel
theorem d_Con_dropLastOfLine_12 : decode prog_2_method_5_code 12 = .ok (.dup, 1) := by decide +kernel
theorem d_Con_dropLastOfLine_13 : decode prog_2_method_5_code 13 = .ok (.getfield 15, 3) := by decide +kernel
theorem d_Con_dropLastOfLine_16 : decode prog_2_method_5_code 16 = .ok (.iconst 1, 1) := by decide +kernel
theorem d_Con_dropLastOfLine_17 : decode prog_2_method_5_code 17 = .ok (.isub, 1) := by decide +kernel
theorem d_Con_dropLastOfLine_18 : decode prog_2_method_5_code 18 = .ok (.putfield 15, 3) := by decide +kernel
theorem d_Con_dropLastOfLine_21 : decode prog_2_method_5_code 21 = .ok (.return_, 1) := by decide +kernel
theorem d_Scr_addLast_0 : decode prog_5_method_2_code 0 = .ok (.aload_n 0, 1) := by decide +kernel
theorem d_Scr_addLast_1 : decode prog_5_method_2_code 1 = .ok (.getfield 9, 3) := by decide +kernel
theorem d_Scr_addLast_4 : decode prog_5_method_2_code 4 = .ok (.aload_n 0, 1) := by decide +kernel
theorem d_Scr_addLast_5 : decode prog_5_method_2_code 5 = .ok (.getfield 15, 3) := by decide +kernel
theorem d_Scr_addLast_8 : decode prog_5_method_2_code 8 = .ok (.sipush 4095, 3) := by decide +kernel
theorem d_Scr_addLast_11 : decode prog_5_method_2_code 11 = .ok (.iand, 1) := by decide +kernel
theorem d_Scr_addLast_12 : decode prog_5_method_2_code 12 = .ok (.iload_n 1, 1) := by decide +kernel
theorem d_Scr_addLast_13 : decode prog_5_method_2_code 13 = .ok (.i2b, 1) := by decide +kernel
theorem d_Scr_addLast_14 : decode prog_5_method_2_code 14 = .ok (.bastore, 1) := by decide +kernel
theorem d_Scr_addLast_15 : decode prog_5_method_2_code 15 = .ok (.aload_n 0, 1) := by decide +kernel
theorem d_Scr_addLast_16 : decode prog_5_method_2_code 16 = .ok (.dup, 1) := by decide +kernel
theorem d_Scr_addLast_17 : decode prog_5_method_2_code 17 = .ok (.getfield 15, 3) := by decide +kernel
theorem d_Scr_addLast_20 : decode prog_5_method_2_code 20 = .ok (.iconst 1, 1) := by decide +kernel
theorem d_Scr_addLast_21 : decode prog_5_method_2_code 21 = .ok (.iadd, 1) := by decide +kernel
theorem d_Scr_addLast_22 : decode prog_5_method_2_code 22 = .ok (.putfield 15, 3) := by decide +kernel
theorem d_Scr_addLast_25 : decode prog_5_method_2_code 25 = .ok (.return_, 1) := by decide +kernel
theorem d_Con_isFull_0 : decode prog_2_method_2_code 0 = .ok (.aload_n 0, 1) := by decide +kernel
theorem d_Con_isFull_1 : decode prog_2_method_2_code 1 = .ok (.getfield 15, 3) := by decide +kernel
theorem d_Con_isFull_4 : decode prog_2_method_2_code 4 = .ok (.sipush 128, 3) := by decide +kernel
theorem d_Con_isFull_7 : decode prog_2_method_2_code 7 = .ok (.if_icmp .lt 7, 3) := by decide +kernel
theorem d_Con_isFull_10 : decode prog_2_method_2_code 10 = .ok (.iconst 1, 1) := by decide +kernel
theorem d_Con_isFull_11 : decode prog_2_method_2_code 11 = .ok (.goto 4, 3) := by decide +kernel
theorem d_Con_isFull_14 : decode prog_2_method_2_code 14 = .ok (.iconst 0, 1) := by decide +kernel
theorem d_Con_isFull_15 : decode prog_2_method_2_code 15 = .ok (.ireturn, 1) := by decide +kernel
theorem d_Con_addToLine_0 : decode prog_2_method_4_code 0 = .ok (.aload_n 0, 1) := by decide +kernel
theorem d_Con_addToLine_1 : decode prog_2_method_4_code 1 = .ok (.getfield 9, 3) := by decide +kernel
theorem d_Con_addToLine_4 : decode prog_2_method_4_code 4 = .ok (.aload_n 0, 1) := by decide +kernel
theorem d_Con_addToLine_5 : decode prog_2_method_4_code 5 = .ok (.getfield 22, 3) := by decide +kernel
theorem d_Con_addToLine_8 : decode prog_2_method_4_code 8 = .ok (.aload_n 0, 1) := by decide +kernel
theorem d_Con_addToLine_9 : decode prog_2_method_4_code 9 = .ok (.getfield 15, 3) := by decide +kernel
theorem d_Con_addToLine_12 : decode prog_2_method_4_code 12 = .ok (.iadd, 1) := by decide +kernel
theorem d_Con_addToLine_13 : decode prog_2_method_4_code 13 = .ok (.bipush 127, 2) := by decide +kernel
theorem d_Con_addToLine_15 : decode prog_2_method_4_code 15 = .ok (.iand, 1) := by decide +kernel
theorem d_Con_addToLine_16 : decode prog_2_method_4_code 16 = .ok (.iload_n 1, 1) := by decide +kernel
theorem d_Con_addToLine_17 : decode prog_2_method_4_code 17 = .ok (.i2b, 1) := by decide +kernel
theorem d_Con_addToLine_18 : decode prog_2_method_4_code 18 = .ok (.bastore, 1) := by decide +kernel
theorem d_Con_addToLine_19 : decode prog_2_method_4_code 19 = .ok (.aload_n 0, 1) := by decide +kernel
theorem d_Con_addToLine_20 : decode prog_2_method_4_code 20 = .ok (.dup, 1) := by decide +kernel
theorem d_Con_addToLine_21 : decode prog_2_method_4_code 21 = .ok (.getfield 15, 3) := by decide +kernel
theorem d_Con_addToLine_24 : decode prog_2_method_4_code 24 = .ok (.iconst 1, 1) := by decide +kernel
theorem d_Con_addToLine_25 : decode prog_2_method_4_code 25 = .ok (.iadd, 1) := by decide +kernel
theorem d_Con_addToLine_26 : decode prog_2_method_4_code 26 = .ok (.putfield 15, 3) := by decide +kernel
theorem d_Con_addToLine_29 : decode prog_2_method_4_code 29 = .ok (.iload_n 1, 1) := by decide +kernel
theorem d_Con_addToLine_30 : decode prog_2_method_4_code 30 = .ok (.bipush 10, 2) := by decide +kernel
theorem d_Con_addToLine_32 : decode prog_2_method_4_code 32 = .ok (.if_icmp .eq 15, 3) := by decide +kernel
theorem d_Con_addToLine_35 : decode prog_2_method_4_code 35 = .ok (.iload_n 1, 1) := by decide +kernel
theorem d_Con_addToLine_36 : decode prog_2_method_4_code 36 = .ok (.iconst 4, 1) := by decide +kernel
theorem d_Con_addToLine_37 : decode prog_2_method_4_code 37 = .ok (.if_icmp .eq 10, 3) := by decide +kernel
theorem d_Con_addToLine_40 : decode prog_2_method_4_code 40 = .ok (.aload_n 0, 1) := by decide +kernel
theorem d_Con_addToLine_41 : decode prog_2_method_4_code 41 = .ok (.invokevirtual 25, 3) := by decide +kernel
theorem d_Con_addToLine_44 : decode prog_2_method_4_code 44 = .ok (.ifCond .eq 11, 3) := by decide +kernel
theorem d_Con_addToLine_47 : decode prog_2_method_4_code 47 = .ok (.aload_n 0, 1) := by decide +kernel
theorem d_Con_addToLine_48 : decode prog_2_method_4_code 48 = .ok (.aload_n 0, 1) := by decide +kernel
theorem d_Con_addToLine_49 : decode prog_2_method_4_code 49 = .ok (.getfield 15, 3) := by decide +kernel
theorem d_Con_addToLine_52 : decode prog_2_method_4_code 52 = .ok (.putfield 19, 3) := by decide +kernel
theorem d_Con_addToLine_55 : decode prog_2_method_4_code 55 = .ok (.return_, 1) := by decide +kernel
theorem d_read_0 : decode prog_1_method_15_code 0 = .ok (.aload_n 0, 1) := by decide +kernel
theorem d_read_1 : decode prog_1_method_15_code 1 = .ok (.getfield 39, 3) := by decide +kernel
theorem d_read_4 : decode prog_1_method_15_code 4 = .ok (.getfield 169, 3) := by decide +kernel
theorem d_read_7 : decode prog_1_method_15_code 7 = .ok (.ifCond .gt 6, 3) := by decide +kernel
theorem d_read_10 : decode prog_1_method_15_code 10 = .ok (.bipush (-3), 2) := by decide +kernel
theorem d_read_12 : decode prog_1_method_15_code 12 = .ok (.ireturn, 1) := by decide +kernel
theorem d_read_13 : decode prog_1_method_15_code 13 = .ok (.aload_n 0, 1) := by decide +kernel
theorem d_read_14 : decode prog_1_method_15_code 14 = .ok (.getfield 39, 3) := by decide +kernel
theorem d_read_17 : decode prog_1_method_15_code 17 = .ok (.invokevirtual 172, 3) := by decide +kernel
theorem d_read_20 : decode prog_1_method_15_code 20 = .ok (.istore_n 2, 1) := by decide +kernel
theorem d_read_21 : decode prog_1_method_15_code 21 = .ok (.iload_n 2, 1) := by decide +kernel
theorem d_read_22 : decode prog_1_method_15_code 22 = .ok (.iconst 4, 1) := by decide +kernel
theorem d_read_23 : decode prog_1_method_15_code 23 = .ok (.if_icmp .eq 12, 3) := by decide +kernel
theorem d_read_26 : decode prog_1_method_15_code 26 = .ok (.aload_n 0, 1) := by decide +kernel
theorem d_read_27 : decode prog_1_method_15_code 27 = .ok (.getfield 39, 3) := by decide +kernel
theorem d_read_30 : decode prog_1_method_15_code 30 = .ok (.invokevirtual 175, 3) := by decide +kernel
theorem d_read_33 : decode prog_1_method_15_code 33 = .ok (.iload_n 2, 1) := by decide +kernel
theorem d_read_34 : decode prog_1_method_15_code 34 = .ok (.ireturn, 1) := by decide +kernel
theorem d_read_35 : decode prog_1_method_15_code 35 = .ok (.iload_n 1, 1) := by decide +kernel
theorem d_read_36 : decode prog_1_method_15_code 36 = .ok (.ifCond .eq 10, 3) := by decide +kernel
theorem d_read_39 : decode prog_1_method_15_code 39 = .ok (.aload_n 0, 1) := by decide +kernel
theorem d_read_40 : decode prog_1_method_15_code 40 = .ok (.getfield 39, 3) := by decide +kernel
theorem d_read_43 : decode prog_1_method_15_code 43 = .ok (.invokevirtual 175, 3) := by decide +kernel
theorem d_read_46 : decode prog_1_method_15_code 46 = .ok (.bipush (-4), 2) := by decide +kernel
theorem d_read_48 : decode prog_1_method_15_code 48 = .ok (.ireturn, 1) := by decide +kernel
theorem d_Con_firstDone_0 : decode prog_2_method_6_code 0 = .ok (.aload_n 0, 1) := by decide +kernel
theorem d_Con_firstDone_1 : decode prog_2_method_6_code 1 = .ok (.getfield 9, 3) := by decide +kernel
theorem d_Con_firstDone_4 : decode prog_2_method_6_code 4 = .ok (.aload_n 0, 1) := by decide +kernel
theorem d_Con_firstDone_5 : decode prog_2_method_6_code 5 = .ok (.getfield 22, 3) := by decide +kernel
theorem d_Con_firstDone_8 : decode prog_2_method_6_code 8 = .ok (.bipush 127, 2) := by decide +kernel
theorem d_Con_firstDone_10 : decode prog_2_method_6_code 10 = .ok (.iand, 1) := by decide +kernel
theorem d_Con_firstDone_11 : decode prog_2_method_6_code 11 = .ok (.baload, 1) := by decide +kernel
theorem d_Con_firstDone_12 : decode prog_2_method_6_code 12 = .ok (.sipush 255, 3) := by decide +kernel
theorem d_Con_firstDone_15 : decode prog_2_method_6_code 15 = .ok (.iand, 1) := by decide +kernel
theorem d_Con_firstDone_16 : decode prog_2_method_6_code 16 = .ok (.ireturn, 1) := by decide +kernel
theorem d_Con_dropFirstDone_0 : decode prog_2_method_7_code 0 = .ok (.aload_n 0, 1) := by decide +kernel
theorem d_Con_dropFirstDone_1 : decode prog_2_method_7_code 1 = .ok (.getfield 19, 3) := by decide +kernel
theorem d_Con_dropFirstDone_4 : decode prog_2_method_7_code 4 = .ok (.ifCond .le 36, 3) := by decide +kernel
theorem d_Con_dropFirstDone_7 : decode prog_2_method_7_code 7 = .ok (.aload_n 0, 1) := by decide +kernel
theorem d_Con_dropFirstDone_8 : decode prog_2_method_7_code 8 = .ok (.aload_n 0, 1) := by decide +kernel
theorem d_Con_dropFirstDone_9 : decode prog_2_method_7_code 9 = .ok (.getfield 22, 3) := by decide +kernel
theorem d_Con_dropFirstDone_12 : decode prog_2_method_7_code 12 = .ok (.iconst 1, 1) := by decide +kernel
theorem d_Con_dropFirstDone_13 : decode prog_2_method_7_code 13 = .ok (.iadd, 1) := by decide +kernel
theorem d_Con_dropFirstDone_14 : decode prog_2_method_7_code 14 = .ok (.bipush 127, 2) := by decide +kernel
theorem d_Con_dropFirstDone_16 : decode prog_2_method_7_code 16 = .ok (.iand, 1) := by decide +kernel
theorem d_Con_dropFirstDone_17 : decode prog_2_method_7_code 17 = .ok (.putfield 22, 3) := by decide +kernel
theorem d_Con_dropFirstDone_20 : decode prog_2_method_7_code 20 = .ok (.aload_n 0, 1) := by decide +kernel
theorem d_Con_dropFirstDone_21 : decode prog_2_method_7_code 21 = .ok (.dup, 1) := by decide +kernel
theorem d_Con_dropFirstDone_22 : decode prog_2_method_7_code 22 = .ok (.getfield 19, 3) := by decide +kernel
theorem d_Con_dropFirstDone_25 : decode prog_2_method_7_code 25 = .ok (.iconst 1, 1) := by decide +kernel
theorem d_Con_dropFirstDone_26 : decode prog_2_method_7_code 26 = .ok (.isub, 1) := by decide +kernel
theorem d_Con_dropFirstDone_27 : decode prog_2_method_7_code 27 = .ok (.putfield 19, 3) := by decide +kernel
theorem d_Con_dropFirstDone_30 : decode prog_2_method_7_code 30 = .ok (.aload_n 0, 1) := by decide +kernel
theorem d_Con_dropFirstDone_31 : decode prog_2_method_7_code 31 = .ok (.dup, 1) := by decide +kernel
theorem d_Con_dropFirstDone_32 : decode prog_2_method_7_code 32 = .ok (.getfield 15, 3) := by decide +kernel
theorem d_Con_dropFirstDone_35 : decode prog_2_method_7_code 35 = .ok (.iconst 1, 1) := by decide +kernel
theorem d_Con_dropFirstDone_36 : decode prog_2_method_7_code 36 = .ok (.isub, 1) := by decide +kernel
theorem d_Con_dropFirstDone_37 : decode prog_2_method_7_code 37 = .ok (.putfield 15, 3) := by decide +kernel
theorem d_Con_dropFirstDone_40 : decode prog_2_method_7_code 40 = .ok (.return_, 1) := by decide +kernel
theorem d_waiting_0 : decode prog_1_method_16_code 0 = .ok (.iload_n 1, 1) := by decide +kernel
theorem d_waiting_1 : decode prog_1_method_16_code 1 = .ok (.lookupswitch 43 #[(0, 27), (1, 35)], 27) := by decide +kernel
theorem d_waiting_28 : decode prog_1_method_16_code 28 = .ok (.aload_n 0, 1) := by decide +kernel
theorem d_waiting_29 : decode prog_1_method_16_code 29 = .ok (.getfield 39, 3) := by decide +kernel
theorem d_waiting_32 : decode prog_1_method_16_code 32 = .ok (.getfield 169, 3) := by decide +kernel
theorem d_waiting_35 : decode prog_1_method_16_code 35 = .ok (.ireturn, 1) := by decide +kernel
theorem d_waiting_36 : decode prog_1_method_16_code 36 = .ok (.aload_n 0, 1) := by decide +kernel
theorem d_waiting_37 : decode prog_1_method_16_code 37 = .ok (.getfield 39, 3) := by decide +kernel
theorem d_waiting_40 : decode prog_1_method_16_code 40 = .ok (.getfield 178, 3) := by decide +kernel
theorem d_waiting_43 : decode prog_1_method_16_code 43 = .ok (.ireturn, 1) := by decide +kernel
theorem d_waiting_44 : decode prog_1_method_16_code 44 = .ok (.iconst (-1), 1) := by decide +kernel
theorem d_waiting_45 : decode prog_1_method_16_code 45 = .ok (.ireturn, 1) := by decide +kernel
theorem d_show_0 : decode prog_1_method_17_code 0 = .ok (.aload_n 0, 1) := by decide +kernel
theorem d_show_1 : decode prog_1_method_17_code 1 = .ok (.getfield 46, 3) := by decide +kernel
theorem d_show_4 : decode prog_1_method_17_code 4 = .ok (.iload_n 1, 1) := by decide +kernel
theorem d_show_5 : decode prog_1_method_17_code 5 = .ok (.invokevirtual 168, 3) := by decide +kernel
theorem d_show_8 : decode prog_1_method_17_code 8 = .ok (.return_, 1) := by decide +kernel
theorem d_shown_0 : decode prog_1_method_18_code 0 = .ok (.aload_n 0, 1) := by decide +kernel
theorem d_shown_1 : decode prog_1_method_18_code 1 = .ok (.getfield 46, 3) := by decide +kernel
theorem d_shown_4 : decode prog_1_method_18_code 4 = .ok (.iload_n 1, 1) := by decide +kernel
theorem d_shown_5 : decode prog_1_method_18_code 5 = .ok (.invokevirtual 179, 3) := by decide +kernel
theorem d_shown_8 : decode prog_1_method_18_code 8 = .ok (.ireturn, 1) := by decide +kernel
theorem d_Scr_byteAt_0 : decode prog_5_method_3_code 0 = .ok (.iload_n 1, 1) := by decide +kernel
theorem d_Scr_byteAt_1 : decode prog_5_method_3_code 1 = .ok (.ifCond .lt 23, 3) := by decide +kernel
theorem d_Scr_byteAt_4 : decode prog_5_method_3_code 4 = .ok (.iload_n 1, 1) := by decide +kernel
theorem d_Scr_byteAt_5 : decode prog_5_method_3_code 5 = .ok (.aload_n 0, 1) := by decide +kernel
theorem d_Scr_byteAt_6 : decode prog_5_method_3_code 6 = .ok (.getfield 15, 3) := by decide +kernel
theorem d_Scr_byteAt_9 : decode prog_5_method_3_code 9 = .ok (.if_icmp .ge 15, 3) := by decide +kernel
theorem d_Scr_byteAt_12 : decode prog_5_method_3_code 12 = .ok (.aload_n 0, 1) := by decide +kernel
theorem d_Scr_byteAt_13 : decode prog_5_method_3_code 13 = .ok (.getfield 15, 3) := by decide +kernel
theorem d_Scr_byteAt_16 : decode prog_5_method_3_code 16 = .ok (.iload_n 1, 1) := by decide +kernel
theorem d_Scr_byteAt_17 : decode prog_5_method_3_code 17 = .ok (.isub, 1) := by decide +kernel
theorem d_Scr_byteAt_18 : decode prog_5_method_3_code 18 = .ok (.sipush 4096, 3) := by decide +kernel
theorem d_Scr_byteAt_21 : decode prog_5_method_3_code 21 = .ok (.if_icmp .le 5, 3) := by decide +kernel
theorem d_Scr_byteAt_24 : decode prog_5_method_3_code 24 = .ok (.iconst (-1), 1) := by decide +kernel
theorem d_Scr_byteAt_25 : decode prog_5_method_3_code 25 = .ok (.ireturn, 1) := by decide +kernel
theorem d_Scr_byteAt_26 : decode prog_5_method_3_code 26 = .ok (.aload_n 0, 1) := by decide +kernel
theorem d_Scr_byteAt_27 : decode prog_5_method_3_code 27 = .ok (.getfield 9, 3) := by decide +kernel
theorem d_Scr_byteAt_30 : decode prog_5_method_3_code 30 = .ok (.iload_n 1, 1) := by decide +kernel
theorem d_Scr_byteAt_31 : decode prog_5_method_3_code 31 = .ok (.sipush 4095, 3) := by decide +kernel
theorem d_Scr_byteAt_34 : decode prog_5_method_3_code 34 = .ok (.iand, 1) := by decide +kernel
theorem d_Scr_byteAt_35 : decode prog_5_method_3_code 35 = .ok (.baload, 1) := by decide +kernel
theorem d_Scr_byteAt_36 : decode prog_5_method_3_code 36 = .ok (.sipush 255, 3) := by decide +kernel
theorem d_Scr_byteAt_39 : decode prog_5_method_3_code 39 = .ok (.iand, 1) := by decide +kernel
theorem d_Scr_byteAt_40 : decode prog_5_method_3_code 40 = .ok (.ireturn, 1) := by decide +kernel
theorem d_count_0 : decode prog_1_method_19_code 0 = .ok (.aload_n 0, 1) := by decide +kernel
theorem d_count_1 : decode prog_1_method_19_code 1 = .ok (.getfield 46, 3) := by decide +kernel
theorem d_count_4 : decode prog_1_method_19_code 4 = .ok (.getfield 182, 3) := by decide +kernel
theorem d_count_7 : decode prog_1_method_19_code 7 = .ok (.ireturn, 1) := by decide +kernel
theorem d_init_M_0 : decode prog_7_method_1_code 0 = .ok (.aload_n 0, 1) := by decide +kernel
theorem d_init_M_1 : decode prog_7_method_1_code 1 = .ok (.invokespecial 1, 3) := by decide +kernel
theorem d_init_M_4 : decode prog_7_method_1_code 4 = .ok (.aload_n 0, 1) := by decide +kernel
theorem d_init_M_5 : decode prog_7_method_1_code 5 = .ok (.sipush 240, 3) := by decide +kernel
theorem d_init_M_8 : decode prog_7_method_1_code 8 = .ok (.newarray .int, 2) := by decide +kernel
theorem d_init_M_10 : decode prog_7_method_1_code 10 = .ok (.putfield 7, 3) := by decide +kernel
theorem d_init_M_13 : decode prog_7_method_1_code 13 = .ok (.aload_n 0, 1) := by decide +kernel
theorem d_init_M_14 : decode prog_7_method_1_code 14 = .ok (.bipush 32, 2) := by decide +kernel
theorem d_init_M_16 : decode prog_7_method_1_code 16 = .ok (.newarray .int, 2) := by decide +kernel
theorem d_init_M_18 : decode prog_7_method_1_code 18 = .ok (.putfield 13, 3) := by decide +kernel
theorem d_init_M_21 : decode prog_7_method_1_code 21 = .ok (.aload_n 0, 1) := by decide +kernel
theorem d_init_M_22 : decode prog_7_method_1_code 22 = .ok (.bipush 32, 2) := by decide +kernel
theorem d_init_M_24 : decode prog_7_method_1_code 24 = .ok (.newarray .int, 2) := by decide +kernel
theorem d_init_M_26 : decode prog_7_method_1_code 26 = .ok (.putfield 16, 3) := by decide +kernel
theorem d_init_M_29 : decode prog_7_method_1_code 29 = .ok (.aload_n 0, 1) := by decide +kernel
theorem d_init_M_30 : decode prog_7_method_1_code 30 = .ok (.bipush 32, 2) := by decide +kernel
theorem d_init_M_32 : decode prog_7_method_1_code 32 = .ok (.newarray .int, 2) := by decide +kernel
theorem d_init_M_34 : decode prog_7_method_1_code 34 = .ok (.putfield 19, 3) := by decide +kernel
theorem d_init_M_37 : decode prog_7_method_1_code 37 = .ok (.aload_n 0, 1) := by decide +kernel
theorem d_init_M_38 : decode prog_7_method_1_code 38 = .ok (.bipush 32, 2) := by decide +kernel
theorem d_init_M_40 : decode prog_7_method_1_code 40 = .ok (.newarray .int, 2) := by decide +kernel
theorem d_init_M_42 : decode prog_7_method_1_code 42 = .ok (.putfield 22, 3) := by decide +kernel
theorem d_init_M_45 : decode prog_7_method_1_code 45 = .ok (.aload_n 0, 1) := by decide +kernel
theorem d_init_M_46 : decode prog_7_method_1_code 46 = .ok (.bipush 8, 2) := by decide +kernel
theorem d_init_M_48 : decode prog_7_method_1_code 48 = .ok (.newarray .int, 2) := by decide +kernel
theorem d_init_M_50 : decode prog_7_method_1_code 50 = .ok (.putfield 25, 3) := by decide +kernel
theorem d_init_M_53 : decode prog_7_method_1_code 53 = .ok (.aload_n 0, 1) := by decide +kernel
theorem d_init_M_54 : decode prog_7_method_1_code 54 = .ok (.sipush 4096, 3) := by decide +kernel
theorem d_init_M_57 : decode prog_7_method_1_code 57 = .ok (.newarray .byte, 2) := by decide +kernel
theorem d_init_M_59 : decode prog_7_method_1_code 59 = .ok (.putfield 28, 3) := by decide +kernel
theorem d_init_M_62 : decode prog_7_method_1_code 62 = .ok (.aload_n 0, 1) := by decide +kernel
theorem d_init_M_63 : decode prog_7_method_1_code 63 = .ok (.bipush 16, 2) := by decide +kernel
theorem d_init_M_65 : decode prog_7_method_1_code 65 = .ok (.newarray .int, 2) := by decide +kernel
theorem d_init_M_67 : decode prog_7_method_1_code 67 = .ok (.putfield 32, 3) := by decide +kernel
theorem d_init_M_70 : decode prog_7_method_1_code 70 = .ok (.aload_n 0, 1) := by decide +kernel
theorem d_init_M_71 : decode prog_7_method_1_code 71 = .ok (.sipush 128, 3) := by decide +kernel
theorem d_init_M_74 : decode prog_7_method_1_code 74 = .ok (.newarray .int, 2) := by decide +kernel
theorem d_init_M_76 : decode prog_7_method_1_code 76 = .ok (.putfield 35, 3) := by decide +kernel
theorem d_init_M_79 : decode prog_7_method_1_code 79 = .ok (.aload_n 0, 1) := by decide +kernel
theorem d_init_M_80 : decode prog_7_method_1_code 80 = .ok (.sipush 4096, 3) := by decide +kernel
theorem d_init_M_83 : decode prog_7_method_1_code 83 = .ok (.newarray .byte, 2) := by decide +kernel
theorem d_init_M_85 : decode prog_7_method_1_code 85 = .ok (.putfield 38, 3) := by decide +kernel
theorem d_init_M_88 : decode prog_7_method_1_code 88 = .ok (.return_, 1) := by decide +kernel
theorem d_M_open_0 : decode prog_7_method_13_code 0 = .ok (.aload_n 0, 1) := by decide +kernel
theorem d_M_open_1 : decode prog_7_method_13_code 1 = .ok (.iconst 0, 1) := by decide +kernel
theorem d_M_open_2 : decode prog_7_method_13_code 2 = .ok (.putfield 41, 3) := by decide +kernel
theorem d_M_open_5 : decode prog_7_method_13_code 5 = .ok (.iload_n 1, 1) := by decide +kernel
theorem d_M_open_6 : decode prog_7_method_13_code 6 = .ok (.invokestatic 45, 3) := by decide +kernel
theorem d_M_open_9 : decode prog_7_method_13_code 9 = .ok (.ifCond .eq 44, 3) := by decide +kernel
theorem d_M_open_12 : decode prog_7_method_13_code 12 = .ok (.iload_n 2, 1) := by decide +kernel
theorem d_M_open_13 : decode prog_7_method_13_code 13 = .ok (.iconst 2, 1) := by decide +kernel
theorem d_M_open_14 : decode prog_7_method_13_code 14 = .ok (.if_icmp .lt 39, 3) := by decide +kernel
theorem d_M_open_17 : decode prog_7_method_13_code 17 = .ok (.iload_n 2, 1) := by decide +kernel
theorem d_M_open_18 : decode prog_7_method_13_code 18 = .ok (.iconst 3, 1) := by decide +kernel
theorem d_M_open_19 : decode prog_7_method_13_code 19 = .ok (.if_icmp .gt 34, 3) := by decide +kernel
theorem d_M_open_22 : decode prog_7_method_13_code 22 = .ok (.iload 4, 2) := by decide +kernel
theorem d_M_open_24 : decode prog_7_method_13_code 24 = .ok (.iconst 1, 1) := by decide +kernel
theorem d_M_open_25 : decode prog_7_method_13_code 25 = .ok (.if_icmp .lt 28, 3) := by decide +kernel
theorem d_M_open_28 : decode prog_7_method_13_code 28 = .ok (.iload 4, 2) := by decide +kernel
theorem d_M_open_30 : decode prog_7_method_13_code 30 = .ok (.iconst 3, 1) := by decide +kernel
theorem d_M_open_31 : decode prog_7_method_13_code 31 = .ok (.if_icmp .gt 22, 3) := by decide +kernel
theorem d_M_open_34 : decode prog_7_method_13_code 34 = .ok (.aload_n 0, 1) := by decide +kernel
theorem d_M_open_35 : decode prog_7_method_13_code 35 = .ok (.iload_n 1, 1) := by decide +kernel
theorem d_M_open_36 : decode prog_7_method_13_code 36 = .ok (.invokevirtual 61, 3) := by decide +kernel
theorem d_M_open_39 : decode prog_7_method_13_code 39 = .ok (.bipush 16, 2) := by decide +kernel
theorem d_M_open_41 : decode prog_7_method_13_code 41 = .ok (.if_icmp .eq 12, 3) := by decide +kernel
theorem d_M_open_44 : decode prog_7_method_13_code 44 = .ok (.aload_n 0, 1) := by decide +kernel
theorem d_M_open_45 : decode prog_7_method_13_code 45 = .ok (.invokevirtual 64, 3) := by decide +kernel
theorem d_M_open_48 : decode prog_7_method_13_code 48 = .ok (.bipush 32, 2) := by decide +kernel
theorem d_M_open_50 : decode prog_7_method_13_code 50 = .ok (.if_icmp .ne 5, 3) := by decide +kernel
theorem d_M_open_53 : decode prog_7_method_13_code 53 = .ok (.iconst (-1), 1) := by decide +kernel
theorem d_M_open_54 : decode prog_7_method_13_code 54 = .ok (.ireturn, 1) := by decide +kernel
theorem d_M_open_55 : decode prog_7_method_13_code 55 = .ok (.aload_n 0, 1) := by decide +kernel
theorem d_M_open_56 : decode prog_7_method_13_code 56 = .ok (.iload_n 1, 1) := by decide +kernel
theorem d_M_open_57 : decode prog_7_method_13_code 57 = .ok (.aload_n 0, 1) := by decide +kernel
theorem d_M_open_58 : decode prog_7_method_13_code 58 = .ok (.iload_n 1, 1) := by decide +kernel
theorem d_M_open_59 : decode prog_7_method_13_code 59 = .ok (.invokevirtual 61, 3) := by decide +kernel
theorem d_M_open_62 : decode prog_7_method_13_code 62 = .ok (.iload_n 2, 1) := by decide +kernel
theorem d_M_open_63 : decode prog_7_method_13_code 63 = .ok (.iload_n 2, 1) := by decide +kernel
theorem d_M_open_64 : decode prog_7_method_13_code 64 = .ok (.iconst 2, 1) := by decide +kernel
theorem d_M_open_65 : decode prog_7_method_13_code 65 = .ok (.if_icmp .ne 7, 3) := by decide +kernel
theorem d_M_open_68 : decode prog_7_method_13_code 68 = .ok (.iload_n 3, 1) := by decide +kernel
theorem d_M_open_69 : decode prog_7_method_13_code 69 = .ok (.goto 4, 3) := by decide +kernel
theorem d_M_open_72 : decode prog_7_method_13_code 72 = .ok (.iconst 0, 1) := by decide +kernel
theorem d_M_open_73 : decode prog_7_method_13_code 73 = .ok (.iload 4, 2) := by decide +kernel
theorem d_M_open_75 : decode prog_7_method_13_code 75 = .ok (.invokevirtual 67, 3) := by decide +kernel
theorem d_M_open_78 : decode prog_7_method_13_code 78 = .ok (.ireturn, 1) := by decide +kernel
theorem d_M_isPlace_0 : decode prog_7_method_3_code 0 = .ok (.iload_n 0, 1) := by decide +kernel
theorem d_M_isPlace_1 : decode prog_7_method_3_code 1 = .ok (.ifCond .lt 13, 3) := by decide +kernel
theorem d_M_isPlace_4 : decode prog_7_method_3_code 4 = .ok (.iload_n 0, 1) := by decide +kernel
theorem d_M_isPlace_5 : decode prog_7_method_3_code 5 = .ok (.bipush 15, 2) := by decide +kernel
theorem d_M_isPlace_7 : decode prog_7_method_3_code 7 = .ok (.if_icmp .ge 7, 3) := by decide +kernel
theorem d_M_isPlace_10 : decode prog_7_method_3_code 10 = .ok (.iconst 1, 1) := by decide +kernel
theorem d_M_isPlace_11 : decode prog_7_method_3_code 11 = .ok (.goto 4, 3) := by decide +kernel
theorem d_M_isPlace_14 : decode prog_7_method_3_code 14 = .ok (.iconst 0, 1) := by decide +kernel
theorem d_M_isPlace_15 : decode prog_7_method_3_code 15 = .ok (.ireturn, 1) := by decide +kernel
theorem d_M_vacant_0 : decode prog_7_method_8_code 0 = .ok (.iconst 0, 1) := by decide +kernel
theorem d_M_vacant_1 : decode prog_7_method_8_code 1 = .ok (.istore_n 2, 1) := by decide +kernel
theorem d_M_vacant_2 : decode prog_7_method_8_code 2 = .ok (.iload_n 2, 1) := by decide +kernel
theorem d_M_vacant_3 : decode prog_7_method_8_code 3 = .ok (.bipush 16, 2) := by decide +kernel
theorem d_M_vacant_5 : decode prog_7_method_8_code 5 = .ok (.if_icmp .ge 23, 3) := by decide +kernel
theorem d_M_vacant_8 : decode prog_7_method_8_code 8 = .ok (.aload_n 0, 1) := by decide +kernel
theorem d_M_vacant_9 : decode prog_7_method_8_code 9 = .ok (.getfield 7, 3) := by decide +kernel
theorem d_M_vacant_12 : decode prog_7_method_8_code 12 = .ok (.bipush 16, 2) := by decide +kernel
theorem d_M_vacant_14 : decode prog_7_method_8_code 14 = .ok (.iload_n 1, 1) := by decide +kernel
theorem d_M_vacant_15 : decode prog_7_method_8_code 15 = .ok (.imul, 1) := by decide +kernel
theorem d_M_vacant_16 : decode prog_7_method_8_code 16 = .ok (.iload_n 2, 1) := by decide +kernel
theorem d_M_vacant_17 : decode prog_7_method_8_code 17 = .ok (.iadd, 1) := by decide +kernel
theorem d_M_vacant_18 : decode prog_7_method_8_code 18 = .ok (.iaload, 1) := by decide +kernel
theorem d_M_vacant_19 : decode prog_7_method_8_code 19 = .ok (.ifCond .le 9, 3) := by decide +kernel
theorem d_M_vacant_22 : decode prog_7_method_8_code 22 = .ok (.iinc 2 1, 3) := by decide +kernel
theorem d_M_vacant_25 : decode prog_7_method_8_code 25 = .ok (.goto (-23), 3) := by decide +kernel
theorem d_M_vacant_28 : decode prog_7_method_8_code 28 = .ok (.iload_n 2, 1) := by decide +kernel
theorem d_M_vacant_29 : decode prog_7_method_8_code 29 = .ok (.ireturn, 1) := by decide +kernel
theorem d_M_files_0 : decode prog_7_method_6_code 0 = .ok (.iconst 0, 1) := by decide +kernel
theorem d_M_files_1 : decode prog_7_method_6_code 1 = .ok (.istore_n 1, 1) := by decide +kernel
theorem d_M_files_2 : decode prog_7_method_6_code 2 = .ok (.iconst 0, 1) := by decide +kernel
theorem d_M_files_3 : decode prog_7_method_6_code 3 = .ok (.istore_n 2, 1) := by decide +kernel
theorem d_M_files_4 : decode prog_7_method_6_code 4 = .ok (.iload_n 2, 1) := by decide +kernel
theorem d_M_files_5 : decode prog_7_method_6_code 5 = .ok (.bipush 32, 2) := by decide +kernel
theorem d_M_files_7 : decode prog_7_method_6_code 7 = .ok (.if_icmp .ge 25, 3) := by decide +kernel
theorem d_M_files_10 : decode prog_7_method_6_code 10 = .ok (.iload_n 1, 1) := by decide +kernel
theorem d_M_files_11 : decode prog_7_method_6_code 11 = .ok (.aload_n 0, 1) := by decide +kernel
theorem d_M_files_12 : decode prog_7_method_6_code 12 = .ok (.iload_n 2, 1) := by decide +kernel
theorem d_M_files_13 : decode prog_7_method_6_code 13 = .ok (.invokevirtual 49, 3) := by decide +kernel
theorem d_M_files_16 : decode prog_7_method_6_code 16 = .ok (.ifCond .le 7, 3) := by decide +kernel
theorem d_M_files_19 : decode prog_7_method_6_code 19 = .ok (.iconst 1, 1) := by decide +kernel
theorem d_M_files_20 : decode prog_7_method_6_code 20 = .ok (.goto 4, 3) := by decide +kernel
theorem d_M_files_23 : decode prog_7_method_6_code 23 = .ok (.iconst 0, 1) := by decide +kernel
theorem d_M_files_24 : decode prog_7_method_6_code 24 = .ok (.iadd, 1) := by decide +kernel
theorem d_M_files_25 : decode prog_7_method_6_code 25 = .ok (.istore_n 1, 1) := by decide +kernel
theorem d_M_files_26 : decode prog_7_method_6_code 26 = .ok (.iinc 2 1, 3) := by decide +kernel
theorem d_M_files_29 : decode prog_7_method_6_code 29 = .ok (.goto (-25), 3) := by decide +kernel
theorem d_M_files_32 : decode prog_7_method_6_code 32 = .ok (.iload_n 1, 1) := by decide +kernel
theorem d_M_files_33 : decode prog_7_method_6_code 33 = .ok (.ireturn, 1) := by decide +kernel
theorem d_M_named_0 : decode prog_7_method_5_code 0 = .ok (.iconst 0, 1) := by decide +kernel
theorem d_M_named_1 : decode prog_7_method_5_code 1 = .ok (.istore_n 2, 1) := by decide +kernel
theorem d_M_named_2 : decode prog_7_method_5_code 2 = .ok (.iconst 0, 1) := by decide +kernel
theorem d_M_named_3 : decode prog_7_method_5_code 3 = .ok (.istore_n 3, 1) := by decide +kernel
theorem d_M_named_4 : decode prog_7_method_5_code 4 = .ok (.iload_n 3, 1) := by decide +kernel
theorem d_M_named_5 : decode prog_7_method_5_code 5 = .ok (.sipush 240, 3) := by decide +kernel
theorem d_M_named_8 : decode prog_7_method_5_code 8 = .ok (.if_icmp .ge 29, 3) := by decide +kernel
theorem d_M_named_11 : decode prog_7_method_5_code 11 = .ok (.iload_n 2, 1) := by decide +kernel
theorem d_M_named_12 : decode prog_7_method_5_code 12 = .ok (.aload_n 0, 1) := by decide +kernel
theorem d_M_named_13 : decode prog_7_method_5_code 13 = .ok (.getfield 7, 3) := by decide +kernel
theorem d_M_named_16 : decode prog_7_method_5_code 16 = .ok (.iload_n 3, 1) := by decide +kernel
theorem d_M_named_17 : decode prog_7_method_5_code 17 = .ok (.iaload, 1) := by decide +kernel
theorem d_M_named_18 : decode prog_7_method_5_code 18 = .ok (.iload_n 1, 1) := by decide +kernel
theorem d_M_named_19 : decode prog_7_method_5_code 19 = .ok (.iconst 1, 1) := by decide +kernel
theorem d_M_named_20 : decode prog_7_method_5_code 20 = .ok (.iadd, 1) := by decide +kernel
theorem d_M_named_21 : decode prog_7_method_5_code 21 = .ok (.if_icmp .ne 7, 3) := by decide +kernel
theorem d_M_named_24 : decode prog_7_method_5_code 24 = .ok (.iconst 1, 1) := by decide +kernel
theorem d_M_named_25 : decode prog_7_method_5_code 25 = .ok (.goto 4, 3) := by decide +kernel
theorem d_M_named_28 : decode prog_7_method_5_code 28 = .ok (.iconst 0, 1) := by decide +kernel
theorem d_M_named_29 : decode prog_7_method_5_code 29 = .ok (.iadd, 1) := by decide +kernel
theorem d_M_named_30 : decode prog_7_method_5_code 30 = .ok (.istore_n 2, 1) := by decide +kernel
theorem d_M_named_31 : decode prog_7_method_5_code 31 = .ok (.iinc 3 1, 3) := by decide +kernel
theorem d_M_named_34 : decode prog_7_method_5_code 34 = .ok (.goto (-30), 3) := by decide +kernel
theorem d_M_named_37 : decode prog_7_method_5_code 37 = .ok (.iload_n 2, 1) := by decide +kernel
theorem d_M_named_38 : decode prog_7_method_5_code 38 = .ok (.ireturn, 1) := by decide +kernel
theorem d_M_makes_0 : decode prog_7_method_12_code 0 = .ok (.aload_n 0, 1) := by decide +kernel
theorem d_M_makes_1 : decode prog_7_method_12_code 1 = .ok (.invokevirtual 57, 3) := by decide +kernel
theorem d_M_makes_4 : decode prog_7_method_12_code 4 = .ok (.istore 6, 2) := by decide +kernel
theorem d_M_makes_6 : decode prog_7_method_12_code 6 = .ok (.aload_n 0, 1) := by decide +kernel
theorem d_M_makes_7 : decode prog_7_method_12_code 7 = .ok (.getfield 7, 3) := by decide +kernel
theorem d_M_makes_10 : decode prog_7_method_12_code 10 = .ok (.bipush 16, 2) := by decide +kernel
theorem d_M_makes_12 : decode prog_7_method_12_code 12 = .ok (.iload_n 1, 1) := by decide +kernel
theorem d_M_makes_13 : decode prog_7_method_12_code 13 = .ok (.imul, 1) := by decide +kernel
theorem d_M_makes_14 : decode prog_7_method_12_code 14 = .ok (.iload_n 2, 1) := by decide +kernel
theorem d_M_makes_15 : decode prog_7_method_12_code 15 = .ok (.iadd, 1) := by decide +kernel
theorem d_M_makes_16 : decode prog_7_method_12_code 16 = .ok (.iload 6, 2) := by decide +kernel
theorem d_M_makes_18 : decode prog_7_method_12_code 18 = .ok (.iconst 1, 1) := by decide +kernel
theorem d_M_makes_19 : decode prog_7_method_12_code 19 = .ok (.iadd, 1) := by decide +kernel
theorem d_M_makes_20 : decode prog_7_method_12_code 20 = .ok (.iastore, 1) := by decide +kernel
theorem d_M_makes_21 : decode prog_7_method_12_code 21 = .ok (.aload_n 0, 1) := by decide +kernel
theorem d_M_makes_22 : decode prog_7_method_12_code 22 = .ok (.getfield 13, 3) := by decide +kernel
theorem d_M_makes_25 : decode prog_7_method_12_code 25 = .ok (.iload 6, 2) := by decide +kernel
theorem d_M_makes_27 : decode prog_7_method_12_code 27 = .ok (.iload_n 3, 1) := by decide +kernel
theorem d_M_makes_28 : decode prog_7_method_12_code 28 = .ok (.iastore, 1) := by decide +kernel
theorem d_M_makes_29 : decode prog_7_method_12_code 29 = .ok (.aload_n 0, 1) := by decide +kernel
theorem d_M_makes_30 : decode prog_7_method_12_code 30 = .ok (.getfield 16, 3) := by decide +kernel
theorem d_M_makes_33 : decode prog_7_method_12_code 33 = .ok (.iload 6, 2) := by decide +kernel
theorem d_M_makes_35 : decode prog_7_method_12_code 35 = .ok (.iload 4, 2) := by decide +kernel
theorem d_M_makes_37 : decode prog_7_method_12_code 37 = .ok (.iastore, 1) := by decide +kernel
theorem d_M_makes_38 : decode prog_7_method_12_code 38 = .ok (.aload_n 0, 1) := by decide +kernel
theorem d_M_makes_39 : decode prog_7_method_12_code 39 = .ok (.getfield 19, 3) := by decide +kernel
theorem d_M_makes_42 : decode prog_7_method_12_code 42 = .ok (.iload 6, 2) := by decide +kernel
theorem d_M_makes_44 : decode prog_7_method_12_code 44 = .ok (.iload 5, 2) := by decide +kernel
theorem d_M_makes_46 : decode prog_7_method_12_code 46 = .ok (.iastore, 1) := by decide +kernel
theorem d_M_makes_47 : decode prog_7_method_12_code 47 = .ok (.aload_n 0, 1) := by decide +kernel
theorem d_M_makes_48 : decode prog_7_method_12_code 48 = .ok (.getfield 22, 3) := by decide +kernel
theorem d_M_makes_51 : decode prog_7_method_12_code 51 = .ok (.iload 6, 2) := by decide +kernel
theorem d_M_makes_53 : decode prog_7_method_12_code 53 = .ok (.iconst 0, 1) := by decide +kernel
theorem d_M_makes_54 : decode prog_7_method_12_code 54 = .ok (.iastore, 1) := by decide +kernel
theorem d_M_makes_55 : decode prog_7_method_12_code 55 = .ok (.iload_n 2, 1) := by decide +kernel
theorem d_M_makes_56 : decode prog_7_method_12_code 56 = .ok (.ireturn, 1) := by decide +kernel
theorem d_M_freeFile_0 : decode prog_7_method_7_code 0 = .ok (.iconst 0, 1) := by decide +kernel
theorem d_M_freeFile_1 : decode prog_7_method_7_code 1 = .ok (.istore_n 1, 1) := by decide +kernel
theorem d_M_freeFile_2 : decode prog_7_method_7_code 2 = .ok (.iload_n 1, 1) := by decide +kernel
theorem d_M_freeFile_3 : decode prog_7_method_7_code 3 = .ok (.bipush 32, 2) := by decide +kernel
theorem d_M_freeFile_5 : decode prog_7_method_7_code 5 = .ok (.if_icmp .ge 17, 3) := by decide +kernel
theorem d_M_freeFile_8 : decode prog_7_method_7_code 8 = .ok (.aload_n 0, 1) := by decide +kernel
theorem d_M_freeFile_9 : decode prog_7_method_7_code 9 = .ok (.iload_n 1, 1) := by decide +kernel
theorem d_M_freeFile_10 : decode prog_7_method_7_code 10 = .ok (.invokevirtual 49, 3) := by decide +kernel
theorem d_M_freeFile_13 : decode prog_7_method_7_code 13 = .ok (.ifCond .le 9, 3) := by decide +kernel
theorem d_M_freeFile_16 : decode prog_7_method_7_code 16 = .ok (.iinc 1 1, 3) := by decide +kernel
theorem d_M_freeFile_19 : decode prog_7_method_7_code 19 = .ok (.goto (-17), 3) := by decide +kernel
theorem d_M_freeFile_22 : decode prog_7_method_7_code 22 = .ok (.iload_n 1, 1) := by decide +kernel
theorem d_M_freeFile_23 : decode prog_7_method_7_code 23 = .ok (.ireturn, 1) := by decide +kernel
theorem d_M_pipe_0 : decode prog_7_method_14_code 0 = .ok (.aload_n 0, 1) := by decide +kernel
theorem d_M_pipe_1 : decode prog_7_method_14_code 1 = .ok (.iconst 0, 1) := by decide +kernel
theorem d_M_pipe_2 : decode prog_7_method_14_code 2 = .ok (.putfield 41, 3) := by decide +kernel
theorem d_M_pipe_5 : decode prog_7_method_14_code 5 = .ok (.iconst 0, 1) := by decide +kernel
theorem d_M_pipe_6 : decode prog_7_method_14_code 6 = .ok (.istore_n 2, 1) := by decide +kernel
theorem d_M_pipe_7 : decode prog_7_method_14_code 7 = .ok (.iload_n 2, 1) := by decide +kernel
theorem d_M_pipe_8 : decode prog_7_method_14_code 8 = .ok (.bipush 8, 2) := by decide +kernel
theorem d_M_pipe_10 : decode prog_7_method_14_code 10 = .ok (.if_icmp .ge 17, 3) := by decide +kernel
theorem d_M_pipe_13 : decode prog_7_method_14_code 13 = .ok (.aload_n 0, 1) := by decide +kernel
theorem d_M_pipe_14 : decode prog_7_method_14_code 14 = .ok (.iload_n 2, 1) := by decide +kernel
theorem d_M_pipe_15 : decode prog_7_method_14_code 15 = .ok (.invokevirtual 71, 3) := by decide +kernel
theorem d_M_pipe_18 : decode prog_7_method_14_code 18 = .ok (.ifCond .eq 9, 3) := by decide +kernel
theorem d_M_pipe_21 : decode prog_7_method_14_code 21 = .ok (.iinc 2 1, 3) := by decide +kernel
theorem d_M_pipe_24 : decode prog_7_method_14_code 24 = .ok (.goto (-17), 3) := by decide +kernel
theorem d_M_pipe_27 : decode prog_7_method_14_code 27 = .ok (.iload_n 1, 1) := by decide +kernel
theorem d_M_pipe_28 : decode prog_7_method_14_code 28 = .ok (.invokestatic 45, 3) := by decide +kernel
theorem d_M_pipe_31 : decode prog_7_method_14_code 31 = .ok (.ifCond .eq 28, 3) := by decide +kernel
theorem d_M_pipe_34 : decode prog_7_method_14_code 34 = .ok (.aload_n 0, 1) := by decide +kernel
theorem d_M_pipe_35 : decode prog_7_method_14_code 35 = .ok (.iload_n 1, 1) := by decide +kernel
theorem d_M_pipe_36 : decode prog_7_method_14_code 36 = .ok (.invokevirtual 74, 3) := by decide +kernel
theorem d_M_pipe_39 : decode prog_7_method_14_code 39 = .ok (.bipush 14, 2) := by decide +kernel
theorem d_M_pipe_41 : decode prog_7_method_14_code 41 = .ok (.if_icmp .gt 18, 3) := by decide +kernel
theorem d_M_pipe_44 : decode prog_7_method_14_code 44 = .ok (.aload_n 0, 1) := by decide +kernel
theorem d_M_pipe_45 : decode prog_7_method_14_code 45 = .ok (.invokevirtual 64, 3) := by decide +kernel
theorem d_M_pipe_48 : decode prog_7_method_14_code 48 = .ok (.bipush 30, 2) := by decide +kernel
theorem d_M_pipe_50 : decode prog_7_method_14_code 50 = .ok (.if_icmp .gt 9, 3) := by decide +kernel
theorem d_M_pipe_53 : decode prog_7_method_14_code 53 = .ok (.iload_n 2, 1) := by decide +kernel
theorem d_M_pipe_54 : decode prog_7_method_14_code 54 = .ok (.bipush 8, 2) := by decide +kernel
theorem d_M_pipe_56 : decode prog_7_method_14_code 56 = .ok (.if_icmp .ne 5, 3) := by decide +kernel
theorem d_M_pipe_59 : decode prog_7_method_14_code 59 = .ok (.iconst (-1), 1) := by decide +kernel
theorem d_M_pipe_60 : decode prog_7_method_14_code 60 = .ok (.ireturn, 1) := by decide +kernel
theorem d_M_pipe_61 : decode prog_7_method_14_code 61 = .ok (.aload_n 0, 1) := by decide +kernel
theorem d_M_pipe_62 : decode prog_7_method_14_code 62 = .ok (.getfield 25, 3) := by decide +kernel
theorem d_M_pipe_65 : decode prog_7_method_14_code 65 = .ok (.iload_n 2, 1) := by decide +kernel
theorem d_M_pipe_66 : decode prog_7_method_14_code 66 = .ok (.iconst 0, 1) := by decide +kernel
theorem d_M_pipe_67 : decode prog_7_method_14_code 67 = .ok (.iastore, 1) := by decide +kernel
theorem d_M_pipe_68 : decode prog_7_method_14_code 68 = .ok (.aload_n 0, 1) := by decide +kernel
theorem d_M_pipe_69 : decode prog_7_method_14_code 69 = .ok (.iload_n 1, 1) := by decide +kernel
theorem d_M_pipe_70 : decode prog_7_method_14_code 70 = .ok (.aload_n 0, 1) := by decide +kernel
theorem d_M_pipe_71 : decode prog_7_method_14_code 71 = .ok (.iload_n 1, 1) := by decide +kernel
theorem d_M_pipe_72 : decode prog_7_method_14_code 72 = .ok (.invokevirtual 61, 3) := by decide +kernel
theorem d_M_pipe_75 : decode prog_7_method_14_code 75 = .ok (.iconst 1, 1) := by decide +kernel
theorem d_M_pipe_76 : decode prog_7_method_14_code 76 = .ok (.iload_n 2, 1) := by decide +kernel
theorem d_M_pipe_77 : decode prog_7_method_14_code 77 = .ok (.iconst 1, 1) := by decide +kernel
theorem d_M_pipe_78 : decode prog_7_method_14_code 78 = .ok (.invokevirtual 67, 3) := by decide +kernel
theorem d_M_pipe_81 : decode prog_7_method_14_code 81 = .ok (.istore_n 3, 1) := by decide +kernel
theorem d_M_pipe_82 : decode prog_7_method_14_code 82 = .ok (.aload_n 0, 1) := by decide +kernel
theorem d_M_pipe_83 : decode prog_7_method_14_code 83 = .ok (.iload_n 1, 1) := by decide +kernel
theorem d_M_pipe_84 : decode prog_7_method_14_code 84 = .ok (.aload_n 0, 1) := by decide +kernel
theorem d_M_pipe_85 : decode prog_7_method_14_code 85 = .ok (.iload_n 1, 1) := by decide +kernel
theorem d_M_pipe_86 : decode prog_7_method_14_code 86 = .ok (.invokevirtual 61, 3) := by decide +kernel
theorem d_M_pipe_89 : decode prog_7_method_14_code 89 = .ok (.iconst 1, 1) := by decide +kernel
theorem d_M_pipe_90 : decode prog_7_method_14_code 90 = .ok (.iload_n 2, 1) := by decide +kernel
theorem d_M_pipe_91 : decode prog_7_method_14_code 91 = .ok (.iconst 2, 1) := by decide +kernel
theorem d_M_pipe_92 : decode prog_7_method_14_code 92 = .ok (.invokevirtual 67, 3) := by decide +kernel
theorem d_M_pipe_95 : decode prog_7_method_14_code 95 = .ok (.istore 4, 2) := by decide +kernel
theorem d_M_pipe_97 : decode prog_7_method_14_code 97 = .ok (.iload_n 3, 1) := by decide +kernel
theorem d_M_pipe_98 : decode prog_7_method_14_code 98 = .ok (.bipush 16, 2) := by decide +kernel
theorem d_M_pipe_100 : decode prog_7_method_14_code 100 = .ok (.iload 4, 2) := by decide +kernel
theorem d_M_pipe_102 : decode prog_7_method_14_code 102 = .ok (.imul, 1) := by decide +kernel
theorem d_M_pipe_103 : decode prog_7_method_14_code 103 = .ok (.iadd, 1) := by decide +kernel
theorem d_M_pipe_104 : decode prog_7_method_14_code 104 = .ok (.ireturn, 1) := by decide +kernel
theorem d_M_isPipe_0 : decode prog_7_method_11_code 0 = .ok (.aload_n 0, 1) := by decide +kernel
theorem d_M_isPipe_1 : decode prog_7_method_11_code 1 = .ok (.iload_n 1, 1) := by decide +kernel
theorem d_M_isPipe_2 : decode prog_7_method_11_code 2 = .ok (.iconst 1, 1) := by decide +kernel
theorem d_M_isPipe_3 : decode prog_7_method_11_code 3 = .ok (.invokevirtual 53, 3) := by decide +kernel
theorem d_M_isPipe_6 : decode prog_7_method_11_code 6 = .ok (.ifCond .ge 12, 3) := by decide +kernel
theorem d_M_isPipe_9 : decode prog_7_method_11_code 9 = .ok (.aload_n 0, 1) := by decide +kernel
theorem d_M_isPipe_10 : decode prog_7_method_11_code 10 = .ok (.iload_n 1, 1) := by decide +kernel
theorem d_M_isPipe_11 : decode prog_7_method_11_code 11 = .ok (.iconst 2, 1) := by decide +kernel
theorem d_M_isPipe_12 : decode prog_7_method_11_code 12 = .ok (.invokevirtual 53, 3) := by decide +kernel
theorem d_M_isPipe_15 : decode prog_7_method_11_code 15 = .ok (.ifCond .lt 7, 3) := by decide +kernel
theorem d_M_isPipe_18 : decode prog_7_method_11_code 18 = .ok (.iconst 1, 1) := by decide +kernel
theorem d_M_isPipe_19 : decode prog_7_method_11_code 19 = .ok (.goto 4, 3) := by decide +kernel
theorem d_M_isPipe_22 : decode prog_7_method_11_code 22 = .ok (.iconst 0, 1) := by decide +kernel
theorem d_M_isPipe_23 : decode prog_7_method_11_code 23 = .ok (.ireturn, 1) := by decide +kernel
theorem d_M_end_0 : decode prog_7_method_10_code 0 = .ok (.iconst (-1), 1) := by decide +kernel
theorem d_M_end_1 : decode prog_7_method_10_code 1 = .ok (.istore_n 3, 1) := by decide +kernel
theorem d_M_end_2 : decode prog_7_method_10_code 2 = .ok (.iconst 0, 1) := by decide +kernel
theorem d_M_end_3 : decode prog_7_method_10_code 3 = .ok (.istore 4, 2) := by decide +kernel
theorem d_M_end_5 : decode prog_7_method_10_code 5 = .ok (.iload 4, 2) := by decide +kernel
theorem d_M_end_7 : decode prog_7_method_10_code 7 = .ok (.bipush 32, 2) := by decide +kernel
theorem d_M_end_9 : decode prog_7_method_10_code 9 = .ok (.if_icmp .ge 58, 3) := by decide +kernel
theorem d_M_end_12 : decode prog_7_method_10_code 12 = .ok (.aload_n 0, 1) := by decide +kernel
theorem d_M_end_13 : decode prog_7_method_10_code 13 = .ok (.getfield 13, 3) := by decide +kernel
theorem d_M_end_16 : decode prog_7_method_10_code 16 = .ok (.iload 4, 2) := by decide +kernel
theorem d_M_end_18 : decode prog_7_method_10_code 18 = .ok (.iaload, 1) := by decide +kernel
theorem d_M_end_19 : decode prog_7_method_10_code 19 = .ok (.iconst 1, 1) := by decide +kernel
theorem d_M_end_20 : decode prog_7_method_10_code 20 = .ok (.if_icmp .ne 39, 3) := by decide +kernel
theorem d_M_end_23 : decode prog_7_method_10_code 23 = .ok (.aload_n 0, 1) := by decide +kernel
theorem d_M_end_24 : decode prog_7_method_10_code 24 = .ok (.getfield 16, 3) := by decide +kernel
theorem d_M_end_27 : decode prog_7_method_10_code 27 = .ok (.iload 4, 2) := by decide +kernel
theorem d_M_end_29 : decode prog_7_method_10_code 29 = .ok (.iaload, 1) := by decide +kernel
theorem d_M_end_30 : decode prog_7_method_10_code 30 = .ok (.iload_n 1, 1) := by decide +kernel
theorem d_M_end_31 : decode prog_7_method_10_code 31 = .ok (.if_icmp .ne 28, 3) := by decide +kernel
theorem d_M_end_34 : decode prog_7_method_10_code 34 = .ok (.aload_n 0, 1) := by decide +kernel
theorem d_M_end_35 : decode prog_7_method_10_code 35 = .ok (.getfield 19, 3) := by decide +kernel
theorem d_M_end_38 : decode prog_7_method_10_code 38 = .ok (.iload 4, 2) := by decide +kernel
theorem d_M_end_40 : decode prog_7_method_10_code 40 = .ok (.iaload, 1) := by decide +kernel
theorem d_M_end_41 : decode prog_7_method_10_code 41 = .ok (.iload_n 2, 1) := by decide +kernel
theorem d_M_end_42 : decode prog_7_method_10_code 42 = .ok (.if_icmp .ne 17, 3) := by decide +kernel
theorem d_M_end_45 : decode prog_7_method_10_code 45 = .ok (.aload_n 0, 1) := by decide +kernel
theorem d_M_end_46 : decode prog_7_method_10_code 46 = .ok (.iload 4, 2) := by decide +kernel
theorem d_M_end_48 : decode prog_7_method_10_code 48 = .ok (.invokevirtual 49, 3) := by decide +kernel
theorem d_M_end_51 : decode prog_7_method_10_code 51 = .ok (.ifCond .le 8, 3) := by decide +kernel
theorem d_M_end_54 : decode prog_7_method_10_code 54 = .ok (.iload 4, 2) := by decide +kernel
theorem d_M_end_56 : decode prog_7_method_10_code 56 = .ok (.goto 4, 3) := by decide +kernel
theorem d_M_end_59 : decode prog_7_method_10_code 59 = .ok (.iload_n 3, 1) := by decide +kernel
theorem d_M_end_60 : decode prog_7_method_10_code 60 = .ok (.istore_n 3, 1) := by decide +kernel
theorem d_M_end_61 : decode prog_7_method_10_code 61 = .ok (.iinc 4 1, 3) := by decide +kernel
theorem d_M_end_64 : decode prog_7_method_10_code 64 = .ok (.goto (-59), 3) := by decide +kernel
theorem d_M_end_67 : decode prog_7_method_10_code 67 = .ok (.iload_n 3, 1) := by decide +kernel
theorem d_M_end_68 : decode prog_7_method_10_code 68 = .ok (.ireturn, 1) := by decide +kernel
theorem d_M_used_0 : decode prog_7_method_9_code 0 = .ok (.iconst 0, 1) := by decide +kernel
theorem d_M_used_1 : decode prog_7_method_9_code 1 = .ok (.istore_n 2, 1) := by decide +kernel
theorem d_M_used_2 : decode prog_7_method_9_code 2 = .ok (.iconst 0, 1) := by decide +kernel
theorem d_M_used_3 : decode prog_7_method_9_code 3 = .ok (.istore_n 3, 1) := by decide +kernel
theorem d_M_used_4 : decode prog_7_method_9_code 4 = .ok (.iload_n 3, 1) := by decide +kernel
theorem d_M_used_5 : decode prog_7_method_9_code 5 = .ok (.bipush 16, 2) := by decide +kernel
theorem d_M_used_7 : decode prog_7_method_9_code 7 = .ok (.if_icmp .ge 31, 3) := by decide +kernel
theorem d_M_used_10 : decode prog_7_method_9_code 10 = .ok (.iload_n 2, 1) := by decide +kernel
theorem d_M_used_11 : decode prog_7_method_9_code 11 = .ok (.aload_n 0, 1) := by decide +kernel
theorem d_M_used_12 : decode prog_7_method_9_code 12 = .ok (.getfield 7, 3) := by decide +kernel
theorem d_M_used_15 : decode prog_7_method_9_code 15 = .ok (.bipush 16, 2) := by decide +kernel
theorem d_M_used_17 : decode prog_7_method_9_code 17 = .ok (.iload_n 1, 1) := by decide +kernel
theorem d_M_used_18 : decode prog_7_method_9_code 18 = .ok (.imul, 1) := by decide +kernel
theorem d_M_used_19 : decode prog_7_method_9_code 19 = .ok (.iload_n 3, 1) := by decide +kernel
theorem d_M_used_20 : decode prog_7_method_9_code 20 = .ok (.iadd, 1) := by decide +kernel
theorem d_M_used_21 : decode prog_7_method_9_code 21 = .ok (.iaload, 1) := by decide +kernel
theorem d_M_used_22 : decode prog_7_method_9_code 22 = .ok (.ifCond .le 7, 3) := by decide +kernel
theorem d_M_used_25 : decode prog_7_method_9_code 25 = .ok (.iconst 1, 1) := by decide +kernel
theorem d_M_used_26 : decode prog_7_method_9_code 26 = .ok (.goto 4, 3) := by decide +kernel
theorem d_M_used_29 : decode prog_7_method_9_code 29 = .ok (.iconst 0, 1) := by decide +kernel
theorem d_M_used_30 : decode prog_7_method_9_code 30 = .ok (.iadd, 1) := by decide +kernel
theorem d_M_used_31 : decode prog_7_method_9_code 31 = .ok (.istore_n 2, 1) := by decide +kernel
theorem d_M_used_32 : decode prog_7_method_9_code 32 = .ok (.iinc 3 1, 3) := by decide +kernel
theorem d_M_used_35 : decode prog_7_method_9_code 35 = .ok (.goto (-31), 3) := by decide +kernel
theorem d_M_used_38 : decode prog_7_method_9_code 38 = .ok (.iload_n 2, 1) := by decide +kernel
theorem d_M_used_39 : decode prog_7_method_9_code 39 = .ok (.ireturn, 1) := by decide +kernel
theorem d_M_again_0 : decode prog_7_method_15_code 0 = .ok (.aload_n 0, 1) := by decide +kernel
theorem d_M_again_1 : decode prog_7_method_15_code 1 = .ok (.iconst 0, 1) := by decide +kernel
theorem d_M_again_2 : decode prog_7_method_15_code 2 = .ok (.putfield 41, 3) := by decide +kernel
theorem d_M_again_5 : decode prog_7_method_15_code 5 = .ok (.aload_n 0, 1) := by decide +kernel
theorem d_M_again_6 : decode prog_7_method_15_code 6 = .ok (.iload_n 1, 1) := by decide +kernel
theorem d_M_again_7 : decode prog_7_method_15_code 7 = .ok (.iload_n 2, 1) := by decide +kernel
theorem d_M_again_8 : decode prog_7_method_15_code 8 = .ok (.invokevirtual 77, 3) := by decide +kernel
theorem d_M_again_11 : decode prog_7_method_15_code 11 = .ok (.istore_n 3, 1) := by decide +kernel
theorem d_M_again_12 : decode prog_7_method_15_code 12 = .ok (.iload_n 3, 1) := by decide +kernel
theorem d_M_again_13 : decode prog_7_method_15_code 13 = .ok (.ifCond .lt 13, 3) := by decide +kernel
theorem d_M_again_16 : decode prog_7_method_15_code 16 = .ok (.aload_n 0, 1) := by decide +kernel
theorem d_M_again_17 : decode prog_7_method_15_code 17 = .ok (.iload_n 1, 1) := by decide +kernel
theorem d_M_again_18 : decode prog_7_method_15_code 18 = .ok (.invokevirtual 61, 3) := by decide +kernel
theorem d_M_again_21 : decode prog_7_method_15_code 21 = .ok (.bipush 16, 2) := by decide +kernel
theorem d_M_again_23 : decode prog_7_method_15_code 23 = .ok (.if_icmp .ne 5, 3) := by decide +kernel
theorem d_M_again_26 : decode prog_7_method_15_code 26 = .ok (.iconst (-1), 1) := by decide +kernel
theorem d_M_again_27 : decode prog_7_method_15_code 27 = .ok (.ireturn, 1) := by decide +kernel
theorem d_M_again_28 : decode prog_7_method_15_code 28 = .ok (.aload_n 0, 1) := by decide +kernel
theorem d_M_again_29 : decode prog_7_method_15_code 29 = .ok (.iload_n 1, 1) := by decide +kernel
theorem d_M_again_30 : decode prog_7_method_15_code 30 = .ok (.invokevirtual 61, 3) := by decide +kernel
theorem d_M_again_33 : decode prog_7_method_15_code 33 = .ok (.istore 4, 2) := by decide +kernel
theorem d_M_again_35 : decode prog_7_method_15_code 35 = .ok (.aload_n 0, 1) := by decide +kernel
theorem d_M_again_36 : decode prog_7_method_15_code 36 = .ok (.getfield 7, 3) := by decide +kernel
theorem d_M_again_39 : decode prog_7_method_15_code 39 = .ok (.bipush 16, 2) := by decide +kernel
theorem d_M_again_41 : decode prog_7_method_15_code 41 = .ok (.iload_n 1, 1) := by decide +kernel
theorem d_M_again_42 : decode prog_7_method_15_code 42 = .ok (.imul, 1) := by decide +kernel
theorem d_M_again_43 : decode prog_7_method_15_code 43 = .ok (.iload 4, 2) := by decide +kernel
theorem d_M_again_45 : decode prog_7_method_15_code 45 = .ok (.iadd, 1) := by decide +kernel
theorem d_M_again_46 : decode prog_7_method_15_code 46 = .ok (.iload_n 3, 1) := by decide +kernel
theorem d_M_again_47 : decode prog_7_method_15_code 47 = .ok (.iconst 1, 1) := by decide +kernel
theorem d_M_again_48 : decode prog_7_method_15_code 48 = .ok (.iadd, 1) := by decide +kernel
theorem d_M_again_49 : decode prog_7_method_15_code 49 = .ok (.iastore, 1) := by decide +kernel
theorem d_M_again_50 : decode prog_7_method_15_code 50 = .ok (.iload 4, 2) := by decide +kernel
theorem d_M_again_52 : decode prog_7_method_15_code 52 = .ok (.ireturn, 1) := by decide +kernel
theorem d_M_file_0 : decode prog_7_method_4_code 0 = .ok (.iload_n 1, 1) := by decide +kernel
theorem d_M_file_1 : decode prog_7_method_4_code 1 = .ok (.invokestatic 45, 3) := by decide +kernel
theorem d_M_file_4 : decode prog_7_method_4_code 4 = .ok (.ifCond .eq 29, 3) := by decide +kernel
theorem d_M_file_7 : decode prog_7_method_4_code 7 = .ok (.iload_n 2, 1) := by decide +kernel
theorem d_M_file_8 : decode prog_7_method_4_code 8 = .ok (.ifCond .lt 25, 3) := by decide +kernel
theorem d_M_file_11 : decode prog_7_method_4_code 11 = .ok (.iload_n 2, 1) := by decide +kernel
theorem d_M_file_12 : decode prog_7_method_4_code 12 = .ok (.bipush 16, 2) := by decide +kernel
theorem d_M_file_14 : decode prog_7_method_4_code 14 = .ok (.if_icmp .ge 19, 3) := by decide +kernel
theorem d_M_file_17 : decode prog_7_method_4_code 17 = .ok (.aload_n 0, 1) := by decide +kernel
theorem d_M_file_18 : decode prog_7_method_4_code 18 = .ok (.getfield 7, 3) := by decide +kernel
theorem d_M_file_21 : decode prog_7_method_4_code 21 = .ok (.bipush 16, 2) := by decide +kernel
theorem d_M_file_23 : decode prog_7_method_4_code 23 = .ok (.iload_n 1, 1) := by decide +kernel
theorem d_M_file_24 : decode prog_7_method_4_code 24 = .ok (.imul, 1) := by decide +kernel
theorem d_M_file_25 : decode prog_7_method_4_code 25 = .ok (.iload_n 2, 1) := by decide +kernel
theorem d_M_file_26 : decode prog_7_method_4_code 26 = .ok (.iadd, 1) := by decide +kernel
theorem d_M_file_27 : decode prog_7_method_4_code 27 = .ok (.iaload, 1) := by decide +kernel
theorem d_M_file_28 : decode prog_7_method_4_code 28 = .ok (.iconst 1, 1) := by decide +kernel
theorem d_M_file_29 : decode prog_7_method_4_code 29 = .ok (.isub, 1) := by decide +kernel
theorem d_M_file_30 : decode prog_7_method_4_code 30 = .ok (.goto 4, 3) := by decide +kernel
theorem d_M_file_33 : decode prog_7_method_4_code 33 = .ok (.iconst (-1), 1) := by decide +kernel
theorem d_M_file_34 : decode prog_7_method_4_code 34 = .ok (.ireturn, 1) := by decide +kernel
theorem d_M_close_0 : decode prog_7_method_17_code 0 = .ok (.aload_n 0, 1) := by decide +kernel
theorem d_M_close_1 : decode prog_7_method_17_code 1 = .ok (.iconst 0, 1) := by decide +kernel
theorem d_M_close_2 : decode prog_7_method_17_code 2 = .ok (.putfield 41, 3) := by decide +kernel
theorem d_M_close_5 : decode prog_7_method_17_code 5 = .ok (.aload_n 0, 1) := by decide +kernel
theorem d_M_close_6 : decode prog_7_method_17_code 6 = .ok (.iload_n 1, 1) := by decide +kernel
theorem d_M_close_7 : decode prog_7_method_17_code 7 = .ok (.iload_n 2, 1) := by decide +kernel
theorem d_M_close_8 : decode prog_7_method_17_code 8 = .ok (.invokevirtual 77, 3) := by decide +kernel
theorem d_M_close_11 : decode prog_7_method_17_code 11 = .ok (.istore_n 3, 1) := by decide +kernel
theorem d_M_close_12 : decode prog_7_method_17_code 12 = .ok (.iload_n 3, 1) := by decide +kernel
theorem d_M_close_13 : decode prog_7_method_17_code 13 = .ok (.ifCond .ge 5, 3) := by decide +kernel
theorem d_M_close_16 : decode prog_7_method_17_code 16 = .ok (.iconst (-1), 1) := by decide +kernel
theorem d_M_close_17 : decode prog_7_method_17_code 17 = .ok (.ireturn, 1) := by decide +kernel
theorem d_M_close_18 : decode prog_7_method_17_code 18 = .ok (.aload_n 0, 1) := by decide +kernel
theorem d_M_close_19 : decode prog_7_method_17_code 19 = .ok (.iload_n 1, 1) := by decide +kernel
theorem d_M_close_20 : decode prog_7_method_17_code 20 = .ok (.iload_n 2, 1) := by decide +kernel
theorem d_M_close_21 : decode prog_7_method_17_code 21 = .ok (.invokevirtual 80, 3) := by decide +kernel
theorem d_M_close_24 : decode prog_7_method_17_code 24 = .ok (.ifCond .eq 12, 3) := by decide +kernel
theorem d_M_close_27 : decode prog_7_method_17_code 27 = .ok (.aload_n 0, 1) := by decide +kernel
theorem d_M_close_28 : decode prog_7_method_17_code 28 = .ok (.getfield 16, 3) := by decide +kernel
theorem d_M_close_31 : decode prog_7_method_17_code 31 = .ok (.iload_n 3, 1) := by decide +kernel
theorem d_M_close_32 : decode prog_7_method_17_code 32 = .ok (.iaload, 1) := by decide +kernel
theorem d_M_close_33 : decode prog_7_method_17_code 33 = .ok (.goto 4, 3) := by decide +kernel
theorem d_M_close_36 : decode prog_7_method_17_code 36 = .ok (.iconst 0, 1) := by decide +kernel
theorem d_M_close_37 : decode prog_7_method_17_code 37 = .ok (.ireturn, 1) := by decide +kernel
theorem d_M_closes_0 : decode prog_7_method_16_code 0 = .ok (.aload_n 0, 1) := by decide +kernel
theorem d_M_closes_1 : decode prog_7_method_16_code 1 = .ok (.iload_n 1, 1) := by decide +kernel
theorem d_M_closes_2 : decode prog_7_method_16_code 2 = .ok (.iload_n 2, 1) := by decide +kernel
theorem d_M_closes_3 : decode prog_7_method_16_code 3 = .ok (.invokevirtual 77, 3) := by decide +kernel
theorem d_M_closes_6 : decode prog_7_method_16_code 6 = .ok (.istore_n 3, 1) := by decide +kernel
theorem d_M_closes_7 : decode prog_7_method_16_code 7 = .ok (.aload_n 0, 1) := by decide +kernel
theorem d_M_closes_8 : decode prog_7_method_16_code 8 = .ok (.getfield 7, 3) := by decide +kernel
theorem d_M_closes_11 : decode prog_7_method_16_code 11 = .ok (.bipush 16, 2) := by decide +kernel
theorem d_M_closes_13 : decode prog_7_method_16_code 13 = .ok (.iload_n 1, 1) := by decide +kernel
theorem d_M_closes_14 : decode prog_7_method_16_code 14 = .ok (.imul, 1) := by decide +kernel
theorem d_M_closes_15 : decode prog_7_method_16_code 15 = .ok (.iload_n 2, 1) := by decide +kernel
theorem d_M_closes_16 : decode prog_7_method_16_code 16 = .ok (.iadd, 1) := by decide +kernel
theorem d_M_closes_17 : decode prog_7_method_16_code 17 = .ok (.iconst 0, 1) := by decide +kernel
theorem d_M_closes_18 : decode prog_7_method_16_code 18 = .ok (.iastore, 1) := by decide +kernel
theorem d_M_closes_19 : decode prog_7_method_16_code 19 = .ok (.aload_n 0, 1) := by decide +kernel
theorem d_M_closes_20 : decode prog_7_method_16_code 20 = .ok (.iload_n 3, 1) := by decide +kernel
theorem d_M_closes_21 : decode prog_7_method_16_code 21 = .ok (.invokevirtual 49, 3) := by decide +kernel
theorem d_M_closes_24 : decode prog_7_method_16_code 24 = .ok (.ifCond .ne 17, 3) := by decide +kernel
theorem d_M_closes_27 : decode prog_7_method_16_code 27 = .ok (.aload_n 0, 1) := by decide +kernel
theorem d_M_closes_28 : decode prog_7_method_16_code 28 = .ok (.getfield 13, 3) := by decide +kernel
theorem d_M_closes_31 : decode prog_7_method_16_code 31 = .ok (.iload_n 3, 1) := by decide +kernel
theorem d_M_closes_32 : decode prog_7_method_16_code 32 = .ok (.iaload, 1) := by decide +kernel
theorem d_M_closes_33 : decode prog_7_method_16_code 33 = .ok (.iconst 2, 1) := by decide +kernel
theorem d_M_closes_34 : decode prog_7_method_16_code 34 = .ok (.if_icmp .ne 7, 3) := by decide +kernel
theorem d_M_closes_37 : decode prog_7_method_16_code 37 = .ok (.iconst 1, 1) := by decide +kernel
theorem d_M_closes_38 : decode prog_7_method_16_code 38 = .ok (.goto 4, 3) := by decide +kernel
theorem d_M_closes_41 : decode prog_7_method_16_code 41 = .ok (.iconst 0, 1) := by decide +kernel
theorem d_M_closes_42 : decode prog_7_method_16_code 42 = .ok (.ireturn, 1) := by decide +kernel
theorem d_M_closeAll_0 : decode prog_7_method_18_code 0 = .ok (.aload_n 0, 1) := by decide +kernel
theorem d_M_closeAll_1 : decode prog_7_method_18_code 1 = .ok (.iconst 0, 1) := by decide +kernel
theorem d_M_closeAll_2 : decode prog_7_method_18_code 2 = .ok (.putfield 41, 3) := by decide +kernel
theorem d_M_closeAll_5 : decode prog_7_method_18_code 5 = .ok (.iload_n 1, 1) := by decide +kernel
theorem d_M_closeAll_6 : decode prog_7_method_18_code 6 = .ok (.invokestatic 45, 3) := by decide +kernel
theorem d_M_closeAll_9 : decode prog_7_method_18_code 9 = .ok (.ifCond .ne 5, 3) := by decide +kernel
theorem d_M_closeAll_12 : decode prog_7_method_18_code 12 = .ok (.iconst (-1), 1) := by decide +kernel
theorem d_M_closeAll_13 : decode prog_7_method_18_code 13 = .ok (.ireturn, 1) := by decide +kernel
theorem d_M_closeAll_14 : decode prog_7_method_18_code 14 = .ok (.aload_n 0, 1) := by decide +kernel
theorem d_M_closeAll_15 : decode prog_7_method_18_code 15 = .ok (.iconst 0, 1) := by decide +kernel
theorem d_M_closeAll_16 : decode prog_7_method_18_code 16 = .ok (.putfield 84, 3) := by decide +kernel
theorem d_M_closeAll_19 : decode prog_7_method_18_code 19 = .ok (.iconst 0, 1) := by decide +kernel
theorem d_M_closeAll_20 : decode prog_7_method_18_code 20 = .ok (.istore_n 2, 1) := by decide +kernel
theorem d_M_closeAll_21 : decode prog_7_method_18_code 21 = .ok (.iload_n 2, 1) := by decide +kernel
theorem d_M_closeAll_22 : decode prog_7_method_18_code 22 = .ok (.bipush 16, 2) := by decide +kernel
theorem d_M_closeAll_24 : decode prog_7_method_18_code 24 = .ok (.if_icmp .ge 54, 3) := by decide +kernel
theorem d_M_closeAll_27 : decode prog_7_method_18_code 27 = .ok (.aload_n 0, 1) := by decide +kernel
theorem d_M_closeAll_28 : decode prog_7_method_18_code 28 = .ok (.iload_n 1, 1) := by decide +kernel
theorem d_M_closeAll_29 : decode prog_7_method_18_code 29 = .ok (.iload_n 2, 1) := by decide +kernel
theorem d_M_closeAll_30 : decode prog_7_method_18_code 30 = .ok (.invokevirtual 77, 3) := by decide +kernel
theorem d_M_closeAll_33 : decode prog_7_method_18_code 33 = .ok (.istore_n 3, 1) := by decide +kernel
theorem d_M_closeAll_34 : decode prog_7_method_18_code 34 = .ok (.iload_n 3, 1) := by decide +kernel
theorem d_M_closeAll_35 : decode prog_7_method_18_code 35 = .ok (.ifCond .lt 37, 3) := by decide +kernel
theorem d_M_closeAll_38 : decode prog_7_method_18_code 38 = .ok (.aload_n 0, 1) := by decide +kernel
theorem d_M_closeAll_39 : decode prog_7_method_18_code 39 = .ok (.iload_n 1, 1) := by decide +kernel
theorem d_M_closeAll_40 : decode prog_7_method_18_code 40 = .ok (.iload_n 2, 1) := by decide +kernel
theorem d_M_closeAll_41 : decode prog_7_method_18_code 41 = .ok (.invokevirtual 80, 3) := by decide +kernel
theorem d_M_closeAll_44 : decode prog_7_method_18_code 44 = .ok (.ifCond .eq 28, 3) := by decide +kernel
theorem d_M_closeAll_47 : decode prog_7_method_18_code 47 = .ok (.aload_n 0, 1) := by decide +kernel
theorem d_M_closeAll_48 : decode prog_7_method_18_code 48 = .ok (.getfield 32, 3) := by decide +kernel
theorem d_M_closeAll_51 : decode prog_7_method_18_code 51 = .ok (.aload_n 0, 1) := by decide +kernel
theorem d_M_closeAll_52 : decode prog_7_method_18_code 52 = .ok (.getfield 84, 3) := by decide +kernel
theorem d_M_closeAll_55 : decode prog_7_method_18_code 55 = .ok (.aload_n 0, 1) := by decide +kernel
theorem d_M_closeAll_56 : decode prog_7_method_18_code 56 = .ok (.getfield 16, 3) := by decide +kernel
theorem d_M_closeAll_59 : decode prog_7_method_18_code 59 = .ok (.iload_n 3, 1) := by decide +kernel
theorem d_M_closeAll_60 : decode prog_7_method_18_code 60 = .ok (.iaload, 1) := by decide +kernel
theorem d_M_closeAll_61 : decode prog_7_method_18_code 61 = .ok (.iastore, 1) := by decide +kernel
theorem d_M_closeAll_62 : decode prog_7_method_18_code 62 = .ok (.aload_n 0, 1) := by decide +kernel
theorem d_M_closeAll_63 : decode prog_7_method_18_code 63 = .ok (.dup, 1) := by decide +kernel
theorem d_M_closeAll_64 : decode prog_7_method_18_code 64 = .ok (.getfield 84, 3) := by decide +kernel
theorem d_M_closeAll_67 : decode prog_7_method_18_code 67 = .ok (.iconst 1, 1) := by decide +kernel
theorem d_M_closeAll_68 : decode prog_7_method_18_code 68 = .ok (.iadd, 1) := by decide +kernel
theorem d_M_closeAll_69 : decode prog_7_method_18_code 69 = .ok (.putfield 84, 3) := by decide +kernel
theorem d_M_closeAll_72 : decode prog_7_method_18_code 72 = .ok (.iinc 2 1, 3) := by decide +kernel
theorem d_M_closeAll_75 : decode prog_7_method_18_code 75 = .ok (.goto (-54), 3) := by decide +kernel
theorem d_M_closeAll_78 : decode prog_7_method_18_code 78 = .ok (.aload_n 0, 1) := by decide +kernel
theorem d_M_closeAll_79 : decode prog_7_method_18_code 79 = .ok (.getfield 84, 3) := by decide +kernel
theorem d_M_closeAll_82 : decode prog_7_method_18_code 82 = .ok (.ireturn, 1) := by decide +kernel
theorem d_M_left_0 : decode prog_7_method_19_code 0 = .ok (.aload_n 0, 1) := by decide +kernel
theorem d_M_left_1 : decode prog_7_method_19_code 1 = .ok (.iconst 0, 1) := by decide +kernel
theorem d_M_left_2 : decode prog_7_method_19_code 2 = .ok (.putfield 41, 3) := by decide +kernel
theorem d_M_left_5 : decode prog_7_method_19_code 5 = .ok (.iload_n 1, 1) := by decide +kernel
theorem d_M_left_6 : decode prog_7_method_19_code 6 = .ok (.ifCond .lt 20, 3) := by decide +kernel
theorem d_M_left_9 : decode prog_7_method_19_code 9 = .ok (.iload_n 1, 1) := by decide +kernel
theorem d_M_left_10 : decode prog_7_method_19_code 10 = .ok (.aload_n 0, 1) := by decide +kernel
theorem d_M_left_11 : decode prog_7_method_19_code 11 = .ok (.getfield 84, 3) := by decide +kernel
theorem d_M_left_14 : decode prog_7_method_19_code 14 = .ok (.if_icmp .ge 12, 3) := by decide +kernel
theorem d_M_left_17 : decode prog_7_method_19_code 17 = .ok (.aload_n 0, 1) := by decide +kernel
theorem d_M_left_18 : decode prog_7_method_19_code 18 = .ok (.getfield 32, 3) := by decide +kernel
theorem d_M_left_21 : decode prog_7_method_19_code 21 = .ok (.iload_n 1, 1) := by decide +kernel
theorem d_M_left_22 : decode prog_7_method_19_code 22 = .ok (.iaload, 1) := by decide +kernel
theorem d_M_left_23 : decode prog_7_method_19_code 23 = .ok (.goto 4, 3) := by decide +kernel
theorem d_M_left_26 : decode prog_7_method_19_code 26 = .ok (.iconst 0, 1) := by decide +kernel
theorem d_M_left_27 : decode prog_7_method_19_code 27 = .ok (.ireturn, 1) := by decide +kernel
theorem d_M_copy_0 : decode prog_7_method_20_code 0 = .ok (.aload_n 0, 1) := by decide +kernel
theorem d_M_copy_1 : decode prog_7_method_20_code 1 = .ok (.iconst 0, 1) := by decide +kernel
theorem d_M_copy_2 : decode prog_7_method_20_code 2 = .ok (.putfield 41, 3) := by decide +kernel
theorem d_M_copy_5 : decode prog_7_method_20_code 5 = .ok (.iload_n 1, 1) := by decide +kernel
theorem d_M_copy_6 : decode prog_7_method_20_code 6 = .ok (.invokestatic 45, 3) := by decide +kernel
theorem d_M_copy_9 : decode prog_7_method_20_code 9 = .ok (.ifCond .eq 23, 3) := by decide +kernel
theorem d_M_copy_12 : decode prog_7_method_20_code 12 = .ok (.iload_n 2, 1) := by decide +kernel
theorem d_M_copy_13 : decode prog_7_method_20_code 13 = .ok (.invokestatic 45, 3) := by decide +kernel
theorem d_M_copy_16 : decode prog_7_method_20_code 16 = .ok (.ifCond .eq 16, 3) := by decide +kernel
theorem d_M_copy_19 : decode prog_7_method_20_code 19 = .ok (.iload_n 1, 1) := by decide +kernel
theorem d_M_copy_20 : decode prog_7_method_20_code 20 = .ok (.iload_n 2, 1) := by decide +kernel
theorem d_M_copy_21 : decode prog_7_method_20_code 21 = .ok (.if_icmp .eq 11, 3) := by decide +kernel
theorem d_M_copy_24 : decode prog_7_method_20_code 24 = .ok (.aload_n 0, 1) := by decide +kernel
theorem d_M_copy_25 : decode prog_7_method_20_code 25 = .ok (.iload_n 1, 1) := by decide +kernel
theorem d_M_copy_26 : decode prog_7_method_20_code 26 = .ok (.invokevirtual 74, 3) := by decide +kernel
theorem d_M_copy_29 : decode prog_7_method_20_code 29 = .ok (.ifCond .le 5, 3) := by decide +kernel
theorem d_M_copy_32 : decode prog_7_method_20_code 32 = .ok (.iconst (-1), 1) := by decide +kernel
theorem d_M_copy_33 : decode prog_7_method_20_code 33 = .ok (.ireturn, 1) := by decide +kernel
theorem d_M_copy_34 : decode prog_7_method_20_code 34 = .ok (.iconst 0, 1) := by decide +kernel
theorem d_M_copy_35 : decode prog_7_method_20_code 35 = .ok (.istore_n 3, 1) := by decide +kernel
theorem d_M_copy_36 : decode prog_7_method_20_code 36 = .ok (.iload_n 3, 1) := by decide +kernel
theorem d_M_copy_37 : decode prog_7_method_20_code 37 = .ok (.bipush 16, 2) := by decide +kernel
theorem d_M_copy_39 : decode prog_7_method_20_code 39 = .ok (.if_icmp .ge 31, 3) := by decide +kernel
theorem d_M_copy_42 : decode prog_7_method_20_code 42 = .ok (.aload_n 0, 1) := by decide +kernel
theorem d_M_copy_43 : decode prog_7_method_20_code 43 = .ok (.getfield 7, 3) := by decide +kernel
theorem d_M_copy_46 : decode prog_7_method_20_code 46 = .ok (.bipush 16, 2) := by decide +kernel
theorem d_M_copy_48 : decode prog_7_method_20_code 48 = .ok (.iload_n 1, 1) := by decide +kernel
theorem d_M_copy_49 : decode prog_7_method_20_code 49 = .ok (.imul, 1) := by decide +kernel
theorem d_M_copy_50 : decode prog_7_method_20_code 50 = .ok (.iload_n 3, 1) := by decide +kernel
theorem d_M_copy_51 : decode prog_7_method_20_code 51 = .ok (.iadd, 1) := by decide +kernel
theorem d_M_copy_52 : decode prog_7_method_20_code 52 = .ok (.aload_n 0, 1) := by decide +kernel
theorem d_M_copy_53 : decode prog_7_method_20_code 53 = .ok (.getfield 7, 3) := by decide +kernel
theorem d_M_copy_56 : decode prog_7_method_20_code 56 = .ok (.bipush 16, 2) := by decide +kernel
theorem d_M_copy_58 : decode prog_7_method_20_code 58 = .ok (.iload_n 2, 1) := by decide +kernel
theorem d_M_copy_59 : decode prog_7_method_20_code 59 = .ok (.imul, 1) := by decide +kernel
theorem d_M_copy_60 : decode prog_7_method_20_code 60 = .ok (.iload_n 3, 1) := by decide +kernel
theorem d_M_copy_61 : decode prog_7_method_20_code 61 = .ok (.iadd, 1) := by decide +kernel
theorem d_M_copy_62 : decode prog_7_method_20_code 62 = .ok (.iaload, 1) := by decide +kernel
theorem d_M_copy_63 : decode prog_7_method_20_code 63 = .ok (.iastore, 1) := by decide +kernel
theorem d_M_copy_64 : decode prog_7_method_20_code 64 = .ok (.iinc 3 1, 3) := by decide +kernel
theorem d_M_copy_67 : decode prog_7_method_20_code 67 = .ok (.goto (-31), 3) := by decide +kernel
theorem d_M_copy_70 : decode prog_7_method_20_code 70 = .ok (.aload_n 0, 1) := by decide +kernel
theorem d_M_copy_71 : decode prog_7_method_20_code 71 = .ok (.iload_n 2, 1) := by decide +kernel
theorem d_M_copy_72 : decode prog_7_method_20_code 72 = .ok (.invokevirtual 74, 3) := by decide +kernel
theorem d_M_copy_75 : decode prog_7_method_20_code 75 = .ok (.ireturn, 1) := by decide +kernel
theorem d_M_about_0 : decode prog_7_method_21_code 0 = .ok (.aload_n 0, 1) := by decide +kernel
theorem d_M_about_1 : decode prog_7_method_21_code 1 = .ok (.iconst 0, 1) := by decide +kernel
theorem d_M_about_2 : decode prog_7_method_21_code 2 = .ok (.putfield 41, 3) := by decide +kernel
theorem d_M_about_5 : decode prog_7_method_21_code 5 = .ok (.aload_n 0, 1) := by decide +kernel
theorem d_M_about_6 : decode prog_7_method_21_code 6 = .ok (.iload_n 1, 1) := by decide +kernel
theorem d_M_about_7 : decode prog_7_method_21_code 7 = .ok (.iload_n 2, 1) := by decide +kernel
theorem d_M_about_8 : decode prog_7_method_21_code 8 = .ok (.invokevirtual 77, 3) := by decide +kernel
theorem d_M_about_11 : decode prog_7_method_21_code 11 = .ok (.istore 4, 2) := by decide +kernel
theorem d_M_about_13 : decode prog_7_method_21_code 13 = .ok (.iload 4, 2) := by decide +kernel
theorem d_M_about_15 : decode prog_7_method_21_code 15 = .ok (.ifCond .ge 5, 3) := by decide +kernel
theorem d_M_about_18 : decode prog_7_method_21_code 18 = .ok (.iconst (-1), 1) := by decide +kernel
theorem d_M_about_19 : decode prog_7_method_21_code 19 = .ok (.ireturn, 1) := by decide +kernel
theorem d_M_about_20 : decode prog_7_method_21_code 20 = .ok (.iload_n 3, 1) := by decide +kernel
theorem d_M_about_21 : decode prog_7_method_21_code 21 = .ok (.tableswitch 97 0 6 #[43, 51, 59, 69, 79, 87, 94], 43) := by decide +kernel
theorem d_M_about_64 : decode prog_7_method_21_code 64 = .ok (.aload_n 0, 1) := by decide +kernel
theorem d_M_about_65 : decode prog_7_method_21_code 65 = .ok (.getfield 13, 3) := by decide +kernel
theorem d_M_about_68 : decode prog_7_method_21_code 68 = .ok (.iload 4, 2) := by decide +kernel
theorem d_M_about_70 : decode prog_7_method_21_code 70 = .ok (.iaload, 1) := by decide +kernel
theorem d_M_about_71 : decode prog_7_method_21_code 71 = .ok (.ireturn, 1) := by decide +kernel
theorem d_M_about_72 : decode prog_7_method_21_code 72 = .ok (.aload_n 0, 1) := by decide +kernel
theorem d_M_about_73 : decode prog_7_method_21_code 73 = .ok (.getfield 16, 3) := by decide +kernel
theorem d_M_about_76 : decode prog_7_method_21_code 76 = .ok (.iload 4, 2) := by decide +kernel
theorem d_M_about_78 : decode prog_7_method_21_code 78 = .ok (.iaload, 1) := by decide +kernel
theorem d_M_about_79 : decode prog_7_method_21_code 79 = .ok (.ireturn, 1) := by decide +kernel
theorem d_M_about_80 : decode prog_7_method_21_code 80 = .ok (.aload_n 0, 1) := by decide +kernel
theorem d_M_about_81 : decode prog_7_method_21_code 81 = .ok (.getfield 19, 3) := by decide +kernel
theorem d_M_about_84 : decode prog_7_method_21_code 84 = .ok (.iload 4, 2) := by decide +kernel
theorem d_M_about_86 : decode prog_7_method_21_code 86 = .ok (.iaload, 1) := by decide +kernel
theorem d_M_about_87 : decode prog_7_method_21_code 87 = .ok (.iconst 2, 1) := by decide +kernel
theorem d_M_about_88 : decode prog_7_method_21_code 88 = .ok (.irem, 1) := by decide +kernel
theorem d_M_about_89 : decode prog_7_method_21_code 89 = .ok (.ireturn, 1) := by decide +kernel
theorem d_M_about_90 : decode prog_7_method_21_code 90 = .ok (.aload_n 0, 1) := by decide +kernel
theorem d_M_about_91 : decode prog_7_method_21_code 91 = .ok (.getfield 19, 3) := by decide +kernel
theorem d_M_about_94 : decode prog_7_method_21_code 94 = .ok (.iload 4, 2) := by decide +kernel
theorem d_M_about_96 : decode prog_7_method_21_code 96 = .ok (.iaload, 1) := by decide +kernel
theorem d_M_about_97 : decode prog_7_method_21_code 97 = .ok (.iconst 2, 1) := by decide +kernel
theorem d_M_about_98 : decode prog_7_method_21_code 98 = .ok (.idiv, 1) := by decide +kernel
theorem d_M_about_99 : decode prog_7_method_21_code 99 = .ok (.ireturn, 1) := by decide +kernel
theorem d_M_about_100 : decode prog_7_method_21_code 100 = .ok (.aload_n 0, 1) := by decide +kernel
theorem d_M_about_101 : decode prog_7_method_21_code 101 = .ok (.getfield 22, 3) := by decide +kernel
theorem d_M_about_104 : decode prog_7_method_21_code 104 = .ok (.iload 4, 2) := by decide +kernel
theorem d_M_about_106 : decode prog_7_method_21_code 106 = .ok (.iaload, 1) := by decide +kernel
theorem d_M_about_107 : decode prog_7_method_21_code 107 = .ok (.ireturn, 1) := by decide +kernel
theorem d_M_about_108 : decode prog_7_method_21_code 108 = .ok (.aload_n 0, 1) := by decide +kernel
theorem d_M_about_109 : decode prog_7_method_21_code 109 = .ok (.iload 4, 2) := by decide +kernel
theorem d_M_about_111 : decode prog_7_method_21_code 111 = .ok (.invokevirtual 49, 3) := by decide +kernel
theorem d_M_about_114 : decode prog_7_method_21_code 114 = .ok (.ireturn, 1) := by decide +kernel
theorem d_M_about_115 : decode prog_7_method_21_code 115 = .ok (.iload 4, 2) := by decide +kernel
theorem d_M_about_117 : decode prog_7_method_21_code 117 = .ok (.ireturn, 1) := by decide +kernel
theorem d_M_about_118 : decode prog_7_method_21_code 118 = .ok (.iconst (-1), 1) := by decide +kernel
theorem d_M_about_119 : decode prog_7_method_21_code 119 = .ok (.ireturn, 1) := by decide +kernel
theorem d_M_move_0 : decode prog_7_method_22_code 0 = .ok (.aload_n 0, 1) := by decide +kernel
theorem d_M_move_1 : decode prog_7_method_22_code 1 = .ok (.iconst 0, 1) := by decide +kernel
theorem d_M_move_2 : decode prog_7_method_22_code 2 = .ok (.putfield 41, 3) := by decide +kernel
theorem d_M_move_5 : decode prog_7_method_22_code 5 = .ok (.aload_n 0, 1) := by decide +kernel
theorem d_M_move_6 : decode prog_7_method_22_code 6 = .ok (.iload_n 1, 1) := by decide +kernel
theorem d_M_move_7 : decode prog_7_method_22_code 7 = .ok (.iload_n 2, 1) := by decide +kernel
theorem d_M_move_8 : decode prog_7_method_22_code 8 = .ok (.invokevirtual 77, 3) := by decide +kernel
theorem d_M_move_11 : decode prog_7_method_22_code 11 = .ok (.istore 4, 2) := by decide +kernel
theorem d_M_move_13 : decode prog_7_method_22_code 13 = .ok (.iload 4, 2) := by decide +kernel
theorem d_M_move_15 : decode prog_7_method_22_code 15 = .ok (.ifCond .lt 18, 3) := by decide +kernel
theorem d_M_move_18 : decode prog_7_method_22_code 18 = .ok (.aload_n 0, 1) := by decide +kernel
theorem d_M_move_19 : decode prog_7_method_22_code 19 = .ok (.getfield 13, 3) := by decide +kernel
theorem d_M_move_22 : decode prog_7_method_22_code 22 = .ok (.iload 4, 2) := by decide +kernel
theorem d_M_move_24 : decode prog_7_method_22_code 24 = .ok (.iaload, 1) := by decide +kernel
theorem d_M_move_25 : decode prog_7_method_22_code 25 = .ok (.iconst 2, 1) := by decide +kernel
theorem d_M_move_26 : decode prog_7_method_22_code 26 = .ok (.if_icmp .ne 7, 3) := by decide +kernel
theorem d_M_move_29 : decode prog_7_method_22_code 29 = .ok (.iload_n 3, 1) := by decide +kernel
theorem d_M_move_30 : decode prog_7_method_22_code 30 = .ok (.ifCond .ge 5, 3) := by decide +kernel
theorem d_M_move_33 : decode prog_7_method_22_code 33 = .ok (.iconst 0, 1) := by decide +kernel
theorem d_M_move_34 : decode prog_7_method_22_code 34 = .ok (.ireturn, 1) := by decide +kernel
theorem d_M_move_35 : decode prog_7_method_22_code 35 = .ok (.aload_n 0, 1) := by decide +kernel
theorem d_M_move_36 : decode prog_7_method_22_code 36 = .ok (.getfield 22, 3) := by decide +kernel
theorem d_M_move_39 : decode prog_7_method_22_code 39 = .ok (.iload 4, 2) := by decide +kernel
theorem d_M_move_41 : decode prog_7_method_22_code 41 = .ok (.iload_n 3, 1) := by decide +kernel
theorem d_M_move_42 : decode prog_7_method_22_code 42 = .ok (.iastore, 1) := by decide +kernel
theorem d_M_move_43 : decode prog_7_method_22_code 43 = .ok (.iconst 1, 1) := by decide +kernel
theorem d_M_move_44 : decode prog_7_method_22_code 44 = .ok (.ireturn, 1) := by decide +kernel
theorem d_M_put_0 : decode prog_7_method_23_code 0 = .ok (.aload_n 0, 1) := by decide +kernel
theorem d_M_put_1 : decode prog_7_method_23_code 1 = .ok (.iconst 0, 1) := by decide +kernel
theorem d_M_put_2 : decode prog_7_method_23_code 2 = .ok (.putfield 41, 3) := by decide +kernel
theorem d_M_put_5 : decode prog_7_method_23_code 5 = .ok (.aload_n 0, 1) := by decide +kernel
theorem d_M_put_6 : decode prog_7_method_23_code 6 = .ok (.iload_n 1, 1) := by decide +kernel
theorem d_M_put_7 : decode prog_7_method_23_code 7 = .ok (.iload_n 2, 1) := by decide +kernel
theorem d_M_put_8 : decode prog_7_method_23_code 8 = .ok (.invokevirtual 77, 3) := by decide +kernel
theorem d_M_put_11 : decode prog_7_method_23_code 11 = .ok (.istore 4, 2) := by decide +kernel
theorem d_M_put_13 : decode prog_7_method_23_code 13 = .ok (.iload 4, 2) := by decide +kernel
theorem d_M_put_15 : decode prog_7_method_23_code 15 = .ok (.ifCond .lt 25, 3) := by decide +kernel
theorem d_M_put_18 : decode prog_7_method_23_code 18 = .ok (.aload_n 0, 1) := by decide +kernel
theorem d_M_put_19 : decode prog_7_method_23_code 19 = .ok (.getfield 13, 3) := by decide +kernel
theorem d_M_put_22 : decode prog_7_method_23_code 22 = .ok (.iload 4, 2) := by decide +kernel
theorem d_M_put_24 : decode prog_7_method_23_code 24 = .ok (.iaload, 1) := by decide +kernel
theorem d_M_put_25 : decode prog_7_method_23_code 25 = .ok (.iconst 1, 1) := by decide +kernel
theorem d_M_put_26 : decode prog_7_method_23_code 26 = .ok (.if_icmp .ne 14, 3) := by decide +kernel
theorem d_M_put_29 : decode prog_7_method_23_code 29 = .ok (.aload_n 0, 1) := by decide +kernel
theorem d_M_put_30 : decode prog_7_method_23_code 30 = .ok (.getfield 19, 3) := by decide +kernel
