theorem d_Check_init_0 : decode c_Check_init 0 = .ok (.aload_n 0, 1) := by decide +kernel
theorem d_Check_init_1 : decode c_Check_init 1 = .ok (.invokespecial 3, 3) := by decide +kernel
theorem d_Check_init_4 : decode c_Check_init 4 = .ok (.aload_n 0, 1) := by decide +kernel
theorem d_Check_init_5 : decode c_Check_init 5 = .ok (.aload_n 1, 1) := by decide +kernel
theorem d_Check_init_6 : decode c_Check_init 6 = .ok (.putfield 9, 3) := by decide +kernel
theorem d_Check_init_9 : decode c_Check_init 9 = .ok (.aload_n 0, 1) := by decide +kernel
theorem d_Check_init_10 : decode c_Check_init 10 = .ok (.bipush 60, 2) := by decide +kernel
theorem d_Check_init_12 : decode c_Check_init 12 = .ok (.newarray .int, 2) := by decide +kernel
theorem d_Check_init_14 : decode c_Check_init 14 = .ok (.putfield 15, 3) := by decide +kernel
theorem d_Check_init_17 : decode c_Check_init 17 = .ok (.aload_n 0, 1) := by decide +kernel
theorem d_Check_init_18 : decode c_Check_init 18 = .ok (.bipush 60, 2) := by decide +kernel
theorem d_Check_init_20 : decode c_Check_init 20 = .ok (.newarray .int, 2) := by decide +kernel
theorem d_Check_init_22 : decode c_Check_init 22 = .ok (.putfield 19, 3) := by decide +kernel
theorem d_Check_init_25 : decode c_Check_init 25 = .ok (.aload_n 0, 1) := by decide +kernel
theorem d_Check_init_26 : decode c_Check_init 26 = .ok (.iconst 0, 1) := by decide +kernel
theorem d_Check_init_27 : decode c_Check_init 27 = .ok (.putfield 22, 3) := by decide +kernel
theorem d_Check_init_30 : decode c_Check_init 30 = .ok (.aload_n 0, 1) := by decide +kernel
theorem d_Check_init_31 : decode c_Check_init 31 = .ok (.iconst 0, 1) := by decide +kernel
theorem d_Check_init_32 : decode c_Check_init 32 = .ok (.putfield 26, 3) := by decide +kernel
theorem d_Check_init_35 : decode c_Check_init 35 = .ok (.aload_n 0, 1) := by decide +kernel
theorem d_Check_init_36 : decode c_Check_init 36 = .ok (.invokevirtual 29, 3) := by decide +kernel
theorem d_Check_init_39 : decode c_Check_init 39 = .ok (.return_, 1) := by decide +kernel
theorem d_Check_forget_0 : decode c_Check_forget 0 = .ok (.aload_n 0, 1) := by decide +kernel
theorem d_Check_forget_1 : decode c_Check_forget 1 = .ok (.getfield 15, 3) := by decide +kernel
theorem d_Check_forget_4 : decode c_Check_forget 4 = .ok (.iconst (-1), 1) := by decide +kernel
theorem d_Check_forget_5 : decode c_Check_forget 5 = .ok (.invokestatic 32, 3) := by decide +kernel
theorem d_Check_forget_8 : decode c_Check_forget 8 = .ok (.aload_n 0, 1) := by decide +kernel
theorem d_Check_forget_9 : decode c_Check_forget 9 = .ok (.getfield 19, 3) := by decide +kernel
theorem d_Check_forget_12 : decode c_Check_forget 12 = .ok (.iconst (-1), 1) := by decide +kernel
theorem d_Check_forget_13 : decode c_Check_forget 13 = .ok (.invokestatic 32, 3) := by decide +kernel
theorem d_Check_forget_16 : decode c_Check_forget 16 = .ok (.aload_n 0, 1) := by decide +kernel
theorem d_Check_forget_17 : decode c_Check_forget 17 = .ok (.iconst (-1), 1) := by decide +kernel
theorem d_Check_forget_18 : decode c_Check_forget 18 = .ok (.putfield 38, 3) := by decide +kernel
theorem d_Check_forget_21 : decode c_Check_forget 21 = .ok (.aload_n 0, 1) := by decide +kernel
theorem d_Check_forget_22 : decode c_Check_forget 22 = .ok (.iconst (-1), 1) := by decide +kernel
theorem d_Check_forget_23 : decode c_Check_forget 23 = .ok (.putfield 41, 3) := by decide +kernel
theorem d_Check_forget_26 : decode c_Check_forget 26 = .ok (.aload_n 0, 1) := by decide +kernel
theorem d_Check_forget_27 : decode c_Check_forget 27 = .ok (.iconst (-1), 1) := by decide +kernel
theorem d_Check_forget_28 : decode c_Check_forget 28 = .ok (.putfield 44, 3) := by decide +kernel
theorem d_Check_forget_31 : decode c_Check_forget 31 = .ok (.return_, 1) := by decide +kernel
theorem d_Check_answer_0 : decode c_Check_answer 0 = .ok (.aload_n 0, 1) := by decide +kernel
theorem d_Check_answer_1 : decode c_Check_answer 1 = .ok (.getfield 38, 3) := by decide +kernel
theorem d_Check_answer_4 : decode c_Check_answer 4 = .ok (.ireturn, 1) := by decide +kernel
theorem d_Check_faultSegment_0 : decode c_Check_faultSegment 0 = .ok (.aload_n 0, 1) := by decide +kernel
theorem d_Check_faultSegment_1 : decode c_Check_faultSegment 1 = .ok (.getfield 41, 3) := by decide +kernel
theorem d_Check_faultSegment_4 : decode c_Check_faultSegment 4 = .ok (.ireturn, 1) := by decide +kernel
theorem d_Check_faultRow_0 : decode c_Check_faultRow 0 = .ok (.aload_n 0, 1) := by decide +kernel
theorem d_Check_faultRow_1 : decode c_Check_faultRow 1 = .ok (.getfield 44, 3) := by decide +kernel
theorem d_Check_faultRow_4 : decode c_Check_faultRow 4 = .ok (.ireturn, 1) := by decide +kernel
theorem d_Check_rowOf_0 : decode c_Check_rowOf 0 = .ok (.iload_n 1, 1) := by decide +kernel
theorem d_Check_rowOf_1 : decode c_Check_rowOf 1 = .ok (.ifCond .lt 21, 3) := by decide +kernel
theorem d_Check_rowOf_4 : decode c_Check_rowOf 4 = .ok (.iload_n 1, 1) := by decide +kernel
theorem d_Check_rowOf_5 : decode c_Check_rowOf 5 = .ok (.aload_n 0, 1) := by decide +kernel
theorem d_Check_rowOf_6 : decode c_Check_rowOf 6 = .ok (.getfield 15, 3) := by decide +kernel
theorem d_Check_rowOf_9 : decode c_Check_rowOf 9 = .ok (.arraylength, 1) := by decide +kernel
theorem d_Check_rowOf_10 : decode c_Check_rowOf 10 = .ok (.if_icmp .ge 12, 3) := by decide +kernel
theorem d_Check_rowOf_13 : decode c_Check_rowOf 13 = .ok (.aload_n 0, 1) := by decide +kernel
theorem d_Check_rowOf_14 : decode c_Check_rowOf 14 = .ok (.getfield 15, 3) := by decide +kernel
theorem d_Check_rowOf_17 : decode c_Check_rowOf 17 = .ok (.iload_n 1, 1) := by decide +kernel
theorem d_Check_rowOf_18 : decode c_Check_rowOf 18 = .ok (.iaload, 1) := by decide +kernel
theorem d_Check_rowOf_19 : decode c_Check_rowOf 19 = .ok (.goto 4, 3) := by decide +kernel
theorem d_Check_rowOf_22 : decode c_Check_rowOf 22 = .ok (.iconst (-1), 1) := by decide +kernel
theorem d_Check_rowOf_23 : decode c_Check_rowOf 23 = .ok (.ireturn, 1) := by decide +kernel
theorem d_Check_aboveOf_0 : decode c_Check_aboveOf 0 = .ok (.iload_n 1, 1) := by decide +kernel
theorem d_Check_aboveOf_1 : decode c_Check_aboveOf 1 = .ok (.ifCond .lt 21, 3) := by decide +kernel
theorem d_Check_aboveOf_4 : decode c_Check_aboveOf 4 = .ok (.iload_n 1, 1) := by decide +kernel
theorem d_Check_aboveOf_5 : decode c_Check_aboveOf 5 = .ok (.aload_n 0, 1) := by decide +kernel
theorem d_Check_aboveOf_6 : decode c_Check_aboveOf 6 = .ok (.getfield 19, 3) := by decide +kernel
theorem d_Check_aboveOf_9 : decode c_Check_aboveOf 9 = .ok (.arraylength, 1) := by decide +kernel
theorem d_Check_aboveOf_10 : decode c_Check_aboveOf 10 = .ok (.if_icmp .ge 12, 3) := by decide +kernel
theorem d_Check_aboveOf_13 : decode c_Check_aboveOf 13 = .ok (.aload_n 0, 1) := by decide +kernel
theorem d_Check_aboveOf_14 : decode c_Check_aboveOf 14 = .ok (.getfield 19, 3) := by decide +kernel
theorem d_Check_aboveOf_17 : decode c_Check_aboveOf 17 = .ok (.iload_n 1, 1) := by decide +kernel
theorem d_Check_aboveOf_18 : decode c_Check_aboveOf 18 = .ok (.iaload, 1) := by decide +kernel
theorem d_Check_aboveOf_19 : decode c_Check_aboveOf 19 = .ok (.goto 4, 3) := by decide +kernel
theorem d_Check_aboveOf_22 : decode c_Check_aboveOf 22 = .ok (.iconst (-1), 1) := by decide +kernel
theorem d_Check_aboveOf_23 : decode c_Check_aboveOf 23 = .ok (.ireturn, 1) := by decide +kernel
theorem d_Check_toldKind_0 : decode c_Check_toldKind 0 = .ok (.aload_n 0, 1) := by decide +kernel
theorem d_Check_toldKind_1 : decode c_Check_toldKind 1 = .ok (.getfield 9, 3) := by decide +kernel
theorem d_Check_toldKind_4 : decode c_Check_toldKind 4 = .ok (.iconst 0, 1) := by decide +kernel
theorem d_Check_toldKind_5 : decode c_Check_toldKind 5 = .ok (.iconst 1, 1) := by decide +kernel
theorem d_Check_toldKind_6 : decode c_Check_toldKind 6 = .ok (.iconst 0, 1) := by decide +kernel
theorem d_Check_toldKind_7 : decode c_Check_toldKind 7 = .ok (.iconst 0, 1) := by decide +kernel
theorem d_Check_toldKind_8 : decode c_Check_toldKind 8 = .ok (.invokevirtual 47, 3) := by decide +kernel
theorem d_Check_toldKind_11 : decode c_Check_toldKind 11 = .ok (.istore_n 1, 1) := by decide +kernel
theorem d_Check_toldKind_12 : decode c_Check_toldKind 12 = .ok (.aload_n 0, 1) := by decide +kernel
theorem d_Check_toldKind_13 : decode c_Check_toldKind 13 = .ok (.getfield 9, 3) := by decide +kernel
theorem d_Check_toldKind_16 : decode c_Check_toldKind 16 = .ok (.iload_n 1, 1) := by decide +kernel
theorem d_Check_toldKind_17 : decode c_Check_toldKind 17 = .ok (.invokevirtual 53, 3) := by decide +kernel
theorem d_Check_toldKind_20 : decode c_Check_toldKind 20 = .ok (.iconst 1, 1) := by decide +kernel
theorem d_Check_toldKind_21 : decode c_Check_toldKind 21 = .ok (.if_icmp .ne 18, 3) := by decide +kernel
theorem d_Check_toldKind_24 : decode c_Check_toldKind 24 = .ok (.aload_n 0, 1) := by decide +kernel
theorem d_Check_toldKind_25 : decode c_Check_toldKind 25 = .ok (.getfield 9, 3) := by decide +kernel
theorem d_Check_toldKind_28 : decode c_Check_toldKind 28 = .ok (.iload_n 1, 1) := by decide +kernel
theorem d_Check_toldKind_29 : decode c_Check_toldKind 29 = .ok (.iconst 0, 1) := by decide +kernel
theorem d_Check_toldKind_30 : decode c_Check_toldKind 30 = .ok (.invokevirtual 57, 3) := by decide +kernel
theorem d_Check_toldKind_33 : decode c_Check_toldKind 33 = .ok (.bipush 48, 2) := by decide +kernel
theorem d_Check_toldKind_35 : decode c_Check_toldKind 35 = .ok (.isub, 1) := by decide +kernel
theorem d_Check_toldKind_36 : decode c_Check_toldKind 36 = .ok (.goto 4, 3) := by decide +kernel
theorem d_Check_toldKind_39 : decode c_Check_toldKind 39 = .ok (.iconst (-1), 1) := by decide +kernel
theorem d_Check_toldKind_40 : decode c_Check_toldKind 40 = .ok (.ireturn, 1) := by decide +kernel
theorem d_Check_run_0 : decode c_Check_run 0 = .ok (.aload_n 0, 1) := by decide +kernel
theorem d_Check_run_1 : decode c_Check_run 1 = .ok (.invokevirtual 29, 3) := by decide +kernel
theorem d_Check_run_4 : decode c_Check_run 4 = .ok (.aload_n 0, 1) := by decide +kernel
theorem d_Check_run_5 : decode c_Check_run 5 = .ok (.aload_n 0, 1) := by decide +kernel
theorem d_Check_run_6 : decode c_Check_run 6 = .ok (.getfield 9, 3) := by decide +kernel
theorem d_Check_run_9 : decode c_Check_run 9 = .ok (.invokevirtual 61, 3) := by decide +kernel
theorem d_Check_run_12 : decode c_Check_run 12 = .ok (.iconst 1, 1) := by decide +kernel
theorem d_Check_run_13 : decode c_Check_run 13 = .ok (.isub, 1) := by decide +kernel
theorem d_Check_run_14 : decode c_Check_run 14 = .ok (.putfield 26, 3) := by decide +kernel
theorem d_Check_run_17 : decode c_Check_run 17 = .ok (.aload_n 0, 1) := by decide +kernel
theorem d_Check_run_18 : decode c_Check_run 18 = .ok (.aload_n 0, 1) := by decide +kernel
theorem d_Check_run_19 : decode c_Check_run 19 = .ok (.invokevirtual 65, 3) := by decide +kernel
theorem d_Check_run_22 : decode c_Check_run 22 = .ok (.putfield 38, 3) := by decide +kernel
theorem d_Check_run_25 : decode c_Check_run 25 = .ok (.aload_n 0, 1) := by decide +kernel
theorem d_Check_run_26 : decode c_Check_run 26 = .ok (.getfield 38, 3) := by decide +kernel
theorem d_Check_run_29 : decode c_Check_run 29 = .ok (.ifCond .ne 37, 3) := by decide +kernel
theorem d_Check_run_32 : decode c_Check_run 32 = .ok (.aload_n 1, 1) := by decide +kernel
theorem d_Check_run_33 : decode c_Check_run 33 = .ok (.ifnull 14, 3) := by decide +kernel
theorem d_Check_run_36 : decode c_Check_run 36 = .ok (.aload_n 1, 1) := by decide +kernel
theorem d_Check_run_37 : decode c_Check_run 37 = .ok (.invokevirtual 68, 3) := by decide +kernel
theorem d_Check_run_40 : decode c_Check_run 40 = .ok (.ifCond .le 7, 3) := by decide +kernel
theorem d_Check_run_43 : decode c_Check_run 43 = .ok (.iconst 1, 1) := by decide +kernel
theorem d_Check_run_44 : decode c_Check_run 44 = .ok (.goto 4, 3) := by decide +kernel
theorem d_Check_run_47 : decode c_Check_run 47 = .ok (.iconst 0, 1) := by decide +kernel
theorem d_Check_run_48 : decode c_Check_run 48 = .ok (.istore_n 2, 1) := by decide +kernel
theorem d_Check_run_49 : decode c_Check_run 49 = .ok (.aload_n 0, 1) := by decide +kernel
theorem d_Check_run_50 : decode c_Check_run 50 = .ok (.iload_n 2, 1) := by decide +kernel
theorem d_Check_run_51 : decode c_Check_run 51 = .ok (.ifCond .eq 11, 3) := by decide +kernel
theorem d_Check_run_54 : decode c_Check_run 54 = .ok (.aload_n 0, 1) := by decide +kernel
theorem d_Check_run_55 : decode c_Check_run 55 = .ok (.aload_n 1, 1) := by decide +kernel
theorem d_Check_run_56 : decode c_Check_run 56 = .ok (.invokevirtual 71, 3) := by decide +kernel
theorem d_Check_run_59 : decode c_Check_run 59 = .ok (.goto 4, 3) := by decide +kernel
theorem d_Check_run_62 : decode c_Check_run 62 = .ok (.iconst 5, 1) := by decide +kernel
theorem d_Check_run_63 : decode c_Check_run 63 = .ok (.putfield 38, 3) := by decide +kernel
theorem d_Check_run_66 : decode c_Check_run 66 = .ok (.aload_n 0, 1) := by decide +kernel
theorem d_Check_run_67 : decode c_Check_run 67 = .ok (.getfield 38, 3) := by decide +kernel
theorem d_Check_run_70 : decode c_Check_run 70 = .ok (.ireturn, 1) := by decide +kernel
theorem d_Check_faultOfFrame_0 : decode c_Check_faultOfFrame 0 = .ok (.aload_n 0, 1) := by decide +kernel
theorem d_Check_faultOfFrame_1 : decode c_Check_faultOfFrame 1 = .ok (.getfield 9, 3) := by decide +kernel
theorem d_Check_faultOfFrame_4 : decode c_Check_faultOfFrame 4 = .ok (.iconst 0, 1) := by decide +kernel
theorem d_Check_faultOfFrame_5 : decode c_Check_faultOfFrame 5 = .ok (.invokevirtual 75, 3) := by decide +kernel
theorem d_Check_faultOfFrame_8 : decode c_Check_faultOfFrame 8 = .ok (.ldc 80, 2) := by decide +kernel
theorem d_Check_faultOfFrame_10 : decode c_Check_faultOfFrame 10 = .ok (.if_icmp .eq 5, 3) := by decide +kernel
theorem d_Check_faultOfFrame_13 : decode c_Check_faultOfFrame 13 = .ok (.iconst 1, 1) := by decide +kernel
theorem d_Check_faultOfFrame_14 : decode c_Check_faultOfFrame 14 = .ok (.ireturn, 1) := by decide +kernel
theorem d_Check_faultOfFrame_15 : decode c_Check_faultOfFrame 15 = .ok (.aload_n 0, 1) := by decide +kernel
theorem d_Check_faultOfFrame_16 : decode c_Check_faultOfFrame 16 = .ok (.getfield 26, 3) := by decide +kernel
theorem d_Check_faultOfFrame_19 : decode c_Check_faultOfFrame 19 = .ok (.iconst 1, 1) := by decide +kernel
theorem d_Check_faultOfFrame_20 : decode c_Check_faultOfFrame 20 = .ok (.if_icmp .lt 19, 3) := by decide +kernel
theorem d_Check_faultOfFrame_23 : decode c_Check_faultOfFrame 23 = .ok (.aload_n 0, 1) := by decide +kernel
theorem d_Check_faultOfFrame_24 : decode c_Check_faultOfFrame 24 = .ok (.getfield 9, 3) := by decide +kernel
theorem d_Check_faultOfFrame_27 : decode c_Check_faultOfFrame 27 = .ok (.aload_n 0, 1) := by decide +kernel
theorem d_Check_faultOfFrame_28 : decode c_Check_faultOfFrame 28 = .ok (.getfield 26, 3) := by decide +kernel
theorem d_Check_faultOfFrame_31 : decode c_Check_faultOfFrame 31 = .ok (.invokevirtual 75, 3) := by decide +kernel
theorem d_Check_faultOfFrame_34 : decode c_Check_faultOfFrame 34 = .ok (.ldc 81, 2) := by decide +kernel
theorem d_Check_faultOfFrame_36 : decode c_Check_faultOfFrame 36 = .ok (.if_icmp .eq 5, 3) := by decide +kernel
theorem d_Check_faultOfFrame_39 : decode c_Check_faultOfFrame 39 = .ok (.iconst 2, 1) := by decide +kernel
theorem d_Check_faultOfFrame_40 : decode c_Check_faultOfFrame 40 = .ok (.ireturn, 1) := by decide +kernel
theorem d_Check_faultOfFrame_41 : decode c_Check_faultOfFrame 41 = .ok (.aload_n 0, 1) := by decide +kernel
theorem d_Check_faultOfFrame_42 : decode c_Check_faultOfFrame 42 = .ok (.getfield 9, 3) := by decide +kernel
theorem d_Check_faultOfFrame_45 : decode c_Check_faultOfFrame 45 = .ok (.aload_n 0, 1) := by decide +kernel
theorem d_Check_faultOfFrame_46 : decode c_Check_faultOfFrame 46 = .ok (.getfield 9, 3) := by decide +kernel
theorem d_Check_faultOfFrame_49 : decode c_Check_faultOfFrame 49 = .ok (.aload_n 0, 1) := by decide +kernel
theorem d_Check_faultOfFrame_50 : decode c_Check_faultOfFrame 50 = .ok (.getfield 26, 3) := by decide +kernel
theorem d_Check_faultOfFrame_53 : decode c_Check_faultOfFrame 53 = .ok (.iconst 0, 1) := by decide +kernel
theorem d_Check_faultOfFrame_54 : decode c_Check_faultOfFrame 54 = .ok (.iconst 0, 1) := by decide +kernel
theorem d_Check_faultOfFrame_55 : decode c_Check_faultOfFrame 55 = .ok (.iconst 0, 1) := by decide +kernel
theorem d_Check_faultOfFrame_56 : decode c_Check_faultOfFrame 56 = .ok (.invokevirtual 47, 3) := by decide +kernel
theorem d_Check_faultOfFrame_59 : decode c_Check_faultOfFrame 59 = .ok (.aload_n 0, 1) := by decide +kernel
theorem d_Check_faultOfFrame_60 : decode c_Check_faultOfFrame 60 = .ok (.getfield 9, 3) := by decide +kernel
theorem d_Check_faultOfFrame_63 : decode c_Check_faultOfFrame 63 = .ok (.invokevirtual 61, 3) := by decide +kernel
theorem d_Check_faultOfFrame_66 : decode c_Check_faultOfFrame 66 = .ok (.invokevirtual 82, 3) := by decide +kernel
theorem d_Check_faultOfFrame_69 : decode c_Check_faultOfFrame 69 = .ok (.ifCond .ne 5, 3) := by decide +kernel
theorem d_Check_faultOfFrame_72 : decode c_Check_faultOfFrame 72 = .ok (.iconst 3, 1) := by decide +kernel
theorem d_Check_faultOfFrame_73 : decode c_Check_faultOfFrame 73 = .ok (.ireturn, 1) := by decide +kernel
theorem d_Check_faultOfFrame_74 : decode c_Check_faultOfFrame 74 = .ok (.aload_n 0, 1) := by decide +kernel
theorem d_Check_faultOfFrame_75 : decode c_Check_faultOfFrame 75 = .ok (.getfield 9, 3) := by decide +kernel
theorem d_Check_faultOfFrame_78 : decode c_Check_faultOfFrame 78 = .ok (.aload_n 0, 1) := by decide +kernel
theorem d_Check_faultOfFrame_79 : decode c_Check_faultOfFrame 79 = .ok (.getfield 26, 3) := by decide +kernel
theorem d_Check_faultOfFrame_82 : decode c_Check_faultOfFrame 82 = .ok (.iconst 1, 1) := by decide +kernel
theorem d_Check_faultOfFrame_83 : decode c_Check_faultOfFrame 83 = .ok (.iconst 0, 1) := by decide +kernel
theorem d_Check_faultOfFrame_84 : decode c_Check_faultOfFrame 84 = .ok (.iconst 0, 1) := by decide +kernel
theorem d_Check_faultOfFrame_85 : decode c_Check_faultOfFrame 85 = .ok (.invokevirtual 47, 3) := by decide +kernel
theorem d_Check_faultOfFrame_88 : decode c_Check_faultOfFrame 88 = .ok (.istore_n 1, 1) := by decide +kernel
theorem d_Check_faultOfFrame_89 : decode c_Check_faultOfFrame 89 = .ok (.aload_n 0, 1) := by decide +kernel
theorem d_Check_faultOfFrame_90 : decode c_Check_faultOfFrame 90 = .ok (.getfield 9, 3) := by decide +kernel
theorem d_Check_faultOfFrame_93 : decode c_Check_faultOfFrame 93 = .ok (.iconst 0, 1) := by decide +kernel
theorem d_Check_faultOfFrame_94 : decode c_Check_faultOfFrame 94 = .ok (.iconst 0, 1) := by decide +kernel
theorem d_Check_faultOfFrame_95 : decode c_Check_faultOfFrame 95 = .ok (.iconst 0, 1) := by decide +kernel
theorem d_Check_faultOfFrame_96 : decode c_Check_faultOfFrame 96 = .ok (.iconst 0, 1) := by decide +kernel
theorem d_Check_faultOfFrame_97 : decode c_Check_faultOfFrame 97 = .ok (.invokevirtual 47, 3) := by decide +kernel
theorem d_Check_faultOfFrame_100 : decode c_Check_faultOfFrame 100 = .ok (.istore_n 2, 1) := by decide +kernel
theorem d_Check_faultOfFrame_101 : decode c_Check_faultOfFrame 101 = .ok (.aload_n 0, 1) := by decide +kernel
theorem d_Check_faultOfFrame_102 : decode c_Check_faultOfFrame 102 = .ok (.getfield 9, 3) := by decide +kernel
theorem d_Check_faultOfFrame_105 : decode c_Check_faultOfFrame 105 = .ok (.iload_n 1, 1) := by decide +kernel
theorem d_Check_faultOfFrame_106 : decode c_Check_faultOfFrame 106 = .ok (.iload_n 2, 1) := by decide +kernel
theorem d_Check_faultOfFrame_107 : decode c_Check_faultOfFrame 107 = .ok (.invokevirtual 86, 3) := by decide +kernel
theorem d_Check_faultOfFrame_110 : decode c_Check_faultOfFrame 110 = .ok (.ifCond .eq 7, 3) := by decide +kernel
theorem d_Check_faultOfFrame_113 : decode c_Check_faultOfFrame 113 = .ok (.iconst 0, 1) := by decide +kernel
theorem d_Check_faultOfFrame_114 : decode c_Check_faultOfFrame 114 = .ok (.goto 4, 3) := by decide +kernel
theorem d_Check_faultOfFrame_117 : decode c_Check_faultOfFrame 117 = .ok (.iconst 4, 1) := by decide +kernel
theorem d_Check_faultOfFrame_118 : decode c_Check_faultOfFrame 118 = .ok (.ireturn, 1) := by decide +kernel
theorem d_Check_faultBetween_0 : decode c_Check_faultBetween 0 = .ok (.iconst 1, 1) := by decide +kernel
theorem d_Check_faultBetween_1 : decode c_Check_faultBetween 1 = .ok (.istore_n 2, 1) := by decide +kernel
theorem d_Check_faultBetween_2 : decode c_Check_faultBetween 2 = .ok (.iload_n 2, 1) := by decide +kernel
theorem d_Check_faultBetween_3 : decode c_Check_faultBetween 3 = .ok (.aload_n 0, 1) := by decide +kernel
theorem d_Check_faultBetween_4 : decode c_Check_faultBetween 4 = .ok (.getfield 26, 3) := by decide +kernel
theorem d_Check_faultBetween_7 : decode c_Check_faultBetween 7 = .ok (.if_icmp .ge 32, 3) := by decide +kernel
theorem d_Check_faultBetween_10 : decode c_Check_faultBetween 10 = .ok (.aload_n 1, 1) := by decide +kernel
theorem d_Check_faultBetween_11 : decode c_Check_faultBetween 11 = .ok (.aload_n 0, 1) := by decide +kernel
theorem d_Check_faultBetween_12 : decode c_Check_faultBetween 12 = .ok (.getfield 9, 3) := by decide +kernel
theorem d_Check_faultBetween_15 : decode c_Check_faultBetween 15 = .ok (.iload_n 2, 1) := by decide +kernel
theorem d_Check_faultBetween_16 : decode c_Check_faultBetween 16 = .ok (.invokevirtual 75, 3) := by decide +kernel
theorem d_Check_faultBetween_19 : decode c_Check_faultBetween 19 = .ok (.invokevirtual 89, 3) := by decide +kernel
theorem d_Check_faultBetween_22 : decode c_Check_faultBetween 22 = .ok (.ifCond .ne 11, 3) := by decide +kernel
theorem d_Check_faultBetween_25 : decode c_Check_faultBetween 25 = .ok (.aload_n 0, 1) := by decide +kernel
theorem d_Check_faultBetween_26 : decode c_Check_faultBetween 26 = .ok (.iload_n 2, 1) := by decide +kernel
theorem d_Check_faultBetween_27 : decode c_Check_faultBetween 27 = .ok (.putfield 41, 3) := by decide +kernel
theorem d_Check_faultBetween_30 : decode c_Check_faultBetween 30 = .ok (.bipush 6, 2) := by decide +kernel
theorem d_Check_faultBetween_32 : decode c_Check_faultBetween 32 = .ok (.ireturn, 1) := by decide +kernel
theorem d_Check_faultBetween_33 : decode c_Check_faultBetween 33 = .ok (.iinc 2 1, 3) := by decide +kernel
theorem d_Check_faultBetween_36 : decode c_Check_faultBetween 36 = .ok (.goto (-34), 3) := by decide +kernel
theorem d_Check_faultBetween_39 : decode c_Check_faultBetween 39 = .ok (.aload_n 0, 1) := by decide +kernel
theorem d_Check_faultBetween_40 : decode c_Check_faultBetween 40 = .ok (.iconst 1, 1) := by decide +kernel
theorem d_Check_faultBetween_41 : decode c_Check_faultBetween 41 = .ok (.putfield 22, 3) := by decide +kernel
theorem d_Check_faultBetween_44 : decode c_Check_faultBetween 44 = .ok (.aload_n 0, 1) := by decide +kernel
theorem d_Check_faultBetween_45 : decode c_Check_faultBetween 45 = .ok (.aload_n 1, 1) := by decide +kernel
theorem d_Check_faultBetween_46 : decode c_Check_faultBetween 46 = .ok (.iconst 0, 1) := by decide +kernel
theorem d_Check_faultBetween_47 : decode c_Check_faultBetween 47 = .ok (.aload_n 1, 1) := by decide +kernel
theorem d_Check_faultBetween_48 : decode c_Check_faultBetween 48 = .ok (.invokevirtual 68, 3) := by decide +kernel
theorem d_Check_faultBetween_51 : decode c_Check_faultBetween 51 = .ok (.iconst 0, 1) := by decide +kernel
theorem d_Check_faultBetween_52 : decode c_Check_faultBetween 52 = .ok (.iconst (-1), 1) := by decide +kernel
theorem d_Check_faultBetween_53 : decode c_Check_faultBetween 53 = .ok (.invokevirtual 93, 3) := by decide +kernel
theorem d_Check_faultBetween_56 : decode c_Check_faultBetween 56 = .ok (.ifCond .ne 6, 3) := by decide +kernel
theorem d_Check_faultBetween_59 : decode c_Check_faultBetween 59 = .ok (.bipush 7, 2) := by decide +kernel
theorem d_Check_faultBetween_61 : decode c_Check_faultBetween 61 = .ok (.ireturn, 1) := by decide +kernel
theorem d_Check_faultBetween_62 : decode c_Check_faultBetween 62 = .ok (.aload_n 0, 1) := by decide +kernel
theorem d_Check_faultBetween_63 : decode c_Check_faultBetween 63 = .ok (.getfield 22, 3) := by decide +kernel
theorem d_Check_faultBetween_66 : decode c_Check_faultBetween 66 = .ok (.aload_n 0, 1) := by decide +kernel
theorem d_Check_faultBetween_67 : decode c_Check_faultBetween 67 = .ok (.getfield 26, 3) := by decide +kernel
theorem d_Check_faultBetween_70 : decode c_Check_faultBetween 70 = .ok (.if_icmp .ge 14, 3) := by decide +kernel
theorem d_Check_faultBetween_73 : decode c_Check_faultBetween 73 = .ok (.aload_n 0, 1) := by decide +kernel
theorem d_Check_faultBetween_74 : decode c_Check_faultBetween 74 = .ok (.aload_n 0, 1) := by decide +kernel
theorem d_Check_faultBetween_75 : decode c_Check_faultBetween 75 = .ok (.getfield 22, 3) := by decide +kernel
theorem d_Check_faultBetween_78 : decode c_Check_faultBetween 78 = .ok (.putfield 41, 3) := by decide +kernel
theorem d_Check_faultBetween_81 : decode c_Check_faultBetween 81 = .ok (.bipush 8, 2) := by decide +kernel
theorem d_Check_faultBetween_83 : decode c_Check_faultBetween 83 = .ok (.ireturn, 1) := by decide +kernel
theorem d_Check_faultBetween_84 : decode c_Check_faultBetween 84 = .ok (.iconst 0, 1) := by decide +kernel
theorem d_Check_faultBetween_85 : decode c_Check_faultBetween 85 = .ok (.ireturn, 1) := by decide +kernel
theorem d_Check_walkRows_0 : decode c_Check_walkRows 0 = .ok (.iload 4, 2) := by decide +kernel
theorem d_Check_walkRows_2 : decode c_Check_walkRows 2 = .ok (.iconst 3, 1) := by decide +kernel
theorem d_Check_walkRows_3 : decode c_Check_walkRows 3 = .ok (.if_icmp .le 5, 3) := by decide +kernel
theorem d_Check_walkRows_6 : decode c_Check_walkRows 6 = .ok (.iconst 1, 1) := by decide +kernel
theorem d_Check_walkRows_7 : decode c_Check_walkRows 7 = .ok (.ireturn, 1) := by decide +kernel
theorem d_Check_walkRows_8 : decode c_Check_walkRows 8 = .ok (.iload_n 2, 1) := by decide +kernel
theorem d_Check_walkRows_9 : decode c_Check_walkRows 9 = .ok (.istore 6, 2) := by decide +kernel
theorem d_Check_walkRows_11 : decode c_Check_walkRows 11 = .ok (.iload 6, 2) := by decide +kernel
theorem d_Check_walkRows_13 : decode c_Check_walkRows 13 = .ok (.iload_n 3, 1) := by decide +kernel
theorem d_Check_walkRows_14 : decode c_Check_walkRows 14 = .ok (.if_icmp .ge 36, 3) := by decide +kernel
theorem d_Check_walkRows_17 : decode c_Check_walkRows 17 = .ok (.aload_n 1, 1) := by decide +kernel
theorem d_Check_walkRows_18 : decode c_Check_walkRows 18 = .ok (.iload 6, 2) := by decide +kernel
theorem d_Check_walkRows_20 : decode c_Check_walkRows 20 = .ok (.invokevirtual 97, 3) := by decide +kernel
theorem d_Check_walkRows_23 : decode c_Check_walkRows 23 = .ok (.iload 4, 2) := by decide +kernel
theorem d_Check_walkRows_25 : decode c_Check_walkRows 25 = .ok (.if_icmp .ne 19, 3) := by decide +kernel
theorem d_Check_walkRows_28 : decode c_Check_walkRows 28 = .ok (.aload_n 0, 1) := by decide +kernel
theorem d_Check_walkRows_29 : decode c_Check_walkRows 29 = .ok (.aload_n 1, 1) := by decide +kernel
theorem d_Check_walkRows_30 : decode c_Check_walkRows 30 = .ok (.iload 6, 2) := by decide +kernel
theorem d_Check_walkRows_32 : decode c_Check_walkRows 32 = .ok (.iload 4, 2) := by decide +kernel
theorem d_Check_walkRows_34 : decode c_Check_walkRows 34 = .ok (.iload 5, 2) := by decide +kernel
theorem d_Check_walkRows_36 : decode c_Check_walkRows 36 = .ok (.invokevirtual 100, 3) := by decide +kernel
theorem d_Check_walkRows_39 : decode c_Check_walkRows 39 = .ok (.ifCond .ne 5, 3) := by decide +kernel
theorem d_Check_walkRows_42 : decode c_Check_walkRows 42 = .ok (.iconst 0, 1) := by decide +kernel
theorem d_Check_walkRows_43 : decode c_Check_walkRows 43 = .ok (.ireturn, 1) := by decide +kernel
theorem d_Check_walkRows_44 : decode c_Check_walkRows 44 = .ok (.iinc 6 1, 3) := by decide +kernel
theorem d_Check_walkRows_47 : decode c_Check_walkRows 47 = .ok (.goto (-36), 3) := by decide +kernel
theorem d_Check_walkRows_50 : decode c_Check_walkRows 50 = .ok (.iconst 1, 1) := by decide +kernel
theorem d_Check_walkRows_51 : decode c_Check_walkRows 51 = .ok (.ireturn, 1) := by decide +kernel
theorem d_Check_walkRow_0 : decode c_Check_walkRow 0 = .ok (.aload_n 1, 1) := by decide +kernel
theorem d_Check_walkRow_1 : decode c_Check_walkRow 1 = .ok (.iload_n 2, 1) := by decide +kernel
theorem d_Check_walkRow_2 : decode c_Check_walkRow 2 = .ok (.invokevirtual 104, 3) := by decide +kernel
theorem d_Check_walkRow_5 : decode c_Check_walkRow 5 = .ok (.istore 5, 2) := by decide +kernel
theorem d_Check_walkRow_7 : decode c_Check_walkRow 7 = .ok (.aload_n 1, 1) := by decide +kernel
theorem d_Check_walkRow_8 : decode c_Check_walkRow 8 = .ok (.iload_n 2, 1) := by decide +kernel
theorem d_Check_walkRow_9 : decode c_Check_walkRow 9 = .ok (.invokevirtual 105, 3) := by decide +kernel
theorem d_Check_walkRow_12 : decode c_Check_walkRow 12 = .ok (.istore 6, 2) := by decide +kernel
theorem d_Check_walkRow_14 : decode c_Check_walkRow 14 = .ok (.aload_n 1, 1) := by decide +kernel
theorem d_Check_walkRow_15 : decode c_Check_walkRow 15 = .ok (.iload_n 2, 1) := by decide +kernel
theorem d_Check_walkRow_16 : decode c_Check_walkRow 16 = .ok (.invokevirtual 108, 3) := by decide +kernel
theorem d_Check_walkRow_19 : decode c_Check_walkRow 19 = .ok (.istore 7, 2) := by decide +kernel
theorem d_Check_walkRow_21 : decode c_Check_walkRow 21 = .ok (.iconst 0, 1) := by decide +kernel
theorem d_Check_walkRow_22 : decode c_Check_walkRow 22 = .ok (.istore 8, 2) := by decide +kernel
theorem d_Check_walkRow_24 : decode c_Check_walkRow 24 = .ok (.iload 8, 2) := by decide +kernel
theorem d_Check_walkRow_26 : decode c_Check_walkRow 26 = .ok (.iload 6, 2) := by decide +kernel
theorem d_Check_walkRow_28 : decode c_Check_walkRow 28 = .ok (.if_icmp .ge 71, 3) := by decide +kernel
theorem d_Check_walkRow_31 : decode c_Check_walkRow 31 = .ok (.aload_n 0, 1) := by decide +kernel
theorem d_Check_walkRow_32 : decode c_Check_walkRow 32 = .ok (.getfield 22, 3) := by decide +kernel
theorem d_Check_walkRow_35 : decode c_Check_walkRow 35 = .ok (.aload_n 0, 1) := by decide +kernel
theorem d_Check_walkRow_36 : decode c_Check_walkRow 36 = .ok (.getfield 26, 3) := by decide +kernel
theorem d_Check_walkRow_39 : decode c_Check_walkRow 39 = .ok (.if_icmp .ge 60, 3) := by decide +kernel
theorem d_Check_walkRow_42 : decode c_Check_walkRow 42 = .ok (.aload_n 0, 1) := by decide +kernel
theorem d_Check_walkRow_43 : decode c_Check_walkRow 43 = .ok (.getfield 9, 3) := by decide +kernel
theorem d_Check_walkRow_46 : decode c_Check_walkRow 46 = .ok (.aload_n 0, 1) := by decide +kernel
theorem d_Check_walkRow_47 : decode c_Check_walkRow 47 = .ok (.getfield 22, 3) := by decide +kernel
theorem d_Check_walkRow_50 : decode c_Check_walkRow 50 = .ok (.invokevirtual 75, 3) := by decide +kernel
theorem d_Check_walkRow_53 : decode c_Check_walkRow 53 = .ok (.iload 5, 2) := by decide +kernel
theorem d_Check_walkRow_55 : decode c_Check_walkRow 55 = .ok (.if_icmp .ne 44, 3) := by decide +kernel
theorem d_Check_walkRow_58 : decode c_Check_walkRow 58 = .ok (.aload_n 0, 1) := by decide +kernel
theorem d_Check_walkRow_59 : decode c_Check_walkRow 59 = .ok (.getfield 22, 3) := by decide +kernel
theorem d_Check_walkRow_62 : decode c_Check_walkRow 62 = .ok (.istore 9, 2) := by decide +kernel
theorem d_Check_walkRow_64 : decode c_Check_walkRow 64 = .ok (.aload_n 0, 1) := by decide +kernel
theorem d_Check_walkRow_65 : decode c_Check_walkRow 65 = .ok (.iload 9, 2) := by decide +kernel
theorem d_Check_walkRow_67 : decode c_Check_walkRow 67 = .ok (.iload_n 2, 1) := by decide +kernel
theorem d_Check_walkRow_68 : decode c_Check_walkRow 68 = .ok (.iload 4, 2) := by decide +kernel
theorem d_Check_walkRow_70 : decode c_Check_walkRow 70 = .ok (.invokevirtual 111, 3) := by decide +kernel
theorem d_Check_walkRow_73 : decode c_Check_walkRow 73 = .ok (.iinc 8 1, 3) := by decide +kernel
theorem d_Check_walkRow_76 : decode c_Check_walkRow 76 = .ok (.aload_n 0, 1) := by decide +kernel
theorem d_Check_walkRow_77 : decode c_Check_walkRow 77 = .ok (.aload_n 1, 1) := by decide +kernel
theorem d_Check_walkRow_78 : decode c_Check_walkRow 78 = .ok (.iload_n 2, 1) := by decide +kernel
theorem d_Check_walkRow_79 : decode c_Check_walkRow 79 = .ok (.iconst 1, 1) := by decide +kernel
theorem d_Check_walkRow_80 : decode c_Check_walkRow 80 = .ok (.iadd, 1) := by decide +kernel
theorem d_Check_walkRow_81 : decode c_Check_walkRow 81 = .ok (.iload 7, 2) := by decide +kernel
theorem d_Check_walkRow_83 : decode c_Check_walkRow 83 = .ok (.iload_n 3, 1) := by decide +kernel
theorem d_Check_walkRow_84 : decode c_Check_walkRow 84 = .ok (.iconst 1, 1) := by decide +kernel
theorem d_Check_walkRow_85 : decode c_Check_walkRow 85 = .ok (.iadd, 1) := by decide +kernel
theorem d_Check_walkRow_86 : decode c_Check_walkRow 86 = .ok (.iload 9, 2) := by decide +kernel
theorem d_Check_walkRow_88 : decode c_Check_walkRow 88 = .ok (.invokevirtual 93, 3) := by decide +kernel
theorem d_Check_walkRow_91 : decode c_Check_walkRow 91 = .ok (.ifCond .ne 5, 3) := by decide +kernel
theorem d_Check_walkRow_94 : decode c_Check_walkRow 94 = .ok (.iconst 0, 1) := by decide +kernel
theorem d_Check_walkRow_95 : decode c_Check_walkRow 95 = .ok (.ireturn, 1) := by decide +kernel
theorem d_Check_walkRow_96 : decode c_Check_walkRow 96 = .ok (.goto (-72), 3) := by decide +kernel
theorem d_Check_walkRow_99 : decode c_Check_walkRow 99 = .ok (.iload 8, 2) := by decide +kernel
theorem d_Check_walkRow_101 : decode c_Check_walkRow 101 = .ok (.aload_n 1, 1) := by decide +kernel
theorem d_Check_walkRow_102 : decode c_Check_walkRow 102 = .ok (.iload_n 2, 1) := by decide +kernel
theorem d_Check_walkRow_103 : decode c_Check_walkRow 103 = .ok (.invokevirtual 115, 3) := by decide +kernel
theorem d_Check_walkRow_106 : decode c_Check_walkRow 106 = .ok (.if_icmp .ge 18, 3) := by decide +kernel
theorem d_Check_walkRow_109 : decode c_Check_walkRow 109 = .ok (.aload_n 0, 1) := by decide +kernel
theorem d_Check_walkRow_110 : decode c_Check_walkRow 110 = .ok (.aload_n 0, 1) := by decide +kernel
theorem d_Check_walkRow_111 : decode c_Check_walkRow 111 = .ok (.getfield 22, 3) := by decide +kernel
theorem d_Check_walkRow_114 : decode c_Check_walkRow 114 = .ok (.putfield 41, 3) := by decide +kernel
theorem d_Check_walkRow_117 : decode c_Check_walkRow 117 = .ok (.aload_n 0, 1) := by decide +kernel
theorem d_Check_walkRow_118 : decode c_Check_walkRow 118 = .ok (.iload_n 2, 1) := by decide +kernel
theorem d_Check_walkRow_119 : decode c_Check_walkRow 119 = .ok (.putfield 44, 3) := by decide +kernel
theorem d_Check_walkRow_122 : decode c_Check_walkRow 122 = .ok (.iconst 0, 1) := by decide +kernel
theorem d_Check_walkRow_123 : decode c_Check_walkRow 123 = .ok (.ireturn, 1) := by decide +kernel
theorem d_Check_walkRow_124 : decode c_Check_walkRow 124 = .ok (.iconst 1, 1) := by decide +kernel
theorem d_Check_walkRow_125 : decode c_Check_walkRow 125 = .ok (.ireturn, 1) := by decide +kernel
theorem d_Check_walkOver_0 : decode c_Check_walkOver 0 = .ok (.iload_n 1, 1) := by decide +kernel
theorem d_Check_walkOver_1 : decode c_Check_walkOver 1 = .ok (.ifCond .lt 35, 3) := by decide +kernel
theorem d_Check_walkOver_4 : decode c_Check_walkOver 4 = .ok (.iload_n 1, 1) := by decide +kernel
theorem d_Check_walkOver_5 : decode c_Check_walkOver 5 = .ok (.aload_n 0, 1) := by decide +kernel
theorem d_Check_walkOver_6 : decode c_Check_walkOver 6 = .ok (.getfield 15, 3) := by decide +kernel
theorem d_Check_walkOver_9 : decode c_Check_walkOver 9 = .ok (.arraylength, 1) := by decide +kernel
theorem d_Check_walkOver_10 : decode c_Check_walkOver 10 = .ok (.if_icmp .ge 26, 3) := by decide +kernel
theorem d_Check_walkOver_13 : decode c_Check_walkOver 13 = .ok (.iload_n 1, 1) := by decide +kernel
theorem d_Check_walkOver_14 : decode c_Check_walkOver 14 = .ok (.aload_n 0, 1) := by decide +kernel
theorem d_Check_walkOver_15 : decode c_Check_walkOver 15 = .ok (.getfield 19, 3) := by decide +kernel
theorem d_Check_walkOver_18 : decode c_Check_walkOver 18 = .ok (.arraylength, 1) := by decide +kernel
theorem d_Check_walkOver_19 : decode c_Check_walkOver 19 = .ok (.if_icmp .ge 17, 3) := by decide +kernel
theorem d_Check_walkOver_22 : decode c_Check_walkOver 22 = .ok (.aload_n 0, 1) := by decide +kernel
theorem d_Check_walkOver_23 : decode c_Check_walkOver 23 = .ok (.getfield 15, 3) := by decide +kernel
theorem d_Check_walkOver_26 : decode c_Check_walkOver 26 = .ok (.iload_n 1, 1) := by decide +kernel
theorem d_Check_walkOver_27 : decode c_Check_walkOver 27 = .ok (.iload_n 2, 1) := by decide +kernel
theorem d_Check_walkOver_28 : decode c_Check_walkOver 28 = .ok (.iastore, 1) := by decide +kernel
theorem d_Check_walkOver_29 : decode c_Check_walkOver 29 = .ok (.aload_n 0, 1) := by decide +kernel
theorem d_Check_walkOver_30 : decode c_Check_walkOver 30 = .ok (.getfield 19, 3) := by decide +kernel
theorem d_Check_walkOver_33 : decode c_Check_walkOver 33 = .ok (.iload_n 1, 1) := by decide +kernel
theorem d_Check_walkOver_34 : decode c_Check_walkOver 34 = .ok (.iload_n 3, 1) := by decide +kernel
theorem d_Check_walkOver_35 : decode c_Check_walkOver 35 = .ok (.iastore, 1) := by decide +kernel
theorem d_Check_walkOver_36 : decode c_Check_walkOver 36 = .ok (.aload_n 0, 1) := by decide +kernel
theorem d_Check_walkOver_37 : decode c_Check_walkOver 37 = .ok (.dup, 1) := by decide +kernel
theorem d_Check_walkOver_38 : decode c_Check_walkOver 38 = .ok (.getfield 22, 3) := by decide +kernel
theorem d_Check_walkOver_41 : decode c_Check_walkOver 41 = .ok (.iconst 1, 1) := by decide +kernel
theorem d_Check_walkOver_42 : decode c_Check_walkOver 42 = .ok (.iadd, 1) := by decide +kernel
theorem d_Check_walkOver_43 : decode c_Check_walkOver 43 = .ok (.putfield 22, 3) := by decide +kernel
theorem d_Check_walkOver_46 : decode c_Check_walkOver 46 = .ok (.return_, 1) := by decide +kernel
theorem d_Grammar_init_0 : decode c_Grammar_init 0 = .ok (.aload_n 0, 1) := by decide +kernel
theorem d_Grammar_init_1 : decode c_Grammar_init 1 = .ok (.invokespecial 3, 3) := by decide +kernel
theorem d_Grammar_init_4 : decode c_Grammar_init 4 = .ok (.aload_n 0, 1) := by decide +kernel
theorem d_Grammar_init_5 : decode c_Grammar_init 5 = .ok (.bipush 20, 2) := by decide +kernel
theorem d_Grammar_init_7 : decode c_Grammar_init 7 = .ok (.newarray .int, 2) := by decide +kernel
theorem d_Grammar_init_9 : decode c_Grammar_init 9 = .ok (.putfield 9, 3) := by decide +kernel
theorem d_Grammar_init_12 : decode c_Grammar_init 12 = .ok (.aload_n 0, 1) := by decide +kernel
theorem d_Grammar_init_13 : decode c_Grammar_init 13 = .ok (.bipush 20, 2) := by decide +kernel
theorem d_Grammar_init_15 : decode c_Grammar_init 15 = .ok (.newarray .int, 2) := by decide +kernel
theorem d_Grammar_init_17 : decode c_Grammar_init 17 = .ok (.putfield 15, 3) := by decide +kernel
theorem d_Grammar_init_20 : decode c_Grammar_init 20 = .ok (.aload_n 0, 1) := by decide +kernel
theorem d_Grammar_init_21 : decode c_Grammar_init 21 = .ok (.bipush 20, 2) := by decide +kernel
theorem d_Grammar_init_23 : decode c_Grammar_init 23 = .ok (.newarray .int, 2) := by decide +kernel
theorem d_Grammar_init_25 : decode c_Grammar_init 25 = .ok (.putfield 18, 3) := by decide +kernel
theorem d_Grammar_init_28 : decode c_Grammar_init 28 = .ok (.aload_n 0, 1) := by decide +kernel
theorem d_Grammar_init_29 : decode c_Grammar_init 29 = .ok (.bipush 20, 2) := by decide +kernel
theorem d_Grammar_init_31 : decode c_Grammar_init 31 = .ok (.newarray .int, 2) := by decide +kernel
theorem d_Grammar_init_33 : decode c_Grammar_init 33 = .ok (.putfield 21, 3) := by decide +kernel
theorem d_Grammar_init_36 : decode c_Grammar_init 36 = .ok (.aload_n 0, 1) := by decide +kernel
theorem d_Grammar_init_37 : decode c_Grammar_init 37 = .ok (.iconst 0, 1) := by decide +kernel
theorem d_Grammar_init_38 : decode c_Grammar_init 38 = .ok (.putfield 24, 3) := by decide +kernel
theorem d_Grammar_init_41 : decode c_Grammar_init 41 = .ok (.return_, 1) := by decide +kernel
theorem d_Grammar_size_0 : decode c_Grammar_size 0 = .ok (.aload_n 0, 1) := by decide +kernel
theorem d_Grammar_size_1 : decode c_Grammar_size 1 = .ok (.getfield 24, 3) := by decide +kernel
theorem d_Grammar_size_4 : decode c_Grammar_size 4 = .ok (.ireturn, 1) := by decide +kernel
theorem d_Grammar_isFull_0 : decode c_Grammar_isFull 0 = .ok (.aload_n 0, 1) := by decide +kernel
theorem d_Grammar_isFull_1 : decode c_Grammar_isFull 1 = .ok (.getfield 24, 3) := by decide +kernel
theorem d_Grammar_isFull_4 : decode c_Grammar_isFull 4 = .ok (.bipush 20, 2) := by decide +kernel
theorem d_Grammar_isFull_6 : decode c_Grammar_isFull 6 = .ok (.if_icmp .lt 7, 3) := by decide +kernel
theorem d_Grammar_isFull_9 : decode c_Grammar_isFull 9 = .ok (.iconst 1, 1) := by decide +kernel
theorem d_Grammar_isFull_10 : decode c_Grammar_isFull 10 = .ok (.goto 4, 3) := by decide +kernel
theorem d_Grammar_isFull_13 : decode c_Grammar_isFull 13 = .ok (.iconst 0, 1) := by decide +kernel
theorem d_Grammar_isFull_14 : decode c_Grammar_isFull 14 = .ok (.ireturn, 1) := by decide +kernel
theorem d_Grammar_canTakeLevel_0 : decode c_Grammar_canTakeLevel 0 = .ok (.aload_n 0, 1) := by decide +kernel
theorem d_Grammar_canTakeLevel_1 : decode c_Grammar_canTakeLevel 1 = .ok (.getfield 24, 3) := by decide +kernel
theorem d_Grammar_canTakeLevel_4 : decode c_Grammar_canTakeLevel 4 = .ok (.ifCond .ne 7, 3) := by decide +kernel
theorem d_Grammar_canTakeLevel_7 : decode c_Grammar_canTakeLevel 7 = .ok (.iconst 0, 1) := by decide +kernel
theorem d_Grammar_canTakeLevel_8 : decode c_Grammar_canTakeLevel 8 = .ok (.goto 19, 3) := by decide +kernel
theorem d_Grammar_canTakeLevel_11 : decode c_Grammar_canTakeLevel 11 = .ok (.aload_n 0, 1) := by decide +kernel
theorem d_Grammar_canTakeLevel_12 : decode c_Grammar_canTakeLevel 12 = .ok (.aload_n 0, 1) := by decide +kernel
theorem d_Grammar_canTakeLevel_13 : decode c_Grammar_canTakeLevel 13 = .ok (.getfield 24, 3) := by decide +kernel
theorem d_Grammar_canTakeLevel_16 : decode c_Grammar_canTakeLevel 16 = .ok (.iconst 1, 1) := by decide +kernel
theorem d_Grammar_canTakeLevel_17 : decode c_Grammar_canTakeLevel 17 = .ok (.isub, 1) := by decide +kernel
theorem d_Grammar_canTakeLevel_18 : decode c_Grammar_canTakeLevel 18 = .ok (.invokevirtual 28, 3) := by decide +kernel
theorem d_Grammar_canTakeLevel_21 : decode c_Grammar_canTakeLevel 21 = .ok (.iconst 1, 1) := by decide +kernel
theorem d_Grammar_canTakeLevel_22 : decode c_Grammar_canTakeLevel 22 = .ok (.iadd, 1) := by decide +kernel
theorem d_Grammar_canTakeLevel_23 : decode c_Grammar_canTakeLevel 23 = .ok (.iconst 3, 1) := by decide +kernel
theorem d_Grammar_canTakeLevel_24 : decode c_Grammar_canTakeLevel 24 = .ok (.invokestatic 32, 3) := by decide +kernel
theorem d_Grammar_canTakeLevel_27 : decode c_Grammar_canTakeLevel 27 = .ok (.istore_n 2, 1) := by decide +kernel
theorem d_Grammar_canTakeLevel_28 : decode c_Grammar_canTakeLevel 28 = .ok (.iload_n 1, 1) := by decide +kernel
theorem d_Grammar_canTakeLevel_29 : decode c_Grammar_canTakeLevel 29 = .ok (.ifCond .lt 12, 3) := by decide +kernel
theorem d_Grammar_canTakeLevel_32 : decode c_Grammar_canTakeLevel 32 = .ok (.iload_n 1, 1) := by decide +kernel
theorem d_Grammar_canTakeLevel_33 : decode c_Grammar_canTakeLevel 33 = .ok (.iload_n 2, 1) := by decide +kernel
theorem d_Grammar_canTakeLevel_34 : decode c_Grammar_canTakeLevel 34 = .ok (.if_icmp .gt 7, 3) := by decide +kernel
theorem d_Grammar_canTakeLevel_37 : decode c_Grammar_canTakeLevel 37 = .ok (.iconst 1, 1) := by decide +kernel
theorem d_Grammar_canTakeLevel_38 : decode c_Grammar_canTakeLevel 38 = .ok (.goto 4, 3) := by decide +kernel
theorem d_Grammar_canTakeLevel_41 : decode c_Grammar_canTakeLevel 41 = .ok (.iconst 0, 1) := by decide +kernel
theorem d_Grammar_canTakeLevel_42 : decode c_Grammar_canTakeLevel 42 = .ok (.ireturn, 1) := by decide +kernel
theorem d_Grammar_append_0 : decode c_Grammar_append 0 = .ok (.aload_n 0, 1) := by decide +kernel
theorem d_Grammar_append_1 : decode c_Grammar_append 1 = .ok (.getfield 24, 3) := by decide +kernel
theorem d_Grammar_append_4 : decode c_Grammar_append 4 = .ok (.ifCond .lt 12, 3) := by decide +kernel
theorem d_Grammar_append_7 : decode c_Grammar_append 7 = .ok (.aload_n 0, 1) := by decide +kernel
theorem d_Grammar_append_8 : decode c_Grammar_append 8 = .ok (.getfield 24, 3) := by decide +kernel
theorem d_Grammar_append_11 : decode c_Grammar_append 11 = .ok (.bipush 20, 2) := by decide +kernel
theorem d_Grammar_append_13 : decode c_Grammar_append 13 = .ok (.if_icmp .lt 4, 3) := by decide +kernel
theorem d_Grammar_append_16 : decode c_Grammar_append 16 = .ok (.return_, 1) := by decide +kernel
theorem d_Grammar_append_17 : decode c_Grammar_append 17 = .ok (.aload_n 0, 1) := by decide +kernel
theorem d_Grammar_append_18 : decode c_Grammar_append 18 = .ok (.getfield 9, 3) := by decide +kernel
theorem d_Grammar_append_21 : decode c_Grammar_append 21 = .ok (.aload_n 0, 1) := by decide +kernel
theorem d_Grammar_append_22 : decode c_Grammar_append 22 = .ok (.getfield 24, 3) := by decide +kernel
theorem d_Grammar_append_25 : decode c_Grammar_append 25 = .ok (.iload_n 1, 1) := by decide +kernel
theorem d_Grammar_append_26 : decode c_Grammar_append 26 = .ok (.iastore, 1) := by decide +kernel
theorem d_Grammar_append_27 : decode c_Grammar_append 27 = .ok (.aload_n 0, 1) := by decide +kernel
theorem d_Grammar_append_28 : decode c_Grammar_append 28 = .ok (.getfield 15, 3) := by decide +kernel
theorem d_Grammar_append_31 : decode c_Grammar_append 31 = .ok (.aload_n 0, 1) := by decide +kernel
theorem d_Grammar_append_32 : decode c_Grammar_append 32 = .ok (.getfield 24, 3) := by decide +kernel
theorem d_Grammar_append_35 : decode c_Grammar_append 35 = .ok (.iload_n 2, 1) := by decide +kernel
theorem d_Grammar_append_36 : decode c_Grammar_append 36 = .ok (.iastore, 1) := by decide +kernel
theorem d_Grammar_append_37 : decode c_Grammar_append 37 = .ok (.aload_n 0, 1) := by decide +kernel
theorem d_Grammar_append_38 : decode c_Grammar_append 38 = .ok (.getfield 18, 3) := by decide +kernel
theorem d_Grammar_append_41 : decode c_Grammar_append 41 = .ok (.aload_n 0, 1) := by decide +kernel
theorem d_Grammar_append_42 : decode c_Grammar_append 42 = .ok (.getfield 24, 3) := by decide +kernel
theorem d_Grammar_append_45 : decode c_Grammar_append 45 = .ok (.iload_n 3, 1) := by decide +kernel
theorem d_Grammar_append_46 : decode c_Grammar_append 46 = .ok (.iastore, 1) := by decide +kernel
theorem d_Grammar_append_47 : decode c_Grammar_append 47 = .ok (.aload_n 0, 1) := by decide +kernel
theorem d_Grammar_append_48 : decode c_Grammar_append 48 = .ok (.getfield 21, 3) := by decide +kernel
theorem d_Grammar_append_51 : decode c_Grammar_append 51 = .ok (.aload_n 0, 1) := by decide +kernel
theorem d_Grammar_append_52 : decode c_Grammar_append 52 = .ok (.getfield 24, 3) := by decide +kernel
theorem d_Grammar_append_55 : decode c_Grammar_append 55 = .ok (.iload 4, 2) := by decide +kernel
theorem d_Grammar_append_57 : decode c_Grammar_append 57 = .ok (.iastore, 1) := by decide +kernel
theorem d_Grammar_append_58 : decode c_Grammar_append 58 = .ok (.aload_n 0, 1) := by decide +kernel
theorem d_Grammar_append_59 : decode c_Grammar_append 59 = .ok (.dup, 1) := by decide +kernel
theorem d_Grammar_append_60 : decode c_Grammar_append 60 = .ok (.getfield 24, 3) := by decide +kernel
theorem d_Grammar_append_63 : decode c_Grammar_append 63 = .ok (.iconst 1, 1) := by decide +kernel
theorem d_Grammar_append_64 : decode c_Grammar_append 64 = .ok (.iadd, 1) := by decide +kernel
theorem d_Grammar_append_65 : decode c_Grammar_append 65 = .ok (.putfield 24, 3) := by decide +kernel
theorem d_Grammar_append_68 : decode c_Grammar_append 68 = .ok (.return_, 1) := by decide +kernel
theorem d_Grammar_tagOf_0 : decode c_Grammar_tagOf 0 = .ok (.iload_n 1, 1) := by decide +kernel
theorem d_Grammar_tagOf_1 : decode c_Grammar_tagOf 1 = .ok (.ifCond .lt 20, 3) := by decide +kernel
theorem d_Grammar_tagOf_4 : decode c_Grammar_tagOf 4 = .ok (.iload_n 1, 1) := by decide +kernel
theorem d_Grammar_tagOf_5 : decode c_Grammar_tagOf 5 = .ok (.aload_n 0, 1) := by decide +kernel
theorem d_Grammar_tagOf_6 : decode c_Grammar_tagOf 6 = .ok (.getfield 24, 3) := by decide +kernel
theorem d_Grammar_tagOf_9 : decode c_Grammar_tagOf 9 = .ok (.if_icmp .ge 12, 3) := by decide +kernel
theorem d_Grammar_tagOf_12 : decode c_Grammar_tagOf 12 = .ok (.aload_n 0, 1) := by decide +kernel
theorem d_Grammar_tagOf_13 : decode c_Grammar_tagOf 13 = .ok (.getfield 9, 3) := by decide +kernel
theorem d_Grammar_tagOf_16 : decode c_Grammar_tagOf 16 = .ok (.iload_n 1, 1) := by decide +kernel
theorem d_Grammar_tagOf_17 : decode c_Grammar_tagOf 17 = .ok (.iaload, 1) := by decide +kernel
theorem d_Grammar_tagOf_18 : decode c_Grammar_tagOf 18 = .ok (.goto 4, 3) := by decide +kernel
theorem d_Grammar_tagOf_21 : decode c_Grammar_tagOf 21 = .ok (.iconst (-1), 1) := by decide +kernel
theorem d_Grammar_tagOf_22 : decode c_Grammar_tagOf 22 = .ok (.ireturn, 1) := by decide +kernel
theorem d_Grammar_leastOf_0 : decode c_Grammar_leastOf 0 = .ok (.iload_n 1, 1) := by decide +kernel
theorem d_Grammar_leastOf_1 : decode c_Grammar_leastOf 1 = .ok (.ifCond .lt 20, 3) := by decide +kernel
theorem d_Grammar_leastOf_4 : decode c_Grammar_leastOf 4 = .ok (.iload_n 1, 1) := by decide +kernel
theorem d_Grammar_leastOf_5 : decode c_Grammar_leastOf 5 = .ok (.aload_n 0, 1) := by decide +kernel
theorem d_Grammar_leastOf_6 : decode c_Grammar_leastOf 6 = .ok (.getfield 24, 3) := by decide +kernel
theorem d_Grammar_leastOf_9 : decode c_Grammar_leastOf 9 = .ok (.if_icmp .ge 12, 3) := by decide +kernel
theorem d_Grammar_leastOf_12 : decode c_Grammar_leastOf 12 = .ok (.aload_n 0, 1) := by decide +kernel
theorem d_Grammar_leastOf_13 : decode c_Grammar_leastOf 13 = .ok (.getfield 15, 3) := by decide +kernel
theorem d_Grammar_leastOf_16 : decode c_Grammar_leastOf 16 = .ok (.iload_n 1, 1) := by decide +kernel
theorem d_Grammar_leastOf_17 : decode c_Grammar_leastOf 17 = .ok (.iaload, 1) := by decide +kernel
theorem d_Grammar_leastOf_18 : decode c_Grammar_leastOf 18 = .ok (.goto 4, 3) := by decide +kernel
theorem d_Grammar_leastOf_21 : decode c_Grammar_leastOf 21 = .ok (.iconst 0, 1) := by decide +kernel
theorem d_Grammar_leastOf_22 : decode c_Grammar_leastOf 22 = .ok (.ireturn, 1) := by decide +kernel
theorem d_Grammar_mostOf_0 : decode c_Grammar_mostOf 0 = .ok (.iload_n 1, 1) := by decide +kernel
theorem d_Grammar_mostOf_1 : decode c_Grammar_mostOf 1 = .ok (.ifCond .lt 20, 3) := by decide +kernel
theorem d_Grammar_mostOf_4 : decode c_Grammar_mostOf 4 = .ok (.iload_n 1, 1) := by decide +kernel
theorem d_Grammar_mostOf_5 : decode c_Grammar_mostOf 5 = .ok (.aload_n 0, 1) := by decide +kernel
theorem d_Grammar_mostOf_6 : decode c_Grammar_mostOf 6 = .ok (.getfield 24, 3) := by decide +kernel
theorem d_Grammar_mostOf_9 : decode c_Grammar_mostOf 9 = .ok (.if_icmp .ge 12, 3) := by decide +kernel
theorem d_Grammar_mostOf_12 : decode c_Grammar_mostOf 12 = .ok (.aload_n 0, 1) := by decide +kernel
theorem d_Grammar_mostOf_13 : decode c_Grammar_mostOf 13 = .ok (.getfield 18, 3) := by decide +kernel
theorem d_Grammar_mostOf_16 : decode c_Grammar_mostOf 16 = .ok (.iload_n 1, 1) := by decide +kernel
theorem d_Grammar_mostOf_17 : decode c_Grammar_mostOf 17 = .ok (.iaload, 1) := by decide +kernel
theorem d_Grammar_mostOf_18 : decode c_Grammar_mostOf 18 = .ok (.goto 4, 3) := by decide +kernel
theorem d_Grammar_mostOf_21 : decode c_Grammar_mostOf 21 = .ok (.iconst 0, 1) := by decide +kernel
theorem d_Grammar_mostOf_22 : decode c_Grammar_mostOf 22 = .ok (.ireturn, 1) := by decide +kernel
theorem d_Grammar_levelOf_0 : decode c_Grammar_levelOf 0 = .ok (.iload_n 1, 1) := by decide +kernel
theorem d_Grammar_levelOf_1 : decode c_Grammar_levelOf 1 = .ok (.ifCond .lt 20, 3) := by decide +kernel
theorem d_Grammar_levelOf_4 : decode c_Grammar_levelOf 4 = .ok (.iload_n 1, 1) := by decide +kernel
theorem d_Grammar_levelOf_5 : decode c_Grammar_levelOf 5 = .ok (.aload_n 0, 1) := by decide +kernel
theorem d_Grammar_levelOf_6 : decode c_Grammar_levelOf 6 = .ok (.getfield 24, 3) := by decide +kernel
theorem d_Grammar_levelOf_9 : decode c_Grammar_levelOf 9 = .ok (.if_icmp .ge 12, 3) := by decide +kernel
theorem d_Grammar_levelOf_12 : decode c_Grammar_levelOf 12 = .ok (.aload_n 0, 1) := by decide +kernel
theorem d_Grammar_levelOf_13 : decode c_Grammar_levelOf 13 = .ok (.getfield 21, 3) := by decide +kernel
theorem d_Grammar_levelOf_16 : decode c_Grammar_levelOf 16 = .ok (.iload_n 1, 1) := by decide +kernel
theorem d_Grammar_levelOf_17 : decode c_Grammar_levelOf 17 = .ok (.iaload, 1) := by decide +kernel
theorem d_Grammar_levelOf_18 : decode c_Grammar_levelOf 18 = .ok (.goto 4, 3) := by decide +kernel
theorem d_Grammar_levelOf_21 : decode c_Grammar_levelOf 21 = .ok (.iconst (-1), 1) := by decide +kernel
theorem d_Grammar_levelOf_22 : decode c_Grammar_levelOf 22 = .ok (.ireturn, 1) := by decide +kernel
theorem d_Grammar_knows_0 : decode c_Grammar_knows 0 = .ok (.iconst 0, 1) := by decide +kernel
theorem d_Grammar_knows_1 : decode c_Grammar_knows 1 = .ok (.istore_n 2, 1) := by decide +kernel
theorem d_Grammar_knows_2 : decode c_Grammar_knows 2 = .ok (.iload_n 2, 1) := by decide +kernel
theorem d_Grammar_knows_3 : decode c_Grammar_knows 3 = .ok (.aload_n 0, 1) := by decide +kernel
theorem d_Grammar_knows_4 : decode c_Grammar_knows 4 = .ok (.getfield 24, 3) := by decide +kernel
theorem d_Grammar_knows_7 : decode c_Grammar_knows 7 = .ok (.if_icmp .ge 20, 3) := by decide +kernel
theorem d_Grammar_knows_10 : decode c_Grammar_knows 10 = .ok (.aload_n 0, 1) := by decide +kernel
theorem d_Grammar_knows_11 : decode c_Grammar_knows 11 = .ok (.iload_n 2, 1) := by decide +kernel
theorem d_Grammar_knows_12 : decode c_Grammar_knows 12 = .ok (.invokevirtual 38, 3) := by decide +kernel
theorem d_Grammar_knows_15 : decode c_Grammar_knows 15 = .ok (.iload_n 1, 1) := by decide +kernel
theorem d_Grammar_knows_16 : decode c_Grammar_knows 16 = .ok (.if_icmp .ne 5, 3) := by decide +kernel
theorem d_Grammar_knows_19 : decode c_Grammar_knows 19 = .ok (.iconst 1, 1) := by decide +kernel
theorem d_Grammar_knows_20 : decode c_Grammar_knows 20 = .ok (.ireturn, 1) := by decide +kernel
theorem d_Grammar_knows_21 : decode c_Grammar_knows 21 = .ok (.iinc 2 1, 3) := by decide +kernel
theorem d_Grammar_knows_24 : decode c_Grammar_knows 24 = .ok (.goto (-22), 3) := by decide +kernel
theorem d_Grammar_knows_27 : decode c_Grammar_knows 27 = .ok (.iconst 0, 1) := by decide +kernel
theorem d_Grammar_knows_28 : decode c_Grammar_knows 28 = .ok (.ireturn, 1) := by decide +kernel
theorem d_Grammar_endOfGroup_0 : decode c_Grammar_endOfGroup 0 = .ok (.iload_n 1, 1) := by decide +kernel
theorem d_Grammar_endOfGroup_1 : decode c_Grammar_endOfGroup 1 = .ok (.iconst 1, 1) := by decide +kernel
theorem d_Grammar_endOfGroup_2 : decode c_Grammar_endOfGroup 2 = .ok (.iadd, 1) := by decide +kernel
theorem d_Grammar_endOfGroup_3 : decode c_Grammar_endOfGroup 3 = .ok (.istore_n 2, 1) := by decide +kernel
theorem d_Grammar_endOfGroup_4 : decode c_Grammar_endOfGroup 4 = .ok (.iload_n 2, 1) := by decide +kernel
theorem d_Grammar_endOfGroup_5 : decode c_Grammar_endOfGroup 5 = .ok (.aload_n 0, 1) := by decide +kernel
theorem d_Grammar_endOfGroup_6 : decode c_Grammar_endOfGroup 6 = .ok (.getfield 24, 3) := by decide +kernel
theorem d_Grammar_endOfGroup_9 : decode c_Grammar_endOfGroup 9 = .ok (.if_icmp .ge 24, 3) := by decide +kernel
theorem d_Grammar_endOfGroup_12 : decode c_Grammar_endOfGroup 12 = .ok (.aload_n 0, 1) := by decide +kernel
theorem d_Grammar_endOfGroup_13 : decode c_Grammar_endOfGroup 13 = .ok (.iload_n 2, 1) := by decide +kernel
theorem d_Grammar_endOfGroup_14 : decode c_Grammar_endOfGroup 14 = .ok (.invokevirtual 28, 3) := by decide +kernel
theorem d_Grammar_endOfGroup_17 : decode c_Grammar_endOfGroup 17 = .ok (.aload_n 0, 1) := by decide +kernel
theorem d_Grammar_endOfGroup_18 : decode c_Grammar_endOfGroup 18 = .ok (.iload_n 1, 1) := by decide +kernel
theorem d_Grammar_endOfGroup_19 : decode c_Grammar_endOfGroup 19 = .ok (.invokevirtual 28, 3) := by decide +kernel
theorem d_Grammar_endOfGroup_22 : decode c_Grammar_endOfGroup 22 = .ok (.if_icmp .gt 5, 3) := by decide +kernel
theorem d_Grammar_endOfGroup_25 : decode c_Grammar_endOfGroup 25 = .ok (.iload_n 2, 1) := by decide +kernel
theorem d_Grammar_endOfGroup_26 : decode c_Grammar_endOfGroup 26 = .ok (.ireturn, 1) := by decide +kernel
theorem d_Grammar_endOfGroup_27 : decode c_Grammar_endOfGroup 27 = .ok (.iinc 2 1, 3) := by decide +kernel
theorem d_Grammar_endOfGroup_30 : decode c_Grammar_endOfGroup 30 = .ok (.goto (-26), 3) := by decide +kernel
theorem d_Grammar_endOfGroup_33 : decode c_Grammar_endOfGroup 33 = .ok (.aload_n 0, 1) := by decide +kernel
theorem d_Grammar_endOfGroup_34 : decode c_Grammar_endOfGroup 34 = .ok (.getfield 24, 3) := by decide +kernel
theorem d_Grammar_endOfGroup_37 : decode c_Grammar_endOfGroup 37 = .ok (.ireturn, 1) := by decide +kernel
theorem d_Layer_init_0 : decode c_Layer_init 0 = .ok (.aload_n 0, 1) := by decide +kernel
theorem d_Layer_init_1 : decode c_Layer_init 1 = .ok (.invokespecial 3, 3) := by decide +kernel
theorem d_Layer_init_4 : decode c_Layer_init 4 = .ok (.aload_n 0, 1) := by decide +kernel
theorem d_Layer_init_5 : decode c_Layer_init 5 = .ok (.iload_n 1, 1) := by decide +kernel
theorem d_Layer_init_6 : decode c_Layer_init 6 = .ok (.ifCond .lt 9, 3) := by decide +kernel
theorem d_Layer_init_9 : decode c_Layer_init 9 = .ok (.iload_n 1, 1) := by decide +kernel
theorem d_Layer_init_10 : decode c_Layer_init 10 = .ok (.iconst 1, 1) := by decide +kernel
theorem d_Layer_init_11 : decode c_Layer_init 11 = .ok (.iadd, 1) := by decide +kernel
theorem d_Layer_init_12 : decode c_Layer_init 12 = .ok (.goto 4, 3) := by decide +kernel
theorem d_Layer_init_15 : decode c_Layer_init 15 = .ok (.iconst 1, 1) := by decide +kernel
theorem d_Layer_init_16 : decode c_Layer_init 16 = .ok (.newarray .int, 2) := by decide +kernel
theorem d_Layer_init_18 : decode c_Layer_init 18 = .ok (.putfield 9, 3) := by decide +kernel
theorem d_Layer_init_21 : decode c_Layer_init 21 = .ok (.aload_n 0, 1) := by decide +kernel
theorem d_Layer_init_22 : decode c_Layer_init 22 = .ok (.iconst 0, 1) := by decide +kernel
theorem d_Layer_init_23 : decode c_Layer_init 23 = .ok (.putfield 15, 3) := by decide +kernel
theorem d_Layer_init_26 : decode c_Layer_init 26 = .ok (.return_, 1) := by decide +kernel
theorem d_Layer_clear_0 : decode c_Layer_clear 0 = .ok (.aload_n 0, 1) := by decide +kernel
theorem d_Layer_clear_1 : decode c_Layer_clear 1 = .ok (.iconst 0, 1) := by decide +kernel
theorem d_Layer_clear_2 : decode c_Layer_clear 2 = .ok (.putfield 15, 3) := by decide +kernel
theorem d_Layer_clear_5 : decode c_Layer_clear 5 = .ok (.return_, 1) := by decide +kernel
theorem d_Layer_size_0 : decode c_Layer_size 0 = .ok (.aload_n 0, 1) := by decide +kernel
theorem d_Layer_size_1 : decode c_Layer_size 1 = .ok (.getfield 15, 3) := by decide +kernel
theorem d_Layer_size_4 : decode c_Layer_size 4 = .ok (.ireturn, 1) := by decide +kernel
theorem d_Layer_open_0 : decode c_Layer_open 0 = .ok (.aload_n 0, 1) := by decide +kernel
theorem d_Layer_open_1 : decode c_Layer_open 1 = .ok (.getfield 15, 3) := by decide +kernel
theorem d_Layer_open_4 : decode c_Layer_open 4 = .ok (.ifCond .lt 17, 3) := by decide +kernel
theorem d_Layer_open_7 : decode c_Layer_open 7 = .ok (.aload_n 0, 1) := by decide +kernel
theorem d_Layer_open_8 : decode c_Layer_open 8 = .ok (.getfield 15, 3) := by decide +kernel
theorem d_Layer_open_11 : decode c_Layer_open 11 = .ok (.iconst 1, 1) := by decide +kernel
theorem d_Layer_open_12 : decode c_Layer_open 12 = .ok (.iadd, 1) := by decide +kernel
theorem d_Layer_open_13 : decode c_Layer_open 13 = .ok (.aload_n 0, 1) := by decide +kernel
theorem d_Layer_open_14 : decode c_Layer_open 14 = .ok (.getfield 9, 3) := by decide +kernel
theorem d_Layer_open_17 : decode c_Layer_open 17 = .ok (.arraylength, 1) := by decide +kernel
theorem d_Layer_open_18 : decode c_Layer_open 18 = .ok (.if_icmp .lt 5, 3) := by decide +kernel
theorem d_Layer_open_21 : decode c_Layer_open 21 = .ok (.iconst 0, 1) := by decide +kernel
theorem d_Layer_open_22 : decode c_Layer_open 22 = .ok (.ireturn, 1) := by decide +kernel
theorem d_Layer_open_23 : decode c_Layer_open 23 = .ok (.aload_n 0, 1) := by decide +kernel
theorem d_Layer_open_24 : decode c_Layer_open 24 = .ok (.getfield 9, 3) := by decide +kernel
theorem d_Layer_open_27 : decode c_Layer_open 27 = .ok (.aload_n 0, 1) := by decide +kernel
theorem d_Layer_open_28 : decode c_Layer_open 28 = .ok (.getfield 15, 3) := by decide +kernel
theorem d_Layer_open_31 : decode c_Layer_open 31 = .ok (.iconst 1, 1) := by decide +kernel
theorem d_Layer_open_32 : decode c_Layer_open 32 = .ok (.iadd, 1) := by decide +kernel
theorem d_Layer_open_33 : decode c_Layer_open 33 = .ok (.aload_n 0, 1) := by decide +kernel
theorem d_Layer_open_34 : decode c_Layer_open 34 = .ok (.getfield 9, 3) := by decide +kernel
theorem d_Layer_open_37 : decode c_Layer_open 37 = .ok (.aload_n 0, 1) := by decide +kernel
theorem d_Layer_open_38 : decode c_Layer_open 38 = .ok (.getfield 15, 3) := by decide +kernel
theorem d_Layer_open_41 : decode c_Layer_open 41 = .ok (.iaload, 1) := by decide +kernel
theorem d_Layer_open_42 : decode c_Layer_open 42 = .ok (.iastore, 1) := by decide +kernel
theorem d_Layer_open_43 : decode c_Layer_open 43 = .ok (.aload_n 0, 1) := by decide +kernel
theorem d_Layer_open_44 : decode c_Layer_open 44 = .ok (.dup, 1) := by decide +kernel
theorem d_Layer_open_45 : decode c_Layer_open 45 = .ok (.getfield 15, 3) := by decide +kernel
theorem d_Layer_open_48 : decode c_Layer_open 48 = .ok (.iconst 1, 1) := by decide +kernel
theorem d_Layer_open_49 : decode c_Layer_open 49 = .ok (.iadd, 1) := by decide +kernel
theorem d_Layer_open_50 : decode c_Layer_open 50 = .ok (.putfield 15, 3) := by decide +kernel
theorem d_Layer_open_53 : decode c_Layer_open 53 = .ok (.iconst 1, 1) := by decide +kernel
theorem d_Layer_open_54 : decode c_Layer_open 54 = .ok (.ireturn, 1) := by decide +kernel
theorem d_Layer_grow_0 : decode c_Layer_grow 0 = .ok (.aload_n 0, 1) := by decide +kernel
theorem d_Layer_grow_1 : decode c_Layer_grow 1 = .ok (.getfield 15, 3) := by decide +kernel
theorem d_Layer_grow_4 : decode c_Layer_grow 4 = .ok (.iconst 1, 1) := by decide +kernel
theorem d_Layer_grow_5 : decode c_Layer_grow 5 = .ok (.if_icmp .lt 28, 3) := by decide +kernel
theorem d_Layer_grow_8 : decode c_Layer_grow 8 = .ok (.aload_n 0, 1) := by decide +kernel
theorem d_Layer_grow_9 : decode c_Layer_grow 9 = .ok (.getfield 15, 3) := by decide +kernel
theorem d_Layer_grow_12 : decode c_Layer_grow 12 = .ok (.aload_n 0, 1) := by decide +kernel
theorem d_Layer_grow_13 : decode c_Layer_grow 13 = .ok (.getfield 9, 3) := by decide +kernel
theorem d_Layer_grow_16 : decode c_Layer_grow 16 = .ok (.arraylength, 1) := by decide +kernel
theorem d_Layer_grow_17 : decode c_Layer_grow 17 = .ok (.if_icmp .ge 16, 3) := by decide +kernel
theorem d_Layer_grow_20 : decode c_Layer_grow 20 = .ok (.aload_n 0, 1) := by decide +kernel
theorem d_Layer_grow_21 : decode c_Layer_grow 21 = .ok (.getfield 9, 3) := by decide +kernel
theorem d_Layer_grow_24 : decode c_Layer_grow 24 = .ok (.aload_n 0, 1) := by decide +kernel
theorem d_Layer_grow_25 : decode c_Layer_grow 25 = .ok (.getfield 15, 3) := by decide +kernel
theorem d_Layer_grow_28 : decode c_Layer_grow 28 = .ok (.dup2, 1) := by decide +kernel
theorem d_Layer_grow_29 : decode c_Layer_grow 29 = .ok (.iaload, 1) := by decide +kernel
theorem d_Layer_grow_30 : decode c_Layer_grow 30 = .ok (.iconst 1, 1) := by decide +kernel
theorem d_Layer_grow_31 : decode c_Layer_grow 31 = .ok (.iadd, 1) := by decide +kernel
theorem d_Layer_grow_32 : decode c_Layer_grow 32 = .ok (.iastore, 1) := by decide +kernel
theorem d_Layer_grow_33 : decode c_Layer_grow 33 = .ok (.return_, 1) := by decide +kernel
theorem d_Layer_childrenOf_0 : decode c_Layer_childrenOf 0 = .ok (.iload_n 1, 1) := by decide +kernel
theorem d_Layer_childrenOf_1 : decode c_Layer_childrenOf 1 = .ok (.ifCond .lt 40, 3) := by decide +kernel
theorem d_Layer_childrenOf_4 : decode c_Layer_childrenOf 4 = .ok (.iload_n 1, 1) := by decide +kernel
theorem d_Layer_childrenOf_5 : decode c_Layer_childrenOf 5 = .ok (.aload_n 0, 1) := by decide +kernel
theorem d_Layer_childrenOf_6 : decode c_Layer_childrenOf 6 = .ok (.getfield 15, 3) := by decide +kernel
theorem d_Layer_childrenOf_9 : decode c_Layer_childrenOf 9 = .ok (.if_icmp .ge 32, 3) := by decide +kernel
theorem d_Layer_childrenOf_12 : decode c_Layer_childrenOf 12 = .ok (.iload_n 1, 1) := by decide +kernel
theorem d_Layer_childrenOf_13 : decode c_Layer_childrenOf 13 = .ok (.iconst 1, 1) := by decide +kernel
theorem d_Layer_childrenOf_14 : decode c_Layer_childrenOf 14 = .ok (.iadd, 1) := by decide +kernel
theorem d_Layer_childrenOf_15 : decode c_Layer_childrenOf 15 = .ok (.aload_n 0, 1) := by decide +kernel
theorem d_Layer_childrenOf_16 : decode c_Layer_childrenOf 16 = .ok (.getfield 9, 3) := by decide +kernel
theorem d_Layer_childrenOf_19 : decode c_Layer_childrenOf 19 = .ok (.arraylength, 1) := by decide +kernel
theorem d_Layer_childrenOf_20 : decode c_Layer_childrenOf 20 = .ok (.if_icmp .ge 21, 3) := by decide +kernel
theorem d_Layer_childrenOf_23 : decode c_Layer_childrenOf 23 = .ok (.aload_n 0, 1) := by decide +kernel
theorem d_Layer_childrenOf_24 : decode c_Layer_childrenOf 24 = .ok (.getfield 9, 3) := by decide +kernel
theorem d_Layer_childrenOf_27 : decode c_Layer_childrenOf 27 = .ok (.iload_n 1, 1) := by decide +kernel
theorem d_Layer_childrenOf_28 : decode c_Layer_childrenOf 28 = .ok (.iconst 1, 1) := by decide +kernel
theorem d_Layer_childrenOf_29 : decode c_Layer_childrenOf 29 = .ok (.iadd, 1) := by decide +kernel
theorem d_Layer_childrenOf_30 : decode c_Layer_childrenOf 30 = .ok (.iaload, 1) := by decide +kernel
theorem d_Layer_childrenOf_31 : decode c_Layer_childrenOf 31 = .ok (.aload_n 0, 1) := by decide +kernel
theorem d_Layer_childrenOf_32 : decode c_Layer_childrenOf 32 = .ok (.getfield 9, 3) := by decide +kernel
theorem d_Layer_childrenOf_35 : decode c_Layer_childrenOf 35 = .ok (.iload_n 1, 1) := by decide +kernel
theorem d_Layer_childrenOf_36 : decode c_Layer_childrenOf 36 = .ok (.iaload, 1) := by decide +kernel
theorem d_Layer_childrenOf_37 : decode c_Layer_childrenOf 37 = .ok (.isub, 1) := by decide +kernel
theorem d_Layer_childrenOf_38 : decode c_Layer_childrenOf 38 = .ok (.goto 4, 3) := by decide +kernel
theorem d_Layer_childrenOf_41 : decode c_Layer_childrenOf 41 = .ok (.iconst 0, 1) := by decide +kernel
theorem d_Layer_childrenOf_42 : decode c_Layer_childrenOf 42 = .ok (.ireturn, 1) := by decide +kernel
theorem d_Layer_childrenOfLast_0 : decode c_Layer_childrenOfLast 0 = .ok (.aload_n 0, 1) := by decide +kernel
theorem d_Layer_childrenOfLast_1 : decode c_Layer_childrenOfLast 1 = .ok (.getfield 15, 3) := by decide +kernel
theorem d_Layer_childrenOfLast_4 : decode c_Layer_childrenOfLast 4 = .ok (.iconst 1, 1) := by decide +kernel
theorem d_Layer_childrenOfLast_5 : decode c_Layer_childrenOfLast 5 = .ok (.if_icmp .lt 39, 3) := by decide +kernel
theorem d_Layer_childrenOfLast_8 : decode c_Layer_childrenOfLast 8 = .ok (.aload_n 0, 1) := by decide +kernel
theorem d_Layer_childrenOfLast_9 : decode c_Layer_childrenOfLast 9 = .ok (.getfield 15, 3) := by decide +kernel
theorem d_Layer_childrenOfLast_12 : decode c_Layer_childrenOfLast 12 = .ok (.aload_n 0, 1) := by decide +kernel
theorem d_Layer_childrenOfLast_13 : decode c_Layer_childrenOfLast 13 = .ok (.getfield 9, 3) := by decide +kernel
theorem d_Layer_childrenOfLast_16 : decode c_Layer_childrenOfLast 16 = .ok (.arraylength, 1) := by decide +kernel
theorem d_Layer_childrenOfLast_17 : decode c_Layer_childrenOfLast 17 = .ok (.if_icmp .ge 27, 3) := by decide +kernel
theorem d_Layer_childrenOfLast_20 : decode c_Layer_childrenOfLast 20 = .ok (.aload_n 0, 1) := by decide +kernel
theorem d_Layer_childrenOfLast_21 : decode c_Layer_childrenOfLast 21 = .ok (.getfield 9, 3) := by decide +kernel
theorem d_Layer_childrenOfLast_24 : decode c_Layer_childrenOfLast 24 = .ok (.aload_n 0, 1) := by decide +kernel
theorem d_Layer_childrenOfLast_25 : decode c_Layer_childrenOfLast 25 = .ok (.getfield 15, 3) := by decide +kernel
theorem d_Layer_childrenOfLast_28 : decode c_Layer_childrenOfLast 28 = .ok (.iaload, 1) := by decide +kernel
theorem d_Layer_childrenOfLast_29 : decode c_Layer_childrenOfLast 29 = .ok (.aload_n 0, 1) := by decide +kernel
theorem d_Layer_childrenOfLast_30 : decode c_Layer_childrenOfLast 30 = .ok (.getfield 9, 3) := by decide +kernel
theorem d_Layer_childrenOfLast_33 : decode c_Layer_childrenOfLast 33 = .ok (.aload_n 0, 1) := by decide +kernel
theorem d_Layer_childrenOfLast_34 : decode c_Layer_childrenOfLast 34 = .ok (.getfield 15, 3) := by decide +kernel
theorem d_Layer_childrenOfLast_37 : decode c_Layer_childrenOfLast 37 = .ok (.iconst 1, 1) := by decide +kernel
theorem d_Layer_childrenOfLast_38 : decode c_Layer_childrenOfLast 38 = .ok (.isub, 1) := by decide +kernel
theorem d_Layer_childrenOfLast_39 : decode c_Layer_childrenOfLast 39 = .ok (.iaload, 1) := by decide +kernel
theorem d_Layer_childrenOfLast_40 : decode c_Layer_childrenOfLast 40 = .ok (.isub, 1) := by decide +kernel
theorem d_Layer_childrenOfLast_41 : decode c_Layer_childrenOfLast 41 = .ok (.goto 4, 3) := by decide +kernel
theorem d_Layer_childrenOfLast_44 : decode c_Layer_childrenOfLast 44 = .ok (.iconst 0, 1) := by decide +kernel
theorem d_Layer_childrenOfLast_45 : decode c_Layer_childrenOfLast 45 = .ok (.ireturn, 1) := by decide +kernel
theorem d_Layer_childAt_0 : decode c_Layer_childAt 0 = .ok (.iload_n 1, 1) := by decide +kernel
theorem d_Layer_childAt_1 : decode c_Layer_childAt 1 = .ok (.ifCond .lt 22, 3) := by decide +kernel
theorem d_Layer_childAt_4 : decode c_Layer_childAt 4 = .ok (.iload_n 1, 1) := by decide +kernel
theorem d_Layer_childAt_5 : decode c_Layer_childAt 5 = .ok (.aload_n 0, 1) := by decide +kernel
theorem d_Layer_childAt_6 : decode c_Layer_childAt 6 = .ok (.getfield 15, 3) := by decide +kernel
theorem d_Layer_childAt_9 : decode c_Layer_childAt 9 = .ok (.if_icmp .ge 14, 3) := by decide +kernel
theorem d_Layer_childAt_12 : decode c_Layer_childAt 12 = .ok (.iload_n 1, 1) := by decide +kernel
theorem d_Layer_childAt_13 : decode c_Layer_childAt 13 = .ok (.iconst 1, 1) := by decide +kernel
theorem d_Layer_childAt_14 : decode c_Layer_childAt 14 = .ok (.iadd, 1) := by decide +kernel
theorem d_Layer_childAt_15 : decode c_Layer_childAt 15 = .ok (.aload_n 0, 1) := by decide +kernel
theorem d_Layer_childAt_16 : decode c_Layer_childAt 16 = .ok (.getfield 9, 3) := by decide +kernel
theorem d_Layer_childAt_19 : decode c_Layer_childAt 19 = .ok (.arraylength, 1) := by decide +kernel
theorem d_Layer_childAt_20 : decode c_Layer_childAt 20 = .ok (.if_icmp .lt 5, 3) := by decide +kernel
theorem d_Layer_childAt_23 : decode c_Layer_childAt 23 = .ok (.iconst (-1), 1) := by decide +kernel
theorem d_Layer_childAt_24 : decode c_Layer_childAt 24 = .ok (.ireturn, 1) := by decide +kernel
theorem d_Layer_childAt_25 : decode c_Layer_childAt 25 = .ok (.iload_n 2, 1) := by decide +kernel
theorem d_Layer_childAt_26 : decode c_Layer_childAt 26 = .ok (.ifCond .lt 33, 3) := by decide +kernel
theorem d_Layer_childAt_29 : decode c_Layer_childAt 29 = .ok (.iload_n 2, 1) := by decide +kernel
theorem d_Layer_childAt_30 : decode c_Layer_childAt 30 = .ok (.aload_n 0, 1) := by decide +kernel
theorem d_Layer_childAt_31 : decode c_Layer_childAt 31 = .ok (.getfield 9, 3) := by decide +kernel
theorem d_Layer_childAt_34 : decode c_Layer_childAt 34 = .ok (.iload_n 1, 1) := by decide +kernel
theorem d_Layer_childAt_35 : decode c_Layer_childAt 35 = .ok (.iconst 1, 1) := by decide +kernel
theorem d_Layer_childAt_36 : decode c_Layer_childAt 36 = .ok (.iadd, 1) := by decide +kernel
theorem d_Layer_childAt_37 : decode c_Layer_childAt 37 = .ok (.iaload, 1) := by decide +kernel
theorem d_Layer_childAt_38 : decode c_Layer_childAt 38 = .ok (.aload_n 0, 1) := by decide +kernel
theorem d_Layer_childAt_39 : decode c_Layer_childAt 39 = .ok (.getfield 9, 3) := by decide +kernel
theorem d_Layer_childAt_42 : decode c_Layer_childAt 42 = .ok (.iload_n 1, 1) := by decide +kernel
theorem d_Layer_childAt_43 : decode c_Layer_childAt 43 = .ok (.iaload, 1) := by decide +kernel
theorem d_Layer_childAt_44 : decode c_Layer_childAt 44 = .ok (.isub, 1) := by decide +kernel
theorem d_Layer_childAt_45 : decode c_Layer_childAt 45 = .ok (.if_icmp .ge 14, 3) := by decide +kernel
theorem d_Layer_childAt_48 : decode c_Layer_childAt 48 = .ok (.aload_n 0, 1) := by decide +kernel
theorem d_Layer_childAt_49 : decode c_Layer_childAt 49 = .ok (.getfield 9, 3) := by decide +kernel
theorem d_Layer_childAt_52 : decode c_Layer_childAt 52 = .ok (.iload_n 1, 1) := by decide +kernel
theorem d_Layer_childAt_53 : decode c_Layer_childAt 53 = .ok (.iaload, 1) := by decide +kernel
theorem d_Layer_childAt_54 : decode c_Layer_childAt 54 = .ok (.iload_n 2, 1) := by decide +kernel
theorem d_Layer_childAt_55 : decode c_Layer_childAt 55 = .ok (.iadd, 1) := by decide +kernel
theorem d_Layer_childAt_56 : decode c_Layer_childAt 56 = .ok (.goto 4, 3) := by decide +kernel
theorem d_Layer_childAt_59 : decode c_Layer_childAt 59 = .ok (.iconst (-1), 1) := by decide +kernel
theorem d_Layer_childAt_60 : decode c_Layer_childAt 60 = .ok (.ireturn, 1) := by decide +kernel
theorem d_Message_init_0 : decode c_Message_init 0 = .ok (.aload_n 0, 1) := by decide +kernel
theorem d_Message_init_1 : decode c_Message_init 1 = .ok (.invokespecial 3, 3) := by decide +kernel
theorem d_Message_init_4 : decode c_Message_init 4 = .ok (.aload_n 0, 1) := by decide +kernel
theorem d_Message_init_5 : decode c_Message_init 5 = .ok (.bipush 60, 2) := by decide +kernel
theorem d_Message_init_7 : decode c_Message_init 7 = .ok (.newarray .int, 2) := by decide +kernel
theorem d_Message_init_9 : decode c_Message_init 9 = .ok (.putfield 9, 3) := by decide +kernel
theorem d_Message_init_12 : decode c_Message_init 12 = .ok (.aload_n 0, 1) := by decide +kernel
theorem d_Message_init_13 : decode c_Message_init 13 = .ok (.new 15, 3) := by decide +kernel
theorem d_Message_init_16 : decode c_Message_init 16 = .ok (.dup, 1) := by decide +kernel
theorem d_Message_init_17 : decode c_Message_init 17 = .ok (.bipush 60, 2) := by decide +kernel
theorem d_Message_init_19 : decode c_Message_init 19 = .ok (.invokespecial 17, 3) := by decide +kernel
theorem d_Message_init_22 : decode c_Message_init 22 = .ok (.putfield 20, 3) := by decide +kernel
theorem d_Message_init_25 : decode c_Message_init 25 = .ok (.aload_n 0, 1) := by decide +kernel
theorem d_Message_init_26 : decode c_Message_init 26 = .ok (.new 15, 3) := by decide +kernel
theorem d_Message_init_29 : decode c_Message_init 29 = .ok (.dup, 1) := by decide +kernel
theorem d_Message_init_30 : decode c_Message_init 30 = .ok (.sipush 1200, 3) := by decide +kernel
theorem d_Message_init_33 : decode c_Message_init 33 = .ok (.invokespecial 17, 3) := by decide +kernel
theorem d_Message_init_36 : decode c_Message_init 36 = .ok (.putfield 24, 3) := by decide +kernel
theorem d_Message_init_39 : decode c_Message_init 39 = .ok (.aload_n 0, 1) := by decide +kernel
theorem d_Message_init_40 : decode c_Message_init 40 = .ok (.new 15, 3) := by decide +kernel
theorem d_Message_init_43 : decode c_Message_init 43 = .ok (.dup, 1) := by decide +kernel
theorem d_Message_init_44 : decode c_Message_init 44 = .ok (.sipush 1500, 3) := by decide +kernel
theorem d_Message_init_47 : decode c_Message_init 47 = .ok (.invokespecial 17, 3) := by decide +kernel
theorem d_Message_init_50 : decode c_Message_init 50 = .ok (.putfield 27, 3) := by decide +kernel
theorem d_Message_init_53 : decode c_Message_init 53 = .ok (.aload_n 0, 1) := by decide +kernel
theorem d_Message_init_54 : decode c_Message_init 54 = .ok (.new 15, 3) := by decide +kernel
theorem d_Message_init_57 : decode c_Message_init 57 = .ok (.dup, 1) := by decide +kernel
theorem d_Message_init_58 : decode c_Message_init 58 = .ok (.sipush 1500, 3) := by decide +kernel
theorem d_Message_init_61 : decode c_Message_init 61 = .ok (.invokespecial 17, 3) := by decide +kernel
theorem d_Message_init_64 : decode c_Message_init 64 = .ok (.putfield 30, 3) := by decide +kernel
theorem d_Message_init_67 : decode c_Message_init 67 = .ok (.aload_n 0, 1) := by decide +kernel
theorem d_Message_init_68 : decode c_Message_init 68 = .ok (.new 33, 3) := by decide +kernel
theorem d_Message_init_71 : decode c_Message_init 71 = .ok (.dup, 1) := by decide +kernel
theorem d_Message_init_72 : decode c_Message_init 72 = .ok (.invokespecial 35, 3) := by decide +kernel
theorem d_Message_init_75 : decode c_Message_init 75 = .ok (.putfield 36, 3) := by decide +kernel
theorem d_Message_init_78 : decode c_Message_init 78 = .ok (.return_, 1) := by decide +kernel
theorem d_Message_clear_0 : decode c_Message_clear 0 = .ok (.aload_n 0, 1) := by decide +kernel
theorem d_Message_clear_1 : decode c_Message_clear 1 = .ok (.getfield 20, 3) := by decide +kernel
theorem d_Message_clear_4 : decode c_Message_clear 4 = .ok (.invokevirtual 40, 3) := by decide +kernel
theorem d_Message_clear_7 : decode c_Message_clear 7 = .ok (.aload_n 0, 1) := by decide +kernel
theorem d_Message_clear_8 : decode c_Message_clear 8 = .ok (.getfield 24, 3) := by decide +kernel
theorem d_Message_clear_11 : decode c_Message_clear 11 = .ok (.invokevirtual 40, 3) := by decide +kernel
theorem d_Message_clear_14 : decode c_Message_clear 14 = .ok (.aload_n 0, 1) := by decide +kernel
theorem d_Message_clear_15 : decode c_Message_clear 15 = .ok (.getfield 27, 3) := by decide +kernel
theorem d_Message_clear_18 : decode c_Message_clear 18 = .ok (.invokevirtual 40, 3) := by decide +kernel
theorem d_Message_clear_21 : decode c_Message_clear 21 = .ok (.aload_n 0, 1) := by decide +kernel
theorem d_Message_clear_22 : decode c_Message_clear 22 = .ok (.getfield 30, 3) := by decide +kernel
theorem d_Message_clear_25 : decode c_Message_clear 25 = .ok (.invokevirtual 40, 3) := by decide +kernel
theorem d_Message_clear_28 : decode c_Message_clear 28 = .ok (.aload_n 0, 1) := by decide +kernel
theorem d_Message_clear_29 : decode c_Message_clear 29 = .ok (.getfield 36, 3) := by decide +kernel
theorem d_Message_clear_32 : decode c_Message_clear 32 = .ok (.invokevirtual 43, 3) := by decide +kernel
theorem d_Message_clear_35 : decode c_Message_clear 35 = .ok (.return_, 1) := by decide +kernel
theorem d_Message_isThere_0 : decode c_Message_isThere 0 = .ok (.aload_n 0, 1) := by decide +kernel
theorem d_Message_isThere_1 : decode c_Message_isThere 1 = .ok (.getfield 20, 3) := by decide +kernel
theorem d_Message_isThere_4 : decode c_Message_isThere 4 = .ok (.invokevirtual 44, 3) := by decide +kernel
theorem d_Message_isThere_7 : decode c_Message_isThere 7 = .ok (.ifCond .le 7, 3) := by decide +kernel
theorem d_Message_isThere_10 : decode c_Message_isThere 10 = .ok (.iconst 1, 1) := by decide +kernel
theorem d_Message_isThere_11 : decode c_Message_isThere 11 = .ok (.goto 4, 3) := by decide +kernel
theorem d_Message_isThere_14 : decode c_Message_isThere 14 = .ok (.iconst 0, 1) := by decide +kernel
theorem d_Message_isThere_15 : decode c_Message_isThere 15 = .ok (.ireturn, 1) := by decide +kernel
theorem d_Message_isFull_0 : decode c_Message_isFull 0 = .ok (.aload_n 0, 1) := by decide +kernel
theorem d_Message_isFull_1 : decode c_Message_isFull 1 = .ok (.getfield 20, 3) := by decide +kernel
theorem d_Message_isFull_4 : decode c_Message_isFull 4 = .ok (.invokevirtual 44, 3) := by decide +kernel
theorem d_Message_isFull_7 : decode c_Message_isFull 7 = .ok (.bipush 60, 2) := by decide +kernel
theorem d_Message_isFull_9 : decode c_Message_isFull 9 = .ok (.if_icmp .lt 7, 3) := by decide +kernel
theorem d_Message_isFull_12 : decode c_Message_isFull 12 = .ok (.iconst 1, 1) := by decide +kernel
theorem d_Message_isFull_13 : decode c_Message_isFull 13 = .ok (.goto 4, 3) := by decide +kernel
theorem d_Message_isFull_16 : decode c_Message_isFull 16 = .ok (.iconst 0, 1) := by decide +kernel
theorem d_Message_isFull_17 : decode c_Message_isFull 17 = .ok (.ireturn, 1) := by decide +kernel
theorem d_Message_size_0 : decode c_Message_size 0 = .ok (.aload_n 0, 1) := by decide +kernel
theorem d_Message_size_1 : decode c_Message_size 1 = .ok (.getfield 20, 3) := by decide +kernel
theorem d_Message_size_4 : decode c_Message_size 4 = .ok (.invokevirtual 44, 3) := by decide +kernel
theorem d_Message_size_7 : decode c_Message_size 7 = .ok (.ireturn, 1) := by decide +kernel
theorem d_Message_openSegment_0 : decode c_Message_openSegment 0 = .ok (.aload_n 0, 1) := by decide +kernel
theorem d_Message_openSegment_1 : decode c_Message_openSegment 1 = .ok (.getfield 20, 3) := by decide +kernel
theorem d_Message_openSegment_4 : decode c_Message_openSegment 4 = .ok (.invokevirtual 44, 3) := by decide +kernel
theorem d_Message_openSegment_7 : decode c_Message_openSegment 7 = .ok (.istore_n 2, 1) := by decide +kernel
theorem d_Message_openSegment_8 : decode c_Message_openSegment 8 = .ok (.iload_n 2, 1) := by decide +kernel
theorem d_Message_openSegment_9 : decode c_Message_openSegment 9 = .ok (.ifCond .lt 22, 3) := by decide +kernel
theorem d_Message_openSegment_12 : decode c_Message_openSegment 12 = .ok (.iload_n 2, 1) := by decide +kernel
theorem d_Message_openSegment_13 : decode c_Message_openSegment 13 = .ok (.aload_n 0, 1) := by decide +kernel
theorem d_Message_openSegment_14 : decode c_Message_openSegment 14 = .ok (.getfield 9, 3) := by decide +kernel
theorem d_Message_openSegment_17 : decode c_Message_openSegment 17 = .ok (.arraylength, 1) := by decide +kernel
theorem d_Message_openSegment_18 : decode c_Message_openSegment 18 = .ok (.if_icmp .ge 13, 3) := by decide +kernel
theorem d_Message_openSegment_21 : decode c_Message_openSegment 21 = .ok (.aload_n 0, 1) := by decide +kernel
theorem d_Message_openSegment_22 : decode c_Message_openSegment 22 = .ok (.getfield 20, 3) := by decide +kernel
theorem d_Message_openSegment_25 : decode c_Message_openSegment 25 = .ok (.invokevirtual 48, 3) := by decide +kernel
theorem d_Message_openSegment_28 : decode c_Message_openSegment 28 = .ok (.ifCond .ne 5, 3) := by decide +kernel
theorem d_Message_openSegment_31 : decode c_Message_openSegment 31 = .ok (.iconst 0, 1) := by decide +kernel
theorem d_Message_openSegment_32 : decode c_Message_openSegment 32 = .ok (.ireturn, 1) := by decide +kernel
theorem d_Message_openSegment_33 : decode c_Message_openSegment 33 = .ok (.aload_n 0, 1) := by decide +kernel
theorem d_Message_openSegment_34 : decode c_Message_openSegment 34 = .ok (.getfield 9, 3) := by decide +kernel
theorem d_Message_openSegment_37 : decode c_Message_openSegment 37 = .ok (.iload_n 2, 1) := by decide +kernel
theorem d_Message_openSegment_38 : decode c_Message_openSegment 38 = .ok (.iload_n 1, 1) := by decide +kernel
theorem d_Message_openSegment_39 : decode c_Message_openSegment 39 = .ok (.iastore, 1) := by decide +kernel
theorem d_Message_openSegment_40 : decode c_Message_openSegment 40 = .ok (.iconst 1, 1) := by decide +kernel
theorem d_Message_openSegment_41 : decode c_Message_openSegment 41 = .ok (.ireturn, 1) := by decide +kernel
theorem d_Message_openElement_0 : decode c_Message_openElement 0 = .ok (.aload_n 0, 1) := by decide +kernel
theorem d_Message_openElement_1 : decode c_Message_openElement 1 = .ok (.getfield 20, 3) := by decide +kernel
theorem d_Message_openElement_4 : decode c_Message_openElement 4 = .ok (.bipush 20, 2) := by decide +kernel
theorem d_Message_openElement_6 : decode c_Message_openElement 6 = .ok (.aload_n 0, 1) := by decide +kernel
theorem d_Message_openElement_7 : decode c_Message_openElement 7 = .ok (.getfield 24, 3) := by decide +kernel
theorem d_Message_openElement_10 : decode c_Message_openElement 10 = .ok (.invokestatic 52, 3) := by decide +kernel
theorem d_Message_openElement_13 : decode c_Message_openElement 13 = .ok (.ifCond .eq 38, 3) := by decide +kernel
theorem d_Message_openElement_16 : decode c_Message_openElement 16 = .ok (.aload_n 0, 1) := by decide +kernel
theorem d_Message_openElement_17 : decode c_Message_openElement 17 = .ok (.getfield 24, 3) := by decide +kernel
theorem d_Message_openElement_20 : decode c_Message_openElement 20 = .ok (.iconst 4, 1) := by decide +kernel
theorem d_Message_openElement_21 : decode c_Message_openElement 21 = .ok (.aload_n 0, 1) := by decide +kernel
theorem d_Message_openElement_22 : decode c_Message_openElement 22 = .ok (.getfield 27, 3) := by decide +kernel
theorem d_Message_openElement_25 : decode c_Message_openElement 25 = .ok (.invokestatic 52, 3) := by decide +kernel
theorem d_Message_openElement_28 : decode c_Message_openElement 28 = .ok (.ifCond .eq 23, 3) := by decide +kernel
theorem d_Message_openElement_31 : decode c_Message_openElement 31 = .ok (.aload_n 0, 1) := by decide +kernel
theorem d_Message_openElement_32 : decode c_Message_openElement 32 = .ok (.getfield 27, 3) := by decide +kernel
theorem d_Message_openElement_35 : decode c_Message_openElement 35 = .ok (.bipush 8, 2) := by decide +kernel
theorem d_Message_openElement_37 : decode c_Message_openElement 37 = .ok (.aload_n 0, 1) := by decide +kernel
theorem d_Message_openElement_38 : decode c_Message_openElement 38 = .ok (.getfield 30, 3) := by decide +kernel
theorem d_Message_openElement_41 : decode c_Message_openElement 41 = .ok (.invokestatic 52, 3) := by decide +kernel
theorem d_Message_openElement_44 : decode c_Message_openElement 44 = .ok (.ifCond .eq 7, 3) := by decide +kernel
theorem d_Message_openElement_47 : decode c_Message_openElement 47 = .ok (.iconst 1, 1) := by decide +kernel
theorem d_Message_openElement_48 : decode c_Message_openElement 48 = .ok (.goto 4, 3) := by decide +kernel
theorem d_Message_openElement_51 : decode c_Message_openElement 51 = .ok (.iconst 0, 1) := by decide +kernel
theorem d_Message_openElement_52 : decode c_Message_openElement 52 = .ok (.ireturn, 1) := by decide +kernel
theorem d_Message_openRepeat_0 : decode c_Message_openRepeat 0 = .ok (.aload_n 0, 1) := by decide +kernel
theorem d_Message_openRepeat_1 : decode c_Message_openRepeat 1 = .ok (.getfield 24, 3) := by decide +kernel
theorem d_Message_openRepeat_4 : decode c_Message_openRepeat 4 = .ok (.iconst 4, 1) := by decide +kernel
theorem d_Message_openRepeat_5 : decode c_Message_openRepeat 5 = .ok (.aload_n 0, 1) := by decide +kernel
theorem d_Message_openRepeat_6 : decode c_Message_openRepeat 6 = .ok (.getfield 27, 3) := by decide +kernel
theorem d_Message_openRepeat_9 : decode c_Message_openRepeat 9 = .ok (.invokestatic 52, 3) := by decide +kernel
theorem d_Message_openRepeat_12 : decode c_Message_openRepeat 12 = .ok (.ifCond .eq 23, 3) := by decide +kernel
theorem d_Message_openRepeat_15 : decode c_Message_openRepeat 15 = .ok (.aload_n 0, 1) := by decide +kernel
theorem d_Message_openRepeat_16 : decode c_Message_openRepeat 16 = .ok (.getfield 27, 3) := by decide +kernel
theorem d_Message_openRepeat_19 : decode c_Message_openRepeat 19 = .ok (.bipush 8, 2) := by decide +kernel
theorem d_Message_openRepeat_21 : decode c_Message_openRepeat 21 = .ok (.aload_n 0, 1) := by decide +kernel
theorem d_Message_openRepeat_22 : decode c_Message_openRepeat 22 = .ok (.getfield 30, 3) := by decide +kernel
theorem d_Message_openRepeat_25 : decode c_Message_openRepeat 25 = .ok (.invokestatic 52, 3) := by decide +kernel
theorem d_Message_openRepeat_28 : decode c_Message_openRepeat 28 = .ok (.ifCond .eq 7, 3) := by decide +kernel
theorem d_Message_openRepeat_31 : decode c_Message_openRepeat 31 = .ok (.iconst 1, 1) := by decide +kernel
theorem d_Message_openRepeat_32 : decode c_Message_openRepeat 32 = .ok (.goto 4, 3) := by decide +kernel
theorem d_Message_openRepeat_35 : decode c_Message_openRepeat 35 = .ok (.iconst 0, 1) := by decide +kernel
theorem d_Message_openRepeat_36 : decode c_Message_openRepeat 36 = .ok (.ireturn, 1) := by decide +kernel
theorem d_Message_openComponent_0 : decode c_Message_openComponent 0 = .ok (.aload_n 0, 1) := by decide +kernel
theorem d_Message_openComponent_1 : decode c_Message_openComponent 1 = .ok (.getfield 27, 3) := by decide +kernel
theorem d_Message_openComponent_4 : decode c_Message_openComponent 4 = .ok (.bipush 8, 2) := by decide +kernel
theorem d_Message_openComponent_6 : decode c_Message_openComponent 6 = .ok (.aload_n 0, 1) := by decide +kernel
theorem d_Message_openComponent_7 : decode c_Message_openComponent 7 = .ok (.getfield 30, 3) := by decide +kernel
theorem d_Message_openComponent_10 : decode c_Message_openComponent 10 = .ok (.invokestatic 52, 3) := by decide +kernel
theorem d_Message_openComponent_13 : decode c_Message_openComponent 13 = .ok (.ireturn, 1) := by decide +kernel
theorem d_Message_openBelow_0 : decode c_Message_openBelow 0 = .ok (.aload_n 0, 1) := by decide +kernel
theorem d_Message_openBelow_1 : decode c_Message_openBelow 1 = .ok (.invokevirtual 56, 3) := by decide +kernel
theorem d_Message_openBelow_4 : decode c_Message_openBelow 4 = .ok (.iload_n 1, 1) := by decide +kernel
theorem d_Message_openBelow_5 : decode c_Message_openBelow 5 = .ok (.if_icmp .ge 10, 3) := by decide +kernel
theorem d_Message_openBelow_8 : decode c_Message_openBelow 8 = .ok (.aload_n 2, 1) := by decide +kernel
theorem d_Message_openBelow_9 : decode c_Message_openBelow 9 = .ok (.invokevirtual 48, 3) := by decide +kernel
theorem d_Message_openBelow_12 : decode c_Message_openBelow 12 = .ok (.ifCond .ne 5, 3) := by decide +kernel
theorem d_Message_openBelow_15 : decode c_Message_openBelow 15 = .ok (.iconst 0, 1) := by decide +kernel
theorem d_Message_openBelow_16 : decode c_Message_openBelow 16 = .ok (.ireturn, 1) := by decide +kernel
theorem d_Message_openBelow_17 : decode c_Message_openBelow 17 = .ok (.aload_n 0, 1) := by decide +kernel
theorem d_Message_openBelow_18 : decode c_Message_openBelow 18 = .ok (.invokevirtual 59, 3) := by decide +kernel
theorem d_Message_openBelow_21 : decode c_Message_openBelow 21 = .ok (.iconst 1, 1) := by decide +kernel
theorem d_Message_openBelow_22 : decode c_Message_openBelow 22 = .ok (.ireturn, 1) := by decide +kernel
theorem d_Message_appendLetter_0 : decode c_Message_appendLetter 0 = .ok (.aload_n 0, 1) := by decide +kernel
theorem d_Message_appendLetter_1 : decode c_Message_appendLetter 1 = .ok (.getfield 36, 3) := by decide +kernel
theorem d_Message_appendLetter_4 : decode c_Message_appendLetter 4 = .ok (.iload_n 1, 1) := by decide +kernel
theorem d_Message_appendLetter_5 : decode c_Message_appendLetter 5 = .ok (.invokevirtual 62, 3) := by decide +kernel
theorem d_Message_appendLetter_8 : decode c_Message_appendLetter 8 = .ok (.ifCond .ne 5, 3) := by decide +kernel
theorem d_Message_appendLetter_11 : decode c_Message_appendLetter 11 = .ok (.iconst 0, 1) := by decide +kernel
theorem d_Message_appendLetter_12 : decode c_Message_appendLetter 12 = .ok (.ireturn, 1) := by decide +kernel
theorem d_Message_appendLetter_13 : decode c_Message_appendLetter 13 = .ok (.aload_n 0, 1) := by decide +kernel
