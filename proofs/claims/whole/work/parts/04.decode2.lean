theorem d_Forms_init_27 : decode c_Forms_init 27 = .ok (.new 19, 3) := by decide +kernel
theorem d_Forms_init_30 : decode c_Forms_init 30 = .ok (.dup, 1) := by decide +kernel
theorem d_Forms_init_31 : decode c_Forms_init 31 = .ok (.invokespecial 21, 3) := by decide +kernel
theorem d_Forms_init_34 : decode c_Forms_init 34 = .ok (.putfield 22, 3) := by decide +kernel
theorem d_Forms_init_37 : decode c_Forms_init 37 = .ok (.aload_n 0, 1) := by decide +kernel
theorem d_Forms_init_38 : decode c_Forms_init 38 = .ok (.new 26, 3) := by decide +kernel
theorem d_Forms_init_41 : decode c_Forms_init 41 = .ok (.dup, 1) := by decide +kernel
theorem d_Forms_init_42 : decode c_Forms_init 42 = .ok (.invokespecial 28, 3) := by decide +kernel
theorem d_Forms_init_45 : decode c_Forms_init 45 = .ok (.putfield 29, 3) := by decide +kernel
theorem d_Forms_init_48 : decode c_Forms_init 48 = .ok (.aload_n 0, 1) := by decide +kernel
theorem d_Forms_init_49 : decode c_Forms_init 49 = .ok (.new 33, 3) := by decide +kernel
theorem d_Forms_init_52 : decode c_Forms_init 52 = .ok (.dup, 1) := by decide +kernel
theorem d_Forms_init_53 : decode c_Forms_init 53 = .ok (.aload_n 0, 1) := by decide +kernel
theorem d_Forms_init_54 : decode c_Forms_init 54 = .ok (.getfield 29, 3) := by decide +kernel
theorem d_Forms_init_57 : decode c_Forms_init 57 = .ok (.aload_n 0, 1) := by decide +kernel
theorem d_Forms_init_58 : decode c_Forms_init 58 = .ok (.getfield 22, 3) := by decide +kernel
theorem d_Forms_init_61 : decode c_Forms_init 61 = .ok (.invokespecial 35, 3) := by decide +kernel
theorem d_Forms_init_64 : decode c_Forms_init 64 = .ok (.putfield 38, 3) := by decide +kernel
theorem d_Forms_init_67 : decode c_Forms_init 67 = .ok (.aload_n 0, 1) := by decide +kernel
theorem d_Forms_init_68 : decode c_Forms_init 68 = .ok (.iconst 4, 1) := by decide +kernel
theorem d_Forms_init_69 : decode c_Forms_init 69 = .ok (.anewarray 42, 3) := by decide +kernel
theorem d_Forms_init_72 : decode c_Forms_init 72 = .ok (.putfield 44, 3) := by decide +kernel
theorem d_Forms_init_75 : decode c_Forms_init 75 = .ok (.iconst 0, 1) := by decide +kernel
theorem d_Forms_init_76 : decode c_Forms_init 76 = .ok (.istore_n 1, 1) := by decide +kernel
theorem d_Forms_init_77 : decode c_Forms_init 77 = .ok (.iload_n 1, 1) := by decide +kernel
theorem d_Forms_init_78 : decode c_Forms_init 78 = .ok (.aload_n 0, 1) := by decide +kernel
theorem d_Forms_init_79 : decode c_Forms_init 79 = .ok (.getfield 44, 3) := by decide +kernel
theorem d_Forms_init_82 : decode c_Forms_init 82 = .ok (.arraylength, 1) := by decide +kernel
theorem d_Forms_init_83 : decode c_Forms_init 83 = .ok (.if_icmp .ge 22, 3) := by decide +kernel
theorem d_Forms_init_86 : decode c_Forms_init 86 = .ok (.aload_n 0, 1) := by decide +kernel
theorem d_Forms_init_87 : decode c_Forms_init 87 = .ok (.getfield 44, 3) := by decide +kernel
theorem d_Forms_init_90 : decode c_Forms_init 90 = .ok (.iload_n 1, 1) := by decide +kernel
theorem d_Forms_init_91 : decode c_Forms_init 91 = .ok (.new 42, 3) := by decide +kernel
theorem d_Forms_init_94 : decode c_Forms_init 94 = .ok (.dup, 1) := by decide +kernel
theorem d_Forms_init_95 : decode c_Forms_init 95 = .ok (.invokespecial 48, 3) := by decide +kernel
theorem d_Forms_init_98 : decode c_Forms_init 98 = .ok (.aastore, 1) := by decide +kernel
theorem d_Forms_init_99 : decode c_Forms_init 99 = .ok (.iinc 1 1, 3) := by decide +kernel
theorem d_Forms_init_102 : decode c_Forms_init 102 = .ok (.goto (-25), 3) := by decide +kernel
theorem d_Forms_init_105 : decode c_Forms_init 105 = .ok (.aload_n 0, 1) := by decide +kernel
theorem d_Forms_init_106 : decode c_Forms_init 106 = .ok (.new 49, 3) := by decide +kernel
theorem d_Forms_init_109 : decode c_Forms_init 109 = .ok (.dup, 1) := by decide +kernel
theorem d_Forms_init_110 : decode c_Forms_init 110 = .ok (.aload_n 0, 1) := by decide +kernel
theorem d_Forms_init_111 : decode c_Forms_init 111 = .ok (.getfield 29, 3) := by decide +kernel
theorem d_Forms_init_114 : decode c_Forms_init 114 = .ok (.invokespecial 51, 3) := by decide +kernel
theorem d_Forms_init_117 : decode c_Forms_init 117 = .ok (.putfield 54, 3) := by decide +kernel
theorem d_Forms_init_120 : decode c_Forms_init 120 = .ok (.aload_n 0, 1) := by decide +kernel
theorem d_Forms_init_121 : decode c_Forms_init 121 = .ok (.new 58, 3) := by decide +kernel
theorem d_Forms_init_124 : decode c_Forms_init 124 = .ok (.dup, 1) := by decide +kernel
theorem d_Forms_init_125 : decode c_Forms_init 125 = .ok (.aload_n 0, 1) := by decide +kernel
theorem d_Forms_init_126 : decode c_Forms_init 126 = .ok (.getfield 29, 3) := by decide +kernel
theorem d_Forms_init_129 : decode c_Forms_init 129 = .ok (.aload_n 0, 1) := by decide +kernel
theorem d_Forms_init_130 : decode c_Forms_init 130 = .ok (.getfield 22, 3) := by decide +kernel
theorem d_Forms_init_133 : decode c_Forms_init 133 = .ok (.aload_n 0, 1) := by decide +kernel
theorem d_Forms_init_134 : decode c_Forms_init 134 = .ok (.getfield 16, 3) := by decide +kernel
theorem d_Forms_init_137 : decode c_Forms_init 137 = .ok (.invokespecial 60, 3) := by decide +kernel
theorem d_Forms_init_140 : decode c_Forms_init 140 = .ok (.putfield 63, 3) := by decide +kernel
theorem d_Forms_init_143 : decode c_Forms_init 143 = .ok (.return_, 1) := by decide +kernel
theorem d_Forms_add_0 : decode c_Forms_add 0 = .ok (.iload_n 1, 1) := by decide +kernel
theorem d_Forms_add_1 : decode c_Forms_add 1 = .ok (.bipush 32, 2) := by decide +kernel
theorem d_Forms_add_3 : decode c_Forms_add 3 = .ok (.if_icmp .lt 24, 3) := by decide +kernel
theorem d_Forms_add_6 : decode c_Forms_add 6 = .ok (.iload_n 1, 1) := by decide +kernel
theorem d_Forms_add_7 : decode c_Forms_add 7 = .ok (.bipush 126, 2) := by decide +kernel
theorem d_Forms_add_9 : decode c_Forms_add 9 = .ok (.if_icmp .gt 18, 3) := by decide +kernel
theorem d_Forms_add_12 : decode c_Forms_add 12 = .ok (.aload_n 0, 1) := by decide +kernel
theorem d_Forms_add_13 : decode c_Forms_add 13 = .ok (.getfield 10, 3) := by decide +kernel
theorem d_Forms_add_16 : decode c_Forms_add 16 = .ok (.iload_n 1, 1) := by decide +kernel
theorem d_Forms_add_17 : decode c_Forms_add 17 = .ok (.invokevirtual 67, 3) := by decide +kernel
theorem d_Forms_add_20 : decode c_Forms_add 20 = .ok (.ifCond .eq 7, 3) := by decide +kernel
theorem d_Forms_add_23 : decode c_Forms_add 23 = .ok (.iconst 1, 1) := by decide +kernel
theorem d_Forms_add_24 : decode c_Forms_add 24 = .ok (.goto 4, 3) := by decide +kernel
theorem d_Forms_add_27 : decode c_Forms_add 27 = .ok (.iconst 0, 1) := by decide +kernel
theorem d_Forms_add_28 : decode c_Forms_add 28 = .ok (.ireturn, 1) := by decide +kernel
theorem d_Forms_read_0 : decode c_Forms_read 0 = .ok (.aload_n 0, 1) := by decide +kernel
theorem d_Forms_read_1 : decode c_Forms_read 1 = .ok (.getfield 54, 3) := by decide +kernel
theorem d_Forms_read_4 : decode c_Forms_read 4 = .ok (.invokevirtual 71, 3) := by decide +kernel
theorem d_Forms_read_7 : decode c_Forms_read 7 = .ok (.aload_n 0, 1) := by decide +kernel
theorem d_Forms_read_8 : decode c_Forms_read 8 = .ok (.getfield 29, 3) := by decide +kernel
theorem d_Forms_read_11 : decode c_Forms_read 11 = .ok (.invokevirtual 74, 3) := by decide +kernel
theorem d_Forms_read_14 : decode c_Forms_read 14 = .ok (.aload_n 0, 1) := by decide +kernel
theorem d_Forms_read_15 : decode c_Forms_read 15 = .ok (.getfield 22, 3) := by decide +kernel
theorem d_Forms_read_18 : decode c_Forms_read 18 = .ok (.invokevirtual 77, 3) := by decide +kernel
theorem d_Forms_read_21 : decode c_Forms_read 21 = .ok (.aload_n 0, 1) := by decide +kernel
theorem d_Forms_read_22 : decode c_Forms_read 22 = .ok (.getfield 38, 3) := by decide +kernel
theorem d_Forms_read_25 : decode c_Forms_read 25 = .ok (.aload_n 0, 1) := by decide +kernel
theorem d_Forms_read_26 : decode c_Forms_read 26 = .ok (.getfield 10, 3) := by decide +kernel
theorem d_Forms_read_29 : decode c_Forms_read 29 = .ok (.invokevirtual 80, 3) := by decide +kernel
theorem d_Forms_read_32 : decode c_Forms_read 32 = .ok (.istore_n 1, 1) := by decide +kernel
theorem d_Forms_read_33 : decode c_Forms_read 33 = .ok (.aload_n 0, 1) := by decide +kernel
theorem d_Forms_read_34 : decode c_Forms_read 34 = .ok (.getfield 10, 3) := by decide +kernel
theorem d_Forms_read_37 : decode c_Forms_read 37 = .ok (.invokevirtual 84, 3) := by decide +kernel
theorem d_Forms_read_40 : decode c_Forms_read 40 = .ok (.iload_n 1, 1) := by decide +kernel
theorem d_Forms_read_41 : decode c_Forms_read 41 = .ok (.iconst (-1), 1) := by decide +kernel
theorem d_Forms_read_42 : decode c_Forms_read 42 = .ok (.if_icmp .eq 21, 3) := by decide +kernel
theorem d_Forms_read_45 : decode c_Forms_read 45 = .ok (.aload_n 0, 1) := by decide +kernel
theorem d_Forms_read_46 : decode c_Forms_read 46 = .ok (.getfield 29, 3) := by decide +kernel
theorem d_Forms_read_49 : decode c_Forms_read 49 = .ok (.invokevirtual 74, 3) := by decide +kernel
theorem d_Forms_read_52 : decode c_Forms_read 52 = .ok (.aload_n 0, 1) := by decide +kernel
theorem d_Forms_read_53 : decode c_Forms_read 53 = .ok (.getfield 22, 3) := by decide +kernel
theorem d_Forms_read_56 : decode c_Forms_read 56 = .ok (.invokevirtual 77, 3) := by decide +kernel
theorem d_Forms_read_59 : decode c_Forms_read 59 = .ok (.iconst (-1), 1) := by decide +kernel
theorem d_Forms_read_60 : decode c_Forms_read 60 = .ok (.iload_n 1, 1) := by decide +kernel
theorem d_Forms_read_61 : decode c_Forms_read 61 = .ok (.isub, 1) := by decide +kernel
theorem d_Forms_read_62 : decode c_Forms_read 62 = .ok (.ireturn, 1) := by decide +kernel
theorem d_Forms_read_63 : decode c_Forms_read 63 = .ok (.aload_n 0, 1) := by decide +kernel
theorem d_Forms_read_64 : decode c_Forms_read 64 = .ok (.getfield 29, 3) := by decide +kernel
theorem d_Forms_read_67 : decode c_Forms_read 67 = .ok (.invokevirtual 85, 3) := by decide +kernel
theorem d_Forms_read_70 : decode c_Forms_read 70 = .ok (.ireturn, 1) := by decide +kernel
theorem d_Forms_row_0 : decode c_Forms_row 0 = .ok (.aload_n 0, 1) := by decide +kernel
theorem d_Forms_row_1 : decode c_Forms_row 1 = .ok (.iload_n 1, 1) := by decide +kernel
theorem d_Forms_row_2 : decode c_Forms_row 2 = .ok (.invokevirtual 89, 3) := by decide +kernel
theorem d_Forms_row_5 : decode c_Forms_row 5 = .ok (.astore 6, 2) := by decide +kernel
theorem d_Forms_row_7 : decode c_Forms_row 7 = .ok (.aload 6, 2) := by decide +kernel
theorem d_Forms_row_9 : decode c_Forms_row 9 = .ok (.ifnull 10, 3) := by decide +kernel
theorem d_Forms_row_12 : decode c_Forms_row 12 = .ok (.iload_n 2, 1) := by decide +kernel
theorem d_Forms_row_13 : decode c_Forms_row 13 = .ok (.invokestatic 93, 3) := by decide +kernel
theorem d_Forms_row_16 : decode c_Forms_row 16 = .ok (.ifCond .ne 13, 3) := by decide +kernel
theorem d_Forms_row_19 : decode c_Forms_row 19 = .ok (.new 98, 3) := by decide +kernel
theorem d_Forms_row_22 : decode c_Forms_row 22 = .ok (.dup, 1) := by decide +kernel
theorem d_Forms_row_23 : decode c_Forms_row 23 = .ok (.ldc 100, 2) := by decide +kernel
theorem d_Forms_row_25 : decode c_Forms_row 25 = .ok (.invokespecial 102, 3) := by decide +kernel
theorem d_Forms_row_28 : decode c_Forms_row 28 = .ok (.athrow, 1) := by decide +kernel
theorem d_Forms_row_29 : decode c_Forms_row 29 = .ok (.iload_n 3, 1) := by decide +kernel
theorem d_Forms_row_30 : decode c_Forms_row 30 = .ok (.ifCond .lt 22, 3) := by decide +kernel
theorem d_Forms_row_33 : decode c_Forms_row 33 = .ok (.iload 4, 2) := by decide +kernel
theorem d_Forms_row_35 : decode c_Forms_row 35 = .ok (.iconst 1, 1) := by decide +kernel
theorem d_Forms_row_36 : decode c_Forms_row 36 = .ok (.if_icmp .lt 16, 3) := by decide +kernel
theorem d_Forms_row_39 : decode c_Forms_row 39 = .ok (.iload 4, 2) := by decide +kernel
theorem d_Forms_row_41 : decode c_Forms_row 41 = .ok (.bipush 20, 2) := by decide +kernel
theorem d_Forms_row_43 : decode c_Forms_row 43 = .ok (.if_icmp .gt 9, 3) := by decide +kernel
theorem d_Forms_row_46 : decode c_Forms_row 46 = .ok (.iload_n 3, 1) := by decide +kernel
theorem d_Forms_row_47 : decode c_Forms_row 47 = .ok (.iload 4, 2) := by decide +kernel
theorem d_Forms_row_49 : decode c_Forms_row 49 = .ok (.if_icmp .le 13, 3) := by decide +kernel
theorem d_Forms_row_52 : decode c_Forms_row 52 = .ok (.new 98, 3) := by decide +kernel
theorem d_Forms_row_55 : decode c_Forms_row 55 = .ok (.dup, 1) := by decide +kernel
theorem d_Forms_row_56 : decode c_Forms_row 56 = .ok (.ldc 105, 2) := by decide +kernel
theorem d_Forms_row_58 : decode c_Forms_row 58 = .ok (.invokespecial 102, 3) := by decide +kernel
theorem d_Forms_row_61 : decode c_Forms_row 61 = .ok (.athrow, 1) := by decide +kernel
theorem d_Forms_row_62 : decode c_Forms_row 62 = .ok (.aload 6, 2) := by decide +kernel
theorem d_Forms_row_64 : decode c_Forms_row 64 = .ok (.invokevirtual 107, 3) := by decide +kernel
theorem d_Forms_row_67 : decode c_Forms_row 67 = .ok (.ifCond .ne 13, 3) := by decide +kernel
theorem d_Forms_row_70 : decode c_Forms_row 70 = .ok (.aload 6, 2) := by decide +kernel
theorem d_Forms_row_72 : decode c_Forms_row 72 = .ok (.iload 5, 2) := by decide +kernel
theorem d_Forms_row_74 : decode c_Forms_row 74 = .ok (.invokevirtual 111, 3) := by decide +kernel
theorem d_Forms_row_77 : decode c_Forms_row 77 = .ok (.ifCond .ne 13, 3) := by decide +kernel
theorem d_Forms_row_80 : decode c_Forms_row 80 = .ok (.new 114, 3) := by decide +kernel
theorem d_Forms_row_83 : decode c_Forms_row 83 = .ok (.dup, 1) := by decide +kernel
theorem d_Forms_row_84 : decode c_Forms_row 84 = .ok (.ldc 116, 2) := by decide +kernel
theorem d_Forms_row_86 : decode c_Forms_row 86 = .ok (.invokespecial 118, 3) := by decide +kernel
theorem d_Forms_row_89 : decode c_Forms_row 89 = .ok (.athrow, 1) := by decide +kernel
theorem d_Forms_row_90 : decode c_Forms_row 90 = .ok (.aload 6, 2) := by decide +kernel
theorem d_Forms_row_92 : decode c_Forms_row 92 = .ok (.iload_n 2, 1) := by decide +kernel
theorem d_Forms_row_93 : decode c_Forms_row 93 = .ok (.iload_n 3, 1) := by decide +kernel
theorem d_Forms_row_94 : decode c_Forms_row 94 = .ok (.iload 4, 2) := by decide +kernel
theorem d_Forms_row_96 : decode c_Forms_row 96 = .ok (.iload 5, 2) := by decide +kernel
theorem d_Forms_row_98 : decode c_Forms_row 98 = .ok (.invokevirtual 119, 3) := by decide +kernel
theorem d_Forms_row_101 : decode c_Forms_row 101 = .ok (.aload 6, 2) := by decide +kernel
theorem d_Forms_row_103 : decode c_Forms_row 103 = .ok (.invokevirtual 122, 3) := by decide +kernel
theorem d_Forms_row_106 : decode c_Forms_row 106 = .ok (.ireturn, 1) := by decide +kernel
theorem d_Forms_check_0 : decode c_Forms_check 0 = .ok (.aload_n 0, 1) := by decide +kernel
theorem d_Forms_check_1 : decode c_Forms_check 1 = .ok (.invokevirtual 123, 3) := by decide +kernel
theorem d_Forms_check_4 : decode c_Forms_check 4 = .ok (.aload_n 0, 1) := by decide +kernel
theorem d_Forms_check_5 : decode c_Forms_check 5 = .ok (.getfield 54, 3) := by decide +kernel
theorem d_Forms_check_8 : decode c_Forms_check 8 = .ok (.invokevirtual 126, 3) := by decide +kernel
theorem d_Forms_check_11 : decode c_Forms_check 11 = .ok (.istore_n 1, 1) := by decide +kernel
theorem d_Forms_check_12 : decode c_Forms_check 12 = .ok (.aload_n 0, 1) := by decide +kernel
theorem d_Forms_check_13 : decode c_Forms_check 13 = .ok (.getfield 54, 3) := by decide +kernel
theorem d_Forms_check_16 : decode c_Forms_check 16 = .ok (.aload_n 0, 1) := by decide +kernel
theorem d_Forms_check_17 : decode c_Forms_check 17 = .ok (.iload_n 1, 1) := by decide +kernel
theorem d_Forms_check_18 : decode c_Forms_check 18 = .ok (.invokevirtual 89, 3) := by decide +kernel
theorem d_Forms_check_21 : decode c_Forms_check 21 = .ok (.invokevirtual 129, 3) := by decide +kernel
theorem d_Forms_check_24 : decode c_Forms_check 24 = .ok (.ireturn, 1) := by decide +kernel
theorem d_Forms_fault_0 : decode c_Forms_fault 0 = .ok (.iload_n 1, 1) := by decide +kernel
theorem d_Forms_fault_1 : decode c_Forms_fault 1 = .ok (.tableswitch 51 0 2 #[27, 35, 43], 27) := by decide +kernel
theorem d_Forms_fault_28 : decode c_Forms_fault 28 = .ok (.aload_n 0, 1) := by decide +kernel
theorem d_Forms_fault_29 : decode c_Forms_fault 29 = .ok (.getfield 54, 3) := by decide +kernel
theorem d_Forms_fault_32 : decode c_Forms_fault 32 = .ok (.invokevirtual 133, 3) := by decide +kernel
theorem d_Forms_fault_35 : decode c_Forms_fault 35 = .ok (.ireturn, 1) := by decide +kernel
theorem d_Forms_fault_36 : decode c_Forms_fault 36 = .ok (.aload_n 0, 1) := by decide +kernel
theorem d_Forms_fault_37 : decode c_Forms_fault 37 = .ok (.getfield 54, 3) := by decide +kernel
theorem d_Forms_fault_40 : decode c_Forms_fault 40 = .ok (.invokevirtual 136, 3) := by decide +kernel
theorem d_Forms_fault_43 : decode c_Forms_fault 43 = .ok (.ireturn, 1) := by decide +kernel
theorem d_Forms_fault_44 : decode c_Forms_fault 44 = .ok (.aload_n 0, 1) := by decide +kernel
theorem d_Forms_fault_45 : decode c_Forms_fault 45 = .ok (.getfield 54, 3) := by decide +kernel
theorem d_Forms_fault_48 : decode c_Forms_fault 48 = .ok (.invokevirtual 139, 3) := by decide +kernel
theorem d_Forms_fault_51 : decode c_Forms_fault 51 = .ok (.ireturn, 1) := by decide +kernel
theorem d_Forms_fault_52 : decode c_Forms_fault 52 = .ok (.iconst (-1), 1) := by decide +kernel
theorem d_Forms_fault_53 : decode c_Forms_fault 53 = .ok (.ireturn, 1) := by decide +kernel
theorem d_Forms_segment_0 : decode c_Forms_segment 0 = .ok (.aload_n 0, 1) := by decide +kernel
theorem d_Forms_segment_1 : decode c_Forms_segment 1 = .ok (.iload_n 1, 1) := by decide +kernel
theorem d_Forms_segment_2 : decode c_Forms_segment 2 = .ok (.invokevirtual 142, 3) := by decide +kernel
theorem d_Forms_segment_5 : decode c_Forms_segment 5 = .ok (.iload_n 2, 1) := by decide +kernel
theorem d_Forms_segment_6 : decode c_Forms_segment 6 = .ok (.tableswitch 66 0 3 #[30, 39, 48, 57], 30) := by decide +kernel
theorem d_Forms_segment_36 : decode c_Forms_segment 36 = .ok (.aload_n 0, 1) := by decide +kernel
theorem d_Forms_segment_37 : decode c_Forms_segment 37 = .ok (.getfield 29, 3) := by decide +kernel
theorem d_Forms_segment_40 : decode c_Forms_segment 40 = .ok (.iload_n 1, 1) := by decide +kernel
theorem d_Forms_segment_41 : decode c_Forms_segment 41 = .ok (.invokevirtual 146, 3) := by decide +kernel
theorem d_Forms_segment_44 : decode c_Forms_segment 44 = .ok (.ireturn, 1) := by decide +kernel
theorem d_Forms_segment_45 : decode c_Forms_segment 45 = .ok (.aload_n 0, 1) := by decide +kernel
theorem d_Forms_segment_46 : decode c_Forms_segment 46 = .ok (.getfield 29, 3) := by decide +kernel
theorem d_Forms_segment_49 : decode c_Forms_segment 49 = .ok (.iload_n 1, 1) := by decide +kernel
theorem d_Forms_segment_50 : decode c_Forms_segment 50 = .ok (.invokevirtual 150, 3) := by decide +kernel
theorem d_Forms_segment_53 : decode c_Forms_segment 53 = .ok (.ireturn, 1) := by decide +kernel
theorem d_Forms_segment_54 : decode c_Forms_segment 54 = .ok (.aload_n 0, 1) := by decide +kernel
theorem d_Forms_segment_55 : decode c_Forms_segment 55 = .ok (.getfield 54, 3) := by decide +kernel
theorem d_Forms_segment_58 : decode c_Forms_segment 58 = .ok (.iload_n 1, 1) := by decide +kernel
theorem d_Forms_segment_59 : decode c_Forms_segment 59 = .ok (.invokevirtual 153, 3) := by decide +kernel
theorem d_Forms_segment_62 : decode c_Forms_segment 62 = .ok (.ireturn, 1) := by decide +kernel
theorem d_Forms_segment_63 : decode c_Forms_segment 63 = .ok (.aload_n 0, 1) := by decide +kernel
theorem d_Forms_segment_64 : decode c_Forms_segment 64 = .ok (.getfield 54, 3) := by decide +kernel
theorem d_Forms_segment_67 : decode c_Forms_segment 67 = .ok (.iload_n 1, 1) := by decide +kernel
theorem d_Forms_segment_68 : decode c_Forms_segment 68 = .ok (.invokevirtual 156, 3) := by decide +kernel
theorem d_Forms_segment_71 : decode c_Forms_segment 71 = .ok (.ireturn, 1) := by decide +kernel
theorem d_Forms_segment_72 : decode c_Forms_segment 72 = .ok (.new 159, 3) := by decide +kernel
theorem d_Forms_segment_75 : decode c_Forms_segment 75 = .ok (.dup, 1) := by decide +kernel
theorem d_Forms_segment_76 : decode c_Forms_segment 76 = .ok (.ldc 161, 2) := by decide +kernel
theorem d_Forms_segment_78 : decode c_Forms_segment 78 = .ok (.invokespecial 163, 3) := by decide +kernel
theorem d_Forms_segment_81 : decode c_Forms_segment 81 = .ok (.athrow, 1) := by decide +kernel
theorem d_Forms_repeats_0 : decode c_Forms_repeats 0 = .ok (.aload_n 0, 1) := by decide +kernel
theorem d_Forms_repeats_1 : decode c_Forms_repeats 1 = .ok (.iload_n 1, 1) := by decide +kernel
theorem d_Forms_repeats_2 : decode c_Forms_repeats 2 = .ok (.invokevirtual 142, 3) := by decide +kernel
theorem d_Forms_repeats_5 : decode c_Forms_repeats 5 = .ok (.aload_n 0, 1) := by decide +kernel
theorem d_Forms_repeats_6 : decode c_Forms_repeats 6 = .ok (.getfield 29, 3) := by decide +kernel
theorem d_Forms_repeats_9 : decode c_Forms_repeats 9 = .ok (.aload_n 0, 1) := by decide +kernel
theorem d_Forms_repeats_10 : decode c_Forms_repeats 10 = .ok (.getfield 29, 3) := by decide +kernel
theorem d_Forms_repeats_13 : decode c_Forms_repeats 13 = .ok (.iload_n 1, 1) := by decide +kernel
theorem d_Forms_repeats_14 : decode c_Forms_repeats 14 = .ok (.iload_n 2, 1) := by decide +kernel
theorem d_Forms_repeats_15 : decode c_Forms_repeats 15 = .ok (.invokevirtual 164, 3) := by decide +kernel
theorem d_Forms_repeats_18 : decode c_Forms_repeats 18 = .ok (.invokevirtual 168, 3) := by decide +kernel
theorem d_Forms_repeats_21 : decode c_Forms_repeats 21 = .ok (.ireturn, 1) := by decide +kernel
theorem d_Forms_components_0 : decode c_Forms_components 0 = .ok (.aload_n 0, 1) := by decide +kernel
theorem d_Forms_components_1 : decode c_Forms_components 1 = .ok (.iload_n 1, 1) := by decide +kernel
theorem d_Forms_components_2 : decode c_Forms_components 2 = .ok (.invokevirtual 142, 3) := by decide +kernel
theorem d_Forms_components_5 : decode c_Forms_components 5 = .ok (.aload_n 0, 1) := by decide +kernel
theorem d_Forms_components_6 : decode c_Forms_components 6 = .ok (.getfield 29, 3) := by decide +kernel
theorem d_Forms_components_9 : decode c_Forms_components 9 = .ok (.aload_n 0, 1) := by decide +kernel
theorem d_Forms_components_10 : decode c_Forms_components 10 = .ok (.getfield 29, 3) := by decide +kernel
theorem d_Forms_components_13 : decode c_Forms_components 13 = .ok (.aload_n 0, 1) := by decide +kernel
theorem d_Forms_components_14 : decode c_Forms_components 14 = .ok (.getfield 29, 3) := by decide +kernel
theorem d_Forms_components_17 : decode c_Forms_components 17 = .ok (.iload_n 1, 1) := by decide +kernel
theorem d_Forms_components_18 : decode c_Forms_components 18 = .ok (.iload_n 2, 1) := by decide +kernel
theorem d_Forms_components_19 : decode c_Forms_components 19 = .ok (.invokevirtual 164, 3) := by decide +kernel
theorem d_Forms_components_22 : decode c_Forms_components 22 = .ok (.iload_n 3, 1) := by decide +kernel
theorem d_Forms_components_23 : decode c_Forms_components 23 = .ok (.invokevirtual 171, 3) := by decide +kernel
theorem d_Forms_components_26 : decode c_Forms_components 26 = .ok (.invokevirtual 174, 3) := by decide +kernel
theorem d_Forms_components_29 : decode c_Forms_components 29 = .ok (.ireturn, 1) := by decide +kernel
theorem d_Forms_field_0 : decode c_Forms_field 0 = .ok (.aload_n 0, 1) := by decide +kernel
theorem d_Forms_field_1 : decode c_Forms_field 1 = .ok (.iload_n 1, 1) := by decide +kernel
theorem d_Forms_field_2 : decode c_Forms_field 2 = .ok (.invokevirtual 142, 3) := by decide +kernel
theorem d_Forms_field_5 : decode c_Forms_field 5 = .ok (.aload_n 0, 1) := by decide +kernel
theorem d_Forms_field_6 : decode c_Forms_field 6 = .ok (.getfield 29, 3) := by decide +kernel
theorem d_Forms_field_9 : decode c_Forms_field 9 = .ok (.iload_n 1, 1) := by decide +kernel
theorem d_Forms_field_10 : decode c_Forms_field 10 = .ok (.iload_n 2, 1) := by decide +kernel
theorem d_Forms_field_11 : decode c_Forms_field 11 = .ok (.iload_n 3, 1) := by decide +kernel
theorem d_Forms_field_12 : decode c_Forms_field 12 = .ok (.iload 4, 2) := by decide +kernel
theorem d_Forms_field_14 : decode c_Forms_field 14 = .ok (.invokevirtual 177, 3) := by decide +kernel
theorem d_Forms_field_17 : decode c_Forms_field 17 = .ok (.istore 5, 2) := by decide +kernel
theorem d_Forms_field_19 : decode c_Forms_field 19 = .ok (.iload 5, 2) := by decide +kernel
theorem d_Forms_field_21 : decode c_Forms_field 21 = .ok (.iconst (-1), 1) := by decide +kernel
theorem d_Forms_field_22 : decode c_Forms_field 22 = .ok (.if_icmp .ne 7, 3) := by decide +kernel
theorem d_Forms_field_25 : decode c_Forms_field 25 = .ok (.iconst (-1), 1) := by decide +kernel
theorem d_Forms_field_26 : decode c_Forms_field 26 = .ok (.goto 12, 3) := by decide +kernel
theorem d_Forms_field_29 : decode c_Forms_field 29 = .ok (.aload_n 0, 1) := by decide +kernel
theorem d_Forms_field_30 : decode c_Forms_field 30 = .ok (.getfield 29, 3) := by decide +kernel
theorem d_Forms_field_33 : decode c_Forms_field 33 = .ok (.iload 5, 2) := by decide +kernel
theorem d_Forms_field_35 : decode c_Forms_field 35 = .ok (.invokevirtual 181, 3) := by decide +kernel
theorem d_Forms_field_38 : decode c_Forms_field 38 = .ok (.ireturn, 1) := by decide +kernel
theorem d_Forms_letter_0 : decode c_Forms_letter 0 = .ok (.aload_n 0, 1) := by decide +kernel
theorem d_Forms_letter_1 : decode c_Forms_letter 1 = .ok (.iload_n 1, 1) := by decide +kernel
theorem d_Forms_letter_2 : decode c_Forms_letter 2 = .ok (.invokevirtual 142, 3) := by decide +kernel
theorem d_Forms_letter_5 : decode c_Forms_letter 5 = .ok (.aload_n 0, 1) := by decide +kernel
theorem d_Forms_letter_6 : decode c_Forms_letter 6 = .ok (.getfield 29, 3) := by decide +kernel
theorem d_Forms_letter_9 : decode c_Forms_letter 9 = .ok (.aload_n 0, 1) := by decide +kernel
theorem d_Forms_letter_10 : decode c_Forms_letter 10 = .ok (.getfield 29, 3) := by decide +kernel
theorem d_Forms_letter_13 : decode c_Forms_letter 13 = .ok (.iload_n 1, 1) := by decide +kernel
theorem d_Forms_letter_14 : decode c_Forms_letter 14 = .ok (.iload_n 2, 1) := by decide +kernel
theorem d_Forms_letter_15 : decode c_Forms_letter 15 = .ok (.iload_n 3, 1) := by decide +kernel
theorem d_Forms_letter_16 : decode c_Forms_letter 16 = .ok (.iload 4, 2) := by decide +kernel
theorem d_Forms_letter_18 : decode c_Forms_letter 18 = .ok (.invokevirtual 177, 3) := by decide +kernel
theorem d_Forms_letter_21 : decode c_Forms_letter 21 = .ok (.iload 5, 2) := by decide +kernel
theorem d_Forms_letter_23 : decode c_Forms_letter 23 = .ok (.invokevirtual 184, 3) := by decide +kernel
theorem d_Forms_letter_26 : decode c_Forms_letter 26 = .ok (.ireturn, 1) := by decide +kernel
theorem d_Forms_build_0 : decode c_Forms_build 0 = .ok (.aload_n 0, 1) := by decide +kernel
theorem d_Forms_build_1 : decode c_Forms_build 1 = .ok (.invokevirtual 123, 3) := by decide +kernel
theorem d_Forms_build_4 : decode c_Forms_build 4 = .ok (.aload_n 0, 1) := by decide +kernel
theorem d_Forms_build_5 : decode c_Forms_build 5 = .ok (.getfield 63, 3) := by decide +kernel
theorem d_Forms_build_8 : decode c_Forms_build 8 = .ok (.invokevirtual 187, 3) := by decide +kernel
theorem d_Forms_build_11 : decode c_Forms_build 11 = .ok (.aload_n 0, 1) := by decide +kernel
theorem d_Forms_build_12 : decode c_Forms_build 12 = .ok (.getfield 16, 3) := by decide +kernel
theorem d_Forms_build_15 : decode c_Forms_build 15 = .ok (.invokevirtual 190, 3) := by decide +kernel
theorem d_Forms_build_18 : decode c_Forms_build 18 = .ok (.ireturn, 1) := by decide +kernel
theorem d_Forms_at_0 : decode c_Forms_at 0 = .ok (.iload_n 1, 1) := by decide +kernel
theorem d_Forms_at_1 : decode c_Forms_at 1 = .ok (.ifCond .lt 10, 3) := by decide +kernel
theorem d_Forms_at_4 : decode c_Forms_at 4 = .ok (.iload_n 1, 1) := by decide +kernel
theorem d_Forms_at_5 : decode c_Forms_at 5 = .ok (.sipush 4000, 3) := by decide +kernel
theorem d_Forms_at_8 : decode c_Forms_at 8 = .ok (.if_icmp .lt 13, 3) := by decide +kernel
theorem d_Forms_at_11 : decode c_Forms_at 11 = .ok (.new 193, 3) := by decide +kernel
theorem d_Forms_at_14 : decode c_Forms_at 14 = .ok (.dup, 1) := by decide +kernel
theorem d_Forms_at_15 : decode c_Forms_at 15 = .ok (.ldc 195, 2) := by decide +kernel
theorem d_Forms_at_17 : decode c_Forms_at 17 = .ok (.invokespecial 197, 3) := by decide +kernel
theorem d_Forms_at_20 : decode c_Forms_at 20 = .ok (.athrow, 1) := by decide +kernel
theorem d_Forms_at_21 : decode c_Forms_at 21 = .ok (.aload_n 0, 1) := by decide +kernel
theorem d_Forms_at_22 : decode c_Forms_at 22 = .ok (.getfield 16, 3) := by decide +kernel
theorem d_Forms_at_25 : decode c_Forms_at 25 = .ok (.iload_n 1, 1) := by decide +kernel
theorem d_Forms_at_26 : decode c_Forms_at 26 = .ok (.invokevirtual 198, 3) := by decide +kernel
theorem d_Forms_at_29 : decode c_Forms_at 29 = .ok (.ireturn, 1) := by decide +kernel
theorem d_Forms_count_0 : decode c_Forms_count 0 = .ok (.iload_n 1, 1) := by decide +kernel
theorem d_Forms_count_1 : decode c_Forms_count 1 = .ok (.iconst 3, 1) := by decide +kernel
theorem d_Forms_count_2 : decode c_Forms_count 2 = .ok (.if_icmp .lt 20, 3) := by decide +kernel
theorem d_Forms_count_5 : decode c_Forms_count 5 = .ok (.iload_n 1, 1) := by decide +kernel
theorem d_Forms_count_6 : decode c_Forms_count 6 = .ok (.bipush 8, 2) := by decide +kernel
theorem d_Forms_count_8 : decode c_Forms_count 8 = .ok (.if_icmp .ge 14, 3) := by decide +kernel
theorem d_Forms_count_11 : decode c_Forms_count 11 = .ok (.aload_n 0, 1) := by decide +kernel
theorem d_Forms_count_12 : decode c_Forms_count 12 = .ok (.getfield 22, 3) := by decide +kernel
theorem d_Forms_count_15 : decode c_Forms_count 15 = .ok (.iload_n 1, 1) := by decide +kernel
theorem d_Forms_count_16 : decode c_Forms_count 16 = .ok (.iconst 3, 1) := by decide +kernel
theorem d_Forms_count_17 : decode c_Forms_count 17 = .ok (.isub, 1) := by decide +kernel
theorem d_Forms_count_18 : decode c_Forms_count 18 = .ok (.invokevirtual 201, 3) := by decide +kernel
theorem d_Forms_count_21 : decode c_Forms_count 21 = .ok (.ireturn, 1) := by decide +kernel
theorem d_Forms_count_22 : decode c_Forms_count 22 = .ok (.iload_n 1, 1) := by decide +kernel
theorem d_Forms_count_23 : decode c_Forms_count 23 = .ok (.bipush 10, 2) := by decide +kernel
theorem d_Forms_count_25 : decode c_Forms_count 25 = .ok (.if_icmp .lt 25, 3) := by decide +kernel
theorem d_Forms_count_28 : decode c_Forms_count 28 = .ok (.aload_n 0, 1) := by decide +kernel
theorem d_Forms_count_29 : decode c_Forms_count 29 = .ok (.iload_n 1, 1) := by decide +kernel
theorem d_Forms_count_30 : decode c_Forms_count 30 = .ok (.bipush 10, 2) := by decide +kernel
theorem d_Forms_count_32 : decode c_Forms_count 32 = .ok (.isub, 1) := by decide +kernel
theorem d_Forms_count_33 : decode c_Forms_count 33 = .ok (.invokevirtual 89, 3) := by decide +kernel
theorem d_Forms_count_36 : decode c_Forms_count 36 = .ok (.astore_n 2, 1) := by decide +kernel
theorem d_Forms_count_37 : decode c_Forms_count 37 = .ok (.aload_n 2, 1) := by decide +kernel
theorem d_Forms_count_38 : decode c_Forms_count 38 = .ok (.ifnonnull 7, 3) := by decide +kernel
theorem d_Forms_count_41 : decode c_Forms_count 41 = .ok (.iconst (-1), 1) := by decide +kernel
theorem d_Forms_count_42 : decode c_Forms_count 42 = .ok (.goto 7, 3) := by decide +kernel
theorem d_Forms_count_45 : decode c_Forms_count 45 = .ok (.aload_n 2, 1) := by decide +kernel
theorem d_Forms_count_46 : decode c_Forms_count 46 = .ok (.invokevirtual 122, 3) := by decide +kernel
theorem d_Forms_count_49 : decode c_Forms_count 49 = .ok (.ireturn, 1) := by decide +kernel
theorem d_Forms_count_50 : decode c_Forms_count 50 = .ok (.iload_n 1, 1) := by decide +kernel
theorem d_Forms_count_51 : decode c_Forms_count 51 = .ok (.tableswitch 49 0 2 #[25, 33, 41], 25) := by decide +kernel
theorem d_Forms_count_76 : decode c_Forms_count 76 = .ok (.aload_n 0, 1) := by decide +kernel
theorem d_Forms_count_77 : decode c_Forms_count 77 = .ok (.getfield 10, 3) := by decide +kernel
theorem d_Forms_count_80 : decode c_Forms_count 80 = .ok (.invokevirtual 190, 3) := by decide +kernel
theorem d_Forms_count_83 : decode c_Forms_count 83 = .ok (.ireturn, 1) := by decide +kernel
theorem d_Forms_count_84 : decode c_Forms_count 84 = .ok (.aload_n 0, 1) := by decide +kernel
theorem d_Forms_count_85 : decode c_Forms_count 85 = .ok (.getfield 29, 3) := by decide +kernel
theorem d_Forms_count_88 : decode c_Forms_count 88 = .ok (.invokevirtual 85, 3) := by decide +kernel
theorem d_Forms_count_91 : decode c_Forms_count 91 = .ok (.ireturn, 1) := by decide +kernel
theorem d_Forms_count_92 : decode c_Forms_count 92 = .ok (.aload_n 0, 1) := by decide +kernel
theorem d_Forms_count_93 : decode c_Forms_count 93 = .ok (.getfield 16, 3) := by decide +kernel
theorem d_Forms_count_96 : decode c_Forms_count 96 = .ok (.invokevirtual 190, 3) := by decide +kernel
theorem d_Forms_count_99 : decode c_Forms_count 99 = .ok (.ireturn, 1) := by decide +kernel
theorem d_Forms_count_100 : decode c_Forms_count 100 = .ok (.iconst (-1), 1) := by decide +kernel
theorem d_Forms_count_101 : decode c_Forms_count 101 = .ok (.ireturn, 1) := by decide +kernel
theorem d_Forms_grammarOf_0 : decode c_Forms_grammarOf 0 = .ok (.iload_n 1, 1) := by decide +kernel
theorem d_Forms_grammarOf_1 : decode c_Forms_grammarOf 1 = .ok (.ifCond .lt 21, 3) := by decide +kernel
theorem d_Forms_grammarOf_4 : decode c_Forms_grammarOf 4 = .ok (.iload_n 1, 1) := by decide +kernel
theorem d_Forms_grammarOf_5 : decode c_Forms_grammarOf 5 = .ok (.aload_n 0, 1) := by decide +kernel
theorem d_Forms_grammarOf_6 : decode c_Forms_grammarOf 6 = .ok (.getfield 44, 3) := by decide +kernel
theorem d_Forms_grammarOf_9 : decode c_Forms_grammarOf 9 = .ok (.arraylength, 1) := by decide +kernel
theorem d_Forms_grammarOf_10 : decode c_Forms_grammarOf 10 = .ok (.if_icmp .ge 12, 3) := by decide +kernel
theorem d_Forms_grammarOf_13 : decode c_Forms_grammarOf 13 = .ok (.aload_n 0, 1) := by decide +kernel
theorem d_Forms_grammarOf_14 : decode c_Forms_grammarOf 14 = .ok (.getfield 44, 3) := by decide +kernel
theorem d_Forms_grammarOf_17 : decode c_Forms_grammarOf 17 = .ok (.iload_n 1, 1) := by decide +kernel
theorem d_Forms_grammarOf_18 : decode c_Forms_grammarOf 18 = .ok (.aaload, 1) := by decide +kernel
theorem d_Forms_grammarOf_19 : decode c_Forms_grammarOf 19 = .ok (.goto 4, 3) := by decide +kernel
theorem d_Forms_grammarOf_22 : decode c_Forms_grammarOf 22 = .ok (.aconst_null, 1) := by decide +kernel
theorem d_Forms_grammarOf_23 : decode c_Forms_grammarOf 23 = .ok (.areturn, 1) := by decide +kernel
theorem d_Forms_needMessage_0 : decode c_Forms_needMessage 0 = .ok (.aload_n 0, 1) := by decide +kernel
theorem d_Forms_needMessage_1 : decode c_Forms_needMessage 1 = .ok (.getfield 29, 3) := by decide +kernel
theorem d_Forms_needMessage_4 : decode c_Forms_needMessage 4 = .ok (.invokevirtual 204, 3) := by decide +kernel
theorem d_Forms_needMessage_7 : decode c_Forms_needMessage 7 = .ok (.ifCond .ne 13, 3) := by decide +kernel
theorem d_Forms_needMessage_10 : decode c_Forms_needMessage 10 = .ok (.new 114, 3) := by decide +kernel
theorem d_Forms_needMessage_13 : decode c_Forms_needMessage 13 = .ok (.dup, 1) := by decide +kernel
theorem d_Forms_needMessage_14 : decode c_Forms_needMessage 14 = .ok (.ldc 207, 2) := by decide +kernel
theorem d_Forms_needMessage_16 : decode c_Forms_needMessage 16 = .ok (.invokespecial 118, 3) := by decide +kernel
theorem d_Forms_needMessage_19 : decode c_Forms_needMessage 19 = .ok (.athrow, 1) := by decide +kernel
theorem d_Forms_needMessage_20 : decode c_Forms_needMessage 20 = .ok (.return_, 1) := by decide +kernel
theorem d_Forms_needSegment_0 : decode c_Forms_needSegment 0 = .ok (.iload_n 1, 1) := by decide +kernel
theorem d_Forms_needSegment_1 : decode c_Forms_needSegment 1 = .ok (.ifCond .lt 14, 3) := by decide +kernel
theorem d_Forms_needSegment_4 : decode c_Forms_needSegment 4 = .ok (.iload_n 1, 1) := by decide +kernel
theorem d_Forms_needSegment_5 : decode c_Forms_needSegment 5 = .ok (.aload_n 0, 1) := by decide +kernel
theorem d_Forms_needSegment_6 : decode c_Forms_needSegment 6 = .ok (.getfield 29, 3) := by decide +kernel
theorem d_Forms_needSegment_9 : decode c_Forms_needSegment 9 = .ok (.invokevirtual 85, 3) := by decide +kernel
theorem d_Forms_needSegment_12 : decode c_Forms_needSegment 12 = .ok (.if_icmp .lt 13, 3) := by decide +kernel
theorem d_Forms_needSegment_15 : decode c_Forms_needSegment 15 = .ok (.new 159, 3) := by decide +kernel
theorem d_Forms_needSegment_18 : decode c_Forms_needSegment 18 = .ok (.dup, 1) := by decide +kernel
theorem d_Forms_needSegment_19 : decode c_Forms_needSegment 19 = .ok (.ldc 209, 2) := by decide +kernel
theorem d_Forms_needSegment_21 : decode c_Forms_needSegment 21 = .ok (.invokespecial 163, 3) := by decide +kernel
theorem d_Forms_needSegment_24 : decode c_Forms_needSegment 24 = .ok (.athrow, 1) := by decide +kernel
theorem d_Forms_needSegment_25 : decode c_Forms_needSegment 25 = .ok (.return_, 1) := by decide +kernel
theorem d_Model_init_0 : decode c_Model_init 0 = .ok (.aload_n 0, 1) := by decide +kernel
theorem d_Model_init_1 : decode c_Model_init 1 = .ok (.invokespecial 1, 3) := by decide +kernel
theorem d_Model_init_4 : decode c_Model_init 4 = .ok (.aload_n 0, 1) := by decide +kernel
theorem d_Model_init_5 : decode c_Model_init 5 = .ok (.sipush 1500, 3) := by decide +kernel
theorem d_Model_init_8 : decode c_Model_init 8 = .ok (.newarray .int, 2) := by decide +kernel
theorem d_Model_init_10 : decode c_Model_init 10 = .ok (.putfield 7, 3) := by decide +kernel
theorem d_Model_init_13 : decode c_Model_init 13 = .ok (.aload_n 0, 1) := by decide +kernel
theorem d_Model_init_14 : decode c_Model_init 14 = .ok (.iconst 5, 1) := by decide +kernel
theorem d_Model_init_15 : decode c_Model_init 15 = .ok (.newarray .int, 2) := by decide +kernel
theorem d_Model_init_17 : decode c_Model_init 17 = .ok (.putfield 13, 3) := by decide +kernel
theorem d_Model_init_20 : decode c_Model_init 20 = .ok (.aload_n 0, 1) := by decide +kernel
theorem d_Model_init_21 : decode c_Model_init 21 = .ok (.bipush 60, 2) := by decide +kernel
theorem d_Model_init_23 : decode c_Model_init 23 = .ok (.newarray .int, 2) := by decide +kernel
theorem d_Model_init_25 : decode c_Model_init 25 = .ok (.putfield 16, 3) := by decide +kernel
theorem d_Model_init_28 : decode c_Model_init 28 = .ok (.aload_n 0, 1) := by decide +kernel
theorem d_Model_init_29 : decode c_Model_init 29 = .ok (.bipush 61, 2) := by decide +kernel
theorem d_Model_init_31 : decode c_Model_init 31 = .ok (.newarray .int, 2) := by decide +kernel
theorem d_Model_init_33 : decode c_Model_init 33 = .ok (.putfield 19, 3) := by decide +kernel
theorem d_Model_init_36 : decode c_Model_init 36 = .ok (.aload_n 0, 1) := by decide +kernel
theorem d_Model_init_37 : decode c_Model_init 37 = .ok (.sipush 1502, 3) := by decide +kernel
theorem d_Model_init_40 : decode c_Model_init 40 = .ok (.newarray .int, 2) := by decide +kernel
theorem d_Model_init_42 : decode c_Model_init 42 = .ok (.putfield 22, 3) := by decide +kernel
theorem d_Model_init_45 : decode c_Model_init 45 = .ok (.aload_n 0, 1) := by decide +kernel
theorem d_Model_init_46 : decode c_Model_init 46 = .ok (.sipush 1502, 3) := by decide +kernel
theorem d_Model_init_49 : decode c_Model_init 49 = .ok (.newarray .int, 2) := by decide +kernel
theorem d_Model_init_51 : decode c_Model_init 51 = .ok (.putfield 25, 3) := by decide +kernel
theorem d_Model_init_54 : decode c_Model_init 54 = .ok (.aload_n 0, 1) := by decide +kernel
theorem d_Model_init_55 : decode c_Model_init 55 = .ok (.sipush 1502, 3) := by decide +kernel
theorem d_Model_init_58 : decode c_Model_init 58 = .ok (.newarray .int, 2) := by decide +kernel
theorem d_Model_init_60 : decode c_Model_init 60 = .ok (.putfield 28, 3) := by decide +kernel
theorem d_Model_init_63 : decode c_Model_init 63 = .ok (.aload_n 0, 1) := by decide +kernel
theorem d_Model_init_64 : decode c_Model_init 64 = .ok (.sipush 1500, 3) := by decide +kernel
theorem d_Model_init_67 : decode c_Model_init 67 = .ok (.newarray .int, 2) := by decide +kernel
theorem d_Model_init_69 : decode c_Model_init 69 = .ok (.putfield 31, 3) := by decide +kernel
theorem d_Model_init_72 : decode c_Model_init 72 = .ok (.aload_n 0, 1) := by decide +kernel
theorem d_Model_init_73 : decode c_Model_init 73 = .ok (.iconst 4, 1) := by decide +kernel
theorem d_Model_init_74 : decode c_Model_init 74 = .ok (.newarray .int, 2) := by decide +kernel
theorem d_Model_init_76 : decode c_Model_init 76 = .ok (.putfield 34, 3) := by decide +kernel
theorem d_Model_init_79 : decode c_Model_init 79 = .ok (.aload_n 0, 1) := by decide +kernel
theorem d_Model_init_80 : decode c_Model_init 80 = .ok (.bipush 80, 2) := by decide +kernel
theorem d_Model_init_82 : decode c_Model_init 82 = .ok (.newarray .int, 2) := by decide +kernel
theorem d_Model_init_84 : decode c_Model_init 84 = .ok (.putfield 37, 3) := by decide +kernel
theorem d_Model_init_87 : decode c_Model_init 87 = .ok (.aload_n 0, 1) := by decide +kernel
theorem d_Model_init_88 : decode c_Model_init 88 = .ok (.bipush 80, 2) := by decide +kernel
theorem d_Model_init_90 : decode c_Model_init 90 = .ok (.newarray .int, 2) := by decide +kernel
theorem d_Model_init_92 : decode c_Model_init 92 = .ok (.putfield 40, 3) := by decide +kernel
theorem d_Model_init_95 : decode c_Model_init 95 = .ok (.aload_n 0, 1) := by decide +kernel
theorem d_Model_init_96 : decode c_Model_init 96 = .ok (.bipush 80, 2) := by decide +kernel
theorem d_Model_init_98 : decode c_Model_init 98 = .ok (.newarray .int, 2) := by decide +kernel
theorem d_Model_init_100 : decode c_Model_init 100 = .ok (.putfield 43, 3) := by decide +kernel
theorem d_Model_init_103 : decode c_Model_init 103 = .ok (.aload_n 0, 1) := by decide +kernel
theorem d_Model_init_104 : decode c_Model_init 104 = .ok (.bipush 80, 2) := by decide +kernel
theorem d_Model_init_106 : decode c_Model_init 106 = .ok (.newarray .int, 2) := by decide +kernel
theorem d_Model_init_108 : decode c_Model_init 108 = .ok (.putfield 46, 3) := by decide +kernel
theorem d_Model_init_111 : decode c_Model_init 111 = .ok (.aload_n 0, 1) := by decide +kernel
theorem d_Model_init_112 : decode c_Model_init 112 = .ok (.iconst (-1), 1) := by decide +kernel
theorem d_Model_init_113 : decode c_Model_init 113 = .ok (.putfield 49, 3) := by decide +kernel
theorem d_Model_init_116 : decode c_Model_init 116 = .ok (.aload_n 0, 1) := by decide +kernel
theorem d_Model_init_117 : decode c_Model_init 117 = .ok (.iconst (-1), 1) := by decide +kernel
theorem d_Model_init_118 : decode c_Model_init 118 = .ok (.putfield 53, 3) := by decide +kernel
theorem d_Model_init_121 : decode c_Model_init 121 = .ok (.aload_n 0, 1) := by decide +kernel
theorem d_Model_init_122 : decode c_Model_init 122 = .ok (.iconst (-1), 1) := by decide +kernel
theorem d_Model_init_123 : decode c_Model_init 123 = .ok (.putfield 56, 3) := by decide +kernel
theorem d_Model_init_126 : decode c_Model_init 126 = .ok (.aload_n 0, 1) := by decide +kernel
theorem d_Model_init_127 : decode c_Model_init 127 = .ok (.bipush 60, 2) := by decide +kernel
theorem d_Model_init_129 : decode c_Model_init 129 = .ok (.newarray .int, 2) := by decide +kernel
theorem d_Model_init_131 : decode c_Model_init 131 = .ok (.putfield 59, 3) := by decide +kernel
theorem d_Model_init_134 : decode c_Model_init 134 = .ok (.aload_n 0, 1) := by decide +kernel
theorem d_Model_init_135 : decode c_Model_init 135 = .ok (.bipush 60, 2) := by decide +kernel
theorem d_Model_init_137 : decode c_Model_init 137 = .ok (.newarray .int, 2) := by decide +kernel
theorem d_Model_init_139 : decode c_Model_init 139 = .ok (.putfield 62, 3) := by decide +kernel
theorem d_Model_init_142 : decode c_Model_init 142 = .ok (.aload_n 0, 1) := by decide +kernel
theorem d_Model_init_143 : decode c_Model_init 143 = .ok (.iconst 5, 1) := by decide +kernel
theorem d_Model_init_144 : decode c_Model_init 144 = .ok (.newarray .int, 2) := by decide +kernel
theorem d_Model_init_146 : decode c_Model_init 146 = .ok (.putfield 65, 3) := by decide +kernel
theorem d_Model_init_149 : decode c_Model_init 149 = .ok (.aload_n 0, 1) := by decide +kernel
theorem d_Model_init_150 : decode c_Model_init 150 = .ok (.iconst 5, 1) := by decide +kernel
theorem d_Model_init_151 : decode c_Model_init 151 = .ok (.newarray .int, 2) := by decide +kernel
theorem d_Model_init_153 : decode c_Model_init 153 = .ok (.putfield 68, 3) := by decide +kernel
theorem d_Model_init_156 : decode c_Model_init 156 = .ok (.aload_n 0, 1) := by decide +kernel
theorem d_Model_init_157 : decode c_Model_init 157 = .ok (.iconst 5, 1) := by decide +kernel
theorem d_Model_init_158 : decode c_Model_init 158 = .ok (.newarray .int, 2) := by decide +kernel
theorem d_Model_init_160 : decode c_Model_init 160 = .ok (.putfield 71, 3) := by decide +kernel
theorem d_Model_init_163 : decode c_Model_init 163 = .ok (.aload_n 0, 1) := by decide +kernel
theorem d_Model_init_164 : decode c_Model_init 164 = .ok (.sipush 4000, 3) := by decide +kernel
theorem d_Model_init_167 : decode c_Model_init 167 = .ok (.newarray .int, 2) := by decide +kernel
theorem d_Model_init_169 : decode c_Model_init 169 = .ok (.putfield 74, 3) := by decide +kernel
theorem d_Model_init_172 : decode c_Model_init 172 = .ok (.aload_n 0, 1) := by decide +kernel
theorem d_Model_init_173 : decode c_Model_init 173 = .ok (.invokevirtual 77, 3) := by decide +kernel
theorem d_Model_init_176 : decode c_Model_init 176 = .ok (.return_, 1) := by decide +kernel
theorem d_Model_thrown_0 : decode c_Model_thrown 0 = .ok (.aload_n 0, 1) := by decide +kernel
theorem d_Model_thrown_1 : decode c_Model_thrown 1 = .ok (.getfield 80, 3) := by decide +kernel
theorem d_Model_thrown_4 : decode c_Model_thrown 4 = .ok (.ireturn, 1) := by decide +kernel
theorem d_Model_usual_0 : decode c_Model_usual 0 = .ok (.aload_n 0, 1) := by decide +kernel
theorem d_Model_usual_1 : decode c_Model_usual 1 = .ok (.getfield 13, 3) := by decide +kernel
theorem d_Model_usual_4 : decode c_Model_usual 4 = .ok (.iconst 0, 1) := by decide +kernel
theorem d_Model_usual_5 : decode c_Model_usual 5 = .ok (.bipush 58, 2) := by decide +kernel
theorem d_Model_usual_7 : decode c_Model_usual 7 = .ok (.iastore, 1) := by decide +kernel
theorem d_Model_usual_8 : decode c_Model_usual 8 = .ok (.aload_n 0, 1) := by decide +kernel
theorem d_Model_usual_9 : decode c_Model_usual 9 = .ok (.getfield 13, 3) := by decide +kernel
theorem d_Model_usual_12 : decode c_Model_usual 12 = .ok (.iconst 1, 1) := by decide +kernel
theorem d_Model_usual_13 : decode c_Model_usual 13 = .ok (.bipush 43, 2) := by decide +kernel
theorem d_Model_usual_15 : decode c_Model_usual 15 = .ok (.iastore, 1) := by decide +kernel
theorem d_Model_usual_16 : decode c_Model_usual 16 = .ok (.aload_n 0, 1) := by decide +kernel
theorem d_Model_usual_17 : decode c_Model_usual 17 = .ok (.getfield 13, 3) := by decide +kernel
theorem d_Model_usual_20 : decode c_Model_usual 20 = .ok (.iconst 2, 1) := by decide +kernel
theorem d_Model_usual_21 : decode c_Model_usual 21 = .ok (.bipush 63, 2) := by decide +kernel
theorem d_Model_usual_23 : decode c_Model_usual 23 = .ok (.iastore, 1) := by decide +kernel
theorem d_Model_usual_24 : decode c_Model_usual 24 = .ok (.aload_n 0, 1) := by decide +kernel
theorem d_Model_usual_25 : decode c_Model_usual 25 = .ok (.getfield 13, 3) := by decide +kernel
theorem d_Model_usual_28 : decode c_Model_usual 28 = .ok (.iconst 3, 1) := by decide +kernel
theorem d_Model_usual_29 : decode c_Model_usual 29 = .ok (.bipush 42, 2) := by decide +kernel
theorem d_Model_usual_31 : decode c_Model_usual 31 = .ok (.iastore, 1) := by decide +kernel
theorem d_Model_usual_32 : decode c_Model_usual 32 = .ok (.aload_n 0, 1) := by decide +kernel
theorem d_Model_usual_33 : decode c_Model_usual 33 = .ok (.getfield 13, 3) := by decide +kernel
theorem d_Model_usual_36 : decode c_Model_usual 36 = .ok (.iconst 4, 1) := by decide +kernel
theorem d_Model_usual_37 : decode c_Model_usual 37 = .ok (.bipush 39, 2) := by decide +kernel
theorem d_Model_usual_39 : decode c_Model_usual 39 = .ok (.iastore, 1) := by decide +kernel
theorem d_Model_usual_40 : decode c_Model_usual 40 = .ok (.return_, 1) := by decide +kernel
theorem d_Model_add_0 : decode c_Model_add 0 = .ok (.aload_n 0, 1) := by decide +kernel
theorem d_Model_add_1 : decode c_Model_add 1 = .ok (.iconst 0, 1) := by decide +kernel
theorem d_Model_add_2 : decode c_Model_add 2 = .ok (.putfield 80, 3) := by decide +kernel
theorem d_Model_add_5 : decode c_Model_add 5 = .ok (.iload_n 1, 1) := by decide +kernel
theorem d_Model_add_6 : decode c_Model_add 6 = .ok (.bipush 32, 2) := by decide +kernel
theorem d_Model_add_8 : decode c_Model_add 8 = .ok (.if_icmp .lt 19, 3) := by decide +kernel
theorem d_Model_add_11 : decode c_Model_add 11 = .ok (.iload_n 1, 1) := by decide +kernel
theorem d_Model_add_12 : decode c_Model_add 12 = .ok (.bipush 126, 2) := by decide +kernel
theorem d_Model_add_14 : decode c_Model_add 14 = .ok (.if_icmp .gt 13, 3) := by decide +kernel
theorem d_Model_add_17 : decode c_Model_add 17 = .ok (.aload_n 0, 1) := by decide +kernel
theorem d_Model_add_18 : decode c_Model_add 18 = .ok (.getfield 83, 3) := by decide +kernel
theorem d_Model_add_21 : decode c_Model_add 21 = .ok (.sipush 1500, 3) := by decide +kernel
theorem d_Model_add_24 : decode c_Model_add 24 = .ok (.if_icmp .ne 5, 3) := by decide +kernel
theorem d_Model_add_27 : decode c_Model_add 27 = .ok (.iconst 0, 1) := by decide +kernel
theorem d_Model_add_28 : decode c_Model_add 28 = .ok (.ireturn, 1) := by decide +kernel
theorem d_Model_add_29 : decode c_Model_add 29 = .ok (.aload_n 0, 1) := by decide +kernel
theorem d_Model_add_30 : decode c_Model_add 30 = .ok (.getfield 7, 3) := by decide +kernel
theorem d_Model_add_33 : decode c_Model_add 33 = .ok (.aload_n 0, 1) := by decide +kernel
theorem d_Model_add_34 : decode c_Model_add 34 = .ok (.getfield 83, 3) := by decide +kernel
theorem d_Model_add_37 : decode c_Model_add 37 = .ok (.iload_n 1, 1) := by decide +kernel
theorem d_Model_add_38 : decode c_Model_add 38 = .ok (.iastore, 1) := by decide +kernel
theorem d_Model_add_39 : decode c_Model_add 39 = .ok (.aload_n 0, 1) := by decide +kernel
theorem d_Model_add_40 : decode c_Model_add 40 = .ok (.dup, 1) := by decide +kernel
theorem d_Model_add_41 : decode c_Model_add 41 = .ok (.getfield 83, 3) := by decide +kernel
theorem d_Model_add_44 : decode c_Model_add 44 = .ok (.iconst 1, 1) := by decide +kernel
theorem d_Model_add_45 : decode c_Model_add 45 = .ok (.iadd, 1) := by decide +kernel
theorem d_Model_add_46 : decode c_Model_add 46 = .ok (.putfield 83, 3) := by decide +kernel
theorem d_Model_add_49 : decode c_Model_add 49 = .ok (.iconst 1, 1) := by decide +kernel
theorem d_Model_add_50 : decode c_Model_add 50 = .ok (.ireturn, 1) := by decide +kernel
theorem d_Model_look_0 : decode c_Model_look 0 = .ok (.aload_n 0, 1) := by decide +kernel
theorem d_Model_look_1 : decode c_Model_look 1 = .ok (.getfield 86, 3) := by decide +kernel
theorem d_Model_look_4 : decode c_Model_look 4 = .ok (.aload_n 0, 1) := by decide +kernel
theorem d_Model_look_5 : decode c_Model_look 5 = .ok (.getfield 83, 3) := by decide +kernel
theorem d_Model_look_8 : decode c_Model_look 8 = .ok (.if_icmp .ge 15, 3) := by decide +kernel
theorem d_Model_look_11 : decode c_Model_look 11 = .ok (.aload_n 0, 1) := by decide +kernel
theorem d_Model_look_12 : decode c_Model_look 12 = .ok (.getfield 7, 3) := by decide +kernel
theorem d_Model_look_15 : decode c_Model_look 15 = .ok (.aload_n 0, 1) := by decide +kernel
theorem d_Model_look_16 : decode c_Model_look 16 = .ok (.getfield 86, 3) := by decide +kernel
theorem d_Model_look_19 : decode c_Model_look 19 = .ok (.iaload, 1) := by decide +kernel
theorem d_Model_look_20 : decode c_Model_look 20 = .ok (.goto 4, 3) := by decide +kernel
theorem d_Model_look_23 : decode c_Model_look 23 = .ok (.iconst (-1), 1) := by decide +kernel
theorem d_Model_look_24 : decode c_Model_look 24 = .ok (.ireturn, 1) := by decide +kernel
theorem d_Model_fail_0 : decode c_Model_fail 0 = .ok (.aload_n 0, 1) := by decide +kernel
theorem d_Model_fail_1 : decode c_Model_fail 1 = .ok (.getfield 89, 3) := by decide +kernel
theorem d_Model_fail_4 : decode c_Model_fail 4 = .ok (.ifCond .ge 11, 3) := by decide +kernel
theorem d_Model_fail_7 : decode c_Model_fail 7 = .ok (.aload_n 0, 1) := by decide +kernel
theorem d_Model_fail_8 : decode c_Model_fail 8 = .ok (.aload_n 0, 1) := by decide +kernel
theorem d_Model_fail_9 : decode c_Model_fail 9 = .ok (.getfield 86, 3) := by decide +kernel
theorem d_Model_fail_12 : decode c_Model_fail 12 = .ok (.putfield 89, 3) := by decide +kernel
theorem d_Model_fail_15 : decode c_Model_fail 15 = .ok (.return_, 1) := by decide +kernel
theorem d_Model_isLetter_0 : decode c_Model_isLetter 0 = .ok (.iload_n 0, 1) := by decide +kernel
theorem d_Model_isLetter_1 : decode c_Model_isLetter 1 = .ok (.bipush 65, 2) := by decide +kernel
theorem d_Model_isLetter_3 : decode c_Model_isLetter 3 = .ok (.if_icmp .lt 13, 3) := by decide +kernel
theorem d_Model_isLetter_6 : decode c_Model_isLetter 6 = .ok (.iload_n 0, 1) := by decide +kernel
theorem d_Model_isLetter_7 : decode c_Model_isLetter 7 = .ok (.bipush 90, 2) := by decide +kernel
theorem d_Model_isLetter_9 : decode c_Model_isLetter 9 = .ok (.if_icmp .gt 7, 3) := by decide +kernel
theorem d_Model_isLetter_12 : decode c_Model_isLetter 12 = .ok (.iconst 1, 1) := by decide +kernel
theorem d_Model_isLetter_13 : decode c_Model_isLetter 13 = .ok (.goto 4, 3) := by decide +kernel
theorem d_Model_isLetter_16 : decode c_Model_isLetter 16 = .ok (.iconst 0, 1) := by decide +kernel
theorem d_Model_isLetter_17 : decode c_Model_isLetter 17 = .ok (.ireturn, 1) := by decide +kernel
theorem d_Model_isDigit_0 : decode c_Model_isDigit 0 = .ok (.iload_n 0, 1) := by decide +kernel
theorem d_Model_isDigit_1 : decode c_Model_isDigit 1 = .ok (.bipush 48, 2) := by decide +kernel
theorem d_Model_isDigit_3 : decode c_Model_isDigit 3 = .ok (.if_icmp .lt 13, 3) := by decide +kernel
theorem d_Model_isDigit_6 : decode c_Model_isDigit 6 = .ok (.iload_n 0, 1) := by decide +kernel
theorem d_Model_isDigit_7 : decode c_Model_isDigit 7 = .ok (.bipush 57, 2) := by decide +kernel
theorem d_Model_isDigit_9 : decode c_Model_isDigit 9 = .ok (.if_icmp .gt 7, 3) := by decide +kernel
theorem d_Model_isDigit_12 : decode c_Model_isDigit 12 = .ok (.iconst 1, 1) := by decide +kernel
theorem d_Model_isDigit_13 : decode c_Model_isDigit 13 = .ok (.goto 4, 3) := by decide +kernel
theorem d_Model_isDigit_16 : decode c_Model_isDigit 16 = .ok (.iconst 0, 1) := by decide +kernel
theorem d_Model_isDigit_17 : decode c_Model_isDigit 17 = .ok (.ireturn, 1) := by decide +kernel
theorem d_Model_readService_0 : decode c_Model_readService 0 = .ok (.iconst 0, 1) := by decide +kernel
theorem d_Model_readService_1 : decode c_Model_readService 1 = .ok (.istore_n 1, 1) := by decide +kernel
theorem d_Model_readService_2 : decode c_Model_readService 2 = .ok (.iload_n 1, 1) := by decide +kernel
theorem d_Model_readService_3 : decode c_Model_readService 3 = .ok (.iconst 5, 1) := by decide +kernel
theorem d_Model_readService_4 : decode c_Model_readService 4 = .ok (.if_icmp .ge 111, 3) := by decide +kernel
theorem d_Model_readService_7 : decode c_Model_readService 7 = .ok (.aload_n 0, 1) := by decide +kernel
theorem d_Model_readService_8 : decode c_Model_readService 8 = .ok (.invokevirtual 92, 3) := by decide +kernel
theorem d_Model_readService_11 : decode c_Model_readService 11 = .ok (.istore_n 2, 1) := by decide +kernel
theorem d_Model_readService_12 : decode c_Model_readService 12 = .ok (.iload_n 2, 1) := by decide +kernel
theorem d_Model_readService_13 : decode c_Model_readService 13 = .ok (.iconst (-1), 1) := by decide +kernel
theorem d_Model_readService_14 : decode c_Model_readService 14 = .ok (.if_icmp .eq 39, 3) := by decide +kernel
theorem d_Model_readService_17 : decode c_Model_readService 17 = .ok (.iload_n 2, 1) := by decide +kernel
theorem d_Model_readService_18 : decode c_Model_readService 18 = .ok (.bipush 32, 2) := by decide +kernel
theorem d_Model_readService_20 : decode c_Model_readService 20 = .ok (.if_icmp .eq 33, 3) := by decide +kernel
theorem d_Model_readService_23 : decode c_Model_readService 23 = .ok (.iload_n 2, 1) := by decide +kernel
theorem d_Model_readService_24 : decode c_Model_readService 24 = .ok (.invokestatic 96, 3) := by decide +kernel
theorem d_Model_readService_27 : decode c_Model_readService 27 = .ok (.ifCond .ne 26, 3) := by decide +kernel
theorem d_Model_readService_30 : decode c_Model_readService 30 = .ok (.iload_n 2, 1) := by decide +kernel
theorem d_Model_readService_31 : decode c_Model_readService 31 = .ok (.invokestatic 100, 3) := by decide +kernel
theorem d_Model_readService_34 : decode c_Model_readService 34 = .ok (.ifCond .ne 19, 3) := by decide +kernel
theorem d_Model_readService_37 : decode c_Model_readService 37 = .ok (.iload_n 2, 1) := by decide +kernel
theorem d_Model_readService_38 : decode c_Model_readService 38 = .ok (.bipush 97, 2) := by decide +kernel
theorem d_Model_readService_40 : decode c_Model_readService 40 = .ok (.if_icmp .lt 9, 3) := by decide +kernel
theorem d_Model_readService_43 : decode c_Model_readService 43 = .ok (.iload_n 2, 1) := by decide +kernel
theorem d_Model_readService_44 : decode c_Model_readService 44 = .ok (.bipush 122, 2) := by decide +kernel
theorem d_Model_readService_46 : decode c_Model_readService 46 = .ok (.if_icmp .le 7, 3) := by decide +kernel
theorem d_Model_readService_49 : decode c_Model_readService 49 = .ok (.iconst 1, 1) := by decide +kernel
theorem d_Model_readService_50 : decode c_Model_readService 50 = .ok (.goto 4, 3) := by decide +kernel
theorem d_Model_readService_53 : decode c_Model_readService 53 = .ok (.iconst 0, 1) := by decide +kernel
theorem d_Model_readService_54 : decode c_Model_readService 54 = .ok (.istore_n 3, 1) := by decide +kernel
theorem d_Model_readService_55 : decode c_Model_readService 55 = .ok (.iconst 0, 1) := by decide +kernel
theorem d_Model_readService_56 : decode c_Model_readService 56 = .ok (.istore 4, 2) := by decide +kernel
theorem d_Model_readService_58 : decode c_Model_readService 58 = .ok (.iload 4, 2) := by decide +kernel
theorem d_Model_readService_60 : decode c_Model_readService 60 = .ok (.iload_n 1, 1) := by decide +kernel
theorem d_Model_readService_61 : decode c_Model_readService 61 = .ok (.if_icmp .ge 22, 3) := by decide +kernel
theorem d_Model_readService_64 : decode c_Model_readService 64 = .ok (.aload_n 0, 1) := by decide +kernel
theorem d_Model_readService_65 : decode c_Model_readService 65 = .ok (.getfield 13, 3) := by decide +kernel
theorem d_Model_readService_68 : decode c_Model_readService 68 = .ok (.iload 4, 2) := by decide +kernel
theorem d_Model_readService_70 : decode c_Model_readService 70 = .ok (.iaload, 1) := by decide +kernel
theorem d_Model_readService_71 : decode c_Model_readService 71 = .ok (.iload_n 2, 1) := by decide +kernel
theorem d_Model_readService_72 : decode c_Model_readService 72 = .ok (.if_icmp .ne 5, 3) := by decide +kernel
theorem d_Model_readService_75 : decode c_Model_readService 75 = .ok (.iconst 0, 1) := by decide +kernel
theorem d_Model_readService_76 : decode c_Model_readService 76 = .ok (.istore_n 3, 1) := by decide +kernel
theorem d_Model_readService_77 : decode c_Model_readService 77 = .ok (.iinc 4 1, 3) := by decide +kernel
theorem d_Model_readService_80 : decode c_Model_readService 80 = .ok (.goto (-22), 3) := by decide +kernel
theorem d_Model_readService_83 : decode c_Model_readService 83 = .ok (.iload_n 3, 1) := by decide +kernel
theorem d_Model_readService_84 : decode c_Model_readService 84 = .ok (.ifCond .ne 8, 3) := by decide +kernel
theorem d_Model_readService_87 : decode c_Model_readService 87 = .ok (.aload_n 0, 1) := by decide +kernel
theorem d_Model_readService_88 : decode c_Model_readService 88 = .ok (.invokevirtual 103, 3) := by decide +kernel
theorem d_Model_readService_91 : decode c_Model_readService 91 = .ok (.return_, 1) := by decide +kernel
theorem d_Model_readService_92 : decode c_Model_readService 92 = .ok (.aload_n 0, 1) := by decide +kernel
theorem d_Model_readService_93 : decode c_Model_readService 93 = .ok (.getfield 13, 3) := by decide +kernel
theorem d_Model_readService_96 : decode c_Model_readService 96 = .ok (.iload_n 1, 1) := by decide +kernel
theorem d_Model_readService_97 : decode c_Model_readService 97 = .ok (.iload_n 2, 1) := by decide +kernel
theorem d_Model_readService_98 : decode c_Model_readService 98 = .ok (.iastore, 1) := by decide +kernel
theorem d_Model_readService_99 : decode c_Model_readService 99 = .ok (.aload_n 0, 1) := by decide +kernel
theorem d_Model_readService_100 : decode c_Model_readService 100 = .ok (.dup, 1) := by decide +kernel
theorem d_Model_readService_101 : decode c_Model_readService 101 = .ok (.getfield 86, 3) := by decide +kernel
theorem d_Model_readService_104 : decode c_Model_readService 104 = .ok (.iconst 1, 1) := by decide +kernel
theorem d_Model_readService_105 : decode c_Model_readService 105 = .ok (.iadd, 1) := by decide +kernel
theorem d_Model_readService_106 : decode c_Model_readService 106 = .ok (.putfield 86, 3) := by decide +kernel
theorem d_Model_readService_109 : decode c_Model_readService 109 = .ok (.iinc 1 1, 3) := by decide +kernel
theorem d_Model_readService_112 : decode c_Model_readService 112 = .ok (.goto (-110), 3) := by decide +kernel
theorem d_Model_readService_115 : decode c_Model_readService 115 = .ok (.return_, 1) := by decide +kernel
theorem d_Model_begins_0 : decode c_Model_begins 0 = .ok (.aload_n 0, 1) := by decide +kernel
theorem d_Model_begins_1 : decode c_Model_begins 1 = .ok (.getfield 83, 3) := by decide +kernel
theorem d_Model_begins_4 : decode c_Model_begins 4 = .ok (.iconst 3, 1) := by decide +kernel
theorem d_Model_begins_5 : decode c_Model_begins 5 = .ok (.if_icmp .lt 40, 3) := by decide +kernel
theorem d_Model_begins_8 : decode c_Model_begins 8 = .ok (.aload_n 0, 1) := by decide +kernel
theorem d_Model_begins_9 : decode c_Model_begins 9 = .ok (.getfield 7, 3) := by decide +kernel
theorem d_Model_begins_12 : decode c_Model_begins 12 = .ok (.iconst 0, 1) := by decide +kernel
theorem d_Model_begins_13 : decode c_Model_begins 13 = .ok (.iaload, 1) := by decide +kernel
theorem d_Model_begins_14 : decode c_Model_begins 14 = .ok (.bipush 85, 2) := by decide +kernel
theorem d_Model_begins_16 : decode c_Model_begins 16 = .ok (.if_icmp .ne 29, 3) := by decide +kernel
theorem d_Model_begins_19 : decode c_Model_begins 19 = .ok (.aload_n 0, 1) := by decide +kernel
theorem d_Model_begins_20 : decode c_Model_begins 20 = .ok (.getfield 7, 3) := by decide +kernel
theorem d_Model_begins_23 : decode c_Model_begins 23 = .ok (.iconst 1, 1) := by decide +kernel
theorem d_Model_begins_24 : decode c_Model_begins 24 = .ok (.iaload, 1) := by decide +kernel
theorem d_Model_begins_25 : decode c_Model_begins 25 = .ok (.bipush 78, 2) := by decide +kernel
theorem d_Model_begins_27 : decode c_Model_begins 27 = .ok (.if_icmp .ne 18, 3) := by decide +kernel
theorem d_Model_begins_30 : decode c_Model_begins 30 = .ok (.aload_n 0, 1) := by decide +kernel
theorem d_Model_begins_31 : decode c_Model_begins 31 = .ok (.getfield 7, 3) := by decide +kernel
theorem d_Model_begins_34 : decode c_Model_begins 34 = .ok (.iconst 2, 1) := by decide +kernel
theorem d_Model_begins_35 : decode c_Model_begins 35 = .ok (.iaload, 1) := by decide +kernel
theorem d_Model_begins_36 : decode c_Model_begins 36 = .ok (.bipush 65, 2) := by decide +kernel
theorem d_Model_begins_38 : decode c_Model_begins 38 = .ok (.if_icmp .ne 7, 3) := by decide +kernel
theorem d_Model_begins_41 : decode c_Model_begins 41 = .ok (.iconst 1, 1) := by decide +kernel
theorem d_Model_begins_42 : decode c_Model_begins 42 = .ok (.goto 4, 3) := by decide +kernel
theorem d_Model_begins_45 : decode c_Model_begins 45 = .ok (.iconst 0, 1) := by decide +kernel
theorem d_Model_begins_46 : decode c_Model_begins 46 = .ok (.ireturn, 1) := by decide +kernel
theorem d_Model_readTag_0 : decode c_Model_readTag 0 = .ok (.iconst 0, 1) := by decide +kernel
theorem d_Model_readTag_1 : decode c_Model_readTag 1 = .ok (.istore_n 1, 1) := by decide +kernel
theorem d_Model_readTag_2 : decode c_Model_readTag 2 = .ok (.iconst 0, 1) := by decide +kernel
theorem d_Model_readTag_3 : decode c_Model_readTag 3 = .ok (.istore_n 2, 1) := by decide +kernel
theorem d_Model_readTag_4 : decode c_Model_readTag 4 = .ok (.iload_n 2, 1) := by decide +kernel
theorem d_Model_readTag_5 : decode c_Model_readTag 5 = .ok (.iconst 3, 1) := by decide +kernel
theorem d_Model_readTag_6 : decode c_Model_readTag 6 = .ok (.if_icmp .ge 55, 3) := by decide +kernel
theorem d_Model_readTag_9 : decode c_Model_readTag 9 = .ok (.aload_n 0, 1) := by decide +kernel
theorem d_Model_readTag_10 : decode c_Model_readTag 10 = .ok (.invokevirtual 92, 3) := by decide +kernel
theorem d_Model_readTag_13 : decode c_Model_readTag 13 = .ok (.istore_n 3, 1) := by decide +kernel
theorem d_Model_readTag_14 : decode c_Model_readTag 14 = .ok (.iload_n 3, 1) := by decide +kernel
theorem d_Model_readTag_15 : decode c_Model_readTag 15 = .ok (.invokestatic 96, 3) := by decide +kernel
theorem d_Model_readTag_18 : decode c_Model_readTag 18 = .ok (.ifCond .ne 19, 3) := by decide +kernel
theorem d_Model_readTag_21 : decode c_Model_readTag 21 = .ok (.iload_n 2, 1) := by decide +kernel
theorem d_Model_readTag_22 : decode c_Model_readTag 22 = .ok (.ifCond .eq 10, 3) := by decide +kernel
theorem d_Model_readTag_25 : decode c_Model_readTag 25 = .ok (.iload_n 3, 1) := by decide +kernel
theorem d_Model_readTag_26 : decode c_Model_readTag 26 = .ok (.invokestatic 100, 3) := by decide +kernel
theorem d_Model_readTag_29 : decode c_Model_readTag 29 = .ok (.ifCond .ne 8, 3) := by decide +kernel
theorem d_Model_readTag_32 : decode c_Model_readTag 32 = .ok (.aload_n 0, 1) := by decide +kernel
theorem d_Model_readTag_33 : decode c_Model_readTag 33 = .ok (.invokevirtual 103, 3) := by decide +kernel
theorem d_Model_readTag_36 : decode c_Model_readTag 36 = .ok (.return_, 1) := by decide +kernel
theorem d_Model_readTag_37 : decode c_Model_readTag 37 = .ok (.sipush 256, 3) := by decide +kernel
theorem d_Model_readTag_40 : decode c_Model_readTag 40 = .ok (.iload_n 1, 1) := by decide +kernel
theorem d_Model_readTag_41 : decode c_Model_readTag 41 = .ok (.imul, 1) := by decide +kernel
theorem d_Model_readTag_42 : decode c_Model_readTag 42 = .ok (.iload_n 3, 1) := by decide +kernel
theorem d_Model_readTag_43 : decode c_Model_readTag 43 = .ok (.iadd, 1) := by decide +kernel
theorem d_Model_readTag_44 : decode c_Model_readTag 44 = .ok (.istore_n 1, 1) := by decide +kernel
theorem d_Model_readTag_45 : decode c_Model_readTag 45 = .ok (.aload_n 0, 1) := by decide +kernel
theorem d_Model_readTag_46 : decode c_Model_readTag 46 = .ok (.dup, 1) := by decide +kernel
theorem d_Model_readTag_47 : decode c_Model_readTag 47 = .ok (.getfield 86, 3) := by decide +kernel
theorem d_Model_readTag_50 : decode c_Model_readTag 50 = .ok (.iconst 1, 1) := by decide +kernel
theorem d_Model_readTag_51 : decode c_Model_readTag 51 = .ok (.iadd, 1) := by decide +kernel
theorem d_Model_readTag_52 : decode c_Model_readTag 52 = .ok (.putfield 86, 3) := by decide +kernel
theorem d_Model_readTag_55 : decode c_Model_readTag 55 = .ok (.iinc 2 1, 3) := by decide +kernel
theorem d_Model_readTag_58 : decode c_Model_readTag 58 = .ok (.goto (-54), 3) := by decide +kernel
theorem d_Model_readTag_61 : decode c_Model_readTag 61 = .ok (.aload_n 0, 1) := by decide +kernel
theorem d_Model_readTag_62 : decode c_Model_readTag 62 = .ok (.getfield 16, 3) := by decide +kernel
theorem d_Model_readTag_65 : decode c_Model_readTag 65 = .ok (.aload_n 0, 1) := by decide +kernel
theorem d_Model_readTag_66 : decode c_Model_readTag 66 = .ok (.getfield 106, 3) := by decide +kernel
theorem d_Model_readTag_69 : decode c_Model_readTag 69 = .ok (.iload_n 1, 1) := by decide +kernel
theorem d_Model_readTag_70 : decode c_Model_readTag 70 = .ok (.iastore, 1) := by decide +kernel
theorem d_Model_readTag_71 : decode c_Model_readTag 71 = .ok (.return_, 1) := by decide +kernel
theorem d_Model_openComponent_0 : decode c_Model_openComponent 0 = .ok (.aload_n 0, 1) := by decide +kernel
theorem d_Model_openComponent_1 : decode c_Model_openComponent 1 = .ok (.getfield 28, 3) := by decide +kernel
theorem d_Model_openComponent_4 : decode c_Model_openComponent 4 = .ok (.aload_n 0, 1) := by decide +kernel
theorem d_Model_openComponent_5 : decode c_Model_openComponent 5 = .ok (.getfield 109, 3) := by decide +kernel
theorem d_Model_openComponent_8 : decode c_Model_openComponent 8 = .ok (.aload_n 0, 1) := by decide +kernel
theorem d_Model_openComponent_9 : decode c_Model_openComponent 9 = .ok (.getfield 112, 3) := by decide +kernel
theorem d_Model_openComponent_12 : decode c_Model_openComponent 12 = .ok (.iastore, 1) := by decide +kernel
theorem d_Model_openComponent_13 : decode c_Model_openComponent 13 = .ok (.aload_n 0, 1) := by decide +kernel
theorem d_Model_openComponent_14 : decode c_Model_openComponent 14 = .ok (.dup, 1) := by decide +kernel
theorem d_Model_openComponent_15 : decode c_Model_openComponent 15 = .ok (.getfield 109, 3) := by decide +kernel
theorem d_Model_openComponent_18 : decode c_Model_openComponent 18 = .ok (.iconst 1, 1) := by decide +kernel
theorem d_Model_openComponent_19 : decode c_Model_openComponent 19 = .ok (.iadd, 1) := by decide +kernel
theorem d_Model_openComponent_20 : decode c_Model_openComponent 20 = .ok (.putfield 109, 3) := by decide +kernel
theorem d_Model_openComponent_23 : decode c_Model_openComponent 23 = .ok (.return_, 1) := by decide +kernel
theorem d_Model_openRepeat_0 : decode c_Model_openRepeat 0 = .ok (.aload_n 0, 1) := by decide +kernel
theorem d_Model_openRepeat_1 : decode c_Model_openRepeat 1 = .ok (.getfield 25, 3) := by decide +kernel
theorem d_Model_openRepeat_4 : decode c_Model_openRepeat 4 = .ok (.aload_n 0, 1) := by decide +kernel
theorem d_Model_openRepeat_5 : decode c_Model_openRepeat 5 = .ok (.getfield 115, 3) := by decide +kernel
theorem d_Model_openRepeat_8 : decode c_Model_openRepeat 8 = .ok (.aload_n 0, 1) := by decide +kernel
theorem d_Model_openRepeat_9 : decode c_Model_openRepeat 9 = .ok (.getfield 109, 3) := by decide +kernel
theorem d_Model_openRepeat_12 : decode c_Model_openRepeat 12 = .ok (.iastore, 1) := by decide +kernel
theorem d_Model_openRepeat_13 : decode c_Model_openRepeat 13 = .ok (.aload_n 0, 1) := by decide +kernel
theorem d_Model_openRepeat_14 : decode c_Model_openRepeat 14 = .ok (.dup, 1) := by decide +kernel
theorem d_Model_openRepeat_15 : decode c_Model_openRepeat 15 = .ok (.getfield 115, 3) := by decide +kernel
theorem d_Model_openRepeat_18 : decode c_Model_openRepeat 18 = .ok (.iconst 1, 1) := by decide +kernel
theorem d_Model_openRepeat_19 : decode c_Model_openRepeat 19 = .ok (.iadd, 1) := by decide +kernel
theorem d_Model_openRepeat_20 : decode c_Model_openRepeat 20 = .ok (.putfield 115, 3) := by decide +kernel
theorem d_Model_openRepeat_23 : decode c_Model_openRepeat 23 = .ok (.aload_n 0, 1) := by decide +kernel
theorem d_Model_openRepeat_24 : decode c_Model_openRepeat 24 = .ok (.invokevirtual 118, 3) := by decide +kernel
theorem d_Model_openRepeat_27 : decode c_Model_openRepeat 27 = .ok (.return_, 1) := by decide +kernel
theorem d_Model_take_0 : decode c_Model_take 0 = .ok (.aload_n 0, 1) := by decide +kernel
theorem d_Model_take_1 : decode c_Model_take 1 = .ok (.getfield 31, 3) := by decide +kernel
theorem d_Model_take_4 : decode c_Model_take 4 = .ok (.aload_n 0, 1) := by decide +kernel
theorem d_Model_take_5 : decode c_Model_take 5 = .ok (.getfield 112, 3) := by decide +kernel
theorem d_Model_take_8 : decode c_Model_take 8 = .ok (.iload_n 1, 1) := by decide +kernel
theorem d_Model_take_9 : decode c_Model_take 9 = .ok (.iastore, 1) := by decide +kernel
theorem d_Model_take_10 : decode c_Model_take 10 = .ok (.aload_n 0, 1) := by decide +kernel
theorem d_Model_take_11 : decode c_Model_take 11 = .ok (.dup, 1) := by decide +kernel
theorem d_Model_take_12 : decode c_Model_take 12 = .ok (.getfield 112, 3) := by decide +kernel
theorem d_Model_take_15 : decode c_Model_take 15 = .ok (.iconst 1, 1) := by decide +kernel
theorem d_Model_take_16 : decode c_Model_take 16 = .ok (.iadd, 1) := by decide +kernel
theorem d_Model_take_17 : decode c_Model_take 17 = .ok (.putfield 112, 3) := by decide +kernel
theorem d_Model_take_20 : decode c_Model_take 20 = .ok (.aload_n 0, 1) := by decide +kernel
theorem d_Model_take_21 : decode c_Model_take 21 = .ok (.dup, 1) := by decide +kernel
theorem d_Model_take_22 : decode c_Model_take 22 = .ok (.getfield 86, 3) := by decide +kernel
theorem d_Model_take_25 : decode c_Model_take 25 = .ok (.iconst 1, 1) := by decide +kernel
theorem d_Model_take_26 : decode c_Model_take 26 = .ok (.iadd, 1) := by decide +kernel
theorem d_Model_take_27 : decode c_Model_take 27 = .ok (.putfield 86, 3) := by decide +kernel
theorem d_Model_take_30 : decode c_Model_take 30 = .ok (.return_, 1) := by decide +kernel
theorem d_Model_readElement_0 : decode c_Model_readElement 0 = .ok (.aload_n 0, 1) := by decide +kernel
theorem d_Model_readElement_1 : decode c_Model_readElement 1 = .ok (.getfield 22, 3) := by decide +kernel
theorem d_Model_readElement_4 : decode c_Model_readElement 4 = .ok (.aload_n 0, 1) := by decide +kernel
theorem d_Model_readElement_5 : decode c_Model_readElement 5 = .ok (.getfield 121, 3) := by decide +kernel
theorem d_Model_readElement_8 : decode c_Model_readElement 8 = .ok (.aload_n 0, 1) := by decide +kernel
theorem d_Model_readElement_9 : decode c_Model_readElement 9 = .ok (.getfield 115, 3) := by decide +kernel
theorem d_Model_readElement_12 : decode c_Model_readElement 12 = .ok (.iastore, 1) := by decide +kernel
theorem d_Model_readElement_13 : decode c_Model_readElement 13 = .ok (.aload_n 0, 1) := by decide +kernel
theorem d_Model_readElement_14 : decode c_Model_readElement 14 = .ok (.dup, 1) := by decide +kernel
theorem d_Model_readElement_15 : decode c_Model_readElement 15 = .ok (.getfield 121, 3) := by decide +kernel
theorem d_Model_readElement_18 : decode c_Model_readElement 18 = .ok (.iconst 1, 1) := by decide +kernel
theorem d_Model_readElement_19 : decode c_Model_readElement 19 = .ok (.iadd, 1) := by decide +kernel
theorem d_Model_readElement_20 : decode c_Model_readElement 20 = .ok (.putfield 121, 3) := by decide +kernel
theorem d_Model_readElement_23 : decode c_Model_readElement 23 = .ok (.aload_n 0, 1) := by decide +kernel
theorem d_Model_readElement_24 : decode c_Model_readElement 24 = .ok (.getfield 115, 3) := by decide +kernel
theorem d_Model_readElement_27 : decode c_Model_readElement 27 = .ok (.istore_n 1, 1) := by decide +kernel
theorem d_Model_readElement_28 : decode c_Model_readElement 28 = .ok (.aload_n 0, 1) := by decide +kernel
theorem d_Model_readElement_29 : decode c_Model_readElement 29 = .ok (.invokevirtual 124, 3) := by decide +kernel
theorem d_Model_readElement_32 : decode c_Model_readElement 32 = .ok (.aload_n 0, 1) := by decide +kernel
theorem d_Model_readElement_33 : decode c_Model_readElement 33 = .ok (.getfield 89, 3) := by decide +kernel
theorem d_Model_readElement_36 : decode c_Model_readElement 36 = .ok (.ifCond .ge 194, 3) := by decide +kernel
theorem d_Model_readElement_39 : decode c_Model_readElement 39 = .ok (.aload_n 0, 1) := by decide +kernel
theorem d_Model_readElement_40 : decode c_Model_readElement 40 = .ok (.invokevirtual 92, 3) := by decide +kernel
theorem d_Model_readElement_43 : decode c_Model_readElement 43 = .ok (.istore_n 2, 1) := by decide +kernel
theorem d_Model_readElement_44 : decode c_Model_readElement 44 = .ok (.iload_n 2, 1) := by decide +kernel
theorem d_Model_readElement_45 : decode c_Model_readElement 45 = .ok (.iconst (-1), 1) := by decide +kernel
theorem d_Model_readElement_46 : decode c_Model_readElement 46 = .ok (.if_icmp .ne 10, 3) := by decide +kernel
theorem d_Model_readElement_49 : decode c_Model_readElement 49 = .ok (.aload_n 0, 1) := by decide +kernel
theorem d_Model_readElement_50 : decode c_Model_readElement 50 = .ok (.invokevirtual 103, 3) := by decide +kernel
theorem d_Model_readElement_53 : decode c_Model_readElement 53 = .ok (.goto 174, 3) := by decide +kernel
theorem d_Model_readElement_56 : decode c_Model_readElement 56 = .ok (.iload_n 2, 1) := by decide +kernel
theorem d_Model_readElement_57 : decode c_Model_readElement 57 = .ok (.aload_n 0, 1) := by decide +kernel
theorem d_Model_readElement_58 : decode c_Model_readElement 58 = .ok (.getfield 13, 3) := by decide +kernel
theorem d_Model_readElement_61 : decode c_Model_readElement 61 = .ok (.iconst 1, 1) := by decide +kernel
theorem d_Model_readElement_62 : decode c_Model_readElement 62 = .ok (.iaload, 1) := by decide +kernel
theorem d_Model_readElement_63 : decode c_Model_readElement 63 = .ok (.if_icmp .eq 13, 3) := by decide +kernel
theorem d_Model_readElement_66 : decode c_Model_readElement 66 = .ok (.iload_n 2, 1) := by decide +kernel
theorem d_Model_readElement_67 : decode c_Model_readElement 67 = .ok (.aload_n 0, 1) := by decide +kernel
theorem d_Model_readElement_68 : decode c_Model_readElement 68 = .ok (.getfield 13, 3) := by decide +kernel
theorem d_Model_readElement_71 : decode c_Model_readElement 71 = .ok (.iconst 4, 1) := by decide +kernel
theorem d_Model_readElement_72 : decode c_Model_readElement 72 = .ok (.iaload, 1) := by decide +kernel
theorem d_Model_readElement_73 : decode c_Model_readElement 73 = .ok (.if_icmp .ne 4, 3) := by decide +kernel
theorem d_Model_readElement_76 : decode c_Model_readElement 76 = .ok (.return_, 1) := by decide +kernel
theorem d_Model_readElement_77 : decode c_Model_readElement 77 = .ok (.iload_n 2, 1) := by decide +kernel
theorem d_Model_readElement_78 : decode c_Model_readElement 78 = .ok (.aload_n 0, 1) := by decide +kernel
theorem d_Model_readElement_79 : decode c_Model_readElement 79 = .ok (.getfield 13, 3) := by decide +kernel
theorem d_Model_readElement_82 : decode c_Model_readElement 82 = .ok (.iconst 3, 1) := by decide +kernel
theorem d_Model_readElement_83 : decode c_Model_readElement 83 = .ok (.iaload, 1) := by decide +kernel
theorem d_Model_readElement_84 : decode c_Model_readElement 84 = .ok (.if_icmp .ne 37, 3) := by decide +kernel
theorem d_Model_readElement_87 : decode c_Model_readElement 87 = .ok (.aload_n 0, 1) := by decide +kernel
theorem d_Model_readElement_88 : decode c_Model_readElement 88 = .ok (.getfield 115, 3) := by decide +kernel
theorem d_Model_readElement_91 : decode c_Model_readElement 91 = .ok (.iload_n 1, 1) := by decide +kernel
theorem d_Model_readElement_92 : decode c_Model_readElement 92 = .ok (.isub, 1) := by decide +kernel
theorem d_Model_readElement_93 : decode c_Model_readElement 93 = .ok (.iconst 4, 1) := by decide +kernel
theorem d_Model_readElement_94 : decode c_Model_readElement 94 = .ok (.if_icmp .ne 10, 3) := by decide +kernel
theorem d_Model_readElement_97 : decode c_Model_readElement 97 = .ok (.aload_n 0, 1) := by decide +kernel
theorem d_Model_readElement_98 : decode c_Model_readElement 98 = .ok (.invokevirtual 103, 3) := by decide +kernel
theorem d_Model_readElement_101 : decode c_Model_readElement 101 = .ok (.goto 126, 3) := by decide +kernel
theorem d_Model_readElement_104 : decode c_Model_readElement 104 = .ok (.aload_n 0, 1) := by decide +kernel
theorem d_Model_readElement_105 : decode c_Model_readElement 105 = .ok (.dup, 1) := by decide +kernel
theorem d_Model_readElement_106 : decode c_Model_readElement 106 = .ok (.getfield 86, 3) := by decide +kernel
theorem d_Model_readElement_109 : decode c_Model_readElement 109 = .ok (.iconst 1, 1) := by decide +kernel
theorem d_Model_readElement_110 : decode c_Model_readElement 110 = .ok (.iadd, 1) := by decide +kernel
theorem d_Model_readElement_111 : decode c_Model_readElement 111 = .ok (.putfield 86, 3) := by decide +kernel
theorem d_Model_readElement_114 : decode c_Model_readElement 114 = .ok (.aload_n 0, 1) := by decide +kernel
theorem d_Model_readElement_115 : decode c_Model_readElement 115 = .ok (.invokevirtual 124, 3) := by decide +kernel
theorem d_Model_readElement_118 : decode c_Model_readElement 118 = .ok (.goto 109, 3) := by decide +kernel
theorem d_Model_readElement_121 : decode c_Model_readElement 121 = .ok (.iload_n 2, 1) := by decide +kernel
theorem d_Model_readElement_122 : decode c_Model_readElement 122 = .ok (.aload_n 0, 1) := by decide +kernel
theorem d_Model_readElement_123 : decode c_Model_readElement 123 = .ok (.getfield 13, 3) := by decide +kernel
theorem d_Model_readElement_126 : decode c_Model_readElement 126 = .ok (.iconst 0, 1) := by decide +kernel
theorem d_Model_readElement_127 : decode c_Model_readElement 127 = .ok (.iaload, 1) := by decide +kernel
theorem d_Model_readElement_128 : decode c_Model_readElement 128 = .ok (.if_icmp .ne 48, 3) := by decide +kernel
theorem d_Model_readElement_131 : decode c_Model_readElement 131 = .ok (.aload_n 0, 1) := by decide +kernel
theorem d_Model_readElement_132 : decode c_Model_readElement 132 = .ok (.getfield 109, 3) := by decide +kernel
theorem d_Model_readElement_135 : decode c_Model_readElement 135 = .ok (.aload_n 0, 1) := by decide +kernel
theorem d_Model_readElement_136 : decode c_Model_readElement 136 = .ok (.getfield 25, 3) := by decide +kernel
theorem d_Model_readElement_139 : decode c_Model_readElement 139 = .ok (.aload_n 0, 1) := by decide +kernel
theorem d_Model_readElement_140 : decode c_Model_readElement 140 = .ok (.getfield 115, 3) := by decide +kernel
theorem d_Model_readElement_143 : decode c_Model_readElement 143 = .ok (.iconst 1, 1) := by decide +kernel
theorem d_Model_readElement_144 : decode c_Model_readElement 144 = .ok (.isub, 1) := by decide +kernel
theorem d_Model_readElement_145 : decode c_Model_readElement 145 = .ok (.iaload, 1) := by decide +kernel
theorem d_Model_readElement_146 : decode c_Model_readElement 146 = .ok (.isub, 1) := by decide +kernel
theorem d_Model_readElement_147 : decode c_Model_readElement 147 = .ok (.bipush 8, 2) := by decide +kernel
theorem d_Model_readElement_149 : decode c_Model_readElement 149 = .ok (.if_icmp .ne 10, 3) := by decide +kernel
theorem d_Model_readElement_152 : decode c_Model_readElement 152 = .ok (.aload_n 0, 1) := by decide +kernel
theorem d_Model_readElement_153 : decode c_Model_readElement 153 = .ok (.invokevirtual 103, 3) := by decide +kernel
theorem d_Model_readElement_156 : decode c_Model_readElement 156 = .ok (.goto 71, 3) := by decide +kernel
theorem d_Model_readElement_159 : decode c_Model_readElement 159 = .ok (.aload_n 0, 1) := by decide +kernel
theorem d_Model_readElement_160 : decode c_Model_readElement 160 = .ok (.dup, 1) := by decide +kernel
theorem d_Model_readElement_161 : decode c_Model_readElement 161 = .ok (.getfield 86, 3) := by decide +kernel
theorem d_Model_readElement_164 : decode c_Model_readElement 164 = .ok (.iconst 1, 1) := by decide +kernel
theorem d_Model_readElement_165 : decode c_Model_readElement 165 = .ok (.iadd, 1) := by decide +kernel
theorem d_Model_readElement_166 : decode c_Model_readElement 166 = .ok (.putfield 86, 3) := by decide +kernel
theorem d_Model_readElement_169 : decode c_Model_readElement 169 = .ok (.aload_n 0, 1) := by decide +kernel
theorem d_Model_readElement_170 : decode c_Model_readElement 170 = .ok (.invokevirtual 118, 3) := by decide +kernel
theorem d_Model_readElement_173 : decode c_Model_readElement 173 = .ok (.goto 54, 3) := by decide +kernel
theorem d_Model_readElement_176 : decode c_Model_readElement 176 = .ok (.iload_n 2, 1) := by decide +kernel
theorem d_Model_readElement_177 : decode c_Model_readElement 177 = .ok (.aload_n 0, 1) := by decide +kernel
theorem d_Model_readElement_178 : decode c_Model_readElement 178 = .ok (.getfield 13, 3) := by decide +kernel
theorem d_Model_readElement_181 : decode c_Model_readElement 181 = .ok (.iconst 2, 1) := by decide +kernel
theorem d_Model_readElement_182 : decode c_Model_readElement 182 = .ok (.iaload, 1) := by decide +kernel
theorem d_Model_readElement_183 : decode c_Model_readElement 183 = .ok (.if_icmp .ne 39, 3) := by decide +kernel
theorem d_Model_readElement_186 : decode c_Model_readElement 186 = .ok (.aload_n 0, 1) := by decide +kernel
theorem d_Model_readElement_187 : decode c_Model_readElement 187 = .ok (.dup, 1) := by decide +kernel
theorem d_Model_readElement_188 : decode c_Model_readElement 188 = .ok (.getfield 86, 3) := by decide +kernel
theorem d_Model_readElement_191 : decode c_Model_readElement 191 = .ok (.iconst 1, 1) := by decide +kernel
theorem d_Model_readElement_192 : decode c_Model_readElement 192 = .ok (.iadd, 1) := by decide +kernel
theorem d_Model_readElement_193 : decode c_Model_readElement 193 = .ok (.putfield 86, 3) := by decide +kernel
theorem d_Model_readElement_196 : decode c_Model_readElement 196 = .ok (.aload_n 0, 1) := by decide +kernel
theorem d_Model_readElement_197 : decode c_Model_readElement 197 = .ok (.invokevirtual 92, 3) := by decide +kernel
theorem d_Model_readElement_200 : decode c_Model_readElement 200 = .ok (.iconst (-1), 1) := by decide +kernel
theorem d_Model_readElement_201 : decode c_Model_readElement 201 = .ok (.if_icmp .ne 10, 3) := by decide +kernel
theorem d_Model_readElement_204 : decode c_Model_readElement 204 = .ok (.aload_n 0, 1) := by decide +kernel
theorem d_Model_readElement_205 : decode c_Model_readElement 205 = .ok (.invokevirtual 103, 3) := by decide +kernel
theorem d_Model_readElement_208 : decode c_Model_readElement 208 = .ok (.goto 19, 3) := by decide +kernel
theorem d_Model_readElement_211 : decode c_Model_readElement 211 = .ok (.aload_n 0, 1) := by decide +kernel
theorem d_Model_readElement_212 : decode c_Model_readElement 212 = .ok (.aload_n 0, 1) := by decide +kernel
theorem d_Model_readElement_213 : decode c_Model_readElement 213 = .ok (.invokevirtual 92, 3) := by decide +kernel
theorem d_Model_readElement_216 : decode c_Model_readElement 216 = .ok (.invokevirtual 127, 3) := by decide +kernel
theorem d_Model_readElement_219 : decode c_Model_readElement 219 = .ok (.goto 8, 3) := by decide +kernel
theorem d_Model_readElement_222 : decode c_Model_readElement 222 = .ok (.aload_n 0, 1) := by decide +kernel
theorem d_Model_readElement_223 : decode c_Model_readElement 223 = .ok (.iload_n 2, 1) := by decide +kernel
theorem d_Model_readElement_224 : decode c_Model_readElement 224 = .ok (.invokevirtual 127, 3) := by decide +kernel
theorem d_Model_readElement_227 : decode c_Model_readElement 227 = .ok (.goto (-195), 3) := by decide +kernel
theorem d_Model_readElement_230 : decode c_Model_readElement 230 = .ok (.return_, 1) := by decide +kernel
theorem d_Model_readSegment_0 : decode c_Model_readSegment 0 = .ok (.aload_n 0, 1) := by decide +kernel
theorem d_Model_readSegment_1 : decode c_Model_readSegment 1 = .ok (.getfield 106, 3) := by decide +kernel
theorem d_Model_readSegment_4 : decode c_Model_readSegment 4 = .ok (.bipush 60, 2) := by decide +kernel
theorem d_Model_readSegment_6 : decode c_Model_readSegment 6 = .ok (.if_icmp .ne 8, 3) := by decide +kernel
theorem d_Model_readSegment_9 : decode c_Model_readSegment 9 = .ok (.aload_n 0, 1) := by decide +kernel
theorem d_Model_readSegment_10 : decode c_Model_readSegment 10 = .ok (.invokevirtual 103, 3) := by decide +kernel
theorem d_Model_readSegment_13 : decode c_Model_readSegment 13 = .ok (.return_, 1) := by decide +kernel
theorem d_Model_readSegment_14 : decode c_Model_readSegment 14 = .ok (.aload_n 0, 1) := by decide +kernel
theorem d_Model_readSegment_15 : decode c_Model_readSegment 15 = .ok (.invokevirtual 131, 3) := by decide +kernel
theorem d_Model_readSegment_18 : decode c_Model_readSegment 18 = .ok (.aload_n 0, 1) := by decide +kernel
theorem d_Model_readSegment_19 : decode c_Model_readSegment 19 = .ok (.getfield 19, 3) := by decide +kernel
theorem d_Model_readSegment_22 : decode c_Model_readSegment 22 = .ok (.aload_n 0, 1) := by decide +kernel
theorem d_Model_readSegment_23 : decode c_Model_readSegment 23 = .ok (.getfield 106, 3) := by decide +kernel
theorem d_Model_readSegment_26 : decode c_Model_readSegment 26 = .ok (.aload_n 0, 1) := by decide +kernel
theorem d_Model_readSegment_27 : decode c_Model_readSegment 27 = .ok (.getfield 121, 3) := by decide +kernel
theorem d_Model_readSegment_30 : decode c_Model_readSegment 30 = .ok (.iastore, 1) := by decide +kernel
theorem d_Model_readSegment_31 : decode c_Model_readSegment 31 = .ok (.aload_n 0, 1) := by decide +kernel
