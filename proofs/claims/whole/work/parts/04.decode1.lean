theorem d_Message_appendLetter_14 : decode c_Message_appendLetter 14 = .ok (.getfield 30, 3) := by decide +kernel
theorem d_Message_appendLetter_17 : decode c_Message_appendLetter 17 = .ok (.invokevirtual 59, 3) := by decide +kernel
theorem d_Message_appendLetter_20 : decode c_Message_appendLetter 20 = .ok (.iconst 1, 1) := by decide +kernel
theorem d_Message_appendLetter_21 : decode c_Message_appendLetter 21 = .ok (.ireturn, 1) := by decide +kernel
theorem d_Message_tagOf_0 : decode c_Message_tagOf 0 = .ok (.iload_n 1, 1) := by decide +kernel
theorem d_Message_tagOf_1 : decode c_Message_tagOf 1 = .ok (.ifCond .lt 32, 3) := by decide +kernel
theorem d_Message_tagOf_4 : decode c_Message_tagOf 4 = .ok (.iload_n 1, 1) := by decide +kernel
theorem d_Message_tagOf_5 : decode c_Message_tagOf 5 = .ok (.aload_n 0, 1) := by decide +kernel
theorem d_Message_tagOf_6 : decode c_Message_tagOf 6 = .ok (.getfield 20, 3) := by decide +kernel
theorem d_Message_tagOf_9 : decode c_Message_tagOf 9 = .ok (.invokevirtual 44, 3) := by decide +kernel
theorem d_Message_tagOf_12 : decode c_Message_tagOf 12 = .ok (.if_icmp .ge 21, 3) := by decide +kernel
theorem d_Message_tagOf_15 : decode c_Message_tagOf 15 = .ok (.iload_n 1, 1) := by decide +kernel
theorem d_Message_tagOf_16 : decode c_Message_tagOf 16 = .ok (.aload_n 0, 1) := by decide +kernel
theorem d_Message_tagOf_17 : decode c_Message_tagOf 17 = .ok (.getfield 9, 3) := by decide +kernel
theorem d_Message_tagOf_20 : decode c_Message_tagOf 20 = .ok (.arraylength, 1) := by decide +kernel
theorem d_Message_tagOf_21 : decode c_Message_tagOf 21 = .ok (.if_icmp .ge 12, 3) := by decide +kernel
theorem d_Message_tagOf_24 : decode c_Message_tagOf 24 = .ok (.aload_n 0, 1) := by decide +kernel
theorem d_Message_tagOf_25 : decode c_Message_tagOf 25 = .ok (.getfield 9, 3) := by decide +kernel
theorem d_Message_tagOf_28 : decode c_Message_tagOf 28 = .ok (.iload_n 1, 1) := by decide +kernel
theorem d_Message_tagOf_29 : decode c_Message_tagOf 29 = .ok (.iaload, 1) := by decide +kernel
theorem d_Message_tagOf_30 : decode c_Message_tagOf 30 = .ok (.goto 4, 3) := by decide +kernel
theorem d_Message_tagOf_33 : decode c_Message_tagOf 33 = .ok (.iconst (-1), 1) := by decide +kernel
theorem d_Message_tagOf_34 : decode c_Message_tagOf 34 = .ok (.ireturn, 1) := by decide +kernel
theorem d_Message_elementsOf_0 : decode c_Message_elementsOf 0 = .ok (.aload_n 0, 1) := by decide +kernel
theorem d_Message_elementsOf_1 : decode c_Message_elementsOf 1 = .ok (.getfield 20, 3) := by decide +kernel
theorem d_Message_elementsOf_4 : decode c_Message_elementsOf 4 = .ok (.iload_n 1, 1) := by decide +kernel
theorem d_Message_elementsOf_5 : decode c_Message_elementsOf 5 = .ok (.invokevirtual 66, 3) := by decide +kernel
theorem d_Message_elementsOf_8 : decode c_Message_elementsOf 8 = .ok (.ireturn, 1) := by decide +kernel
theorem d_Message_elementAt_0 : decode c_Message_elementAt 0 = .ok (.aload_n 0, 1) := by decide +kernel
theorem d_Message_elementAt_1 : decode c_Message_elementAt 1 = .ok (.getfield 20, 3) := by decide +kernel
theorem d_Message_elementAt_4 : decode c_Message_elementAt 4 = .ok (.iload_n 1, 1) := by decide +kernel
theorem d_Message_elementAt_5 : decode c_Message_elementAt 5 = .ok (.iload_n 2, 1) := by decide +kernel
theorem d_Message_elementAt_6 : decode c_Message_elementAt 6 = .ok (.invokevirtual 70, 3) := by decide +kernel
theorem d_Message_elementAt_9 : decode c_Message_elementAt 9 = .ok (.ireturn, 1) := by decide +kernel
theorem d_Message_repeatsOf_0 : decode c_Message_repeatsOf 0 = .ok (.aload_n 0, 1) := by decide +kernel
theorem d_Message_repeatsOf_1 : decode c_Message_repeatsOf 1 = .ok (.getfield 24, 3) := by decide +kernel
theorem d_Message_repeatsOf_4 : decode c_Message_repeatsOf 4 = .ok (.iload_n 1, 1) := by decide +kernel
theorem d_Message_repeatsOf_5 : decode c_Message_repeatsOf 5 = .ok (.invokevirtual 66, 3) := by decide +kernel
theorem d_Message_repeatsOf_8 : decode c_Message_repeatsOf 8 = .ok (.ireturn, 1) := by decide +kernel
theorem d_Message_repeatAt_0 : decode c_Message_repeatAt 0 = .ok (.aload_n 0, 1) := by decide +kernel
theorem d_Message_repeatAt_1 : decode c_Message_repeatAt 1 = .ok (.getfield 24, 3) := by decide +kernel
theorem d_Message_repeatAt_4 : decode c_Message_repeatAt 4 = .ok (.iload_n 1, 1) := by decide +kernel
theorem d_Message_repeatAt_5 : decode c_Message_repeatAt 5 = .ok (.iload_n 2, 1) := by decide +kernel
theorem d_Message_repeatAt_6 : decode c_Message_repeatAt 6 = .ok (.invokevirtual 70, 3) := by decide +kernel
theorem d_Message_repeatAt_9 : decode c_Message_repeatAt 9 = .ok (.ireturn, 1) := by decide +kernel
theorem d_Message_componentsOf_0 : decode c_Message_componentsOf 0 = .ok (.aload_n 0, 1) := by decide +kernel
theorem d_Message_componentsOf_1 : decode c_Message_componentsOf 1 = .ok (.getfield 27, 3) := by decide +kernel
theorem d_Message_componentsOf_4 : decode c_Message_componentsOf 4 = .ok (.iload_n 1, 1) := by decide +kernel
theorem d_Message_componentsOf_5 : decode c_Message_componentsOf 5 = .ok (.invokevirtual 66, 3) := by decide +kernel
theorem d_Message_componentsOf_8 : decode c_Message_componentsOf 8 = .ok (.ireturn, 1) := by decide +kernel
theorem d_Message_componentAt_0 : decode c_Message_componentAt 0 = .ok (.aload_n 0, 1) := by decide +kernel
theorem d_Message_componentAt_1 : decode c_Message_componentAt 1 = .ok (.getfield 27, 3) := by decide +kernel
theorem d_Message_componentAt_4 : decode c_Message_componentAt 4 = .ok (.iload_n 1, 1) := by decide +kernel
theorem d_Message_componentAt_5 : decode c_Message_componentAt 5 = .ok (.iload_n 2, 1) := by decide +kernel
theorem d_Message_componentAt_6 : decode c_Message_componentAt 6 = .ok (.invokevirtual 70, 3) := by decide +kernel
theorem d_Message_componentAt_9 : decode c_Message_componentAt 9 = .ok (.ireturn, 1) := by decide +kernel
theorem d_Message_lettersOf_0 : decode c_Message_lettersOf 0 = .ok (.aload_n 0, 1) := by decide +kernel
theorem d_Message_lettersOf_1 : decode c_Message_lettersOf 1 = .ok (.getfield 30, 3) := by decide +kernel
theorem d_Message_lettersOf_4 : decode c_Message_lettersOf 4 = .ok (.iload_n 1, 1) := by decide +kernel
theorem d_Message_lettersOf_5 : decode c_Message_lettersOf 5 = .ok (.invokevirtual 66, 3) := by decide +kernel
theorem d_Message_lettersOf_8 : decode c_Message_lettersOf 8 = .ok (.ireturn, 1) := by decide +kernel
theorem d_Message_letterAt_0 : decode c_Message_letterAt 0 = .ok (.aload_n 0, 1) := by decide +kernel
theorem d_Message_letterAt_1 : decode c_Message_letterAt 1 = .ok (.getfield 30, 3) := by decide +kernel
theorem d_Message_letterAt_4 : decode c_Message_letterAt 4 = .ok (.iload_n 1, 1) := by decide +kernel
theorem d_Message_letterAt_5 : decode c_Message_letterAt 5 = .ok (.iload_n 2, 1) := by decide +kernel
theorem d_Message_letterAt_6 : decode c_Message_letterAt 6 = .ok (.invokevirtual 70, 3) := by decide +kernel
theorem d_Message_letterAt_9 : decode c_Message_letterAt 9 = .ok (.istore_n 3, 1) := by decide +kernel
theorem d_Message_letterAt_10 : decode c_Message_letterAt 10 = .ok (.iload_n 3, 1) := by decide +kernel
theorem d_Message_letterAt_11 : decode c_Message_letterAt 11 = .ok (.iconst (-1), 1) := by decide +kernel
theorem d_Message_letterAt_12 : decode c_Message_letterAt 12 = .ok (.if_icmp .ne 7, 3) := by decide +kernel
theorem d_Message_letterAt_15 : decode c_Message_letterAt 15 = .ok (.iconst (-1), 1) := by decide +kernel
theorem d_Message_letterAt_16 : decode c_Message_letterAt 16 = .ok (.goto 11, 3) := by decide +kernel
theorem d_Message_letterAt_19 : decode c_Message_letterAt 19 = .ok (.aload_n 0, 1) := by decide +kernel
theorem d_Message_letterAt_20 : decode c_Message_letterAt 20 = .ok (.getfield 36, 3) := by decide +kernel
theorem d_Message_letterAt_23 : decode c_Message_letterAt 23 = .ok (.iload_n 3, 1) := by decide +kernel
theorem d_Message_letterAt_24 : decode c_Message_letterAt 24 = .ok (.invokevirtual 74, 3) := by decide +kernel
theorem d_Message_letterAt_27 : decode c_Message_letterAt 27 = .ok (.ireturn, 1) := by decide +kernel
theorem d_Message_findComponent_0 : decode c_Message_findComponent 0 = .ok (.aload_n 0, 1) := by decide +kernel
theorem d_Message_findComponent_1 : decode c_Message_findComponent 1 = .ok (.aload_n 0, 1) := by decide +kernel
theorem d_Message_findComponent_2 : decode c_Message_findComponent 2 = .ok (.aload_n 0, 1) := by decide +kernel
theorem d_Message_findComponent_3 : decode c_Message_findComponent 3 = .ok (.iload_n 1, 1) := by decide +kernel
theorem d_Message_findComponent_4 : decode c_Message_findComponent 4 = .ok (.iload_n 2, 1) := by decide +kernel
theorem d_Message_findComponent_5 : decode c_Message_findComponent 5 = .ok (.invokevirtual 77, 3) := by decide +kernel
theorem d_Message_findComponent_8 : decode c_Message_findComponent 8 = .ok (.iload_n 3, 1) := by decide +kernel
theorem d_Message_findComponent_9 : decode c_Message_findComponent 9 = .ok (.invokevirtual 80, 3) := by decide +kernel
theorem d_Message_findComponent_12 : decode c_Message_findComponent 12 = .ok (.iload 4, 2) := by decide +kernel
theorem d_Message_findComponent_14 : decode c_Message_findComponent 14 = .ok (.invokevirtual 83, 3) := by decide +kernel
theorem d_Message_findComponent_17 : decode c_Message_findComponent 17 = .ok (.ireturn, 1) := by decide +kernel
theorem d_Message_areSame_0 : decode c_Message_areSame 0 = .ok (.aload_n 0, 1) := by decide +kernel
theorem d_Message_areSame_1 : decode c_Message_areSame 1 = .ok (.iload_n 1, 1) := by decide +kernel
theorem d_Message_areSame_2 : decode c_Message_areSame 2 = .ok (.invokevirtual 86, 3) := by decide +kernel
theorem d_Message_areSame_5 : decode c_Message_areSame 5 = .ok (.istore_n 3, 1) := by decide +kernel
theorem d_Message_areSame_6 : decode c_Message_areSame 6 = .ok (.iload_n 1, 1) := by decide +kernel
theorem d_Message_areSame_7 : decode c_Message_areSame 7 = .ok (.iconst (-1), 1) := by decide +kernel
theorem d_Message_areSame_8 : decode c_Message_areSame 8 = .ok (.if_icmp .eq 17, 3) := by decide +kernel
theorem d_Message_areSame_11 : decode c_Message_areSame 11 = .ok (.iload_n 2, 1) := by decide +kernel
theorem d_Message_areSame_12 : decode c_Message_areSame 12 = .ok (.iconst (-1), 1) := by decide +kernel
theorem d_Message_areSame_13 : decode c_Message_areSame 13 = .ok (.if_icmp .eq 12, 3) := by decide +kernel
theorem d_Message_areSame_16 : decode c_Message_areSame 16 = .ok (.iload_n 3, 1) := by decide +kernel
theorem d_Message_areSame_17 : decode c_Message_areSame 17 = .ok (.aload_n 0, 1) := by decide +kernel
theorem d_Message_areSame_18 : decode c_Message_areSame 18 = .ok (.iload_n 2, 1) := by decide +kernel
theorem d_Message_areSame_19 : decode c_Message_areSame 19 = .ok (.invokevirtual 86, 3) := by decide +kernel
theorem d_Message_areSame_22 : decode c_Message_areSame 22 = .ok (.if_icmp .eq 5, 3) := by decide +kernel
theorem d_Message_areSame_25 : decode c_Message_areSame 25 = .ok (.iconst 0, 1) := by decide +kernel
theorem d_Message_areSame_26 : decode c_Message_areSame 26 = .ok (.ireturn, 1) := by decide +kernel
theorem d_Message_areSame_27 : decode c_Message_areSame 27 = .ok (.iconst 0, 1) := by decide +kernel
theorem d_Message_areSame_28 : decode c_Message_areSame 28 = .ok (.istore 4, 2) := by decide +kernel
theorem d_Message_areSame_30 : decode c_Message_areSame 30 = .ok (.iload 4, 2) := by decide +kernel
theorem d_Message_areSame_32 : decode c_Message_areSame 32 = .ok (.iload_n 3, 1) := by decide +kernel
theorem d_Message_areSame_33 : decode c_Message_areSame 33 = .ok (.if_icmp .ge 28, 3) := by decide +kernel
theorem d_Message_areSame_36 : decode c_Message_areSame 36 = .ok (.aload_n 0, 1) := by decide +kernel
theorem d_Message_areSame_37 : decode c_Message_areSame 37 = .ok (.iload_n 1, 1) := by decide +kernel
theorem d_Message_areSame_38 : decode c_Message_areSame 38 = .ok (.iload 4, 2) := by decide +kernel
theorem d_Message_areSame_40 : decode c_Message_areSame 40 = .ok (.invokevirtual 89, 3) := by decide +kernel
theorem d_Message_areSame_43 : decode c_Message_areSame 43 = .ok (.aload_n 0, 1) := by decide +kernel
theorem d_Message_areSame_44 : decode c_Message_areSame 44 = .ok (.iload_n 2, 1) := by decide +kernel
theorem d_Message_areSame_45 : decode c_Message_areSame 45 = .ok (.iload 4, 2) := by decide +kernel
theorem d_Message_areSame_47 : decode c_Message_areSame 47 = .ok (.invokevirtual 89, 3) := by decide +kernel
theorem d_Message_areSame_50 : decode c_Message_areSame 50 = .ok (.if_icmp .eq 5, 3) := by decide +kernel
theorem d_Message_areSame_53 : decode c_Message_areSame 53 = .ok (.iconst 0, 1) := by decide +kernel
theorem d_Message_areSame_54 : decode c_Message_areSame 54 = .ok (.ireturn, 1) := by decide +kernel
theorem d_Message_areSame_55 : decode c_Message_areSame 55 = .ok (.iinc 4 1, 3) := by decide +kernel
theorem d_Message_areSame_58 : decode c_Message_areSame 58 = .ok (.goto (-28), 3) := by decide +kernel
theorem d_Message_areSame_61 : decode c_Message_areSame 61 = .ok (.iconst 1, 1) := by decide +kernel
theorem d_Message_areSame_62 : decode c_Message_areSame 62 = .ok (.ireturn, 1) := by decide +kernel
theorem d_Message_spells_0 : decode c_Message_spells 0 = .ok (.iload_n 2, 1) := by decide +kernel
theorem d_Message_spells_1 : decode c_Message_spells 1 = .ok (.istore_n 3, 1) := by decide +kernel
theorem d_Message_spells_2 : decode c_Message_spells 2 = .ok (.aload_n 0, 1) := by decide +kernel
theorem d_Message_spells_3 : decode c_Message_spells 3 = .ok (.iload_n 1, 1) := by decide +kernel
theorem d_Message_spells_4 : decode c_Message_spells 4 = .ok (.invokevirtual 86, 3) := by decide +kernel
theorem d_Message_spells_7 : decode c_Message_spells 7 = .ok (.iconst 1, 1) := by decide +kernel
theorem d_Message_spells_8 : decode c_Message_spells 8 = .ok (.isub, 1) := by decide +kernel
theorem d_Message_spells_9 : decode c_Message_spells 9 = .ok (.istore 4, 2) := by decide +kernel
theorem d_Message_spells_11 : decode c_Message_spells 11 = .ok (.iload 4, 2) := by decide +kernel
theorem d_Message_spells_13 : decode c_Message_spells 13 = .ok (.ifCond .lt 37, 3) := by decide +kernel
theorem d_Message_spells_16 : decode c_Message_spells 16 = .ok (.iload_n 3, 1) := by decide +kernel
theorem d_Message_spells_17 : decode c_Message_spells 17 = .ok (.ifCond .eq 20, 3) := by decide +kernel
theorem d_Message_spells_20 : decode c_Message_spells 20 = .ok (.aload_n 0, 1) := by decide +kernel
theorem d_Message_spells_21 : decode c_Message_spells 21 = .ok (.iload_n 1, 1) := by decide +kernel
theorem d_Message_spells_22 : decode c_Message_spells 22 = .ok (.iload 4, 2) := by decide +kernel
theorem d_Message_spells_24 : decode c_Message_spells 24 = .ok (.invokevirtual 89, 3) := by decide +kernel
theorem d_Message_spells_27 : decode c_Message_spells 27 = .ok (.bipush 48, 2) := by decide +kernel
theorem d_Message_spells_29 : decode c_Message_spells 29 = .ok (.iload_n 3, 1) := by decide +kernel
theorem d_Message_spells_30 : decode c_Message_spells 30 = .ok (.bipush 10, 2) := by decide +kernel
theorem d_Message_spells_32 : decode c_Message_spells 32 = .ok (.irem, 1) := by decide +kernel
theorem d_Message_spells_33 : decode c_Message_spells 33 = .ok (.iadd, 1) := by decide +kernel
theorem d_Message_spells_34 : decode c_Message_spells 34 = .ok (.if_icmp .eq 5, 3) := by decide +kernel
theorem d_Message_spells_37 : decode c_Message_spells 37 = .ok (.iconst 0, 1) := by decide +kernel
theorem d_Message_spells_38 : decode c_Message_spells 38 = .ok (.ireturn, 1) := by decide +kernel
theorem d_Message_spells_39 : decode c_Message_spells 39 = .ok (.iload_n 3, 1) := by decide +kernel
theorem d_Message_spells_40 : decode c_Message_spells 40 = .ok (.bipush 10, 2) := by decide +kernel
theorem d_Message_spells_42 : decode c_Message_spells 42 = .ok (.idiv, 1) := by decide +kernel
theorem d_Message_spells_43 : decode c_Message_spells 43 = .ok (.istore_n 3, 1) := by decide +kernel
theorem d_Message_spells_44 : decode c_Message_spells 44 = .ok (.iinc 4 (-1), 3) := by decide +kernel
theorem d_Message_spells_47 : decode c_Message_spells 47 = .ok (.goto (-36), 3) := by decide +kernel
theorem d_Message_spells_50 : decode c_Message_spells 50 = .ok (.iload_n 3, 1) := by decide +kernel
theorem d_Message_spells_51 : decode c_Message_spells 51 = .ok (.ifCond .ne 7, 3) := by decide +kernel
theorem d_Message_spells_54 : decode c_Message_spells 54 = .ok (.iconst 1, 1) := by decide +kernel
theorem d_Message_spells_55 : decode c_Message_spells 55 = .ok (.goto 4, 3) := by decide +kernel
theorem d_Message_spells_58 : decode c_Message_spells 58 = .ok (.iconst 0, 1) := by decide +kernel
theorem d_Message_spells_59 : decode c_Message_spells 59 = .ok (.ireturn, 1) := by decide +kernel
theorem d_Reader_init_0 : decode c_Reader_init 0 = .ok (.aload_n 0, 1) := by decide +kernel
theorem d_Reader_init_1 : decode c_Reader_init 1 = .ok (.invokespecial 3, 3) := by decide +kernel
theorem d_Reader_init_4 : decode c_Reader_init 4 = .ok (.aload_n 0, 1) := by decide +kernel
theorem d_Reader_init_5 : decode c_Reader_init 5 = .ok (.aload_n 1, 1) := by decide +kernel
theorem d_Reader_init_6 : decode c_Reader_init 6 = .ok (.putfield 9, 3) := by decide +kernel
theorem d_Reader_init_9 : decode c_Reader_init 9 = .ok (.aload_n 0, 1) := by decide +kernel
theorem d_Reader_init_10 : decode c_Reader_init 10 = .ok (.aload_n 2, 1) := by decide +kernel
theorem d_Reader_init_11 : decode c_Reader_init 11 = .ok (.putfield 15, 3) := by decide +kernel
theorem d_Reader_init_14 : decode c_Reader_init 14 = .ok (.aload_n 0, 1) := by decide +kernel
theorem d_Reader_init_15 : decode c_Reader_init 15 = .ok (.iconst 0, 1) := by decide +kernel
theorem d_Reader_init_16 : decode c_Reader_init 16 = .ok (.putfield 19, 3) := by decide +kernel
theorem d_Reader_init_19 : decode c_Reader_init 19 = .ok (.aload_n 0, 1) := by decide +kernel
theorem d_Reader_init_20 : decode c_Reader_init 20 = .ok (.iconst 0, 1) := by decide +kernel
theorem d_Reader_init_21 : decode c_Reader_init 21 = .ok (.putfield 23, 3) := by decide +kernel
theorem d_Reader_init_24 : decode c_Reader_init 24 = .ok (.return_, 1) := by decide +kernel
theorem d_Reader_firstWrongPlace_0 : decode c_Reader_firstWrongPlace 0 = .ok (.iconst 0, 1) := by decide +kernel
theorem d_Reader_firstWrongPlace_1 : decode c_Reader_firstWrongPlace 1 = .ok (.istore_n 2, 1) := by decide +kernel
theorem d_Reader_firstWrongPlace_2 : decode c_Reader_firstWrongPlace 2 = .ok (.aload_n 1, 1) := by decide +kernel
theorem d_Reader_firstWrongPlace_3 : decode c_Reader_firstWrongPlace 3 = .ok (.invokestatic 26, 3) := by decide +kernel
theorem d_Reader_firstWrongPlace_6 : decode c_Reader_firstWrongPlace 6 = .ok (.ifCond .eq 19, 3) := by decide +kernel
theorem d_Reader_firstWrongPlace_9 : decode c_Reader_firstWrongPlace 9 = .ok (.aload_n 0, 1) := by decide +kernel
theorem d_Reader_firstWrongPlace_10 : decode c_Reader_firstWrongPlace 10 = .ok (.aload_n 1, 1) := by decide +kernel
theorem d_Reader_firstWrongPlace_11 : decode c_Reader_firstWrongPlace 11 = .ok (.invokevirtual 30, 3) := by decide +kernel
theorem d_Reader_firstWrongPlace_14 : decode c_Reader_firstWrongPlace 14 = .ok (.istore_n 3, 1) := by decide +kernel
theorem d_Reader_firstWrongPlace_15 : decode c_Reader_firstWrongPlace 15 = .ok (.iload_n 3, 1) := by decide +kernel
theorem d_Reader_firstWrongPlace_16 : decode c_Reader_firstWrongPlace 16 = .ok (.iconst (-1), 1) := by decide +kernel
theorem d_Reader_firstWrongPlace_17 : decode c_Reader_firstWrongPlace 17 = .ok (.if_icmp .eq 5, 3) := by decide +kernel
theorem d_Reader_firstWrongPlace_20 : decode c_Reader_firstWrongPlace 20 = .ok (.iload_n 3, 1) := by decide +kernel
theorem d_Reader_firstWrongPlace_21 : decode c_Reader_firstWrongPlace 21 = .ok (.ireturn, 1) := by decide +kernel
theorem d_Reader_firstWrongPlace_22 : decode c_Reader_firstWrongPlace 22 = .ok (.bipush 8, 2) := by decide +kernel
theorem d_Reader_firstWrongPlace_24 : decode c_Reader_firstWrongPlace 24 = .ok (.istore_n 2, 1) := by decide +kernel
theorem d_Reader_firstWrongPlace_25 : decode c_Reader_firstWrongPlace 25 = .ok (.aload_n 0, 1) := by decide +kernel
theorem d_Reader_firstWrongPlace_26 : decode c_Reader_firstWrongPlace 26 = .ok (.iconst 0, 1) := by decide +kernel
theorem d_Reader_firstWrongPlace_27 : decode c_Reader_firstWrongPlace 27 = .ok (.putfield 19, 3) := by decide +kernel
theorem d_Reader_firstWrongPlace_30 : decode c_Reader_firstWrongPlace 30 = .ok (.iload_n 2, 1) := by decide +kernel
theorem d_Reader_firstWrongPlace_31 : decode c_Reader_firstWrongPlace 31 = .ok (.istore_n 3, 1) := by decide +kernel
theorem d_Reader_firstWrongPlace_32 : decode c_Reader_firstWrongPlace 32 = .ok (.iload_n 3, 1) := by decide +kernel
theorem d_Reader_firstWrongPlace_33 : decode c_Reader_firstWrongPlace 33 = .ok (.aload_n 1, 1) := by decide +kernel
theorem d_Reader_firstWrongPlace_34 : decode c_Reader_firstWrongPlace 34 = .ok (.invokevirtual 36, 3) := by decide +kernel
theorem d_Reader_firstWrongPlace_37 : decode c_Reader_firstWrongPlace 37 = .ok (.if_icmp .ge 23, 3) := by decide +kernel
theorem d_Reader_firstWrongPlace_40 : decode c_Reader_firstWrongPlace 40 = .ok (.aload_n 0, 1) := by decide +kernel
theorem d_Reader_firstWrongPlace_41 : decode c_Reader_firstWrongPlace 41 = .ok (.aload_n 1, 1) := by decide +kernel
theorem d_Reader_firstWrongPlace_42 : decode c_Reader_firstWrongPlace 42 = .ok (.iload_n 3, 1) := by decide +kernel
theorem d_Reader_firstWrongPlace_43 : decode c_Reader_firstWrongPlace 43 = .ok (.invokevirtual 42, 3) := by decide +kernel
theorem d_Reader_firstWrongPlace_46 : decode c_Reader_firstWrongPlace 46 = .ok (.invokevirtual 46, 3) := by decide +kernel
theorem d_Reader_firstWrongPlace_49 : decode c_Reader_firstWrongPlace 49 = .ok (.ifCond .ne 5, 3) := by decide +kernel
theorem d_Reader_firstWrongPlace_52 : decode c_Reader_firstWrongPlace 52 = .ok (.iload_n 3, 1) := by decide +kernel
theorem d_Reader_firstWrongPlace_53 : decode c_Reader_firstWrongPlace 53 = .ok (.ireturn, 1) := by decide +kernel
theorem d_Reader_firstWrongPlace_54 : decode c_Reader_firstWrongPlace 54 = .ok (.iinc 3 1, 3) := by decide +kernel
theorem d_Reader_firstWrongPlace_57 : decode c_Reader_firstWrongPlace 57 = .ok (.goto (-25), 3) := by decide +kernel
theorem d_Reader_firstWrongPlace_60 : decode c_Reader_firstWrongPlace 60 = .ok (.aload_n 0, 1) := by decide +kernel
theorem d_Reader_firstWrongPlace_61 : decode c_Reader_firstWrongPlace 61 = .ok (.getfield 19, 3) := by decide +kernel
theorem d_Reader_firstWrongPlace_64 : decode c_Reader_firstWrongPlace 64 = .ok (.ifCond .ne 17, 3) := by decide +kernel
theorem d_Reader_firstWrongPlace_67 : decode c_Reader_firstWrongPlace 67 = .ok (.aload_n 0, 1) := by decide +kernel
theorem d_Reader_firstWrongPlace_68 : decode c_Reader_firstWrongPlace 68 = .ok (.getfield 9, 3) := by decide +kernel
theorem d_Reader_firstWrongPlace_71 : decode c_Reader_firstWrongPlace 71 = .ok (.invokevirtual 50, 3) := by decide +kernel
theorem d_Reader_firstWrongPlace_74 : decode c_Reader_firstWrongPlace 74 = .ok (.ifCond .eq 7, 3) := by decide +kernel
theorem d_Reader_firstWrongPlace_77 : decode c_Reader_firstWrongPlace 77 = .ok (.iconst 1, 1) := by decide +kernel
theorem d_Reader_firstWrongPlace_78 : decode c_Reader_firstWrongPlace 78 = .ok (.goto 4, 3) := by decide +kernel
theorem d_Reader_firstWrongPlace_81 : decode c_Reader_firstWrongPlace 81 = .ok (.iconst 0, 1) := by decide +kernel
theorem d_Reader_firstWrongPlace_82 : decode c_Reader_firstWrongPlace 82 = .ok (.istore_n 3, 1) := by decide +kernel
theorem d_Reader_firstWrongPlace_83 : decode c_Reader_firstWrongPlace 83 = .ok (.iload_n 3, 1) := by decide +kernel
theorem d_Reader_firstWrongPlace_84 : decode c_Reader_firstWrongPlace 84 = .ok (.ifCond .eq 7, 3) := by decide +kernel
theorem d_Reader_firstWrongPlace_87 : decode c_Reader_firstWrongPlace 87 = .ok (.iconst (-1), 1) := by decide +kernel
theorem d_Reader_firstWrongPlace_88 : decode c_Reader_firstWrongPlace 88 = .ok (.goto 7, 3) := by decide +kernel
theorem d_Reader_firstWrongPlace_91 : decode c_Reader_firstWrongPlace 91 = .ok (.aload_n 1, 1) := by decide +kernel
theorem d_Reader_firstWrongPlace_92 : decode c_Reader_firstWrongPlace 92 = .ok (.invokevirtual 36, 3) := by decide +kernel
theorem d_Reader_firstWrongPlace_95 : decode c_Reader_firstWrongPlace 95 = .ok (.ireturn, 1) := by decide +kernel
theorem d_Reader_beginsWithUna_0 : decode c_Reader_beginsWithUna 0 = .ok (.aload_n 0, 1) := by decide +kernel
theorem d_Reader_beginsWithUna_1 : decode c_Reader_beginsWithUna 1 = .ok (.iconst 0, 1) := by decide +kernel
theorem d_Reader_beginsWithUna_2 : decode c_Reader_beginsWithUna 2 = .ok (.invokevirtual 42, 3) := by decide +kernel
theorem d_Reader_beginsWithUna_5 : decode c_Reader_beginsWithUna 5 = .ok (.bipush 85, 2) := by decide +kernel
theorem d_Reader_beginsWithUna_7 : decode c_Reader_beginsWithUna 7 = .ok (.if_icmp .ne 27, 3) := by decide +kernel
theorem d_Reader_beginsWithUna_10 : decode c_Reader_beginsWithUna 10 = .ok (.aload_n 0, 1) := by decide +kernel
theorem d_Reader_beginsWithUna_11 : decode c_Reader_beginsWithUna 11 = .ok (.iconst 1, 1) := by decide +kernel
theorem d_Reader_beginsWithUna_12 : decode c_Reader_beginsWithUna 12 = .ok (.invokevirtual 42, 3) := by decide +kernel
theorem d_Reader_beginsWithUna_15 : decode c_Reader_beginsWithUna 15 = .ok (.bipush 78, 2) := by decide +kernel
theorem d_Reader_beginsWithUna_17 : decode c_Reader_beginsWithUna 17 = .ok (.if_icmp .ne 17, 3) := by decide +kernel
theorem d_Reader_beginsWithUna_20 : decode c_Reader_beginsWithUna 20 = .ok (.aload_n 0, 1) := by decide +kernel
theorem d_Reader_beginsWithUna_21 : decode c_Reader_beginsWithUna 21 = .ok (.iconst 2, 1) := by decide +kernel
theorem d_Reader_beginsWithUna_22 : decode c_Reader_beginsWithUna 22 = .ok (.invokevirtual 42, 3) := by decide +kernel
theorem d_Reader_beginsWithUna_25 : decode c_Reader_beginsWithUna 25 = .ok (.bipush 65, 2) := by decide +kernel
theorem d_Reader_beginsWithUna_27 : decode c_Reader_beginsWithUna 27 = .ok (.if_icmp .ne 7, 3) := by decide +kernel
theorem d_Reader_beginsWithUna_30 : decode c_Reader_beginsWithUna 30 = .ok (.iconst 1, 1) := by decide +kernel
theorem d_Reader_beginsWithUna_31 : decode c_Reader_beginsWithUna 31 = .ok (.goto 4, 3) := by decide +kernel
theorem d_Reader_beginsWithUna_34 : decode c_Reader_beginsWithUna 34 = .ok (.iconst 0, 1) := by decide +kernel
theorem d_Reader_beginsWithUna_35 : decode c_Reader_beginsWithUna 35 = .ok (.ireturn, 1) := by decide +kernel
theorem d_Reader_firstWrongOfUna_0 : decode c_Reader_firstWrongOfUna 0 = .ok (.iconst 0, 1) := by decide +kernel
theorem d_Reader_firstWrongOfUna_1 : decode c_Reader_firstWrongOfUna 1 = .ok (.istore_n 2, 1) := by decide +kernel
theorem d_Reader_firstWrongOfUna_2 : decode c_Reader_firstWrongOfUna 2 = .ok (.iload_n 2, 1) := by decide +kernel
theorem d_Reader_firstWrongOfUna_3 : decode c_Reader_firstWrongOfUna 3 = .ok (.iconst 5, 1) := by decide +kernel
theorem d_Reader_firstWrongOfUna_4 : decode c_Reader_firstWrongOfUna 4 = .ok (.if_icmp .ge 39, 3) := by decide +kernel
theorem d_Reader_firstWrongOfUna_7 : decode c_Reader_firstWrongOfUna 7 = .ok (.iconst 3, 1) := by decide +kernel
theorem d_Reader_firstWrongOfUna_8 : decode c_Reader_firstWrongOfUna 8 = .ok (.iload_n 2, 1) := by decide +kernel
theorem d_Reader_firstWrongOfUna_9 : decode c_Reader_firstWrongOfUna 9 = .ok (.iadd, 1) := by decide +kernel
theorem d_Reader_firstWrongOfUna_10 : decode c_Reader_firstWrongOfUna 10 = .ok (.istore_n 3, 1) := by decide +kernel
theorem d_Reader_firstWrongOfUna_11 : decode c_Reader_firstWrongOfUna 11 = .ok (.iload_n 3, 1) := by decide +kernel
theorem d_Reader_firstWrongOfUna_12 : decode c_Reader_firstWrongOfUna 12 = .ok (.aload_n 1, 1) := by decide +kernel
theorem d_Reader_firstWrongOfUna_13 : decode c_Reader_firstWrongOfUna 13 = .ok (.invokevirtual 36, 3) := by decide +kernel
theorem d_Reader_firstWrongOfUna_16 : decode c_Reader_firstWrongOfUna 16 = .ok (.if_icmp .ge 19, 3) := by decide +kernel
theorem d_Reader_firstWrongOfUna_19 : decode c_Reader_firstWrongOfUna 19 = .ok (.aload_n 0, 1) := by decide +kernel
theorem d_Reader_firstWrongOfUna_20 : decode c_Reader_firstWrongOfUna 20 = .ok (.getfield 15, 3) := by decide +kernel
theorem d_Reader_firstWrongOfUna_23 : decode c_Reader_firstWrongOfUna 23 = .ok (.iload_n 2, 1) := by decide +kernel
theorem d_Reader_firstWrongOfUna_24 : decode c_Reader_firstWrongOfUna 24 = .ok (.aload_n 1, 1) := by decide +kernel
theorem d_Reader_firstWrongOfUna_25 : decode c_Reader_firstWrongOfUna 25 = .ok (.iload_n 3, 1) := by decide +kernel
theorem d_Reader_firstWrongOfUna_26 : decode c_Reader_firstWrongOfUna 26 = .ok (.invokevirtual 42, 3) := by decide +kernel
theorem d_Reader_firstWrongOfUna_29 : decode c_Reader_firstWrongOfUna 29 = .ok (.invokevirtual 56, 3) := by decide +kernel
theorem d_Reader_firstWrongOfUna_32 : decode c_Reader_firstWrongOfUna 32 = .ok (.ifCond .ne 5, 3) := by decide +kernel
theorem d_Reader_firstWrongOfUna_35 : decode c_Reader_firstWrongOfUna 35 = .ok (.iload_n 3, 1) := by decide +kernel
theorem d_Reader_firstWrongOfUna_36 : decode c_Reader_firstWrongOfUna 36 = .ok (.ireturn, 1) := by decide +kernel
theorem d_Reader_firstWrongOfUna_37 : decode c_Reader_firstWrongOfUna 37 = .ok (.iinc 2 1, 3) := by decide +kernel
theorem d_Reader_firstWrongOfUna_40 : decode c_Reader_firstWrongOfUna 40 = .ok (.goto (-38), 3) := by decide +kernel
theorem d_Reader_firstWrongOfUna_43 : decode c_Reader_firstWrongOfUna 43 = .ok (.iconst (-1), 1) := by decide +kernel
theorem d_Reader_firstWrongOfUna_44 : decode c_Reader_firstWrongOfUna 44 = .ok (.ireturn, 1) := by decide +kernel
theorem d_Reader_take_0 : decode c_Reader_take 0 = .ok (.aload_n 0, 1) := by decide +kernel
theorem d_Reader_take_1 : decode c_Reader_take 1 = .ok (.getfield 19, 3) := by decide +kernel
theorem d_Reader_take_4 : decode c_Reader_take 4 = .ok (.tableswitch 163 0 5 #[40, 72, 97, 136, 163, 149], 40) := by decide +kernel
theorem d_Reader_take_44 : decode c_Reader_take 44 = .ok (.aload_n 0, 1) := by decide +kernel
theorem d_Reader_take_45 : decode c_Reader_take 45 = .ok (.getfield 9, 3) := by decide +kernel
theorem d_Reader_take_48 : decode c_Reader_take 48 = .ok (.invokevirtual 60, 3) := by decide +kernel
theorem d_Reader_take_51 : decode c_Reader_take 51 = .ok (.ifCond .ne 23, 3) := by decide +kernel
theorem d_Reader_take_54 : decode c_Reader_take 54 = .ok (.iload_n 1, 1) := by decide +kernel
theorem d_Reader_take_55 : decode c_Reader_take 55 = .ok (.invokestatic 63, 3) := by decide +kernel
theorem d_Reader_take_58 : decode c_Reader_take 58 = .ok (.ifCond .eq 16, 3) := by decide +kernel
theorem d_Reader_take_61 : decode c_Reader_take 61 = .ok (.aload_n 0, 1) := by decide +kernel
theorem d_Reader_take_62 : decode c_Reader_take 62 = .ok (.iconst 0, 1) := by decide +kernel
theorem d_Reader_take_63 : decode c_Reader_take 63 = .ok (.iload_n 1, 1) := by decide +kernel
theorem d_Reader_take_64 : decode c_Reader_take 64 = .ok (.invokevirtual 68, 3) := by decide +kernel
theorem d_Reader_take_67 : decode c_Reader_take 67 = .ok (.ifCond .eq 7, 3) := by decide +kernel
theorem d_Reader_take_70 : decode c_Reader_take 70 = .ok (.iconst 1, 1) := by decide +kernel
theorem d_Reader_take_71 : decode c_Reader_take 71 = .ok (.goto 4, 3) := by decide +kernel
theorem d_Reader_take_74 : decode c_Reader_take 74 = .ok (.iconst 0, 1) := by decide +kernel
theorem d_Reader_take_75 : decode c_Reader_take 75 = .ok (.ireturn, 1) := by decide +kernel
theorem d_Reader_take_76 : decode c_Reader_take 76 = .ok (.iload_n 1, 1) := by decide +kernel
theorem d_Reader_take_77 : decode c_Reader_take 77 = .ok (.invokestatic 71, 3) := by decide +kernel
theorem d_Reader_take_80 : decode c_Reader_take 80 = .ok (.ifCond .eq 19, 3) := by decide +kernel
theorem d_Reader_take_83 : decode c_Reader_take 83 = .ok (.aload_n 0, 1) := by decide +kernel
theorem d_Reader_take_84 : decode c_Reader_take 84 = .ok (.aload_n 0, 1) := by decide +kernel
theorem d_Reader_take_85 : decode c_Reader_take 85 = .ok (.getfield 23, 3) := by decide +kernel
theorem d_Reader_take_88 : decode c_Reader_take 88 = .ok (.iload_n 1, 1) := by decide +kernel
theorem d_Reader_take_89 : decode c_Reader_take 89 = .ok (.invokevirtual 68, 3) := by decide +kernel
theorem d_Reader_take_92 : decode c_Reader_take 92 = .ok (.ifCond .eq 7, 3) := by decide +kernel
theorem d_Reader_take_95 : decode c_Reader_take 95 = .ok (.iconst 1, 1) := by decide +kernel
theorem d_Reader_take_96 : decode c_Reader_take 96 = .ok (.goto 4, 3) := by decide +kernel
theorem d_Reader_take_99 : decode c_Reader_take 99 = .ok (.iconst 0, 1) := by decide +kernel
theorem d_Reader_take_100 : decode c_Reader_take 100 = .ok (.ireturn, 1) := by decide +kernel
theorem d_Reader_take_101 : decode c_Reader_take 101 = .ok (.iload_n 1, 1) := by decide +kernel
theorem d_Reader_take_102 : decode c_Reader_take 102 = .ok (.invokestatic 71, 3) := by decide +kernel
theorem d_Reader_take_105 : decode c_Reader_take 105 = .ok (.ifCond .eq 33, 3) := by decide +kernel
theorem d_Reader_take_108 : decode c_Reader_take 108 = .ok (.aload_n 0, 1) := by decide +kernel
theorem d_Reader_take_109 : decode c_Reader_take 109 = .ok (.aload_n 0, 1) := by decide +kernel
theorem d_Reader_take_110 : decode c_Reader_take 110 = .ok (.getfield 23, 3) := by decide +kernel
theorem d_Reader_take_113 : decode c_Reader_take 113 = .ok (.iload_n 1, 1) := by decide +kernel
theorem d_Reader_take_114 : decode c_Reader_take 114 = .ok (.invokevirtual 68, 3) := by decide +kernel
theorem d_Reader_take_117 : decode c_Reader_take 117 = .ok (.ifCond .eq 21, 3) := by decide +kernel
theorem d_Reader_take_120 : decode c_Reader_take 120 = .ok (.aload_n 0, 1) := by decide +kernel
theorem d_Reader_take_121 : decode c_Reader_take 121 = .ok (.getfield 9, 3) := by decide +kernel
theorem d_Reader_take_124 : decode c_Reader_take 124 = .ok (.aload_n 0, 1) := by decide +kernel
theorem d_Reader_take_125 : decode c_Reader_take 125 = .ok (.getfield 23, 3) := by decide +kernel
theorem d_Reader_take_128 : decode c_Reader_take 128 = .ok (.invokevirtual 74, 3) := by decide +kernel
theorem d_Reader_take_131 : decode c_Reader_take 131 = .ok (.ifCond .eq 7, 3) := by decide +kernel
theorem d_Reader_take_134 : decode c_Reader_take 134 = .ok (.iconst 1, 1) := by decide +kernel
theorem d_Reader_take_135 : decode c_Reader_take 135 = .ok (.goto 4, 3) := by decide +kernel
theorem d_Reader_take_138 : decode c_Reader_take 138 = .ok (.iconst 0, 1) := by decide +kernel
theorem d_Reader_take_139 : decode c_Reader_take 139 = .ok (.ireturn, 1) := by decide +kernel
theorem d_Reader_take_140 : decode c_Reader_take 140 = .ok (.aload_n 0, 1) := by decide +kernel
theorem d_Reader_take_141 : decode c_Reader_take 141 = .ok (.aload_n 0, 1) := by decide +kernel
theorem d_Reader_take_142 : decode c_Reader_take 142 = .ok (.getfield 15, 3) := by decide +kernel
theorem d_Reader_take_145 : decode c_Reader_take 145 = .ok (.iload_n 1, 1) := by decide +kernel
theorem d_Reader_take_146 : decode c_Reader_take 146 = .ok (.invokevirtual 77, 3) := by decide +kernel
theorem d_Reader_take_149 : decode c_Reader_take 149 = .ok (.invokevirtual 80, 3) := by decide +kernel
theorem d_Reader_take_152 : decode c_Reader_take 152 = .ok (.ireturn, 1) := by decide +kernel
theorem d_Reader_take_153 : decode c_Reader_take 153 = .ok (.aload_n 0, 1) := by decide +kernel
theorem d_Reader_take_154 : decode c_Reader_take 154 = .ok (.iconst 4, 1) := by decide +kernel
theorem d_Reader_take_155 : decode c_Reader_take 155 = .ok (.putfield 19, 3) := by decide +kernel
theorem d_Reader_take_158 : decode c_Reader_take 158 = .ok (.aload_n 0, 1) := by decide +kernel
theorem d_Reader_take_159 : decode c_Reader_take 159 = .ok (.getfield 9, 3) := by decide +kernel
theorem d_Reader_take_162 : decode c_Reader_take 162 = .ok (.iload_n 1, 1) := by decide +kernel
theorem d_Reader_take_163 : decode c_Reader_take 163 = .ok (.invokevirtual 83, 3) := by decide +kernel
theorem d_Reader_take_166 : decode c_Reader_take 166 = .ok (.ireturn, 1) := by decide +kernel
theorem d_Reader_take_167 : decode c_Reader_take 167 = .ok (.aload_n 0, 1) := by decide +kernel
theorem d_Reader_take_168 : decode c_Reader_take 168 = .ok (.iload_n 1, 1) := by decide +kernel
theorem d_Reader_take_169 : decode c_Reader_take 169 = .ok (.invokevirtual 86, 3) := by decide +kernel
theorem d_Reader_take_172 : decode c_Reader_take 172 = .ok (.ireturn, 1) := by decide +kernel
theorem d_Reader_takeOfTag_0 : decode c_Reader_takeOfTag 0 = .ok (.aload_n 0, 1) := by decide +kernel
theorem d_Reader_takeOfTag_1 : decode c_Reader_takeOfTag 1 = .ok (.sipush 256, 3) := by decide +kernel
theorem d_Reader_takeOfTag_4 : decode c_Reader_takeOfTag 4 = .ok (.iload_n 1, 1) := by decide +kernel
theorem d_Reader_takeOfTag_5 : decode c_Reader_takeOfTag 5 = .ok (.imul, 1) := by decide +kernel
theorem d_Reader_takeOfTag_6 : decode c_Reader_takeOfTag 6 = .ok (.iload_n 2, 1) := by decide +kernel
theorem d_Reader_takeOfTag_7 : decode c_Reader_takeOfTag 7 = .ok (.iadd, 1) := by decide +kernel
theorem d_Reader_takeOfTag_8 : decode c_Reader_takeOfTag 8 = .ok (.putfield 23, 3) := by decide +kernel
theorem d_Reader_takeOfTag_11 : decode c_Reader_takeOfTag 11 = .ok (.aload_n 0, 1) := by decide +kernel
theorem d_Reader_takeOfTag_12 : decode c_Reader_takeOfTag 12 = .ok (.dup, 1) := by decide +kernel
theorem d_Reader_takeOfTag_13 : decode c_Reader_takeOfTag 13 = .ok (.getfield 19, 3) := by decide +kernel
theorem d_Reader_takeOfTag_16 : decode c_Reader_takeOfTag 16 = .ok (.iconst 1, 1) := by decide +kernel
theorem d_Reader_takeOfTag_17 : decode c_Reader_takeOfTag 17 = .ok (.iadd, 1) := by decide +kernel
theorem d_Reader_takeOfTag_18 : decode c_Reader_takeOfTag 18 = .ok (.putfield 19, 3) := by decide +kernel
theorem d_Reader_takeOfTag_21 : decode c_Reader_takeOfTag 21 = .ok (.iconst 1, 1) := by decide +kernel
theorem d_Reader_takeOfTag_22 : decode c_Reader_takeOfTag 22 = .ok (.ireturn, 1) := by decide +kernel
theorem d_Reader_takeBehindTag_0 : decode c_Reader_takeBehindTag 0 = .ok (.iload_n 1, 1) := by decide +kernel
theorem d_Reader_takeBehindTag_1 : decode c_Reader_takeBehindTag 1 = .ok (.iconst 4, 1) := by decide +kernel
theorem d_Reader_takeBehindTag_2 : decode c_Reader_takeBehindTag 2 = .ok (.if_icmp .ne 10, 3) := by decide +kernel
theorem d_Reader_takeBehindTag_5 : decode c_Reader_takeBehindTag 5 = .ok (.aload_n 0, 1) := by decide +kernel
theorem d_Reader_takeBehindTag_6 : decode c_Reader_takeBehindTag 6 = .ok (.iconst 0, 1) := by decide +kernel
theorem d_Reader_takeBehindTag_7 : decode c_Reader_takeBehindTag 7 = .ok (.putfield 19, 3) := by decide +kernel
theorem d_Reader_takeBehindTag_10 : decode c_Reader_takeBehindTag 10 = .ok (.iconst 1, 1) := by decide +kernel
theorem d_Reader_takeBehindTag_11 : decode c_Reader_takeBehindTag 11 = .ok (.ireturn, 1) := by decide +kernel
theorem d_Reader_takeBehindTag_12 : decode c_Reader_takeBehindTag 12 = .ok (.aload_n 0, 1) := by decide +kernel
theorem d_Reader_takeBehindTag_13 : decode c_Reader_takeBehindTag 13 = .ok (.iconst 4, 1) := by decide +kernel
theorem d_Reader_takeBehindTag_14 : decode c_Reader_takeBehindTag 14 = .ok (.putfield 19, 3) := by decide +kernel
theorem d_Reader_takeBehindTag_17 : decode c_Reader_takeBehindTag 17 = .ok (.iload_n 1, 1) := by decide +kernel
theorem d_Reader_takeBehindTag_18 : decode c_Reader_takeBehindTag 18 = .ok (.iconst 1, 1) := by decide +kernel
theorem d_Reader_takeBehindTag_19 : decode c_Reader_takeBehindTag 19 = .ok (.if_icmp .ne 17, 3) := by decide +kernel
theorem d_Reader_takeBehindTag_22 : decode c_Reader_takeBehindTag 22 = .ok (.aload_n 0, 1) := by decide +kernel
theorem d_Reader_takeBehindTag_23 : decode c_Reader_takeBehindTag 23 = .ok (.getfield 9, 3) := by decide +kernel
theorem d_Reader_takeBehindTag_26 : decode c_Reader_takeBehindTag 26 = .ok (.invokevirtual 89, 3) := by decide +kernel
theorem d_Reader_takeBehindTag_29 : decode c_Reader_takeBehindTag 29 = .ok (.ifCond .eq 7, 3) := by decide +kernel
theorem d_Reader_takeBehindTag_32 : decode c_Reader_takeBehindTag 32 = .ok (.iconst 1, 1) := by decide +kernel
theorem d_Reader_takeBehindTag_33 : decode c_Reader_takeBehindTag 33 = .ok (.goto 4, 3) := by decide +kernel
theorem d_Reader_takeBehindTag_36 : decode c_Reader_takeBehindTag 36 = .ok (.iconst 0, 1) := by decide +kernel
theorem d_Reader_takeBehindTag_37 : decode c_Reader_takeBehindTag 37 = .ok (.ireturn, 1) := by decide +kernel
theorem d_Reader_takeInComponent_0 : decode c_Reader_takeInComponent 0 = .ok (.aload_n 0, 1) := by decide +kernel
theorem d_Reader_takeInComponent_1 : decode c_Reader_takeInComponent 1 = .ok (.getfield 15, 3) := by decide +kernel
theorem d_Reader_takeInComponent_4 : decode c_Reader_takeInComponent 4 = .ok (.iload_n 1, 1) := by decide +kernel
theorem d_Reader_takeInComponent_5 : decode c_Reader_takeInComponent 5 = .ok (.invokevirtual 77, 3) := by decide +kernel
theorem d_Reader_takeInComponent_8 : decode c_Reader_takeInComponent 8 = .ok (.tableswitch 74 0 4 #[36, 44, 52, 59, 67], 36) := by decide +kernel
theorem d_Reader_takeInComponent_44 : decode c_Reader_takeInComponent 44 = .ok (.aload_n 0, 1) := by decide +kernel
theorem d_Reader_takeInComponent_45 : decode c_Reader_takeInComponent 45 = .ok (.getfield 9, 3) := by decide +kernel
theorem d_Reader_takeInComponent_48 : decode c_Reader_takeInComponent 48 = .ok (.invokevirtual 92, 3) := by decide +kernel
theorem d_Reader_takeInComponent_51 : decode c_Reader_takeInComponent 51 = .ok (.ireturn, 1) := by decide +kernel
theorem d_Reader_takeInComponent_52 : decode c_Reader_takeInComponent 52 = .ok (.aload_n 0, 1) := by decide +kernel
theorem d_Reader_takeInComponent_53 : decode c_Reader_takeInComponent 53 = .ok (.getfield 9, 3) := by decide +kernel
theorem d_Reader_takeInComponent_56 : decode c_Reader_takeInComponent 56 = .ok (.invokevirtual 89, 3) := by decide +kernel
theorem d_Reader_takeInComponent_59 : decode c_Reader_takeInComponent 59 = .ok (.ireturn, 1) := by decide +kernel
theorem d_Reader_takeInComponent_60 : decode c_Reader_takeInComponent 60 = .ok (.aload_n 0, 1) := by decide +kernel
theorem d_Reader_takeInComponent_61 : decode c_Reader_takeInComponent 61 = .ok (.iconst 5, 1) := by decide +kernel
theorem d_Reader_takeInComponent_62 : decode c_Reader_takeInComponent 62 = .ok (.putfield 19, 3) := by decide +kernel
theorem d_Reader_takeInComponent_65 : decode c_Reader_takeInComponent 65 = .ok (.iconst 1, 1) := by decide +kernel
theorem d_Reader_takeInComponent_66 : decode c_Reader_takeInComponent 66 = .ok (.ireturn, 1) := by decide +kernel
theorem d_Reader_takeInComponent_67 : decode c_Reader_takeInComponent 67 = .ok (.aload_n 0, 1) := by decide +kernel
theorem d_Reader_takeInComponent_68 : decode c_Reader_takeInComponent 68 = .ok (.getfield 9, 3) := by decide +kernel
theorem d_Reader_takeInComponent_71 : decode c_Reader_takeInComponent 71 = .ok (.invokevirtual 95, 3) := by decide +kernel
theorem d_Reader_takeInComponent_74 : decode c_Reader_takeInComponent 74 = .ok (.ireturn, 1) := by decide +kernel
theorem d_Reader_takeInComponent_75 : decode c_Reader_takeInComponent 75 = .ok (.aload_n 0, 1) := by decide +kernel
theorem d_Reader_takeInComponent_76 : decode c_Reader_takeInComponent 76 = .ok (.iconst 0, 1) := by decide +kernel
theorem d_Reader_takeInComponent_77 : decode c_Reader_takeInComponent 77 = .ok (.putfield 19, 3) := by decide +kernel
theorem d_Reader_takeInComponent_80 : decode c_Reader_takeInComponent 80 = .ok (.iconst 1, 1) := by decide +kernel
theorem d_Reader_takeInComponent_81 : decode c_Reader_takeInComponent 81 = .ok (.ireturn, 1) := by decide +kernel
theorem d_Reader_takeInComponent_82 : decode c_Reader_takeInComponent 82 = .ok (.aload_n 0, 1) := by decide +kernel
theorem d_Reader_takeInComponent_83 : decode c_Reader_takeInComponent 83 = .ok (.getfield 9, 3) := by decide +kernel
theorem d_Reader_takeInComponent_86 : decode c_Reader_takeInComponent 86 = .ok (.iload_n 1, 1) := by decide +kernel
theorem d_Reader_takeInComponent_87 : decode c_Reader_takeInComponent 87 = .ok (.invokevirtual 83, 3) := by decide +kernel
theorem d_Reader_takeInComponent_90 : decode c_Reader_takeInComponent 90 = .ok (.ireturn, 1) := by decide +kernel
theorem d_ServiceSigns_init_0 : decode c_ServiceSigns_init 0 = .ok (.aload_n 0, 1) := by decide +kernel
theorem d_ServiceSigns_init_1 : decode c_ServiceSigns_init 1 = .ok (.invokespecial 3, 3) := by decide +kernel
theorem d_ServiceSigns_init_4 : decode c_ServiceSigns_init 4 = .ok (.aload_n 0, 1) := by decide +kernel
theorem d_ServiceSigns_init_5 : decode c_ServiceSigns_init 5 = .ok (.getstatic 9, 3) := by decide +kernel
theorem d_ServiceSigns_init_8 : decode c_ServiceSigns_init 8 = .ok (.invokevirtual 15, 3) := by decide +kernel
theorem d_ServiceSigns_init_11 : decode c_ServiceSigns_init 11 = .ok (.checkcast 16, 3) := by decide +kernel
theorem d_ServiceSigns_init_14 : decode c_ServiceSigns_init 14 = .ok (.putfield 20, 3) := by decide +kernel
theorem d_ServiceSigns_init_17 : decode c_ServiceSigns_init 17 = .ok (.return_, 1) := by decide +kernel
theorem d_ServiceSigns_setUntold_0 : decode c_ServiceSigns_setUntold 0 = .ok (.iconst 0, 1) := by decide +kernel
theorem d_ServiceSigns_setUntold_1 : decode c_ServiceSigns_setUntold 1 = .ok (.istore_n 1, 1) := by decide +kernel
theorem d_ServiceSigns_setUntold_2 : decode c_ServiceSigns_setUntold 2 = .ok (.iload_n 1, 1) := by decide +kernel
theorem d_ServiceSigns_setUntold_3 : decode c_ServiceSigns_setUntold 3 = .ok (.aload_n 0, 1) := by decide +kernel
theorem d_ServiceSigns_setUntold_4 : decode c_ServiceSigns_setUntold 4 = .ok (.getfield 20, 3) := by decide +kernel
theorem d_ServiceSigns_setUntold_7 : decode c_ServiceSigns_setUntold 7 = .ok (.arraylength, 1) := by decide +kernel
theorem d_ServiceSigns_setUntold_8 : decode c_ServiceSigns_setUntold 8 = .ok (.if_icmp .ge 28, 3) := by decide +kernel
theorem d_ServiceSigns_setUntold_11 : decode c_ServiceSigns_setUntold 11 = .ok (.iload_n 1, 1) := by decide +kernel
theorem d_ServiceSigns_setUntold_12 : decode c_ServiceSigns_setUntold 12 = .ok (.getstatic 9, 3) := by decide +kernel
theorem d_ServiceSigns_setUntold_15 : decode c_ServiceSigns_setUntold 15 = .ok (.arraylength, 1) := by decide +kernel
theorem d_ServiceSigns_setUntold_16 : decode c_ServiceSigns_setUntold 16 = .ok (.if_icmp .ge 20, 3) := by decide +kernel
theorem d_ServiceSigns_setUntold_19 : decode c_ServiceSigns_setUntold 19 = .ok (.aload_n 0, 1) := by decide +kernel
theorem d_ServiceSigns_setUntold_20 : decode c_ServiceSigns_setUntold 20 = .ok (.getfield 20, 3) := by decide +kernel
theorem d_ServiceSigns_setUntold_23 : decode c_ServiceSigns_setUntold 23 = .ok (.iload_n 1, 1) := by decide +kernel
theorem d_ServiceSigns_setUntold_24 : decode c_ServiceSigns_setUntold 24 = .ok (.getstatic 9, 3) := by decide +kernel
theorem d_ServiceSigns_setUntold_27 : decode c_ServiceSigns_setUntold 27 = .ok (.iload_n 1, 1) := by decide +kernel
theorem d_ServiceSigns_setUntold_28 : decode c_ServiceSigns_setUntold 28 = .ok (.iaload, 1) := by decide +kernel
theorem d_ServiceSigns_setUntold_29 : decode c_ServiceSigns_setUntold 29 = .ok (.iastore, 1) := by decide +kernel
theorem d_ServiceSigns_setUntold_30 : decode c_ServiceSigns_setUntold 30 = .ok (.iinc 1 1, 3) := by decide +kernel
theorem d_ServiceSigns_setUntold_33 : decode c_ServiceSigns_setUntold 33 = .ok (.goto (-31), 3) := by decide +kernel
theorem d_ServiceSigns_setUntold_36 : decode c_ServiceSigns_setUntold 36 = .ok (.return_, 1) := by decide +kernel
theorem d_ServiceSigns_tell_0 : decode c_ServiceSigns_tell 0 = .ok (.iload_n 1, 1) := by decide +kernel
theorem d_ServiceSigns_tell_1 : decode c_ServiceSigns_tell 1 = .ok (.ifCond .lt 19, 3) := by decide +kernel
theorem d_ServiceSigns_tell_4 : decode c_ServiceSigns_tell 4 = .ok (.iload_n 1, 1) := by decide +kernel
theorem d_ServiceSigns_tell_5 : decode c_ServiceSigns_tell 5 = .ok (.aload_n 0, 1) := by decide +kernel
theorem d_ServiceSigns_tell_6 : decode c_ServiceSigns_tell 6 = .ok (.getfield 20, 3) := by decide +kernel
theorem d_ServiceSigns_tell_9 : decode c_ServiceSigns_tell 9 = .ok (.arraylength, 1) := by decide +kernel
theorem d_ServiceSigns_tell_10 : decode c_ServiceSigns_tell 10 = .ok (.if_icmp .ge 10, 3) := by decide +kernel
theorem d_ServiceSigns_tell_13 : decode c_ServiceSigns_tell 13 = .ok (.iload_n 2, 1) := by decide +kernel
theorem d_ServiceSigns_tell_14 : decode c_ServiceSigns_tell 14 = .ok (.invokestatic 23, 3) := by decide +kernel
theorem d_ServiceSigns_tell_17 : decode c_ServiceSigns_tell 17 = .ok (.ifCond .ne 5, 3) := by decide +kernel
theorem d_ServiceSigns_tell_20 : decode c_ServiceSigns_tell 20 = .ok (.iconst 0, 1) := by decide +kernel
theorem d_ServiceSigns_tell_21 : decode c_ServiceSigns_tell 21 = .ok (.ireturn, 1) := by decide +kernel
theorem d_ServiceSigns_tell_22 : decode c_ServiceSigns_tell 22 = .ok (.iconst 0, 1) := by decide +kernel
theorem d_ServiceSigns_tell_23 : decode c_ServiceSigns_tell 23 = .ok (.istore_n 3, 1) := by decide +kernel
theorem d_ServiceSigns_tell_24 : decode c_ServiceSigns_tell 24 = .ok (.iload_n 3, 1) := by decide +kernel
theorem d_ServiceSigns_tell_25 : decode c_ServiceSigns_tell 25 = .ok (.iload_n 1, 1) := by decide +kernel
theorem d_ServiceSigns_tell_26 : decode c_ServiceSigns_tell 26 = .ok (.if_icmp .ge 21, 3) := by decide +kernel
theorem d_ServiceSigns_tell_29 : decode c_ServiceSigns_tell 29 = .ok (.aload_n 0, 1) := by decide +kernel
theorem d_ServiceSigns_tell_30 : decode c_ServiceSigns_tell 30 = .ok (.getfield 20, 3) := by decide +kernel
theorem d_ServiceSigns_tell_33 : decode c_ServiceSigns_tell 33 = .ok (.iload_n 3, 1) := by decide +kernel
theorem d_ServiceSigns_tell_34 : decode c_ServiceSigns_tell 34 = .ok (.iaload, 1) := by decide +kernel
theorem d_ServiceSigns_tell_35 : decode c_ServiceSigns_tell 35 = .ok (.iload_n 2, 1) := by decide +kernel
theorem d_ServiceSigns_tell_36 : decode c_ServiceSigns_tell 36 = .ok (.if_icmp .ne 5, 3) := by decide +kernel
theorem d_ServiceSigns_tell_39 : decode c_ServiceSigns_tell 39 = .ok (.iconst 0, 1) := by decide +kernel
theorem d_ServiceSigns_tell_40 : decode c_ServiceSigns_tell 40 = .ok (.ireturn, 1) := by decide +kernel
theorem d_ServiceSigns_tell_41 : decode c_ServiceSigns_tell 41 = .ok (.iinc 3 1, 3) := by decide +kernel
theorem d_ServiceSigns_tell_44 : decode c_ServiceSigns_tell 44 = .ok (.goto (-20), 3) := by decide +kernel
theorem d_ServiceSigns_tell_47 : decode c_ServiceSigns_tell 47 = .ok (.aload_n 0, 1) := by decide +kernel
theorem d_ServiceSigns_tell_48 : decode c_ServiceSigns_tell 48 = .ok (.getfield 20, 3) := by decide +kernel
theorem d_ServiceSigns_tell_51 : decode c_ServiceSigns_tell 51 = .ok (.iload_n 1, 1) := by decide +kernel
theorem d_ServiceSigns_tell_52 : decode c_ServiceSigns_tell 52 = .ok (.iload_n 2, 1) := by decide +kernel
theorem d_ServiceSigns_tell_53 : decode c_ServiceSigns_tell 53 = .ok (.iastore, 1) := by decide +kernel
theorem d_ServiceSigns_tell_54 : decode c_ServiceSigns_tell 54 = .ok (.iconst 1, 1) := by decide +kernel
theorem d_ServiceSigns_tell_55 : decode c_ServiceSigns_tell 55 = .ok (.ireturn, 1) := by decide +kernel
theorem d_ServiceSigns_signOf_0 : decode c_ServiceSigns_signOf 0 = .ok (.iload_n 1, 1) := by decide +kernel
theorem d_ServiceSigns_signOf_1 : decode c_ServiceSigns_signOf 1 = .ok (.ifCond .lt 21, 3) := by decide +kernel
theorem d_ServiceSigns_signOf_4 : decode c_ServiceSigns_signOf 4 = .ok (.iload_n 1, 1) := by decide +kernel
theorem d_ServiceSigns_signOf_5 : decode c_ServiceSigns_signOf 5 = .ok (.aload_n 0, 1) := by decide +kernel
theorem d_ServiceSigns_signOf_6 : decode c_ServiceSigns_signOf 6 = .ok (.getfield 20, 3) := by decide +kernel
theorem d_ServiceSigns_signOf_9 : decode c_ServiceSigns_signOf 9 = .ok (.arraylength, 1) := by decide +kernel
theorem d_ServiceSigns_signOf_10 : decode c_ServiceSigns_signOf 10 = .ok (.if_icmp .ge 12, 3) := by decide +kernel
theorem d_ServiceSigns_signOf_13 : decode c_ServiceSigns_signOf 13 = .ok (.aload_n 0, 1) := by decide +kernel
theorem d_ServiceSigns_signOf_14 : decode c_ServiceSigns_signOf 14 = .ok (.getfield 20, 3) := by decide +kernel
theorem d_ServiceSigns_signOf_17 : decode c_ServiceSigns_signOf 17 = .ok (.iload_n 1, 1) := by decide +kernel
theorem d_ServiceSigns_signOf_18 : decode c_ServiceSigns_signOf 18 = .ok (.iaload, 1) := by decide +kernel
theorem d_ServiceSigns_signOf_19 : decode c_ServiceSigns_signOf 19 = .ok (.goto 4, 3) := by decide +kernel
theorem d_ServiceSigns_signOf_22 : decode c_ServiceSigns_signOf 22 = .ok (.iconst (-1), 1) := by decide +kernel
theorem d_ServiceSigns_signOf_23 : decode c_ServiceSigns_signOf 23 = .ok (.ireturn, 1) := by decide +kernel
theorem d_ServiceSigns_numberOf_0 : decode c_ServiceSigns_numberOf 0 = .ok (.iconst 0, 1) := by decide +kernel
theorem d_ServiceSigns_numberOf_1 : decode c_ServiceSigns_numberOf 1 = .ok (.istore_n 2, 1) := by decide +kernel
theorem d_ServiceSigns_numberOf_2 : decode c_ServiceSigns_numberOf 2 = .ok (.iload_n 2, 1) := by decide +kernel
theorem d_ServiceSigns_numberOf_3 : decode c_ServiceSigns_numberOf 3 = .ok (.aload_n 0, 1) := by decide +kernel
theorem d_ServiceSigns_numberOf_4 : decode c_ServiceSigns_numberOf 4 = .ok (.getfield 20, 3) := by decide +kernel
theorem d_ServiceSigns_numberOf_7 : decode c_ServiceSigns_numberOf 7 = .ok (.arraylength, 1) := by decide +kernel
theorem d_ServiceSigns_numberOf_8 : decode c_ServiceSigns_numberOf 8 = .ok (.if_icmp .ge 21, 3) := by decide +kernel
theorem d_ServiceSigns_numberOf_11 : decode c_ServiceSigns_numberOf 11 = .ok (.aload_n 0, 1) := by decide +kernel
theorem d_ServiceSigns_numberOf_12 : decode c_ServiceSigns_numberOf 12 = .ok (.getfield 20, 3) := by decide +kernel
theorem d_ServiceSigns_numberOf_15 : decode c_ServiceSigns_numberOf 15 = .ok (.iload_n 2, 1) := by decide +kernel
theorem d_ServiceSigns_numberOf_16 : decode c_ServiceSigns_numberOf 16 = .ok (.iaload, 1) := by decide +kernel
theorem d_ServiceSigns_numberOf_17 : decode c_ServiceSigns_numberOf 17 = .ok (.iload_n 1, 1) := by decide +kernel
theorem d_ServiceSigns_numberOf_18 : decode c_ServiceSigns_numberOf 18 = .ok (.if_icmp .ne 5, 3) := by decide +kernel
theorem d_ServiceSigns_numberOf_21 : decode c_ServiceSigns_numberOf 21 = .ok (.iload_n 2, 1) := by decide +kernel
theorem d_ServiceSigns_numberOf_22 : decode c_ServiceSigns_numberOf 22 = .ok (.ireturn, 1) := by decide +kernel
theorem d_ServiceSigns_numberOf_23 : decode c_ServiceSigns_numberOf 23 = .ok (.iinc 2 1, 3) := by decide +kernel
theorem d_ServiceSigns_numberOf_26 : decode c_ServiceSigns_numberOf 26 = .ok (.goto (-24), 3) := by decide +kernel
theorem d_ServiceSigns_numberOf_29 : decode c_ServiceSigns_numberOf 29 = .ok (.iconst (-1), 1) := by decide +kernel
theorem d_ServiceSigns_numberOf_30 : decode c_ServiceSigns_numberOf 30 = .ok (.ireturn, 1) := by decide +kernel
theorem d_ServiceSigns_canServe_0 : decode c_ServiceSigns_canServe 0 = .ok (.iload_n 0, 1) := by decide +kernel
theorem d_ServiceSigns_canServe_1 : decode c_ServiceSigns_canServe 1 = .ok (.invokestatic 27, 3) := by decide +kernel
theorem d_ServiceSigns_canServe_4 : decode c_ServiceSigns_canServe 4 = .ok (.ifCond .ne 20, 3) := by decide +kernel
theorem d_ServiceSigns_canServe_7 : decode c_ServiceSigns_canServe 7 = .ok (.iload_n 0, 1) := by decide +kernel
theorem d_ServiceSigns_canServe_8 : decode c_ServiceSigns_canServe 8 = .ok (.invokestatic 32, 3) := by decide +kernel
theorem d_ServiceSigns_canServe_11 : decode c_ServiceSigns_canServe 11 = .ok (.ifCond .ne 13, 3) := by decide +kernel
theorem d_ServiceSigns_canServe_14 : decode c_ServiceSigns_canServe 14 = .ok (.iload_n 0, 1) := by decide +kernel
theorem d_ServiceSigns_canServe_15 : decode c_ServiceSigns_canServe 15 = .ok (.bipush 32, 2) := by decide +kernel
theorem d_ServiceSigns_canServe_17 : decode c_ServiceSigns_canServe 17 = .ok (.if_icmp .eq 7, 3) := by decide +kernel
theorem d_ServiceSigns_canServe_20 : decode c_ServiceSigns_canServe 20 = .ok (.iconst 1, 1) := by decide +kernel
theorem d_ServiceSigns_canServe_21 : decode c_ServiceSigns_canServe 21 = .ok (.goto 4, 3) := by decide +kernel
theorem d_ServiceSigns_canServe_24 : decode c_ServiceSigns_canServe 24 = .ok (.iconst 0, 1) := by decide +kernel
theorem d_ServiceSigns_canServe_25 : decode c_ServiceSigns_canServe 25 = .ok (.ireturn, 1) := by decide +kernel
theorem d_SignRow_init_0 : decode c_SignRow_init 0 = .ok (.aload_n 0, 1) := by decide +kernel
theorem d_SignRow_init_1 : decode c_SignRow_init 1 = .ok (.invokespecial 3, 3) := by decide +kernel
theorem d_SignRow_init_4 : decode c_SignRow_init 4 = .ok (.aload_n 0, 1) := by decide +kernel
theorem d_SignRow_init_5 : decode c_SignRow_init 5 = .ok (.sipush 1500, 3) := by decide +kernel
theorem d_SignRow_init_8 : decode c_SignRow_init 8 = .ok (.newarray .int, 2) := by decide +kernel
theorem d_SignRow_init_10 : decode c_SignRow_init 10 = .ok (.putfield 9, 3) := by decide +kernel
theorem d_SignRow_init_13 : decode c_SignRow_init 13 = .ok (.aload_n 0, 1) := by decide +kernel
theorem d_SignRow_init_14 : decode c_SignRow_init 14 = .ok (.iconst 0, 1) := by decide +kernel
theorem d_SignRow_init_15 : decode c_SignRow_init 15 = .ok (.putfield 15, 3) := by decide +kernel
theorem d_SignRow_init_18 : decode c_SignRow_init 18 = .ok (.return_, 1) := by decide +kernel
theorem d_SignRow_clear_0 : decode c_SignRow_clear 0 = .ok (.aload_n 0, 1) := by decide +kernel
theorem d_SignRow_clear_1 : decode c_SignRow_clear 1 = .ok (.iconst 0, 1) := by decide +kernel
theorem d_SignRow_clear_2 : decode c_SignRow_clear 2 = .ok (.putfield 15, 3) := by decide +kernel
theorem d_SignRow_clear_5 : decode c_SignRow_clear 5 = .ok (.return_, 1) := by decide +kernel
theorem d_SignRow_length_0 : decode c_SignRow_length 0 = .ok (.aload_n 0, 1) := by decide +kernel
theorem d_SignRow_length_1 : decode c_SignRow_length 1 = .ok (.getfield 15, 3) := by decide +kernel
theorem d_SignRow_length_4 : decode c_SignRow_length 4 = .ok (.ireturn, 1) := by decide +kernel
theorem d_SignRow_append_0 : decode c_SignRow_append 0 = .ok (.aload_n 0, 1) := by decide +kernel
theorem d_SignRow_append_1 : decode c_SignRow_append 1 = .ok (.getfield 15, 3) := by decide +kernel
theorem d_SignRow_append_4 : decode c_SignRow_append 4 = .ok (.ifCond .lt 15, 3) := by decide +kernel
theorem d_SignRow_append_7 : decode c_SignRow_append 7 = .ok (.aload_n 0, 1) := by decide +kernel
theorem d_SignRow_append_8 : decode c_SignRow_append 8 = .ok (.getfield 15, 3) := by decide +kernel
theorem d_SignRow_append_11 : decode c_SignRow_append 11 = .ok (.aload_n 0, 1) := by decide +kernel
theorem d_SignRow_append_12 : decode c_SignRow_append 12 = .ok (.getfield 9, 3) := by decide +kernel
theorem d_SignRow_append_15 : decode c_SignRow_append 15 = .ok (.arraylength, 1) := by decide +kernel
theorem d_SignRow_append_16 : decode c_SignRow_append 16 = .ok (.if_icmp .lt 5, 3) := by decide +kernel
theorem d_SignRow_append_19 : decode c_SignRow_append 19 = .ok (.iconst 0, 1) := by decide +kernel
theorem d_SignRow_append_20 : decode c_SignRow_append 20 = .ok (.ireturn, 1) := by decide +kernel
theorem d_SignRow_append_21 : decode c_SignRow_append 21 = .ok (.aload_n 0, 1) := by decide +kernel
theorem d_SignRow_append_22 : decode c_SignRow_append 22 = .ok (.getfield 9, 3) := by decide +kernel
theorem d_SignRow_append_25 : decode c_SignRow_append 25 = .ok (.aload_n 0, 1) := by decide +kernel
theorem d_SignRow_append_26 : decode c_SignRow_append 26 = .ok (.getfield 15, 3) := by decide +kernel
theorem d_SignRow_append_29 : decode c_SignRow_append 29 = .ok (.iload_n 1, 1) := by decide +kernel
theorem d_SignRow_append_30 : decode c_SignRow_append 30 = .ok (.iastore, 1) := by decide +kernel
theorem d_SignRow_append_31 : decode c_SignRow_append 31 = .ok (.aload_n 0, 1) := by decide +kernel
theorem d_SignRow_append_32 : decode c_SignRow_append 32 = .ok (.dup, 1) := by decide +kernel
theorem d_SignRow_append_33 : decode c_SignRow_append 33 = .ok (.getfield 15, 3) := by decide +kernel
theorem d_SignRow_append_36 : decode c_SignRow_append 36 = .ok (.iconst 1, 1) := by decide +kernel
theorem d_SignRow_append_37 : decode c_SignRow_append 37 = .ok (.iadd, 1) := by decide +kernel
theorem d_SignRow_append_38 : decode c_SignRow_append 38 = .ok (.putfield 15, 3) := by decide +kernel
theorem d_SignRow_append_41 : decode c_SignRow_append 41 = .ok (.iconst 1, 1) := by decide +kernel
theorem d_SignRow_append_42 : decode c_SignRow_append 42 = .ok (.ireturn, 1) := by decide +kernel
theorem d_SignRow_signAt_0 : decode c_SignRow_signAt 0 = .ok (.iload_n 1, 1) := by decide +kernel
theorem d_SignRow_signAt_1 : decode c_SignRow_signAt 1 = .ok (.ifCond .lt 29, 3) := by decide +kernel
theorem d_SignRow_signAt_4 : decode c_SignRow_signAt 4 = .ok (.iload_n 1, 1) := by decide +kernel
theorem d_SignRow_signAt_5 : decode c_SignRow_signAt 5 = .ok (.aload_n 0, 1) := by decide +kernel
theorem d_SignRow_signAt_6 : decode c_SignRow_signAt 6 = .ok (.getfield 15, 3) := by decide +kernel
theorem d_SignRow_signAt_9 : decode c_SignRow_signAt 9 = .ok (.if_icmp .ge 21, 3) := by decide +kernel
theorem d_SignRow_signAt_12 : decode c_SignRow_signAt 12 = .ok (.iload_n 1, 1) := by decide +kernel
theorem d_SignRow_signAt_13 : decode c_SignRow_signAt 13 = .ok (.aload_n 0, 1) := by decide +kernel
theorem d_SignRow_signAt_14 : decode c_SignRow_signAt 14 = .ok (.getfield 9, 3) := by decide +kernel
theorem d_SignRow_signAt_17 : decode c_SignRow_signAt 17 = .ok (.arraylength, 1) := by decide +kernel
theorem d_SignRow_signAt_18 : decode c_SignRow_signAt 18 = .ok (.if_icmp .ge 12, 3) := by decide +kernel
theorem d_SignRow_signAt_21 : decode c_SignRow_signAt 21 = .ok (.aload_n 0, 1) := by decide +kernel
theorem d_SignRow_signAt_22 : decode c_SignRow_signAt 22 = .ok (.getfield 9, 3) := by decide +kernel
theorem d_SignRow_signAt_25 : decode c_SignRow_signAt 25 = .ok (.iload_n 1, 1) := by decide +kernel
theorem d_SignRow_signAt_26 : decode c_SignRow_signAt 26 = .ok (.iaload, 1) := by decide +kernel
theorem d_SignRow_signAt_27 : decode c_SignRow_signAt 27 = .ok (.goto 4, 3) := by decide +kernel
theorem d_SignRow_signAt_30 : decode c_SignRow_signAt 30 = .ok (.iconst 0, 1) := by decide +kernel
theorem d_SignRow_signAt_31 : decode c_SignRow_signAt 31 = .ok (.ireturn, 1) := by decide +kernel
theorem d_Tag_isCapital_0 : decode c_Tag_isCapital 0 = .ok (.iload_n 0, 1) := by decide +kernel
theorem d_Tag_isCapital_1 : decode c_Tag_isCapital 1 = .ok (.bipush 65, 2) := by decide +kernel
theorem d_Tag_isCapital_3 : decode c_Tag_isCapital 3 = .ok (.if_icmp .lt 13, 3) := by decide +kernel
theorem d_Tag_isCapital_6 : decode c_Tag_isCapital 6 = .ok (.iload_n 0, 1) := by decide +kernel
theorem d_Tag_isCapital_7 : decode c_Tag_isCapital 7 = .ok (.bipush 90, 2) := by decide +kernel
theorem d_Tag_isCapital_9 : decode c_Tag_isCapital 9 = .ok (.if_icmp .gt 7, 3) := by decide +kernel
theorem d_Tag_isCapital_12 : decode c_Tag_isCapital 12 = .ok (.iconst 1, 1) := by decide +kernel
theorem d_Tag_isCapital_13 : decode c_Tag_isCapital 13 = .ok (.goto 4, 3) := by decide +kernel
theorem d_Tag_isCapital_16 : decode c_Tag_isCapital 16 = .ok (.iconst 0, 1) := by decide +kernel
theorem d_Tag_isCapital_17 : decode c_Tag_isCapital 17 = .ok (.ireturn, 1) := by decide +kernel
theorem d_Tag_isSmall_0 : decode c_Tag_isSmall 0 = .ok (.iload_n 0, 1) := by decide +kernel
theorem d_Tag_isSmall_1 : decode c_Tag_isSmall 1 = .ok (.bipush 97, 2) := by decide +kernel
theorem d_Tag_isSmall_3 : decode c_Tag_isSmall 3 = .ok (.if_icmp .lt 13, 3) := by decide +kernel
theorem d_Tag_isSmall_6 : decode c_Tag_isSmall 6 = .ok (.iload_n 0, 1) := by decide +kernel
theorem d_Tag_isSmall_7 : decode c_Tag_isSmall 7 = .ok (.bipush 122, 2) := by decide +kernel
theorem d_Tag_isSmall_9 : decode c_Tag_isSmall 9 = .ok (.if_icmp .gt 7, 3) := by decide +kernel
theorem d_Tag_isSmall_12 : decode c_Tag_isSmall 12 = .ok (.iconst 1, 1) := by decide +kernel
theorem d_Tag_isSmall_13 : decode c_Tag_isSmall 13 = .ok (.goto 4, 3) := by decide +kernel
theorem d_Tag_isSmall_16 : decode c_Tag_isSmall 16 = .ok (.iconst 0, 1) := by decide +kernel
theorem d_Tag_isSmall_17 : decode c_Tag_isSmall 17 = .ok (.ireturn, 1) := by decide +kernel
theorem d_Tag_isDigit_0 : decode c_Tag_isDigit 0 = .ok (.iload_n 0, 1) := by decide +kernel
theorem d_Tag_isDigit_1 : decode c_Tag_isDigit 1 = .ok (.bipush 48, 2) := by decide +kernel
theorem d_Tag_isDigit_3 : decode c_Tag_isDigit 3 = .ok (.if_icmp .lt 13, 3) := by decide +kernel
theorem d_Tag_isDigit_6 : decode c_Tag_isDigit 6 = .ok (.iload_n 0, 1) := by decide +kernel
theorem d_Tag_isDigit_7 : decode c_Tag_isDigit 7 = .ok (.bipush 57, 2) := by decide +kernel
theorem d_Tag_isDigit_9 : decode c_Tag_isDigit 9 = .ok (.if_icmp .gt 7, 3) := by decide +kernel
theorem d_Tag_isDigit_12 : decode c_Tag_isDigit 12 = .ok (.iconst 1, 1) := by decide +kernel
theorem d_Tag_isDigit_13 : decode c_Tag_isDigit 13 = .ok (.goto 4, 3) := by decide +kernel
theorem d_Tag_isDigit_16 : decode c_Tag_isDigit 16 = .ok (.iconst 0, 1) := by decide +kernel
theorem d_Tag_isDigit_17 : decode c_Tag_isDigit 17 = .ok (.ireturn, 1) := by decide +kernel
theorem d_Tag_isLaterSign_0 : decode c_Tag_isLaterSign 0 = .ok (.iload_n 0, 1) := by decide +kernel
theorem d_Tag_isLaterSign_1 : decode c_Tag_isLaterSign 1 = .ok (.invokestatic 7, 3) := by decide +kernel
theorem d_Tag_isLaterSign_4 : decode c_Tag_isLaterSign 4 = .ok (.ifCond .ne 10, 3) := by decide +kernel
theorem d_Tag_isLaterSign_7 : decode c_Tag_isLaterSign 7 = .ok (.iload_n 0, 1) := by decide +kernel
theorem d_Tag_isLaterSign_8 : decode c_Tag_isLaterSign 8 = .ok (.invokestatic 13, 3) := by decide +kernel
theorem d_Tag_isLaterSign_11 : decode c_Tag_isLaterSign 11 = .ok (.ifCond .eq 7, 3) := by decide +kernel
theorem d_Tag_isLaterSign_14 : decode c_Tag_isLaterSign 14 = .ok (.iconst 1, 1) := by decide +kernel
theorem d_Tag_isLaterSign_15 : decode c_Tag_isLaterSign 15 = .ok (.goto 4, 3) := by decide +kernel
theorem d_Tag_isLaterSign_18 : decode c_Tag_isLaterSign 18 = .ok (.iconst 0, 1) := by decide +kernel
theorem d_Tag_isLaterSign_19 : decode c_Tag_isLaterSign 19 = .ok (.ireturn, 1) := by decide +kernel
theorem d_Tag_isTag_0 : decode c_Tag_isTag 0 = .ok (.iload_n 0, 1) := by decide +kernel
theorem d_Tag_isTag_1 : decode c_Tag_isTag 1 = .ok (.invokestatic 16, 3) := by decide +kernel
theorem d_Tag_isTag_4 : decode c_Tag_isTag 4 = .ok (.invokestatic 7, 3) := by decide +kernel
theorem d_Tag_isTag_7 : decode c_Tag_isTag 7 = .ok (.ifCond .eq 27, 3) := by decide +kernel
theorem d_Tag_isTag_10 : decode c_Tag_isTag 10 = .ok (.iload_n 0, 1) := by decide +kernel
theorem d_Tag_isTag_11 : decode c_Tag_isTag 11 = .ok (.invokestatic 20, 3) := by decide +kernel
theorem d_Tag_isTag_14 : decode c_Tag_isTag 14 = .ok (.invokestatic 23, 3) := by decide +kernel
theorem d_Tag_isTag_17 : decode c_Tag_isTag 17 = .ok (.ifCond .eq 17, 3) := by decide +kernel
theorem d_Tag_isTag_20 : decode c_Tag_isTag 20 = .ok (.iload_n 0, 1) := by decide +kernel
theorem d_Tag_isTag_21 : decode c_Tag_isTag 21 = .ok (.invokestatic 26, 3) := by decide +kernel
theorem d_Tag_isTag_24 : decode c_Tag_isTag 24 = .ok (.invokestatic 23, 3) := by decide +kernel
theorem d_Tag_isTag_27 : decode c_Tag_isTag 27 = .ok (.ifCond .eq 7, 3) := by decide +kernel
theorem d_Tag_isTag_30 : decode c_Tag_isTag 30 = .ok (.iconst 1, 1) := by decide +kernel
theorem d_Tag_isTag_31 : decode c_Tag_isTag 31 = .ok (.goto 4, 3) := by decide +kernel
theorem d_Tag_isTag_34 : decode c_Tag_isTag 34 = .ok (.iconst 0, 1) := by decide +kernel
theorem d_Tag_isTag_35 : decode c_Tag_isTag 35 = .ok (.ireturn, 1) := by decide +kernel
theorem d_Tag_first_0 : decode c_Tag_first 0 = .ok (.iload_n 0, 1) := by decide +kernel
theorem d_Tag_first_1 : decode c_Tag_first 1 = .ok (.bipush 16, 2) := by decide +kernel
theorem d_Tag_first_3 : decode c_Tag_first 3 = .ok (.ishr, 1) := by decide +kernel
theorem d_Tag_first_4 : decode c_Tag_first 4 = .ok (.ireturn, 1) := by decide +kernel
theorem d_Tag_second_0 : decode c_Tag_second 0 = .ok (.iload_n 0, 1) := by decide +kernel
theorem d_Tag_second_1 : decode c_Tag_second 1 = .ok (.bipush 8, 2) := by decide +kernel
theorem d_Tag_second_3 : decode c_Tag_second 3 = .ok (.ishr, 1) := by decide +kernel
theorem d_Tag_second_4 : decode c_Tag_second 4 = .ok (.sipush 255, 3) := by decide +kernel
theorem d_Tag_second_7 : decode c_Tag_second 7 = .ok (.iand, 1) := by decide +kernel
theorem d_Tag_second_8 : decode c_Tag_second 8 = .ok (.ireturn, 1) := by decide +kernel
theorem d_Tag_third_0 : decode c_Tag_third 0 = .ok (.iload_n 0, 1) := by decide +kernel
theorem d_Tag_third_1 : decode c_Tag_third 1 = .ok (.sipush 255, 3) := by decide +kernel
theorem d_Tag_third_4 : decode c_Tag_third 4 = .ok (.iand, 1) := by decide +kernel
theorem d_Tag_third_5 : decode c_Tag_third 5 = .ok (.ireturn, 1) := by decide +kernel
theorem d_Writer_init_0 : decode c_Writer_init 0 = .ok (.aload_n 0, 1) := by decide +kernel
theorem d_Writer_init_1 : decode c_Writer_init 1 = .ok (.invokespecial 3, 3) := by decide +kernel
theorem d_Writer_init_4 : decode c_Writer_init 4 = .ok (.aload_n 0, 1) := by decide +kernel
theorem d_Writer_init_5 : decode c_Writer_init 5 = .ok (.aload_n 1, 1) := by decide +kernel
theorem d_Writer_init_6 : decode c_Writer_init 6 = .ok (.putfield 9, 3) := by decide +kernel
theorem d_Writer_init_9 : decode c_Writer_init 9 = .ok (.aload_n 0, 1) := by decide +kernel
theorem d_Writer_init_10 : decode c_Writer_init 10 = .ok (.aload_n 2, 1) := by decide +kernel
theorem d_Writer_init_11 : decode c_Writer_init 11 = .ok (.putfield 15, 3) := by decide +kernel
theorem d_Writer_init_14 : decode c_Writer_init 14 = .ok (.aload_n 0, 1) := by decide +kernel
theorem d_Writer_init_15 : decode c_Writer_init 15 = .ok (.aload_n 3, 1) := by decide +kernel
theorem d_Writer_init_16 : decode c_Writer_init 16 = .ok (.putfield 19, 3) := by decide +kernel
theorem d_Writer_init_19 : decode c_Writer_init 19 = .ok (.return_, 1) := by decide +kernel
theorem d_Writer_write_0 : decode c_Writer_write 0 = .ok (.aload_n 0, 1) := by decide +kernel
theorem d_Writer_write_1 : decode c_Writer_write 1 = .ok (.getfield 19, 3) := by decide +kernel
theorem d_Writer_write_4 : decode c_Writer_write 4 = .ok (.invokevirtual 23, 3) := by decide +kernel
theorem d_Writer_write_7 : decode c_Writer_write 7 = .ok (.iconst 0, 1) := by decide +kernel
theorem d_Writer_write_8 : decode c_Writer_write 8 = .ok (.istore_n 1, 1) := by decide +kernel
theorem d_Writer_write_9 : decode c_Writer_write 9 = .ok (.iload_n 1, 1) := by decide +kernel
theorem d_Writer_write_10 : decode c_Writer_write 10 = .ok (.aload_n 0, 1) := by decide +kernel
theorem d_Writer_write_11 : decode c_Writer_write 11 = .ok (.getfield 9, 3) := by decide +kernel
theorem d_Writer_write_14 : decode c_Writer_write 14 = .ok (.invokevirtual 28, 3) := by decide +kernel
theorem d_Writer_write_17 : decode c_Writer_write 17 = .ok (.if_icmp .ge 63, 3) := by decide +kernel
theorem d_Writer_write_20 : decode c_Writer_write 20 = .ok (.aload_n 0, 1) := by decide +kernel
theorem d_Writer_write_21 : decode c_Writer_write 21 = .ok (.aload_n 0, 1) := by decide +kernel
theorem d_Writer_write_22 : decode c_Writer_write 22 = .ok (.getfield 9, 3) := by decide +kernel
theorem d_Writer_write_25 : decode c_Writer_write 25 = .ok (.iload_n 1, 1) := by decide +kernel
theorem d_Writer_write_26 : decode c_Writer_write 26 = .ok (.invokevirtual 34, 3) := by decide +kernel
theorem d_Writer_write_29 : decode c_Writer_write 29 = .ok (.invokevirtual 38, 3) := by decide +kernel
theorem d_Writer_write_32 : decode c_Writer_write 32 = .ok (.aload_n 0, 1) := by decide +kernel
theorem d_Writer_write_33 : decode c_Writer_write 33 = .ok (.iload_n 1, 1) := by decide +kernel
theorem d_Writer_write_34 : decode c_Writer_write 34 = .ok (.invokevirtual 42, 3) := by decide +kernel
theorem d_Writer_write_37 : decode c_Writer_write 37 = .ok (.istore_n 2, 1) := by decide +kernel
theorem d_Writer_write_38 : decode c_Writer_write 38 = .ok (.iconst 0, 1) := by decide +kernel
theorem d_Writer_write_39 : decode c_Writer_write 39 = .ok (.istore_n 3, 1) := by decide +kernel
theorem d_Writer_write_40 : decode c_Writer_write 40 = .ok (.iload_n 3, 1) := by decide +kernel
theorem d_Writer_write_41 : decode c_Writer_write 41 = .ok (.iload_n 2, 1) := by decide +kernel
theorem d_Writer_write_42 : decode c_Writer_write 42 = .ok (.if_icmp .ge 27, 3) := by decide +kernel
theorem d_Writer_write_45 : decode c_Writer_write 45 = .ok (.aload_n 0, 1) := by decide +kernel
theorem d_Writer_write_46 : decode c_Writer_write 46 = .ok (.iconst 1, 1) := by decide +kernel
theorem d_Writer_write_47 : decode c_Writer_write 47 = .ok (.invokevirtual 47, 3) := by decide +kernel
theorem d_Writer_write_50 : decode c_Writer_write 50 = .ok (.aload_n 0, 1) := by decide +kernel
theorem d_Writer_write_51 : decode c_Writer_write 51 = .ok (.aload_n 0, 1) := by decide +kernel
theorem d_Writer_write_52 : decode c_Writer_write 52 = .ok (.getfield 9, 3) := by decide +kernel
theorem d_Writer_write_55 : decode c_Writer_write 55 = .ok (.iload_n 1, 1) := by decide +kernel
theorem d_Writer_write_56 : decode c_Writer_write 56 = .ok (.iload_n 3, 1) := by decide +kernel
theorem d_Writer_write_57 : decode c_Writer_write 57 = .ok (.invokevirtual 50, 3) := by decide +kernel
theorem d_Writer_write_60 : decode c_Writer_write 60 = .ok (.invokevirtual 54, 3) := by decide +kernel
theorem d_Writer_write_63 : decode c_Writer_write 63 = .ok (.iinc 3 1, 3) := by decide +kernel
theorem d_Writer_write_66 : decode c_Writer_write 66 = .ok (.goto (-26), 3) := by decide +kernel
theorem d_Writer_write_69 : decode c_Writer_write 69 = .ok (.aload_n 0, 1) := by decide +kernel
theorem d_Writer_write_70 : decode c_Writer_write 70 = .ok (.iconst 4, 1) := by decide +kernel
theorem d_Writer_write_71 : decode c_Writer_write 71 = .ok (.invokevirtual 47, 3) := by decide +kernel
theorem d_Writer_write_74 : decode c_Writer_write 74 = .ok (.iinc 1 1, 3) := by decide +kernel
theorem d_Writer_write_77 : decode c_Writer_write 77 = .ok (.goto (-68), 3) := by decide +kernel
theorem d_Writer_write_80 : decode c_Writer_write 80 = .ok (.return_, 1) := by decide +kernel
theorem d_Writer_writeTag_0 : decode c_Writer_writeTag 0 = .ok (.aload_n 0, 1) := by decide +kernel
theorem d_Writer_writeTag_1 : decode c_Writer_writeTag 1 = .ok (.getfield 19, 3) := by decide +kernel
theorem d_Writer_writeTag_4 : decode c_Writer_writeTag 4 = .ok (.iload_n 1, 1) := by decide +kernel
theorem d_Writer_writeTag_5 : decode c_Writer_writeTag 5 = .ok (.invokestatic 57, 3) := by decide +kernel
theorem d_Writer_writeTag_8 : decode c_Writer_writeTag 8 = .ok (.invokevirtual 62, 3) := by decide +kernel
theorem d_Writer_writeTag_11 : decode c_Writer_writeTag 11 = .ok (.pop, 1) := by decide +kernel
theorem d_Writer_writeTag_12 : decode c_Writer_writeTag 12 = .ok (.aload_n 0, 1) := by decide +kernel
theorem d_Writer_writeTag_13 : decode c_Writer_writeTag 13 = .ok (.getfield 19, 3) := by decide +kernel
theorem d_Writer_writeTag_16 : decode c_Writer_writeTag 16 = .ok (.iload_n 1, 1) := by decide +kernel
theorem d_Writer_writeTag_17 : decode c_Writer_writeTag 17 = .ok (.invokestatic 66, 3) := by decide +kernel
theorem d_Writer_writeTag_20 : decode c_Writer_writeTag 20 = .ok (.invokevirtual 62, 3) := by decide +kernel
theorem d_Writer_writeTag_23 : decode c_Writer_writeTag 23 = .ok (.pop, 1) := by decide +kernel
theorem d_Writer_writeTag_24 : decode c_Writer_writeTag 24 = .ok (.aload_n 0, 1) := by decide +kernel
theorem d_Writer_writeTag_25 : decode c_Writer_writeTag 25 = .ok (.getfield 19, 3) := by decide +kernel
theorem d_Writer_writeTag_28 : decode c_Writer_writeTag 28 = .ok (.iload_n 1, 1) := by decide +kernel
theorem d_Writer_writeTag_29 : decode c_Writer_writeTag 29 = .ok (.invokestatic 69, 3) := by decide +kernel
theorem d_Writer_writeTag_32 : decode c_Writer_writeTag 32 = .ok (.invokevirtual 62, 3) := by decide +kernel
theorem d_Writer_writeTag_35 : decode c_Writer_writeTag 35 = .ok (.pop, 1) := by decide +kernel
theorem d_Writer_writeTag_36 : decode c_Writer_writeTag 36 = .ok (.return_, 1) := by decide +kernel
theorem d_Writer_writeRepeats_0 : decode c_Writer_writeRepeats 0 = .ok (.aload_n 0, 1) := by decide +kernel
theorem d_Writer_writeRepeats_1 : decode c_Writer_writeRepeats 1 = .ok (.iload_n 1, 1) := by decide +kernel
theorem d_Writer_writeRepeats_2 : decode c_Writer_writeRepeats 2 = .ok (.invokevirtual 72, 3) := by decide +kernel
theorem d_Writer_writeRepeats_5 : decode c_Writer_writeRepeats 5 = .ok (.istore_n 2, 1) := by decide +kernel
theorem d_Writer_writeRepeats_6 : decode c_Writer_writeRepeats 6 = .ok (.iconst 0, 1) := by decide +kernel
theorem d_Writer_writeRepeats_7 : decode c_Writer_writeRepeats 7 = .ok (.istore_n 3, 1) := by decide +kernel
theorem d_Writer_writeRepeats_8 : decode c_Writer_writeRepeats 8 = .ok (.iload_n 3, 1) := by decide +kernel
theorem d_Writer_writeRepeats_9 : decode c_Writer_writeRepeats 9 = .ok (.iload_n 2, 1) := by decide +kernel
theorem d_Writer_writeRepeats_10 : decode c_Writer_writeRepeats 10 = .ok (.if_icmp .ge 31, 3) := by decide +kernel
theorem d_Writer_writeRepeats_13 : decode c_Writer_writeRepeats 13 = .ok (.iload_n 3, 1) := by decide +kernel
theorem d_Writer_writeRepeats_14 : decode c_Writer_writeRepeats 14 = .ok (.ifCond .le 8, 3) := by decide +kernel
theorem d_Writer_writeRepeats_17 : decode c_Writer_writeRepeats 17 = .ok (.aload_n 0, 1) := by decide +kernel
theorem d_Writer_writeRepeats_18 : decode c_Writer_writeRepeats 18 = .ok (.iconst 3, 1) := by decide +kernel
theorem d_Writer_writeRepeats_19 : decode c_Writer_writeRepeats 19 = .ok (.invokevirtual 47, 3) := by decide +kernel
theorem d_Writer_writeRepeats_22 : decode c_Writer_writeRepeats 22 = .ok (.aload_n 0, 1) := by decide +kernel
theorem d_Writer_writeRepeats_23 : decode c_Writer_writeRepeats 23 = .ok (.aload_n 0, 1) := by decide +kernel
theorem d_Writer_writeRepeats_24 : decode c_Writer_writeRepeats 24 = .ok (.getfield 9, 3) := by decide +kernel
theorem d_Writer_writeRepeats_27 : decode c_Writer_writeRepeats 27 = .ok (.iload_n 1, 1) := by decide +kernel
theorem d_Writer_writeRepeats_28 : decode c_Writer_writeRepeats 28 = .ok (.iload_n 3, 1) := by decide +kernel
theorem d_Writer_writeRepeats_29 : decode c_Writer_writeRepeats 29 = .ok (.invokevirtual 75, 3) := by decide +kernel
theorem d_Writer_writeRepeats_32 : decode c_Writer_writeRepeats 32 = .ok (.invokevirtual 78, 3) := by decide +kernel
theorem d_Writer_writeRepeats_35 : decode c_Writer_writeRepeats 35 = .ok (.iinc 3 1, 3) := by decide +kernel
theorem d_Writer_writeRepeats_38 : decode c_Writer_writeRepeats 38 = .ok (.goto (-30), 3) := by decide +kernel
theorem d_Writer_writeRepeats_41 : decode c_Writer_writeRepeats 41 = .ok (.return_, 1) := by decide +kernel
theorem d_Writer_writeComponents_0 : decode c_Writer_writeComponents 0 = .ok (.aload_n 0, 1) := by decide +kernel
theorem d_Writer_writeComponents_1 : decode c_Writer_writeComponents 1 = .ok (.iload_n 1, 1) := by decide +kernel
theorem d_Writer_writeComponents_2 : decode c_Writer_writeComponents 2 = .ok (.invokevirtual 81, 3) := by decide +kernel
theorem d_Writer_writeComponents_5 : decode c_Writer_writeComponents 5 = .ok (.istore_n 2, 1) := by decide +kernel
theorem d_Writer_writeComponents_6 : decode c_Writer_writeComponents 6 = .ok (.iconst 0, 1) := by decide +kernel
theorem d_Writer_writeComponents_7 : decode c_Writer_writeComponents 7 = .ok (.istore_n 3, 1) := by decide +kernel
theorem d_Writer_writeComponents_8 : decode c_Writer_writeComponents 8 = .ok (.iload_n 3, 1) := by decide +kernel
theorem d_Writer_writeComponents_9 : decode c_Writer_writeComponents 9 = .ok (.iload_n 2, 1) := by decide +kernel
theorem d_Writer_writeComponents_10 : decode c_Writer_writeComponents 10 = .ok (.if_icmp .ge 31, 3) := by decide +kernel
theorem d_Writer_writeComponents_13 : decode c_Writer_writeComponents 13 = .ok (.iload_n 3, 1) := by decide +kernel
theorem d_Writer_writeComponents_14 : decode c_Writer_writeComponents 14 = .ok (.ifCond .le 8, 3) := by decide +kernel
theorem d_Writer_writeComponents_17 : decode c_Writer_writeComponents 17 = .ok (.aload_n 0, 1) := by decide +kernel
theorem d_Writer_writeComponents_18 : decode c_Writer_writeComponents 18 = .ok (.iconst 0, 1) := by decide +kernel
theorem d_Writer_writeComponents_19 : decode c_Writer_writeComponents 19 = .ok (.invokevirtual 47, 3) := by decide +kernel
theorem d_Writer_writeComponents_22 : decode c_Writer_writeComponents 22 = .ok (.aload_n 0, 1) := by decide +kernel
theorem d_Writer_writeComponents_23 : decode c_Writer_writeComponents 23 = .ok (.aload_n 0, 1) := by decide +kernel
theorem d_Writer_writeComponents_24 : decode c_Writer_writeComponents 24 = .ok (.getfield 9, 3) := by decide +kernel
theorem d_Writer_writeComponents_27 : decode c_Writer_writeComponents 27 = .ok (.iload_n 1, 1) := by decide +kernel
theorem d_Writer_writeComponents_28 : decode c_Writer_writeComponents 28 = .ok (.iload_n 3, 1) := by decide +kernel
theorem d_Writer_writeComponents_29 : decode c_Writer_writeComponents 29 = .ok (.invokevirtual 84, 3) := by decide +kernel
theorem d_Writer_writeComponents_32 : decode c_Writer_writeComponents 32 = .ok (.invokevirtual 87, 3) := by decide +kernel
theorem d_Writer_writeComponents_35 : decode c_Writer_writeComponents 35 = .ok (.iinc 3 1, 3) := by decide +kernel
theorem d_Writer_writeComponents_38 : decode c_Writer_writeComponents 38 = .ok (.goto (-30), 3) := by decide +kernel
theorem d_Writer_writeComponents_41 : decode c_Writer_writeComponents 41 = .ok (.return_, 1) := by decide +kernel
theorem d_Writer_writeLetters_0 : decode c_Writer_writeLetters 0 = .ok (.aload_n 0, 1) := by decide +kernel
theorem d_Writer_writeLetters_1 : decode c_Writer_writeLetters 1 = .ok (.getfield 9, 3) := by decide +kernel
theorem d_Writer_writeLetters_4 : decode c_Writer_writeLetters 4 = .ok (.iload_n 1, 1) := by decide +kernel
theorem d_Writer_writeLetters_5 : decode c_Writer_writeLetters 5 = .ok (.invokevirtual 90, 3) := by decide +kernel
theorem d_Writer_writeLetters_8 : decode c_Writer_writeLetters 8 = .ok (.istore_n 2, 1) := by decide +kernel
theorem d_Writer_writeLetters_9 : decode c_Writer_writeLetters 9 = .ok (.iconst 0, 1) := by decide +kernel
theorem d_Writer_writeLetters_10 : decode c_Writer_writeLetters 10 = .ok (.istore_n 3, 1) := by decide +kernel
theorem d_Writer_writeLetters_11 : decode c_Writer_writeLetters 11 = .ok (.iload_n 3, 1) := by decide +kernel
theorem d_Writer_writeLetters_12 : decode c_Writer_writeLetters 12 = .ok (.iload_n 2, 1) := by decide +kernel
theorem d_Writer_writeLetters_13 : decode c_Writer_writeLetters 13 = .ok (.if_icmp .ge 48, 3) := by decide +kernel
theorem d_Writer_writeLetters_16 : decode c_Writer_writeLetters 16 = .ok (.aload_n 0, 1) := by decide +kernel
theorem d_Writer_writeLetters_17 : decode c_Writer_writeLetters 17 = .ok (.getfield 9, 3) := by decide +kernel
theorem d_Writer_writeLetters_20 : decode c_Writer_writeLetters 20 = .ok (.iload_n 1, 1) := by decide +kernel
theorem d_Writer_writeLetters_21 : decode c_Writer_writeLetters 21 = .ok (.iload_n 3, 1) := by decide +kernel
theorem d_Writer_writeLetters_22 : decode c_Writer_writeLetters 22 = .ok (.invokevirtual 93, 3) := by decide +kernel
theorem d_Writer_writeLetters_25 : decode c_Writer_writeLetters 25 = .ok (.istore 4, 2) := by decide +kernel
theorem d_Writer_writeLetters_27 : decode c_Writer_writeLetters 27 = .ok (.aload_n 0, 1) := by decide +kernel
theorem d_Writer_writeLetters_28 : decode c_Writer_writeLetters 28 = .ok (.getfield 15, 3) := by decide +kernel
theorem d_Writer_writeLetters_31 : decode c_Writer_writeLetters 31 = .ok (.iload 4, 2) := by decide +kernel
theorem d_Writer_writeLetters_33 : decode c_Writer_writeLetters 33 = .ok (.invokevirtual 96, 3) := by decide +kernel
theorem d_Writer_writeLetters_36 : decode c_Writer_writeLetters 36 = .ok (.iconst (-1), 1) := by decide +kernel
theorem d_Writer_writeLetters_37 : decode c_Writer_writeLetters 37 = .ok (.if_icmp .eq 8, 3) := by decide +kernel
theorem d_Writer_writeLetters_40 : decode c_Writer_writeLetters 40 = .ok (.aload_n 0, 1) := by decide +kernel
theorem d_Writer_writeLetters_41 : decode c_Writer_writeLetters 41 = .ok (.iconst 2, 1) := by decide +kernel
theorem d_Writer_writeLetters_42 : decode c_Writer_writeLetters 42 = .ok (.invokevirtual 47, 3) := by decide +kernel
theorem d_Writer_writeLetters_45 : decode c_Writer_writeLetters 45 = .ok (.aload_n 0, 1) := by decide +kernel
theorem d_Writer_writeLetters_46 : decode c_Writer_writeLetters 46 = .ok (.getfield 19, 3) := by decide +kernel
theorem d_Writer_writeLetters_49 : decode c_Writer_writeLetters 49 = .ok (.iload 4, 2) := by decide +kernel
theorem d_Writer_writeLetters_51 : decode c_Writer_writeLetters 51 = .ok (.invokevirtual 62, 3) := by decide +kernel
theorem d_Writer_writeLetters_54 : decode c_Writer_writeLetters 54 = .ok (.pop, 1) := by decide +kernel
theorem d_Writer_writeLetters_55 : decode c_Writer_writeLetters 55 = .ok (.iinc 3 1, 3) := by decide +kernel
theorem d_Writer_writeLetters_58 : decode c_Writer_writeLetters 58 = .ok (.goto (-47), 3) := by decide +kernel
theorem d_Writer_writeLetters_61 : decode c_Writer_writeLetters 61 = .ok (.return_, 1) := by decide +kernel
theorem d_Writer_writeService_0 : decode c_Writer_writeService 0 = .ok (.aload_n 0, 1) := by decide +kernel
theorem d_Writer_writeService_1 : decode c_Writer_writeService 1 = .ok (.getfield 19, 3) := by decide +kernel
theorem d_Writer_writeService_4 : decode c_Writer_writeService 4 = .ok (.aload_n 0, 1) := by decide +kernel
theorem d_Writer_writeService_5 : decode c_Writer_writeService 5 = .ok (.getfield 15, 3) := by decide +kernel
theorem d_Writer_writeService_8 : decode c_Writer_writeService 8 = .ok (.iload_n 1, 1) := by decide +kernel
theorem d_Writer_writeService_9 : decode c_Writer_writeService 9 = .ok (.invokevirtual 99, 3) := by decide +kernel
theorem d_Writer_writeService_12 : decode c_Writer_writeService 12 = .ok (.invokevirtual 62, 3) := by decide +kernel
theorem d_Writer_writeService_15 : decode c_Writer_writeService 15 = .ok (.pop, 1) := by decide +kernel
theorem d_Writer_writeService_16 : decode c_Writer_writeService 16 = .ok (.return_, 1) := by decide +kernel
theorem d_Writer_keptElements_0 : decode c_Writer_keptElements 0 = .ok (.aload_n 0, 1) := by decide +kernel
theorem d_Writer_keptElements_1 : decode c_Writer_keptElements 1 = .ok (.getfield 9, 3) := by decide +kernel
theorem d_Writer_keptElements_4 : decode c_Writer_keptElements 4 = .ok (.iload_n 1, 1) := by decide +kernel
theorem d_Writer_keptElements_5 : decode c_Writer_keptElements 5 = .ok (.invokevirtual 102, 3) := by decide +kernel
theorem d_Writer_keptElements_8 : decode c_Writer_keptElements 8 = .ok (.istore_n 2, 1) := by decide +kernel
theorem d_Writer_keptElements_9 : decode c_Writer_keptElements 9 = .ok (.iload_n 2, 1) := by decide +kernel
theorem d_Writer_keptElements_10 : decode c_Writer_keptElements 10 = .ok (.ifCond .le 29, 3) := by decide +kernel
theorem d_Writer_keptElements_13 : decode c_Writer_keptElements 13 = .ok (.aload_n 0, 1) := by decide +kernel
theorem d_Writer_keptElements_14 : decode c_Writer_keptElements 14 = .ok (.aload_n 0, 1) := by decide +kernel
theorem d_Writer_keptElements_15 : decode c_Writer_keptElements 15 = .ok (.getfield 9, 3) := by decide +kernel
theorem d_Writer_keptElements_18 : decode c_Writer_keptElements 18 = .ok (.iload_n 1, 1) := by decide +kernel
theorem d_Writer_keptElements_19 : decode c_Writer_keptElements 19 = .ok (.iload_n 2, 1) := by decide +kernel
theorem d_Writer_keptElements_20 : decode c_Writer_keptElements 20 = .ok (.iconst 1, 1) := by decide +kernel
theorem d_Writer_keptElements_21 : decode c_Writer_keptElements 21 = .ok (.isub, 1) := by decide +kernel
theorem d_Writer_keptElements_22 : decode c_Writer_keptElements 22 = .ok (.invokevirtual 50, 3) := by decide +kernel
theorem d_Writer_keptElements_25 : decode c_Writer_keptElements 25 = .ok (.invokevirtual 72, 3) := by decide +kernel
theorem d_Writer_keptElements_28 : decode c_Writer_keptElements 28 = .ok (.ifCond .le 5, 3) := by decide +kernel
theorem d_Writer_keptElements_31 : decode c_Writer_keptElements 31 = .ok (.iload_n 2, 1) := by decide +kernel
theorem d_Writer_keptElements_32 : decode c_Writer_keptElements 32 = .ok (.ireturn, 1) := by decide +kernel
theorem d_Writer_keptElements_33 : decode c_Writer_keptElements 33 = .ok (.iinc 2 (-1), 3) := by decide +kernel
theorem d_Writer_keptElements_36 : decode c_Writer_keptElements 36 = .ok (.goto (-27), 3) := by decide +kernel
theorem d_Writer_keptElements_39 : decode c_Writer_keptElements 39 = .ok (.iconst 0, 1) := by decide +kernel
theorem d_Writer_keptElements_40 : decode c_Writer_keptElements 40 = .ok (.ireturn, 1) := by decide +kernel
theorem d_Writer_keptRepeats_0 : decode c_Writer_keptRepeats 0 = .ok (.aload_n 0, 1) := by decide +kernel
theorem d_Writer_keptRepeats_1 : decode c_Writer_keptRepeats 1 = .ok (.getfield 9, 3) := by decide +kernel
theorem d_Writer_keptRepeats_4 : decode c_Writer_keptRepeats 4 = .ok (.iload_n 1, 1) := by decide +kernel
theorem d_Writer_keptRepeats_5 : decode c_Writer_keptRepeats 5 = .ok (.invokevirtual 105, 3) := by decide +kernel
theorem d_Writer_keptRepeats_8 : decode c_Writer_keptRepeats 8 = .ok (.istore_n 2, 1) := by decide +kernel
theorem d_Writer_keptRepeats_9 : decode c_Writer_keptRepeats 9 = .ok (.iload_n 2, 1) := by decide +kernel
theorem d_Writer_keptRepeats_10 : decode c_Writer_keptRepeats 10 = .ok (.ifCond .le 29, 3) := by decide +kernel
theorem d_Writer_keptRepeats_13 : decode c_Writer_keptRepeats 13 = .ok (.aload_n 0, 1) := by decide +kernel
theorem d_Writer_keptRepeats_14 : decode c_Writer_keptRepeats 14 = .ok (.aload_n 0, 1) := by decide +kernel
theorem d_Writer_keptRepeats_15 : decode c_Writer_keptRepeats 15 = .ok (.getfield 9, 3) := by decide +kernel
theorem d_Writer_keptRepeats_18 : decode c_Writer_keptRepeats 18 = .ok (.iload_n 1, 1) := by decide +kernel
theorem d_Writer_keptRepeats_19 : decode c_Writer_keptRepeats 19 = .ok (.iload_n 2, 1) := by decide +kernel
theorem d_Writer_keptRepeats_20 : decode c_Writer_keptRepeats 20 = .ok (.iconst 1, 1) := by decide +kernel
theorem d_Writer_keptRepeats_21 : decode c_Writer_keptRepeats 21 = .ok (.isub, 1) := by decide +kernel
theorem d_Writer_keptRepeats_22 : decode c_Writer_keptRepeats 22 = .ok (.invokevirtual 75, 3) := by decide +kernel
theorem d_Writer_keptRepeats_25 : decode c_Writer_keptRepeats 25 = .ok (.invokevirtual 81, 3) := by decide +kernel
theorem d_Writer_keptRepeats_28 : decode c_Writer_keptRepeats 28 = .ok (.ifCond .le 5, 3) := by decide +kernel
theorem d_Writer_keptRepeats_31 : decode c_Writer_keptRepeats 31 = .ok (.iload_n 2, 1) := by decide +kernel
theorem d_Writer_keptRepeats_32 : decode c_Writer_keptRepeats 32 = .ok (.ireturn, 1) := by decide +kernel
theorem d_Writer_keptRepeats_33 : decode c_Writer_keptRepeats 33 = .ok (.iinc 2 (-1), 3) := by decide +kernel
theorem d_Writer_keptRepeats_36 : decode c_Writer_keptRepeats 36 = .ok (.goto (-27), 3) := by decide +kernel
theorem d_Writer_keptRepeats_39 : decode c_Writer_keptRepeats 39 = .ok (.iconst 0, 1) := by decide +kernel
theorem d_Writer_keptRepeats_40 : decode c_Writer_keptRepeats 40 = .ok (.ireturn, 1) := by decide +kernel
theorem d_Writer_keptComponents_0 : decode c_Writer_keptComponents 0 = .ok (.aload_n 0, 1) := by decide +kernel
theorem d_Writer_keptComponents_1 : decode c_Writer_keptComponents 1 = .ok (.getfield 9, 3) := by decide +kernel
theorem d_Writer_keptComponents_4 : decode c_Writer_keptComponents 4 = .ok (.iload_n 1, 1) := by decide +kernel
theorem d_Writer_keptComponents_5 : decode c_Writer_keptComponents 5 = .ok (.invokevirtual 108, 3) := by decide +kernel
theorem d_Writer_keptComponents_8 : decode c_Writer_keptComponents 8 = .ok (.istore_n 2, 1) := by decide +kernel
theorem d_Writer_keptComponents_9 : decode c_Writer_keptComponents 9 = .ok (.iload_n 2, 1) := by decide +kernel
theorem d_Writer_keptComponents_10 : decode c_Writer_keptComponents 10 = .ok (.ifCond .le 32, 3) := by decide +kernel
theorem d_Writer_keptComponents_13 : decode c_Writer_keptComponents 13 = .ok (.aload_n 0, 1) := by decide +kernel
theorem d_Writer_keptComponents_14 : decode c_Writer_keptComponents 14 = .ok (.getfield 9, 3) := by decide +kernel
theorem d_Writer_keptComponents_17 : decode c_Writer_keptComponents 17 = .ok (.aload_n 0, 1) := by decide +kernel
theorem d_Writer_keptComponents_18 : decode c_Writer_keptComponents 18 = .ok (.getfield 9, 3) := by decide +kernel
theorem d_Writer_keptComponents_21 : decode c_Writer_keptComponents 21 = .ok (.iload_n 1, 1) := by decide +kernel
theorem d_Writer_keptComponents_22 : decode c_Writer_keptComponents 22 = .ok (.iload_n 2, 1) := by decide +kernel
theorem d_Writer_keptComponents_23 : decode c_Writer_keptComponents 23 = .ok (.iconst 1, 1) := by decide +kernel
theorem d_Writer_keptComponents_24 : decode c_Writer_keptComponents 24 = .ok (.isub, 1) := by decide +kernel
theorem d_Writer_keptComponents_25 : decode c_Writer_keptComponents 25 = .ok (.invokevirtual 84, 3) := by decide +kernel
theorem d_Writer_keptComponents_28 : decode c_Writer_keptComponents 28 = .ok (.invokevirtual 90, 3) := by decide +kernel
theorem d_Writer_keptComponents_31 : decode c_Writer_keptComponents 31 = .ok (.ifCond .le 5, 3) := by decide +kernel
theorem d_Writer_keptComponents_34 : decode c_Writer_keptComponents 34 = .ok (.iload_n 2, 1) := by decide +kernel
theorem d_Writer_keptComponents_35 : decode c_Writer_keptComponents 35 = .ok (.ireturn, 1) := by decide +kernel
theorem d_Writer_keptComponents_36 : decode c_Writer_keptComponents 36 = .ok (.iinc 2 (-1), 3) := by decide +kernel
theorem d_Writer_keptComponents_39 : decode c_Writer_keptComponents 39 = .ok (.goto (-30), 3) := by decide +kernel
theorem d_Writer_keptComponents_42 : decode c_Writer_keptComponents 42 = .ok (.iconst 0, 1) := by decide +kernel
theorem d_Writer_keptComponents_43 : decode c_Writer_keptComponents 43 = .ok (.ireturn, 1) := by decide +kernel
theorem d_Forms_init_0 : decode c_Forms_init 0 = .ok (.aload_n 0, 1) := by decide +kernel
theorem d_Forms_init_1 : decode c_Forms_init 1 = .ok (.invokespecial 1, 3) := by decide +kernel
theorem d_Forms_init_4 : decode c_Forms_init 4 = .ok (.aload_n 0, 1) := by decide +kernel
theorem d_Forms_init_5 : decode c_Forms_init 5 = .ok (.new 7, 3) := by decide +kernel
theorem d_Forms_init_8 : decode c_Forms_init 8 = .ok (.dup, 1) := by decide +kernel
theorem d_Forms_init_9 : decode c_Forms_init 9 = .ok (.invokespecial 9, 3) := by decide +kernel
theorem d_Forms_init_12 : decode c_Forms_init 12 = .ok (.putfield 10, 3) := by decide +kernel
theorem d_Forms_init_15 : decode c_Forms_init 15 = .ok (.aload_n 0, 1) := by decide +kernel
theorem d_Forms_init_16 : decode c_Forms_init 16 = .ok (.new 7, 3) := by decide +kernel
theorem d_Forms_init_19 : decode c_Forms_init 19 = .ok (.dup, 1) := by decide +kernel
theorem d_Forms_init_20 : decode c_Forms_init 20 = .ok (.invokespecial 9, 3) := by decide +kernel
theorem d_Forms_init_23 : decode c_Forms_init 23 = .ok (.putfield 16, 3) := by decide +kernel
theorem d_Forms_init_26 : decode c_Forms_init 26 = .ok (.aload_n 0, 1) := by decide +kernel
