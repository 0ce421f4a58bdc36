theorem dX0_greatestDifference_0 : decode cX0_greatestDifference 0 = .ok (.aload_n 0, 1) := by decide +kernel
theorem dX0_greatestDifference_1 : decode cX0_greatestDifference 1 = .ok (.iconst 0, 1) := by decide +kernel
theorem dX0_greatestDifference_2 : decode cX0_greatestDifference 2 = .ok (.iload_n 1, 1) := by decide +kernel
theorem dX0_greatestDifference_3 : decode cX0_greatestDifference 3 = .ok (.invokevirtual 7, 3) := by decide +kernel
theorem dX0_greatestDifference_6 : decode cX0_greatestDifference 6 = .ok (.aload_n 0, 1) := by decide +kernel
theorem dX0_greatestDifference_7 : decode cX0_greatestDifference 7 = .ok (.iconst 0, 1) := by decide +kernel
theorem dX0_greatestDifference_8 : decode cX0_greatestDifference 8 = .ok (.iload_n 2, 1) := by decide +kernel
theorem dX0_greatestDifference_9 : decode cX0_greatestDifference 9 = .ok (.invokevirtual 7, 3) := by decide +kernel
theorem dX0_greatestDifference_12 : decode cX0_greatestDifference 12 = .ok (.isub, 1) := by decide +kernel
theorem dX0_greatestDifference_13 : decode cX0_greatestDifference 13 = .ok (.istore_n 3, 1) := by decide +kernel
theorem dX0_greatestDifference_14 : decode cX0_greatestDifference 14 = .ok (.iconst 1, 1) := by decide +kernel
theorem dX0_greatestDifference_15 : decode cX0_greatestDifference 15 = .ok (.istore 4, 2) := by decide +kernel
theorem dX0_greatestDifference_17 : decode cX0_greatestDifference 17 = .ok (.iload 4, 2) := by decide +kernel
theorem dX0_greatestDifference_19 : decode cX0_greatestDifference 19 = .ok (.aload_n 0, 1) := by decide +kernel
theorem dX0_greatestDifference_20 : decode cX0_greatestDifference 20 = .ok (.getfield 13, 3) := by decide +kernel
theorem dX0_greatestDifference_23 : decode cX0_greatestDifference 23 = .ok (.if_icmp .ge 29, 3) := by decide +kernel
theorem dX0_greatestDifference_26 : decode cX0_greatestDifference 26 = .ok (.iload_n 3, 1) := by decide +kernel
theorem dX0_greatestDifference_27 : decode cX0_greatestDifference 27 = .ok (.aload_n 0, 1) := by decide +kernel
theorem dX0_greatestDifference_28 : decode cX0_greatestDifference 28 = .ok (.iload 4, 2) := by decide +kernel
theorem dX0_greatestDifference_30 : decode cX0_greatestDifference 30 = .ok (.iload_n 1, 1) := by decide +kernel
theorem dX0_greatestDifference_31 : decode cX0_greatestDifference 31 = .ok (.invokevirtual 7, 3) := by decide +kernel
theorem dX0_greatestDifference_34 : decode cX0_greatestDifference 34 = .ok (.aload_n 0, 1) := by decide +kernel
theorem dX0_greatestDifference_35 : decode cX0_greatestDifference 35 = .ok (.iload 4, 2) := by decide +kernel
theorem dX0_greatestDifference_37 : decode cX0_greatestDifference 37 = .ok (.iload_n 2, 1) := by decide +kernel
theorem dX0_greatestDifference_38 : decode cX0_greatestDifference 38 = .ok (.invokevirtual 7, 3) := by decide +kernel
theorem dX0_greatestDifference_41 : decode cX0_greatestDifference 41 = .ok (.isub, 1) := by decide +kernel
theorem dX0_greatestDifference_42 : decode cX0_greatestDifference 42 = .ok (.invokestatic 17, 3) := by decide +kernel
theorem dX0_greatestDifference_45 : decode cX0_greatestDifference 45 = .ok (.istore_n 3, 1) := by decide +kernel
theorem dX0_greatestDifference_46 : decode cX0_greatestDifference 46 = .ok (.iinc 4 1, 3) := by decide +kernel
theorem dX0_greatestDifference_49 : decode cX0_greatestDifference 49 = .ok (.goto (-32), 3) := by decide +kernel
theorem dX0_greatestDifference_52 : decode cX0_greatestDifference 52 = .ok (.iload_n 3, 1) := by decide +kernel
theorem dX0_greatestDifference_53 : decode cX0_greatestDifference 53 = .ok (.ireturn, 1) := by decide +kernel
theorem dX0_missedRows_0 : decode cX0_missedRows 0 = .ok (.iconst 1, 1) := by decide +kernel
theorem dX0_missedRows_1 : decode cX0_missedRows 1 = .ok (.aload_n 0, 1) := by decide +kernel
theorem dX0_missedRows_2 : decode cX0_missedRows 2 = .ok (.getfield 13, 3) := by decide +kernel
theorem dX0_missedRows_5 : decode cX0_missedRows 5 = .ok (.ishl, 1) := by decide +kernel
theorem dX0_missedRows_6 : decode cX0_missedRows 6 = .ok (.iconst 1, 1) := by decide +kernel
theorem dX0_missedRows_7 : decode cX0_missedRows 7 = .ok (.isub, 1) := by decide +kernel
theorem dX0_missedRows_8 : decode cX0_missedRows 8 = .ok (.istore_n 3, 1) := by decide +kernel
theorem dX0_missedRows_9 : decode cX0_missedRows 9 = .ok (.iconst 0, 1) := by decide +kernel
theorem dX0_missedRows_10 : decode cX0_missedRows 10 = .ok (.istore 4, 2) := by decide +kernel
theorem dX0_missedRows_12 : decode cX0_missedRows 12 = .ok (.iload 4, 2) := by decide +kernel
theorem dX0_missedRows_14 : decode cX0_missedRows 14 = .ok (.aload_n 0, 1) := by decide +kernel
theorem dX0_missedRows_15 : decode cX0_missedRows 15 = .ok (.getfield 22, 3) := by decide +kernel
theorem dX0_missedRows_18 : decode cX0_missedRows 18 = .ok (.if_icmp .ge 75, 3) := by decide +kernel
theorem dX0_missedRows_21 : decode cX0_missedRows 21 = .ok (.iload_n 2, 1) := by decide +kernel
theorem dX0_missedRows_22 : decode cX0_missedRows 22 = .ok (.iconst 1, 1) := by decide +kernel
theorem dX0_missedRows_23 : decode cX0_missedRows 23 = .ok (.iload 4, 2) := by decide +kernel
theorem dX0_missedRows_25 : decode cX0_missedRows 25 = .ok (.ishl, 1) := by decide +kernel
theorem dX0_missedRows_26 : decode cX0_missedRows 26 = .ok (.iand, 1) := by decide +kernel
theorem dX0_missedRows_27 : decode cX0_missedRows 27 = .ok (.ifCond .eq 60, 3) := by decide +kernel
theorem dX0_missedRows_30 : decode cX0_missedRows 30 = .ok (.aload_n 0, 1) := by decide +kernel
theorem dX0_missedRows_31 : decode cX0_missedRows 31 = .ok (.iload_n 1, 1) := by decide +kernel
theorem dX0_missedRows_32 : decode cX0_missedRows 32 = .ok (.iload 4, 2) := by decide +kernel
theorem dX0_missedRows_34 : decode cX0_missedRows 34 = .ok (.invokestatic 25, 3) := by decide +kernel
theorem dX0_missedRows_37 : decode cX0_missedRows 37 = .ok (.istore 5, 2) := by decide +kernel
theorem dX0_missedRows_39 : decode cX0_missedRows 39 = .ok (.iconst 0, 1) := by decide +kernel
theorem dX0_missedRows_40 : decode cX0_missedRows 40 = .ok (.istore 6, 2) := by decide +kernel
theorem dX0_missedRows_42 : decode cX0_missedRows 42 = .ok (.iload 6, 2) := by decide +kernel
theorem dX0_missedRows_44 : decode cX0_missedRows 44 = .ok (.aload_n 0, 1) := by decide +kernel
theorem dX0_missedRows_45 : decode cX0_missedRows 45 = .ok (.getfield 13, 3) := by decide +kernel
theorem dX0_missedRows_48 : decode cX0_missedRows 48 = .ok (.if_icmp .ge 39, 3) := by decide +kernel
theorem dX0_missedRows_51 : decode cX0_missedRows 51 = .ok (.iload 5, 2) := by decide +kernel
theorem dX0_missedRows_53 : decode cX0_missedRows 53 = .ok (.aload_n 0, 1) := by decide +kernel
theorem dX0_missedRows_54 : decode cX0_missedRows 54 = .ok (.iload 6, 2) := by decide +kernel
theorem dX0_missedRows_56 : decode cX0_missedRows 56 = .ok (.iload 4, 2) := by decide +kernel
theorem dX0_missedRows_58 : decode cX0_missedRows 58 = .ok (.invokevirtual 7, 3) := by decide +kernel
theorem dX0_missedRows_61 : decode cX0_missedRows 61 = .ok (.iadd, 1) := by decide +kernel
theorem dX0_missedRows_62 : decode cX0_missedRows 62 = .ok (.aload_n 0, 1) := by decide +kernel
theorem dX0_missedRows_63 : decode cX0_missedRows 63 = .ok (.iload 6, 2) := by decide +kernel
theorem dX0_missedRows_65 : decode cX0_missedRows 65 = .ok (.iload_n 1, 1) := by decide +kernel
theorem dX0_missedRows_66 : decode cX0_missedRows 66 = .ok (.invokevirtual 7, 3) := by decide +kernel
theorem dX0_missedRows_69 : decode cX0_missedRows 69 = .ok (.if_icmp .ne 12, 3) := by decide +kernel
theorem dX0_missedRows_72 : decode cX0_missedRows 72 = .ok (.iload_n 3, 1) := by decide +kernel
theorem dX0_missedRows_73 : decode cX0_missedRows 73 = .ok (.iconst 1, 1) := by decide +kernel
theorem dX0_missedRows_74 : decode cX0_missedRows 74 = .ok (.iload 6, 2) := by decide +kernel
theorem dX0_missedRows_76 : decode cX0_missedRows 76 = .ok (.ishl, 1) := by decide +kernel
theorem dX0_missedRows_77 : decode cX0_missedRows 77 = .ok (.iconst (-1), 1) := by decide +kernel
theorem dX0_missedRows_78 : decode cX0_missedRows 78 = .ok (.ixor, 1) := by decide +kernel
theorem dX0_missedRows_79 : decode cX0_missedRows 79 = .ok (.iand, 1) := by decide +kernel
theorem dX0_missedRows_80 : decode cX0_missedRows 80 = .ok (.istore_n 3, 1) := by decide +kernel
theorem dX0_missedRows_81 : decode cX0_missedRows 81 = .ok (.iinc 6 1, 3) := by decide +kernel
theorem dX0_missedRows_84 : decode cX0_missedRows 84 = .ok (.goto (-42), 3) := by decide +kernel
theorem dX0_missedRows_87 : decode cX0_missedRows 87 = .ok (.iinc 4 1, 3) := by decide +kernel
theorem dX0_missedRows_90 : decode cX0_missedRows 90 = .ok (.goto (-78), 3) := by decide +kernel
theorem dX0_missedRows_93 : decode cX0_missedRows 93 = .ok (.iload_n 3, 1) := by decide +kernel
theorem dX0_missedRows_94 : decode cX0_missedRows 94 = .ok (.ireturn, 1) := by decide +kernel
theorem dX0_neededColumns_0 : decode cX0_neededColumns 0 = .ok (.iconst 1, 1) := by decide +kernel
theorem dX0_neededColumns_1 : decode cX0_neededColumns 1 = .ok (.aload_n 0, 1) := by decide +kernel
theorem dX0_neededColumns_2 : decode cX0_neededColumns 2 = .ok (.getfield 22, 3) := by decide +kernel
theorem dX0_neededColumns_5 : decode cX0_neededColumns 5 = .ok (.ishl, 1) := by decide +kernel
theorem dX0_neededColumns_6 : decode cX0_neededColumns 6 = .ok (.iconst 1, 1) := by decide +kernel
theorem dX0_neededColumns_7 : decode cX0_neededColumns 7 = .ok (.isub, 1) := by decide +kernel
theorem dX0_neededColumns_8 : decode cX0_neededColumns 8 = .ok (.istore_n 1, 1) := by decide +kernel
theorem dX0_neededColumns_9 : decode cX0_neededColumns 9 = .ok (.iconst 0, 1) := by decide +kernel
theorem dX0_neededColumns_10 : decode cX0_neededColumns 10 = .ok (.istore_n 2, 1) := by decide +kernel
theorem dX0_neededColumns_11 : decode cX0_neededColumns 11 = .ok (.iload_n 2, 1) := by decide +kernel
theorem dX0_neededColumns_12 : decode cX0_neededColumns 12 = .ok (.aload_n 0, 1) := by decide +kernel
theorem dX0_neededColumns_13 : decode cX0_neededColumns 13 = .ok (.getfield 22, 3) := by decide +kernel
theorem dX0_neededColumns_16 : decode cX0_neededColumns 16 = .ok (.if_icmp .ge 28, 3) := by decide +kernel
theorem dX0_neededColumns_19 : decode cX0_neededColumns 19 = .ok (.iload_n 1, 1) := by decide +kernel
theorem dX0_neededColumns_20 : decode cX0_neededColumns 20 = .ok (.iconst 1, 1) := by decide +kernel
theorem dX0_neededColumns_21 : decode cX0_neededColumns 21 = .ok (.iload_n 2, 1) := by decide +kernel
theorem dX0_neededColumns_22 : decode cX0_neededColumns 22 = .ok (.ishl, 1) := by decide +kernel
theorem dX0_neededColumns_23 : decode cX0_neededColumns 23 = .ok (.iconst (-1), 1) := by decide +kernel
theorem dX0_neededColumns_24 : decode cX0_neededColumns 24 = .ok (.ixor, 1) := by decide +kernel
theorem dX0_neededColumns_25 : decode cX0_neededColumns 25 = .ok (.iand, 1) := by decide +kernel
theorem dX0_neededColumns_26 : decode cX0_neededColumns 26 = .ok (.istore_n 3, 1) := by decide +kernel
theorem dX0_neededColumns_27 : decode cX0_neededColumns 27 = .ok (.aload_n 0, 1) := by decide +kernel
theorem dX0_neededColumns_28 : decode cX0_neededColumns 28 = .ok (.iload_n 2, 1) := by decide +kernel
theorem dX0_neededColumns_29 : decode cX0_neededColumns 29 = .ok (.iload_n 3, 1) := by decide +kernel
theorem dX0_neededColumns_30 : decode cX0_neededColumns 30 = .ok (.invokestatic 31, 3) := by decide +kernel
theorem dX0_neededColumns_33 : decode cX0_neededColumns 33 = .ok (.ifCond .ne 5, 3) := by decide +kernel
theorem dX0_neededColumns_36 : decode cX0_neededColumns 36 = .ok (.iload_n 3, 1) := by decide +kernel
theorem dX0_neededColumns_37 : decode cX0_neededColumns 37 = .ok (.istore_n 1, 1) := by decide +kernel
theorem dX0_neededColumns_38 : decode cX0_neededColumns 38 = .ok (.iinc 2 1, 3) := by decide +kernel
theorem dX0_neededColumns_41 : decode cX0_neededColumns 41 = .ok (.goto (-30), 3) := by decide +kernel
theorem dX0_neededColumns_44 : decode cX0_neededColumns 44 = .ok (.iload_n 1, 1) := by decide +kernel
theorem dX0_neededColumns_45 : decode cX0_neededColumns 45 = .ok (.ireturn, 1) := by decide +kernel
theorem dX1_init_0 : decode cX1_init 0 = .ok (.aload_n 0, 1) := by decide +kernel
theorem dX1_init_1 : decode cX1_init 1 = .ok (.invokespecial 5, 3) := by decide +kernel
theorem dX1_init_4 : decode cX1_init 4 = .ok (.aload_n 0, 1) := by decide +kernel
theorem dX1_init_5 : decode cX1_init 5 = .ok (.bipush 64, 2) := by decide +kernel
theorem dX1_init_7 : decode cX1_init 7 = .ok (.newarray .long, 2) := by decide +kernel
theorem dX1_init_9 : decode cX1_init 9 = .ok (.putfield 11, 3) := by decide +kernel
theorem dX1_init_12 : decode cX1_init 12 = .ok (.aload_n 0, 1) := by decide +kernel
theorem dX1_init_13 : decode cX1_init 13 = .ok (.bipush 12, 2) := by decide +kernel
theorem dX1_init_15 : decode cX1_init 15 = .ok (.newarray .int, 2) := by decide +kernel
theorem dX1_init_17 : decode cX1_init 17 = .ok (.putfield 15, 3) := by decide +kernel
theorem dX1_init_20 : decode cX1_init 20 = .ok (.aload_n 0, 1) := by decide +kernel
theorem dX1_init_21 : decode cX1_init 21 = .ok (.bipush 12, 2) := by decide +kernel
theorem dX1_init_23 : decode cX1_init 23 = .ok (.newarray .int, 2) := by decide +kernel
theorem dX1_init_25 : decode cX1_init 25 = .ok (.putfield 19, 3) := by decide +kernel
theorem dX1_init_28 : decode cX1_init 28 = .ok (.return_, 1) := by decide +kernel
theorem dX1_study_0 : decode cX1_study 0 = .ok (.aload_n 0, 1) := by decide +kernel
theorem dX1_study_1 : decode cX1_study 1 = .ok (.aload_n 1, 1) := by decide +kernel
theorem dX1_study_2 : decode cX1_study 2 = .ok (.invokevirtual 22, 3) := by decide +kernel
theorem dX1_study_5 : decode cX1_study 5 = .ok (.putfield 28, 3) := by decide +kernel
theorem dX1_study_8 : decode cX1_study 8 = .ok (.iconst 0, 1) := by decide +kernel
theorem dX1_study_9 : decode cX1_study 9 = .ok (.istore_n 3, 1) := by decide +kernel
theorem dX1_study_10 : decode cX1_study 10 = .ok (.iload_n 3, 1) := by decide +kernel
theorem dX1_study_11 : decode cX1_study 11 = .ok (.bipush 64, 2) := by decide +kernel
theorem dX1_study_13 : decode cX1_study 13 = .ok (.if_icmp .ge 16, 3) := by decide +kernel
theorem dX1_study_16 : decode cX1_study 16 = .ok (.aload_n 0, 1) := by decide +kernel
theorem dX1_study_17 : decode cX1_study 17 = .ok (.getfield 11, 3) := by decide +kernel
theorem dX1_study_20 : decode cX1_study 20 = .ok (.iload_n 3, 1) := by decide +kernel
theorem dX1_study_21 : decode cX1_study 21 = .ok (.lconst 0, 1) := by decide +kernel
theorem dX1_study_22 : decode cX1_study 22 = .ok (.lastore, 1) := by decide +kernel
theorem dX1_study_23 : decode cX1_study 23 = .ok (.iinc 3 1, 3) := by decide +kernel
theorem dX1_study_26 : decode cX1_study 26 = .ok (.goto (-16), 3) := by decide +kernel
theorem dX1_study_29 : decode cX1_study 29 = .ok (.iconst 1, 1) := by decide +kernel
theorem dX1_study_30 : decode cX1_study 30 = .ok (.istore_n 3, 1) := by decide +kernel
theorem dX1_study_31 : decode cX1_study 31 = .ok (.iload_n 3, 1) := by decide +kernel
theorem dX1_study_32 : decode cX1_study 32 = .ok (.iconst 1, 1) := by decide +kernel
theorem dX1_study_33 : decode cX1_study 33 = .ok (.aload_n 1, 1) := by decide +kernel
theorem dX1_study_34 : decode cX1_study 34 = .ok (.getfield 32, 3) := by decide +kernel
theorem dX1_study_37 : decode cX1_study 37 = .ok (.ishl, 1) := by decide +kernel
theorem dX1_study_38 : decode cX1_study 38 = .ok (.if_icmp .ge 52, 3) := by decide +kernel
theorem dX1_study_41 : decode cX1_study 41 = .ok (.iconst 1, 1) := by decide +kernel
theorem dX1_study_42 : decode cX1_study 42 = .ok (.istore 4, 2) := by decide +kernel
theorem dX1_study_44 : decode cX1_study 44 = .ok (.iload 4, 2) := by decide +kernel
theorem dX1_study_46 : decode cX1_study 46 = .ok (.iconst 1, 1) := by decide +kernel
theorem dX1_study_47 : decode cX1_study 47 = .ok (.aload_n 1, 1) := by decide +kernel
theorem dX1_study_48 : decode cX1_study 48 = .ok (.getfield 35, 3) := by decide +kernel
theorem dX1_study_51 : decode cX1_study 51 = .ok (.ishl, 1) := by decide +kernel
theorem dX1_study_52 : decode cX1_study 52 = .ok (.if_icmp .ge 32, 3) := by decide +kernel
theorem dX1_study_55 : decode cX1_study 55 = .ok (.aload_n 1, 1) := by decide +kernel
theorem dX1_study_56 : decode cX1_study 56 = .ok (.iload_n 3, 1) := by decide +kernel
theorem dX1_study_57 : decode cX1_study 57 = .ok (.iload 4, 2) := by decide +kernel
theorem dX1_study_59 : decode cX1_study 59 = .ok (.invokestatic 38, 3) := by decide +kernel
theorem dX1_study_62 : decode cX1_study 62 = .ok (.ifCond .eq 16, 3) := by decide +kernel
theorem dX1_study_65 : decode cX1_study 65 = .ok (.aload_n 2, 1) := by decide +kernel
theorem dX1_study_66 : decode cX1_study 66 = .ok (.aload_n 1, 1) := by decide +kernel
theorem dX1_study_67 : decode cX1_study 67 = .ok (.iload_n 3, 1) := by decide +kernel
theorem dX1_study_68 : decode cX1_study 68 = .ok (.iload 4, 2) := by decide +kernel
theorem dX1_study_70 : decode cX1_study 70 = .ok (.invokevirtual 42, 3) := by decide +kernel
theorem dX1_study_73 : decode cX1_study 73 = .ok (.aload_n 0, 1) := by decide +kernel
theorem dX1_study_74 : decode cX1_study 74 = .ok (.aload_n 2, 1) := by decide +kernel
theorem dX1_study_75 : decode cX1_study 75 = .ok (.invokevirtual 48, 3) := by decide +kernel
theorem dX1_study_78 : decode cX1_study 78 = .ok (.iinc 4 1, 3) := by decide +kernel
theorem dX1_study_81 : decode cX1_study 81 = .ok (.goto (-37), 3) := by decide +kernel
theorem dX1_study_84 : decode cX1_study 84 = .ok (.iinc 3 1, 3) := by decide +kernel
theorem dX1_study_87 : decode cX1_study 87 = .ok (.goto (-56), 3) := by decide +kernel
theorem dX1_study_90 : decode cX1_study 90 = .ok (.aload_n 0, 1) := by decide +kernel
theorem dX1_study_91 : decode cX1_study 91 = .ok (.invokevirtual 52, 3) := by decide +kernel
theorem dX1_study_94 : decode cX1_study 94 = .ok (.return_, 1) := by decide +kernel
theorem dX1_markLesser_0 : decode cX1_markLesser 0 = .ok (.aload_n 1, 1) := by decide +kernel
theorem dX1_markLesser_1 : decode cX1_markLesser 1 = .ok (.invokevirtual 55, 3) := by decide +kernel
theorem dX1_markLesser_4 : decode cX1_markLesser 4 = .ok (.istore_n 2, 1) := by decide +kernel
theorem dX1_markLesser_5 : decode cX1_markLesser 5 = .ok (.iconst 0, 1) := by decide +kernel
theorem dX1_markLesser_6 : decode cX1_markLesser 6 = .ok (.istore_n 3, 1) := by decide +kernel
theorem dX1_markLesser_7 : decode cX1_markLesser 7 = .ok (.iload_n 3, 1) := by decide +kernel
theorem dX1_markLesser_8 : decode cX1_markLesser 8 = .ok (.aload_n 1, 1) := by decide +kernel
theorem dX1_markLesser_9 : decode cX1_markLesser 9 = .ok (.getfield 58, 3) := by decide +kernel
theorem dX1_markLesser_12 : decode cX1_markLesser 12 = .ok (.if_icmp .ge 47, 3) := by decide +kernel
theorem dX1_markLesser_15 : decode cX1_markLesser 15 = .ok (.aload_n 1, 1) := by decide +kernel
theorem dX1_markLesser_16 : decode cX1_markLesser 16 = .ok (.getfield 61, 3) := by decide +kernel
theorem dX1_markLesser_19 : decode cX1_markLesser 19 = .ok (.iload_n 3, 1) := by decide +kernel
theorem dX1_markLesser_20 : decode cX1_markLesser 20 = .ok (.iaload, 1) := by decide +kernel
theorem dX1_markLesser_21 : decode cX1_markLesser 21 = .ok (.iload_n 2, 1) := by decide +kernel
theorem dX1_markLesser_22 : decode cX1_markLesser 22 = .ok (.if_icmp .ge 31, 3) := by decide +kernel
theorem dX1_markLesser_25 : decode cX1_markLesser 25 = .ok (.aload_n 1, 1) := by decide +kernel
theorem dX1_markLesser_26 : decode cX1_markLesser 26 = .ok (.getfield 64, 3) := by decide +kernel
theorem dX1_markLesser_29 : decode cX1_markLesser 29 = .ok (.iload_n 3, 1) := by decide +kernel
theorem dX1_markLesser_30 : decode cX1_markLesser 30 = .ok (.iaload, 1) := by decide +kernel
theorem dX1_markLesser_31 : decode cX1_markLesser 31 = .ok (.istore 4, 2) := by decide +kernel
theorem dX1_markLesser_33 : decode cX1_markLesser 33 = .ok (.aload_n 0, 1) := by decide +kernel
theorem dX1_markLesser_34 : decode cX1_markLesser 34 = .ok (.getfield 11, 3) := by decide +kernel
theorem dX1_markLesser_37 : decode cX1_markLesser 37 = .ok (.iload 4, 2) := by decide +kernel
theorem dX1_markLesser_39 : decode cX1_markLesser 39 = .ok (.bipush 6, 2) := by decide +kernel
theorem dX1_markLesser_41 : decode cX1_markLesser 41 = .ok (.ishr, 1) := by decide +kernel
theorem dX1_markLesser_42 : decode cX1_markLesser 42 = .ok (.dup2, 1) := by decide +kernel
theorem dX1_markLesser_43 : decode cX1_markLesser 43 = .ok (.laload, 1) := by decide +kernel
theorem dX1_markLesser_44 : decode cX1_markLesser 44 = .ok (.lconst 1, 1) := by decide +kernel
theorem dX1_markLesser_45 : decode cX1_markLesser 45 = .ok (.iload 4, 2) := by decide +kernel
theorem dX1_markLesser_47 : decode cX1_markLesser 47 = .ok (.bipush 63, 2) := by decide +kernel
theorem dX1_markLesser_49 : decode cX1_markLesser 49 = .ok (.iand, 1) := by decide +kernel
theorem dX1_markLesser_50 : decode cX1_markLesser 50 = .ok (.lshl, 1) := by decide +kernel
theorem dX1_markLesser_51 : decode cX1_markLesser 51 = .ok (.lor, 1) := by decide +kernel
theorem dX1_markLesser_52 : decode cX1_markLesser 52 = .ok (.lastore, 1) := by decide +kernel
theorem dX1_markLesser_53 : decode cX1_markLesser 53 = .ok (.iinc 3 1, 3) := by decide +kernel
theorem dX1_markLesser_56 : decode cX1_markLesser 56 = .ok (.goto (-49), 3) := by decide +kernel
theorem dX1_markLesser_59 : decode cX1_markLesser 59 = .ok (.return_, 1) := by decide +kernel
theorem dX1_markSupersets_0 : decode cX1_markSupersets 0 = .ok (.aload_n 0, 1) := by decide +kernel
theorem dX1_markSupersets_1 : decode cX1_markSupersets 1 = .ok (.getfield 28, 3) := by decide +kernel
theorem dX1_markSupersets_4 : decode cX1_markSupersets 4 = .ok (.bipush 6, 2) := by decide +kernel
theorem dX1_markSupersets_6 : decode cX1_markSupersets 6 = .ok (.invokestatic 66, 3) := by decide +kernel
theorem dX1_markSupersets_9 : decode cX1_markSupersets 9 = .ok (.istore_n 1, 1) := by decide +kernel
theorem dX1_markSupersets_10 : decode cX1_markSupersets 10 = .ok (.iconst 0, 1) := by decide +kernel
theorem dX1_markSupersets_11 : decode cX1_markSupersets 11 = .ok (.istore_n 2, 1) := by decide +kernel
theorem dX1_markSupersets_12 : decode cX1_markSupersets 12 = .ok (.iload_n 2, 1) := by decide +kernel
theorem dX1_markSupersets_13 : decode cX1_markSupersets 13 = .ok (.bipush 64, 2) := by decide +kernel
theorem dX1_markSupersets_15 : decode cX1_markSupersets 15 = .ok (.if_icmp .ge 47, 3) := by decide +kernel
theorem dX1_markSupersets_18 : decode cX1_markSupersets 18 = .ok (.iconst 0, 1) := by decide +kernel
theorem dX1_markSupersets_19 : decode cX1_markSupersets 19 = .ok (.istore_n 3, 1) := by decide +kernel
theorem dX1_markSupersets_20 : decode cX1_markSupersets 20 = .ok (.iload_n 3, 1) := by decide +kernel
theorem dX1_markSupersets_21 : decode cX1_markSupersets 21 = .ok (.iload_n 1, 1) := by decide +kernel
theorem dX1_markSupersets_22 : decode cX1_markSupersets 22 = .ok (.if_icmp .ge 34, 3) := by decide +kernel
theorem dX1_markSupersets_25 : decode cX1_markSupersets 25 = .ok (.aload_n 0, 1) := by decide +kernel
theorem dX1_markSupersets_26 : decode cX1_markSupersets 26 = .ok (.getfield 11, 3) := by decide +kernel
theorem dX1_markSupersets_29 : decode cX1_markSupersets 29 = .ok (.iload_n 2, 1) := by decide +kernel
theorem dX1_markSupersets_30 : decode cX1_markSupersets 30 = .ok (.dup2, 1) := by decide +kernel
theorem dX1_markSupersets_31 : decode cX1_markSupersets 31 = .ok (.laload, 1) := by decide +kernel
theorem dX1_markSupersets_32 : decode cX1_markSupersets 32 = .ok (.aload_n 0, 1) := by decide +kernel
theorem dX1_markSupersets_33 : decode cX1_markSupersets 33 = .ok (.getfield 11, 3) := by decide +kernel
theorem dX1_markSupersets_36 : decode cX1_markSupersets 36 = .ok (.iload_n 2, 1) := by decide +kernel
theorem dX1_markSupersets_37 : decode cX1_markSupersets 37 = .ok (.laload, 1) := by decide +kernel
theorem dX1_markSupersets_38 : decode cX1_markSupersets 38 = .ok (.getstatic 72, 3) := by decide +kernel
theorem dX1_markSupersets_41 : decode cX1_markSupersets 41 = .ok (.iload_n 3, 1) := by decide +kernel
theorem dX1_markSupersets_42 : decode cX1_markSupersets 42 = .ok (.laload, 1) := by decide +kernel
theorem dX1_markSupersets_43 : decode cX1_markSupersets 43 = .ok (.land, 1) := by decide +kernel
theorem dX1_markSupersets_44 : decode cX1_markSupersets 44 = .ok (.iconst 1, 1) := by decide +kernel
theorem dX1_markSupersets_45 : decode cX1_markSupersets 45 = .ok (.iload_n 3, 1) := by decide +kernel
theorem dX1_markSupersets_46 : decode cX1_markSupersets 46 = .ok (.ishl, 1) := by decide +kernel
theorem dX1_markSupersets_47 : decode cX1_markSupersets 47 = .ok (.lshl, 1) := by decide +kernel
theorem dX1_markSupersets_48 : decode cX1_markSupersets 48 = .ok (.lor, 1) := by decide +kernel
theorem dX1_markSupersets_49 : decode cX1_markSupersets 49 = .ok (.lastore, 1) := by decide +kernel
theorem dX1_markSupersets_50 : decode cX1_markSupersets 50 = .ok (.iinc 3 1, 3) := by decide +kernel
theorem dX1_markSupersets_53 : decode cX1_markSupersets 53 = .ok (.goto (-33), 3) := by decide +kernel
theorem dX1_markSupersets_56 : decode cX1_markSupersets 56 = .ok (.iinc 2 1, 3) := by decide +kernel
theorem dX1_markSupersets_59 : decode cX1_markSupersets 59 = .ok (.goto (-47), 3) := by decide +kernel
theorem dX1_markSupersets_62 : decode cX1_markSupersets 62 = .ok (.bipush 6, 2) := by decide +kernel
theorem dX1_markSupersets_64 : decode cX1_markSupersets 64 = .ok (.istore_n 2, 1) := by decide +kernel
theorem dX1_markSupersets_65 : decode cX1_markSupersets 65 = .ok (.iload_n 2, 1) := by decide +kernel
theorem dX1_markSupersets_66 : decode cX1_markSupersets 66 = .ok (.aload_n 0, 1) := by decide +kernel
theorem dX1_markSupersets_67 : decode cX1_markSupersets 67 = .ok (.getfield 28, 3) := by decide +kernel
theorem dX1_markSupersets_70 : decode cX1_markSupersets 70 = .ok (.if_icmp .ge 58, 3) := by decide +kernel
theorem dX1_markSupersets_73 : decode cX1_markSupersets 73 = .ok (.iconst 1, 1) := by decide +kernel
theorem dX1_markSupersets_74 : decode cX1_markSupersets 74 = .ok (.iload_n 2, 1) := by decide +kernel
theorem dX1_markSupersets_75 : decode cX1_markSupersets 75 = .ok (.bipush 6, 2) := by decide +kernel
theorem dX1_markSupersets_77 : decode cX1_markSupersets 77 = .ok (.isub, 1) := by decide +kernel
theorem dX1_markSupersets_78 : decode cX1_markSupersets 78 = .ok (.ishl, 1) := by decide +kernel
theorem dX1_markSupersets_79 : decode cX1_markSupersets 79 = .ok (.istore_n 3, 1) := by decide +kernel
theorem dX1_markSupersets_80 : decode cX1_markSupersets 80 = .ok (.iconst 0, 1) := by decide +kernel
theorem dX1_markSupersets_81 : decode cX1_markSupersets 81 = .ok (.istore 4, 2) := by decide +kernel
theorem dX1_markSupersets_83 : decode cX1_markSupersets 83 = .ok (.iload 4, 2) := by decide +kernel
theorem dX1_markSupersets_85 : decode cX1_markSupersets 85 = .ok (.bipush 64, 2) := by decide +kernel
theorem dX1_markSupersets_87 : decode cX1_markSupersets 87 = .ok (.if_icmp .ge 35, 3) := by decide +kernel
theorem dX1_markSupersets_90 : decode cX1_markSupersets 90 = .ok (.iload 4, 2) := by decide +kernel
theorem dX1_markSupersets_92 : decode cX1_markSupersets 92 = .ok (.iload_n 3, 1) := by decide +kernel
theorem dX1_markSupersets_93 : decode cX1_markSupersets 93 = .ok (.iand, 1) := by decide +kernel
theorem dX1_markSupersets_94 : decode cX1_markSupersets 94 = .ok (.ifCond .eq 22, 3) := by decide +kernel
theorem dX1_markSupersets_97 : decode cX1_markSupersets 97 = .ok (.aload_n 0, 1) := by decide +kernel
theorem dX1_markSupersets_98 : decode cX1_markSupersets 98 = .ok (.getfield 11, 3) := by decide +kernel
theorem dX1_markSupersets_101 : decode cX1_markSupersets 101 = .ok (.iload 4, 2) := by decide +kernel
theorem dX1_markSupersets_103 : decode cX1_markSupersets 103 = .ok (.dup2, 1) := by decide +kernel
theorem dX1_markSupersets_104 : decode cX1_markSupersets 104 = .ok (.laload, 1) := by decide +kernel
theorem dX1_markSupersets_105 : decode cX1_markSupersets 105 = .ok (.aload_n 0, 1) := by decide +kernel
theorem dX1_markSupersets_106 : decode cX1_markSupersets 106 = .ok (.getfield 11, 3) := by decide +kernel
theorem dX1_markSupersets_109 : decode cX1_markSupersets 109 = .ok (.iload 4, 2) := by decide +kernel
theorem dX1_markSupersets_111 : decode cX1_markSupersets 111 = .ok (.iload_n 3, 1) := by decide +kernel
theorem dX1_markSupersets_112 : decode cX1_markSupersets 112 = .ok (.isub, 1) := by decide +kernel
theorem dX1_markSupersets_113 : decode cX1_markSupersets 113 = .ok (.laload, 1) := by decide +kernel
theorem dX1_markSupersets_114 : decode cX1_markSupersets 114 = .ok (.lor, 1) := by decide +kernel
theorem dX1_markSupersets_115 : decode cX1_markSupersets 115 = .ok (.lastore, 1) := by decide +kernel
theorem dX1_markSupersets_116 : decode cX1_markSupersets 116 = .ok (.iinc 4 1, 3) := by decide +kernel
theorem dX1_markSupersets_119 : decode cX1_markSupersets 119 = .ok (.goto (-36), 3) := by decide +kernel
theorem dX1_markSupersets_122 : decode cX1_markSupersets 122 = .ok (.iinc 2 1, 3) := by decide +kernel
theorem dX1_markSupersets_125 : decode cX1_markSupersets 125 = .ok (.goto (-60), 3) := by decide +kernel
theorem dX1_markSupersets_128 : decode cX1_markSupersets 128 = .ok (.return_, 1) := by decide +kernel
theorem dX1_canTouchAll_0 : decode cX1_canTouchAll 0 = .ok (.aload_n 0, 1) := by decide +kernel
theorem dX1_canTouchAll_1 : decode cX1_canTouchAll 1 = .ok (.getfield 11, 3) := by decide +kernel
theorem dX1_canTouchAll_4 : decode cX1_canTouchAll 4 = .ok (.iload_n 1, 1) := by decide +kernel
theorem dX1_canTouchAll_5 : decode cX1_canTouchAll 5 = .ok (.bipush 6, 2) := by decide +kernel
theorem dX1_canTouchAll_7 : decode cX1_canTouchAll 7 = .ok (.ishr, 1) := by decide +kernel
theorem dX1_canTouchAll_8 : decode cX1_canTouchAll 8 = .ok (.laload, 1) := by decide +kernel
theorem dX1_canTouchAll_9 : decode cX1_canTouchAll 9 = .ok (.iload_n 1, 1) := by decide +kernel
theorem dX1_canTouchAll_10 : decode cX1_canTouchAll 10 = .ok (.bipush 63, 2) := by decide +kernel
theorem dX1_canTouchAll_12 : decode cX1_canTouchAll 12 = .ok (.iand, 1) := by decide +kernel
theorem dX1_canTouchAll_13 : decode cX1_canTouchAll 13 = .ok (.lushr, 1) := by decide +kernel
theorem dX1_canTouchAll_14 : decode cX1_canTouchAll 14 = .ok (.lconst 1, 1) := by decide +kernel
theorem dX1_canTouchAll_15 : decode cX1_canTouchAll 15 = .ok (.land, 1) := by decide +kernel
theorem dX1_canTouchAll_16 : decode cX1_canTouchAll 16 = .ok (.lconst 0, 1) := by decide +kernel
theorem dX1_canTouchAll_17 : decode cX1_canTouchAll 17 = .ok (.lcmp, 1) := by decide +kernel
theorem dX1_canTouchAll_18 : decode cX1_canTouchAll 18 = .ok (.ifCond .ne 7, 3) := by decide +kernel
theorem dX1_canTouchAll_21 : decode cX1_canTouchAll 21 = .ok (.iconst 1, 1) := by decide +kernel
theorem dX1_canTouchAll_22 : decode cX1_canTouchAll 22 = .ok (.goto 4, 3) := by decide +kernel
theorem dX1_canTouchAll_25 : decode cX1_canTouchAll 25 = .ok (.iconst 0, 1) := by decide +kernel
theorem dX1_canTouchAll_26 : decode cX1_canTouchAll 26 = .ok (.ireturn, 1) := by decide +kernel
theorem dX1_touchableSets_0 : decode cX1_touchableSets 0 = .ok (.iconst 1, 1) := by decide +kernel
theorem dX1_touchableSets_1 : decode cX1_touchableSets 1 = .ok (.aload_n 0, 1) := by decide +kernel
theorem dX1_touchableSets_2 : decode cX1_touchableSets 2 = .ok (.getfield 28, 3) := by decide +kernel
theorem dX1_touchableSets_5 : decode cX1_touchableSets 5 = .ok (.ishl, 1) := by decide +kernel
theorem dX1_touchableSets_6 : decode cX1_touchableSets 6 = .ok (.istore_n 1, 1) := by decide +kernel
theorem dX1_touchableSets_7 : decode cX1_touchableSets 7 = .ok (.iconst 0, 1) := by decide +kernel
theorem dX1_touchableSets_8 : decode cX1_touchableSets 8 = .ok (.istore_n 2, 1) := by decide +kernel
theorem dX1_touchableSets_9 : decode cX1_touchableSets 9 = .ok (.iload_n 2, 1) := by decide +kernel
theorem dX1_touchableSets_10 : decode cX1_touchableSets 10 = .ok (.bipush 64, 2) := by decide +kernel
theorem dX1_touchableSets_12 : decode cX1_touchableSets 12 = .ok (.if_icmp .ge 21, 3) := by decide +kernel
theorem dX1_touchableSets_15 : decode cX1_touchableSets 15 = .ok (.iload_n 1, 1) := by decide +kernel
theorem dX1_touchableSets_16 : decode cX1_touchableSets 16 = .ok (.aload_n 0, 1) := by decide +kernel
theorem dX1_touchableSets_17 : decode cX1_touchableSets 17 = .ok (.getfield 11, 3) := by decide +kernel
theorem dX1_touchableSets_20 : decode cX1_touchableSets 20 = .ok (.iload_n 2, 1) := by decide +kernel
theorem dX1_touchableSets_21 : decode cX1_touchableSets 21 = .ok (.laload, 1) := by decide +kernel
theorem dX1_touchableSets_22 : decode cX1_touchableSets 22 = .ok (.invokestatic 75, 3) := by decide +kernel
theorem dX1_touchableSets_25 : decode cX1_touchableSets 25 = .ok (.isub, 1) := by decide +kernel
theorem dX1_touchableSets_26 : decode cX1_touchableSets 26 = .ok (.istore_n 1, 1) := by decide +kernel
theorem dX1_touchableSets_27 : decode cX1_touchableSets 27 = .ok (.iinc 2 1, 3) := by decide +kernel
theorem dX1_touchableSets_30 : decode cX1_touchableSets 30 = .ok (.goto (-21), 3) := by decide +kernel
theorem dX1_touchableSets_33 : decode cX1_touchableSets 33 = .ok (.iload_n 1, 1) := by decide +kernel
theorem dX1_touchableSets_34 : decode cX1_touchableSets 34 = .ok (.ireturn, 1) := by decide +kernel
theorem dX1_greatestSet_0 : decode cX1_greatestSet 0 = .ok (.iconst 0, 1) := by decide +kernel
theorem dX1_greatestSet_1 : decode cX1_greatestSet 1 = .ok (.istore_n 1, 1) := by decide +kernel
theorem dX1_greatestSet_2 : decode cX1_greatestSet 2 = .ok (.iconst 0, 1) := by decide +kernel
theorem dX1_greatestSet_3 : decode cX1_greatestSet 3 = .ok (.istore_n 2, 1) := by decide +kernel
theorem dX1_greatestSet_4 : decode cX1_greatestSet 4 = .ok (.iload_n 2, 1) := by decide +kernel
theorem dX1_greatestSet_5 : decode cX1_greatestSet 5 = .ok (.iconst 1, 1) := by decide +kernel
theorem dX1_greatestSet_6 : decode cX1_greatestSet 6 = .ok (.aload_n 0, 1) := by decide +kernel
theorem dX1_greatestSet_7 : decode cX1_greatestSet 7 = .ok (.getfield 28, 3) := by decide +kernel
theorem dX1_greatestSet_10 : decode cX1_greatestSet 10 = .ok (.ishl, 1) := by decide +kernel
theorem dX1_greatestSet_11 : decode cX1_greatestSet 11 = .ok (.if_icmp .ge 30, 3) := by decide +kernel
theorem dX1_greatestSet_14 : decode cX1_greatestSet 14 = .ok (.iload_n 2, 1) := by decide +kernel
theorem dX1_greatestSet_15 : decode cX1_greatestSet 15 = .ok (.invokestatic 81, 3) := by decide +kernel
theorem dX1_greatestSet_18 : decode cX1_greatestSet 18 = .ok (.iload_n 1, 1) := by decide +kernel
theorem dX1_greatestSet_19 : decode cX1_greatestSet 19 = .ok (.if_icmp .le 16, 3) := by decide +kernel
theorem dX1_greatestSet_22 : decode cX1_greatestSet 22 = .ok (.aload_n 0, 1) := by decide +kernel
theorem dX1_greatestSet_23 : decode cX1_greatestSet 23 = .ok (.iload_n 2, 1) := by decide +kernel
theorem dX1_greatestSet_24 : decode cX1_greatestSet 24 = .ok (.invokevirtual 86, 3) := by decide +kernel
theorem dX1_greatestSet_27 : decode cX1_greatestSet 27 = .ok (.ifCond .eq 8, 3) := by decide +kernel
theorem dX1_greatestSet_30 : decode cX1_greatestSet 30 = .ok (.iload_n 2, 1) := by decide +kernel
theorem dX1_greatestSet_31 : decode cX1_greatestSet 31 = .ok (.invokestatic 81, 3) := by decide +kernel
theorem dX1_greatestSet_34 : decode cX1_greatestSet 34 = .ok (.istore_n 1, 1) := by decide +kernel
theorem dX1_greatestSet_35 : decode cX1_greatestSet 35 = .ok (.iinc 2 1, 3) := by decide +kernel
theorem dX1_greatestSet_38 : decode cX1_greatestSet 38 = .ok (.goto (-34), 3) := by decide +kernel
theorem dX1_greatestSet_41 : decode cX1_greatestSet 41 = .ok (.iload_n 1, 1) := by decide +kernel
theorem dX1_greatestSet_42 : decode cX1_greatestSet 42 = .ok (.ireturn, 1) := by decide +kernel
theorem dX1_findFirstRow_0 : decode cX1_findFirstRow 0 = .ok (.iconst 0, 1) := by decide +kernel
theorem dX1_findFirstRow_1 : decode cX1_findFirstRow 1 = .ok (.istore_n 1, 1) := by decide +kernel
theorem dX1_findFirstRow_2 : decode cX1_findFirstRow 2 = .ok (.iconst 0, 1) := by decide +kernel
theorem dX1_findFirstRow_3 : decode cX1_findFirstRow 3 = .ok (.istore_n 2, 1) := by decide +kernel
theorem dX1_findFirstRow_4 : decode cX1_findFirstRow 4 = .ok (.iload_n 2, 1) := by decide +kernel
theorem dX1_findFirstRow_5 : decode cX1_findFirstRow 5 = .ok (.ifCond .ne 44, 3) := by decide +kernel
theorem dX1_findFirstRow_8 : decode cX1_findFirstRow 8 = .ok (.iload_n 1, 1) := by decide +kernel
theorem dX1_findFirstRow_9 : decode cX1_findFirstRow 9 = .ok (.aload_n 0, 1) := by decide +kernel
theorem dX1_findFirstRow_10 : decode cX1_findFirstRow 10 = .ok (.getfield 28, 3) := by decide +kernel
theorem dX1_findFirstRow_13 : decode cX1_findFirstRow 13 = .ok (.if_icmp .ge 36, 3) := by decide +kernel
theorem dX1_findFirstRow_16 : decode cX1_findFirstRow 16 = .ok (.iinc 1 1, 3) := by decide +kernel
theorem dX1_findFirstRow_19 : decode cX1_findFirstRow 19 = .ok (.iconst 0, 1) := by decide +kernel
theorem dX1_findFirstRow_20 : decode cX1_findFirstRow 20 = .ok (.istore_n 3, 1) := by decide +kernel
theorem dX1_findFirstRow_21 : decode cX1_findFirstRow 21 = .ok (.iload_n 3, 1) := by decide +kernel
theorem dX1_findFirstRow_22 : decode cX1_findFirstRow 22 = .ok (.iload_n 1, 1) := by decide +kernel
theorem dX1_findFirstRow_23 : decode cX1_findFirstRow 23 = .ok (.if_icmp .ge 16, 3) := by decide +kernel
theorem dX1_findFirstRow_26 : decode cX1_findFirstRow 26 = .ok (.aload_n 0, 1) := by decide +kernel
theorem dX1_findFirstRow_27 : decode cX1_findFirstRow 27 = .ok (.getfield 19, 3) := by decide +kernel
theorem dX1_findFirstRow_30 : decode cX1_findFirstRow 30 = .ok (.iload_n 3, 1) := by decide +kernel
theorem dX1_findFirstRow_31 : decode cX1_findFirstRow 31 = .ok (.iconst 0, 1) := by decide +kernel
theorem dX1_findFirstRow_32 : decode cX1_findFirstRow 32 = .ok (.iastore, 1) := by decide +kernel
theorem dX1_findFirstRow_33 : decode cX1_findFirstRow 33 = .ok (.iinc 3 1, 3) := by decide +kernel
theorem dX1_findFirstRow_36 : decode cX1_findFirstRow 36 = .ok (.goto (-15), 3) := by decide +kernel
theorem dX1_findFirstRow_39 : decode cX1_findFirstRow 39 = .ok (.aload_n 0, 1) := by decide +kernel
theorem dX1_findFirstRow_40 : decode cX1_findFirstRow 40 = .ok (.iconst 0, 1) := by decide +kernel
theorem dX1_findFirstRow_41 : decode cX1_findFirstRow 41 = .ok (.iload_n 1, 1) := by decide +kernel
theorem dX1_findFirstRow_42 : decode cX1_findFirstRow 42 = .ok (.invokestatic 90, 3) := by decide +kernel
theorem dX1_findFirstRow_45 : decode cX1_findFirstRow 45 = .ok (.istore_n 2, 1) := by decide +kernel
theorem dX1_findFirstRow_46 : decode cX1_findFirstRow 46 = .ok (.goto (-42), 3) := by decide +kernel
theorem dX1_findFirstRow_49 : decode cX1_findFirstRow 49 = .ok (.iload_n 1, 1) := by decide +kernel
theorem dX1_findFirstRow_50 : decode cX1_findFirstRow 50 = .ok (.ireturn, 1) := by decide +kernel
theorem dX1_fill_0 : decode cX1_fill 0 = .ok (.iload_n 1, 1) := by decide +kernel
theorem dX1_fill_1 : decode cX1_fill 1 = .ok (.aload_n 0, 1) := by decide +kernel
theorem dX1_fill_2 : decode cX1_fill 2 = .ok (.getfield 28, 3) := by decide +kernel
theorem dX1_fill_5 : decode cX1_fill 5 = .ok (.if_icmp .lt 5, 3) := by decide +kernel
theorem dX1_fill_8 : decode cX1_fill 8 = .ok (.iconst 1, 1) := by decide +kernel
theorem dX1_fill_9 : decode cX1_fill 9 = .ok (.ireturn, 1) := by decide +kernel
theorem dX1_fill_10 : decode cX1_fill 10 = .ok (.iconst 0, 1) := by decide +kernel
theorem dX1_fill_11 : decode cX1_fill 11 = .ok (.istore_n 3, 1) := by decide +kernel
theorem dX1_fill_12 : decode cX1_fill 12 = .ok (.iload_n 3, 1) := by decide +kernel
theorem dX1_fill_13 : decode cX1_fill 13 = .ok (.iload_n 2, 1) := by decide +kernel
theorem dX1_fill_14 : decode cX1_fill 14 = .ok (.if_icmp .ge 77, 3) := by decide +kernel
theorem dX1_fill_17 : decode cX1_fill 17 = .ok (.aload_n 0, 1) := by decide +kernel
theorem dX1_fill_18 : decode cX1_fill 18 = .ok (.getfield 19, 3) := by decide +kernel
theorem dX1_fill_21 : decode cX1_fill 21 = .ok (.iload_n 3, 1) := by decide +kernel
theorem dX1_fill_22 : decode cX1_fill 22 = .ok (.iaload, 1) := by decide +kernel
theorem dX1_fill_23 : decode cX1_fill 23 = .ok (.istore 4, 2) := by decide +kernel
theorem dX1_fill_25 : decode cX1_fill 25 = .ok (.aload_n 0, 1) := by decide +kernel
theorem dX1_fill_26 : decode cX1_fill 26 = .ok (.iload 4, 2) := by decide +kernel
theorem dX1_fill_28 : decode cX1_fill 28 = .ok (.iconst 1, 1) := by decide +kernel
theorem dX1_fill_29 : decode cX1_fill 29 = .ok (.iload_n 1, 1) := by decide +kernel
theorem dX1_fill_30 : decode cX1_fill 30 = .ok (.ishl, 1) := by decide +kernel
theorem dX1_fill_31 : decode cX1_fill 31 = .ok (.ior, 1) := by decide +kernel
theorem dX1_fill_32 : decode cX1_fill 32 = .ok (.invokevirtual 86, 3) := by decide +kernel
theorem dX1_fill_35 : decode cX1_fill 35 = .ok (.ifCond .eq 43, 3) := by decide +kernel
theorem dX1_fill_38 : decode cX1_fill 38 = .ok (.aload_n 0, 1) := by decide +kernel
theorem dX1_fill_39 : decode cX1_fill 39 = .ok (.getfield 19, 3) := by decide +kernel
theorem dX1_fill_42 : decode cX1_fill 42 = .ok (.iload_n 3, 1) := by decide +kernel
theorem dX1_fill_43 : decode cX1_fill 43 = .ok (.iload 4, 2) := by decide +kernel
theorem dX1_fill_45 : decode cX1_fill 45 = .ok (.iconst 1, 1) := by decide +kernel
theorem dX1_fill_46 : decode cX1_fill 46 = .ok (.iload_n 1, 1) := by decide +kernel
theorem dX1_fill_47 : decode cX1_fill 47 = .ok (.ishl, 1) := by decide +kernel
theorem dX1_fill_48 : decode cX1_fill 48 = .ok (.ior, 1) := by decide +kernel
theorem dX1_fill_49 : decode cX1_fill 49 = .ok (.iastore, 1) := by decide +kernel
theorem dX1_fill_50 : decode cX1_fill 50 = .ok (.aload_n 0, 1) := by decide +kernel
theorem dX1_fill_51 : decode cX1_fill 51 = .ok (.getfield 15, 3) := by decide +kernel
theorem dX1_fill_54 : decode cX1_fill 54 = .ok (.iload_n 1, 1) := by decide +kernel
theorem dX1_fill_55 : decode cX1_fill 55 = .ok (.iload_n 3, 1) := by decide +kernel
theorem dX1_fill_56 : decode cX1_fill 56 = .ok (.iastore, 1) := by decide +kernel
theorem dX1_fill_57 : decode cX1_fill 57 = .ok (.aload_n 0, 1) := by decide +kernel
theorem dX1_fill_58 : decode cX1_fill 58 = .ok (.iload_n 1, 1) := by decide +kernel
theorem dX1_fill_59 : decode cX1_fill 59 = .ok (.iconst 1, 1) := by decide +kernel
theorem dX1_fill_60 : decode cX1_fill 60 = .ok (.iadd, 1) := by decide +kernel
theorem dX1_fill_61 : decode cX1_fill 61 = .ok (.iload_n 2, 1) := by decide +kernel
theorem dX1_fill_62 : decode cX1_fill 62 = .ok (.invokestatic 90, 3) := by decide +kernel
theorem dX1_fill_65 : decode cX1_fill 65 = .ok (.ifCond .eq 5, 3) := by decide +kernel
theorem dX1_fill_68 : decode cX1_fill 68 = .ok (.iconst 1, 1) := by decide +kernel
theorem dX1_fill_69 : decode cX1_fill 69 = .ok (.ireturn, 1) := by decide +kernel
theorem dX1_fill_70 : decode cX1_fill 70 = .ok (.aload_n 0, 1) := by decide +kernel
theorem dX1_fill_71 : decode cX1_fill 71 = .ok (.getfield 19, 3) := by decide +kernel
theorem dX1_fill_74 : decode cX1_fill 74 = .ok (.iload_n 3, 1) := by decide +kernel
theorem dX1_fill_75 : decode cX1_fill 75 = .ok (.iload 4, 2) := by decide +kernel
theorem dX1_fill_77 : decode cX1_fill 77 = .ok (.iastore, 1) := by decide +kernel
theorem dX1_fill_78 : decode cX1_fill 78 = .ok (.iload 4, 2) := by decide +kernel
theorem dX1_fill_80 : decode cX1_fill 80 = .ok (.ifCond .ne 5, 3) := by decide +kernel
theorem dX1_fill_83 : decode cX1_fill 83 = .ok (.iconst 0, 1) := by decide +kernel
theorem dX1_fill_84 : decode cX1_fill 84 = .ok (.ireturn, 1) := by decide +kernel
theorem dX1_fill_85 : decode cX1_fill 85 = .ok (.iinc 3 1, 3) := by decide +kernel
theorem dX1_fill_88 : decode cX1_fill 88 = .ok (.goto (-76), 3) := by decide +kernel
theorem dX1_fill_91 : decode cX1_fill 91 = .ok (.iconst 0, 1) := by decide +kernel
theorem dX1_fill_92 : decode cX1_fill 92 = .ok (.ireturn, 1) := by decide +kernel
theorem dX2_init_0 : decode cX2_init 0 = .ok (.aload_n 0, 1) := by decide +kernel
theorem dX2_init_1 : decode cX2_init 1 = .ok (.invokespecial 3, 3) := by decide +kernel
theorem dX2_init_4 : decode cX2_init 4 = .ok (.aload_n 0, 1) := by decide +kernel
theorem dX2_init_5 : decode cX2_init 5 = .ok (.bipush 12, 2) := by decide +kernel
theorem dX2_init_7 : decode cX2_init 7 = .ok (.newarray .int, 2) := by decide +kernel
theorem dX2_init_9 : decode cX2_init 9 = .ok (.putfield 9, 3) := by decide +kernel
theorem dX2_init_12 : decode cX2_init 12 = .ok (.aload_n 0, 1) := by decide +kernel
theorem dX2_init_13 : decode cX2_init 13 = .ok (.iconst 1, 1) := by decide +kernel
theorem dX2_init_14 : decode cX2_init 14 = .ok (.putfield 15, 3) := by decide +kernel
theorem dX2_init_17 : decode cX2_init 17 = .ok (.aload_n 0, 1) := by decide +kernel
theorem dX2_init_18 : decode cX2_init 18 = .ok (.iconst 1, 1) := by decide +kernel
theorem dX2_init_19 : decode cX2_init 19 = .ok (.putfield 19, 3) := by decide +kernel
theorem dX2_init_22 : decode cX2_init 22 = .ok (.return_, 1) := by decide +kernel
theorem dX2_size_0 : decode cX2_size 0 = .ok (.aload_n 0, 1) := by decide +kernel
theorem dX2_size_1 : decode cX2_size 1 = .ok (.getfield 15, 3) := by decide +kernel
theorem dX2_size_4 : decode cX2_size 4 = .ok (.aload_n 0, 1) := by decide +kernel
theorem dX2_size_5 : decode cX2_size 5 = .ok (.getfield 19, 3) := by decide +kernel
theorem dX2_size_8 : decode cX2_size 8 = .ok (.imul, 1) := by decide +kernel
theorem dX2_size_9 : decode cX2_size 9 = .ok (.ireturn, 1) := by decide +kernel
theorem dX2_has_0 : decode cX2_has 0 = .ok (.iload_n 1, 1) := by decide +kernel
theorem dX2_has_1 : decode cX2_has 1 = .ok (.ifCond .lt 27, 3) := by decide +kernel
theorem dX2_has_4 : decode cX2_has 4 = .ok (.iload_n 1, 1) := by decide +kernel
theorem dX2_has_5 : decode cX2_has 5 = .ok (.aload_n 0, 1) := by decide +kernel
theorem dX2_has_6 : decode cX2_has 6 = .ok (.getfield 15, 3) := by decide +kernel
theorem dX2_has_9 : decode cX2_has 9 = .ok (.if_icmp .ge 19, 3) := by decide +kernel
theorem dX2_has_12 : decode cX2_has 12 = .ok (.iload_n 2, 1) := by decide +kernel
theorem dX2_has_13 : decode cX2_has 13 = .ok (.ifCond .lt 15, 3) := by decide +kernel
theorem dX2_has_16 : decode cX2_has 16 = .ok (.iload_n 2, 1) := by decide +kernel
theorem dX2_has_17 : decode cX2_has 17 = .ok (.aload_n 0, 1) := by decide +kernel
theorem dX2_has_18 : decode cX2_has 18 = .ok (.getfield 19, 3) := by decide +kernel
theorem dX2_has_21 : decode cX2_has 21 = .ok (.if_icmp .ge 7, 3) := by decide +kernel
theorem dX2_has_24 : decode cX2_has 24 = .ok (.iconst 1, 1) := by decide +kernel
theorem dX2_has_25 : decode cX2_has 25 = .ok (.goto 4, 3) := by decide +kernel
theorem dX2_has_28 : decode cX2_has 28 = .ok (.iconst 0, 1) := by decide +kernel
theorem dX2_has_29 : decode cX2_has 29 = .ok (.ireturn, 1) := by decide +kernel
theorem dX2_place_0 : decode cX2_place 0 = .ok (.iload_n 1, 1) := by decide +kernel
theorem dX2_place_1 : decode cX2_place 1 = .ok (.aload_n 0, 1) := by decide +kernel
theorem dX2_place_2 : decode cX2_place 2 = .ok (.getfield 19, 3) := by decide +kernel
theorem dX2_place_5 : decode cX2_place 5 = .ok (.imul, 1) := by decide +kernel
theorem dX2_place_6 : decode cX2_place 6 = .ok (.iload_n 2, 1) := by decide +kernel
theorem dX2_place_7 : decode cX2_place 7 = .ok (.iadd, 1) := by decide +kernel
theorem dX2_place_8 : decode cX2_place 8 = .ok (.ireturn, 1) := by decide +kernel
theorem dX2_at_0 : decode cX2_at 0 = .ok (.aload_n 0, 1) := by decide +kernel
theorem dX2_at_1 : decode cX2_at 1 = .ok (.getfield 9, 3) := by decide +kernel
theorem dX2_at_4 : decode cX2_at 4 = .ok (.aload_n 0, 1) := by decide +kernel
theorem dX2_at_5 : decode cX2_at 5 = .ok (.iload_n 1, 1) := by decide +kernel
theorem dX2_at_6 : decode cX2_at 6 = .ok (.iload_n 2, 1) := by decide +kernel
theorem dX2_at_7 : decode cX2_at 7 = .ok (.invokevirtual 22, 3) := by decide +kernel
theorem dX2_at_10 : decode cX2_at 10 = .ok (.iaload, 1) := by decide +kernel
theorem dX2_at_11 : decode cX2_at 11 = .ok (.ireturn, 1) := by decide +kernel
theorem dX2_assign_0 : decode cX2_assign 0 = .ok (.aload_n 0, 1) := by decide +kernel
theorem dX2_assign_1 : decode cX2_assign 1 = .ok (.getfield 9, 3) := by decide +kernel
theorem dX2_assign_4 : decode cX2_assign 4 = .ok (.aload_n 0, 1) := by decide +kernel
theorem dX2_assign_5 : decode cX2_assign 5 = .ok (.iload_n 1, 1) := by decide +kernel
theorem dX2_assign_6 : decode cX2_assign 6 = .ok (.iload_n 2, 1) := by decide +kernel
theorem dX2_assign_7 : decode cX2_assign 7 = .ok (.invokevirtual 22, 3) := by decide +kernel
theorem dX2_assign_10 : decode cX2_assign 10 = .ok (.iload_n 3, 1) := by decide +kernel
theorem dX2_assign_11 : decode cX2_assign 11 = .ok (.iastore, 1) := by decide +kernel
theorem dX2_assign_12 : decode cX2_assign 12 = .ok (.return_, 1) := by decide +kernel
theorem dX2_reshape_0 : decode cX2_reshape 0 = .ok (.aload_n 0, 1) := by decide +kernel
theorem dX2_reshape_1 : decode cX2_reshape 1 = .ok (.iload_n 1, 1) := by decide +kernel
theorem dX2_reshape_2 : decode cX2_reshape 2 = .ok (.putfield 15, 3) := by decide +kernel
theorem dX2_reshape_5 : decode cX2_reshape 5 = .ok (.aload_n 0, 1) := by decide +kernel
theorem dX2_reshape_6 : decode cX2_reshape 6 = .ok (.iload_n 2, 1) := by decide +kernel
theorem dX2_reshape_7 : decode cX2_reshape 7 = .ok (.putfield 19, 3) := by decide +kernel
theorem dX2_reshape_10 : decode cX2_reshape 10 = .ok (.return_, 1) := by decide +kernel
theorem dX2_become_0 : decode cX2_become 0 = .ok (.aload_n 0, 1) := by decide +kernel
theorem dX2_become_1 : decode cX2_become 1 = .ok (.aload_n 1, 1) := by decide +kernel
theorem dX2_become_2 : decode cX2_become 2 = .ok (.getfield 15, 3) := by decide +kernel
theorem dX2_become_5 : decode cX2_become 5 = .ok (.aload_n 1, 1) := by decide +kernel
theorem dX2_become_6 : decode cX2_become 6 = .ok (.getfield 19, 3) := by decide +kernel
theorem dX2_become_9 : decode cX2_become 9 = .ok (.invokevirtual 26, 3) := by decide +kernel
theorem dX2_become_12 : decode cX2_become 12 = .ok (.aload_n 1, 1) := by decide +kernel
theorem dX2_become_13 : decode cX2_become 13 = .ok (.getfield 9, 3) := by decide +kernel
theorem dX2_become_16 : decode cX2_become 16 = .ok (.iconst 0, 1) := by decide +kernel
theorem dX2_become_17 : decode cX2_become 17 = .ok (.aload_n 0, 1) := by decide +kernel
theorem dX2_become_18 : decode cX2_become 18 = .ok (.getfield 9, 3) := by decide +kernel
theorem dX2_become_21 : decode cX2_become 21 = .ok (.iconst 0, 1) := by decide +kernel
theorem dX2_become_22 : decode cX2_become 22 = .ok (.bipush 12, 2) := by decide +kernel
theorem dX2_become_24 : decode cX2_become 24 = .ok (.invokestatic 30, 3) := by decide +kernel
theorem dX2_become_27 : decode cX2_become 27 = .ok (.return_, 1) := by decide +kernel
theorem dX2_becomeTurned_0 : decode cX2_becomeTurned 0 = .ok (.aload_n 0, 1) := by decide +kernel
theorem dX2_becomeTurned_1 : decode cX2_becomeTurned 1 = .ok (.aload_n 1, 1) := by decide +kernel
theorem dX2_becomeTurned_2 : decode cX2_becomeTurned 2 = .ok (.getfield 19, 3) := by decide +kernel
theorem dX2_becomeTurned_5 : decode cX2_becomeTurned 5 = .ok (.aload_n 1, 1) := by decide +kernel
theorem dX2_becomeTurned_6 : decode cX2_becomeTurned 6 = .ok (.getfield 15, 3) := by decide +kernel
theorem dX2_becomeTurned_9 : decode cX2_becomeTurned 9 = .ok (.invokevirtual 26, 3) := by decide +kernel
theorem dX2_becomeTurned_12 : decode cX2_becomeTurned 12 = .ok (.iconst 0, 1) := by decide +kernel
theorem dX2_becomeTurned_13 : decode cX2_becomeTurned 13 = .ok (.istore_n 2, 1) := by decide +kernel
theorem dX2_becomeTurned_14 : decode cX2_becomeTurned 14 = .ok (.iload_n 2, 1) := by decide +kernel
theorem dX2_becomeTurned_15 : decode cX2_becomeTurned 15 = .ok (.aload_n 0, 1) := by decide +kernel
theorem dX2_becomeTurned_16 : decode cX2_becomeTurned 16 = .ok (.getfield 15, 3) := by decide +kernel
theorem dX2_becomeTurned_19 : decode cX2_becomeTurned 19 = .ok (.if_icmp .ge 37, 3) := by decide +kernel
theorem dX2_becomeTurned_22 : decode cX2_becomeTurned 22 = .ok (.iconst 0, 1) := by decide +kernel
theorem dX2_becomeTurned_23 : decode cX2_becomeTurned 23 = .ok (.istore_n 3, 1) := by decide +kernel
theorem dX2_becomeTurned_24 : decode cX2_becomeTurned 24 = .ok (.iload_n 3, 1) := by decide +kernel
theorem dX2_becomeTurned_25 : decode cX2_becomeTurned 25 = .ok (.aload_n 0, 1) := by decide +kernel
theorem dX2_becomeTurned_26 : decode cX2_becomeTurned 26 = .ok (.getfield 19, 3) := by decide +kernel
theorem dX2_becomeTurned_29 : decode cX2_becomeTurned 29 = .ok (.if_icmp .ge 21, 3) := by decide +kernel
theorem dX2_becomeTurned_32 : decode cX2_becomeTurned 32 = .ok (.aload_n 0, 1) := by decide +kernel
theorem dX2_becomeTurned_33 : decode cX2_becomeTurned 33 = .ok (.iload_n 2, 1) := by decide +kernel
theorem dX2_becomeTurned_34 : decode cX2_becomeTurned 34 = .ok (.iload_n 3, 1) := by decide +kernel
theorem dX2_becomeTurned_35 : decode cX2_becomeTurned 35 = .ok (.aload_n 1, 1) := by decide +kernel
theorem dX2_becomeTurned_36 : decode cX2_becomeTurned 36 = .ok (.iload_n 3, 1) := by decide +kernel
theorem dX2_becomeTurned_37 : decode cX2_becomeTurned 37 = .ok (.iload_n 2, 1) := by decide +kernel
theorem dX2_becomeTurned_38 : decode cX2_becomeTurned 38 = .ok (.invokevirtual 36, 3) := by decide +kernel
theorem dX2_becomeTurned_41 : decode cX2_becomeTurned 41 = .ok (.invokevirtual 39, 3) := by decide +kernel
theorem dX2_becomeTurned_44 : decode cX2_becomeTurned 44 = .ok (.iinc 3 1, 3) := by decide +kernel
theorem dX2_becomeTurned_47 : decode cX2_becomeTurned 47 = .ok (.goto (-23), 3) := by decide +kernel
theorem dX2_becomeTurned_50 : decode cX2_becomeTurned 50 = .ok (.iinc 2 1, 3) := by decide +kernel
theorem dX2_becomeTurned_53 : decode cX2_becomeTurned 53 = .ok (.goto (-39), 3) := by decide +kernel
theorem dX2_becomeTurned_56 : decode cX2_becomeTurned 56 = .ok (.return_, 1) := by decide +kernel
theorem dX2_becomeProduct_0 : decode cX2_becomeProduct 0 = .ok (.aload_n 0, 1) := by decide +kernel
theorem dX2_becomeProduct_1 : decode cX2_becomeProduct 1 = .ok (.aload_n 1, 1) := by decide +kernel
theorem dX2_becomeProduct_2 : decode cX2_becomeProduct 2 = .ok (.getfield 15, 3) := by decide +kernel
theorem dX2_becomeProduct_5 : decode cX2_becomeProduct 5 = .ok (.aload_n 2, 1) := by decide +kernel
theorem dX2_becomeProduct_6 : decode cX2_becomeProduct 6 = .ok (.getfield 19, 3) := by decide +kernel
theorem dX2_becomeProduct_9 : decode cX2_becomeProduct 9 = .ok (.invokevirtual 26, 3) := by decide +kernel
theorem dX2_becomeProduct_12 : decode cX2_becomeProduct 12 = .ok (.iconst 0, 1) := by decide +kernel
theorem dX2_becomeProduct_13 : decode cX2_becomeProduct 13 = .ok (.istore_n 3, 1) := by decide +kernel
theorem dX2_becomeProduct_14 : decode cX2_becomeProduct 14 = .ok (.iload_n 3, 1) := by decide +kernel
theorem dX2_becomeProduct_15 : decode cX2_becomeProduct 15 = .ok (.aload_n 0, 1) := by decide +kernel
theorem dX2_becomeProduct_16 : decode cX2_becomeProduct 16 = .ok (.getfield 15, 3) := by decide +kernel
theorem dX2_becomeProduct_19 : decode cX2_becomeProduct 19 = .ok (.if_icmp .ge 93, 3) := by decide +kernel
theorem dX2_becomeProduct_22 : decode cX2_becomeProduct 22 = .ok (.iconst 0, 1) := by decide +kernel
theorem dX2_becomeProduct_23 : decode cX2_becomeProduct 23 = .ok (.istore 4, 2) := by decide +kernel
theorem dX2_becomeProduct_25 : decode cX2_becomeProduct 25 = .ok (.iload 4, 2) := by decide +kernel
theorem dX2_becomeProduct_27 : decode cX2_becomeProduct 27 = .ok (.aload_n 0, 1) := by decide +kernel
theorem dX2_becomeProduct_28 : decode cX2_becomeProduct 28 = .ok (.getfield 19, 3) := by decide +kernel
theorem dX2_becomeProduct_31 : decode cX2_becomeProduct 31 = .ok (.if_icmp .ge 75, 3) := by decide +kernel
theorem dX2_becomeProduct_34 : decode cX2_becomeProduct 34 = .ok (.aload_n 1, 1) := by decide +kernel
theorem dX2_becomeProduct_35 : decode cX2_becomeProduct 35 = .ok (.iload_n 3, 1) := by decide +kernel
theorem dX2_becomeProduct_36 : decode cX2_becomeProduct 36 = .ok (.iconst 0, 1) := by decide +kernel
theorem dX2_becomeProduct_37 : decode cX2_becomeProduct 37 = .ok (.invokevirtual 36, 3) := by decide +kernel
theorem dX2_becomeProduct_40 : decode cX2_becomeProduct 40 = .ok (.aload_n 2, 1) := by decide +kernel
theorem dX2_becomeProduct_41 : decode cX2_becomeProduct 41 = .ok (.iconst 0, 1) := by decide +kernel
theorem dX2_becomeProduct_42 : decode cX2_becomeProduct 42 = .ok (.iload 4, 2) := by decide +kernel
theorem dX2_becomeProduct_44 : decode cX2_becomeProduct 44 = .ok (.invokevirtual 36, 3) := by decide +kernel
theorem dX2_becomeProduct_47 : decode cX2_becomeProduct 47 = .ok (.iadd, 1) := by decide +kernel
theorem dX2_becomeProduct_48 : decode cX2_becomeProduct 48 = .ok (.istore 5, 2) := by decide +kernel
theorem dX2_becomeProduct_50 : decode cX2_becomeProduct 50 = .ok (.iconst 1, 1) := by decide +kernel
theorem dX2_becomeProduct_51 : decode cX2_becomeProduct 51 = .ok (.istore 6, 2) := by decide +kernel
theorem dX2_becomeProduct_53 : decode cX2_becomeProduct 53 = .ok (.iload 6, 2) := by decide +kernel
theorem dX2_becomeProduct_55 : decode cX2_becomeProduct 55 = .ok (.aload_n 1, 1) := by decide +kernel
theorem dX2_becomeProduct_56 : decode cX2_becomeProduct 56 = .ok (.getfield 19, 3) := by decide +kernel
theorem dX2_becomeProduct_59 : decode cX2_becomeProduct 59 = .ok (.if_icmp .ge 32, 3) := by decide +kernel
theorem dX2_becomeProduct_62 : decode cX2_becomeProduct 62 = .ok (.iload 5, 2) := by decide +kernel
theorem dX2_becomeProduct_64 : decode cX2_becomeProduct 64 = .ok (.aload_n 1, 1) := by decide +kernel
theorem dX2_becomeProduct_65 : decode cX2_becomeProduct 65 = .ok (.iload_n 3, 1) := by decide +kernel
theorem dX2_becomeProduct_66 : decode cX2_becomeProduct 66 = .ok (.iload 6, 2) := by decide +kernel
theorem dX2_becomeProduct_68 : decode cX2_becomeProduct 68 = .ok (.invokevirtual 36, 3) := by decide +kernel
theorem dX2_becomeProduct_71 : decode cX2_becomeProduct 71 = .ok (.aload_n 2, 1) := by decide +kernel
theorem dX2_becomeProduct_72 : decode cX2_becomeProduct 72 = .ok (.iload 6, 2) := by decide +kernel
theorem dX2_becomeProduct_74 : decode cX2_becomeProduct 74 = .ok (.iload 4, 2) := by decide +kernel
theorem dX2_becomeProduct_76 : decode cX2_becomeProduct 76 = .ok (.invokevirtual 36, 3) := by decide +kernel
theorem dX2_becomeProduct_79 : decode cX2_becomeProduct 79 = .ok (.iadd, 1) := by decide +kernel
theorem dX2_becomeProduct_80 : decode cX2_becomeProduct 80 = .ok (.invokestatic 43, 3) := by decide +kernel
theorem dX2_becomeProduct_83 : decode cX2_becomeProduct 83 = .ok (.istore 5, 2) := by decide +kernel
theorem dX2_becomeProduct_85 : decode cX2_becomeProduct 85 = .ok (.iinc 6 1, 3) := by decide +kernel
theorem dX2_becomeProduct_88 : decode cX2_becomeProduct 88 = .ok (.goto (-35), 3) := by decide +kernel
theorem dX2_becomeProduct_91 : decode cX2_becomeProduct 91 = .ok (.aload_n 0, 1) := by decide +kernel
theorem dX2_becomeProduct_92 : decode cX2_becomeProduct 92 = .ok (.iload_n 3, 1) := by decide +kernel
theorem dX2_becomeProduct_93 : decode cX2_becomeProduct 93 = .ok (.iload 4, 2) := by decide +kernel
theorem dX2_becomeProduct_95 : decode cX2_becomeProduct 95 = .ok (.iload 5, 2) := by decide +kernel
theorem dX2_becomeProduct_97 : decode cX2_becomeProduct 97 = .ok (.invokevirtual 39, 3) := by decide +kernel
theorem dX2_becomeProduct_100 : decode cX2_becomeProduct 100 = .ok (.iinc 4 1, 3) := by decide +kernel
theorem dX2_becomeProduct_103 : decode cX2_becomeProduct 103 = .ok (.goto (-78), 3) := by decide +kernel
theorem dX2_becomeProduct_106 : decode cX2_becomeProduct 106 = .ok (.iinc 3 1, 3) := by decide +kernel
theorem dX2_becomeProduct_109 : decode cX2_becomeProduct 109 = .ok (.goto (-95), 3) := by decide +kernel
theorem dX2_becomeProduct_112 : decode cX2_becomeProduct 112 = .ok (.return_, 1) := by decide +kernel
theorem dX2_shortenWays_0 : decode cX2_shortenWays 0 = .ok (.iconst 0, 1) := by decide +kernel
theorem dX2_shortenWays_1 : decode cX2_shortenWays 1 = .ok (.istore_n 1, 1) := by decide +kernel
theorem dX2_shortenWays_2 : decode cX2_shortenWays 2 = .ok (.iload_n 1, 1) := by decide +kernel
theorem dX2_shortenWays_3 : decode cX2_shortenWays 3 = .ok (.aload_n 0, 1) := by decide +kernel
theorem dX2_shortenWays_4 : decode cX2_shortenWays 4 = .ok (.getfield 15, 3) := by decide +kernel
theorem dX2_shortenWays_7 : decode cX2_shortenWays 7 = .ok (.if_icmp .ge 69, 3) := by decide +kernel
theorem dX2_shortenWays_10 : decode cX2_shortenWays 10 = .ok (.iconst 0, 1) := by decide +kernel
theorem dX2_shortenWays_11 : decode cX2_shortenWays 11 = .ok (.istore_n 2, 1) := by decide +kernel
theorem dX2_shortenWays_12 : decode cX2_shortenWays 12 = .ok (.iload_n 2, 1) := by decide +kernel
theorem dX2_shortenWays_13 : decode cX2_shortenWays 13 = .ok (.aload_n 0, 1) := by decide +kernel
theorem dX2_shortenWays_14 : decode cX2_shortenWays 14 = .ok (.getfield 15, 3) := by decide +kernel
theorem dX2_shortenWays_17 : decode cX2_shortenWays 17 = .ok (.if_icmp .ge 53, 3) := by decide +kernel
theorem dX2_shortenWays_20 : decode cX2_shortenWays 20 = .ok (.iconst 0, 1) := by decide +kernel
theorem dX2_shortenWays_21 : decode cX2_shortenWays 21 = .ok (.istore_n 3, 1) := by decide +kernel
theorem dX2_shortenWays_22 : decode cX2_shortenWays 22 = .ok (.iload_n 3, 1) := by decide +kernel
theorem dX2_shortenWays_23 : decode cX2_shortenWays 23 = .ok (.aload_n 0, 1) := by decide +kernel
theorem dX2_shortenWays_24 : decode cX2_shortenWays 24 = .ok (.getfield 15, 3) := by decide +kernel
theorem dX2_shortenWays_27 : decode cX2_shortenWays 27 = .ok (.if_icmp .ge 37, 3) := by decide +kernel
theorem dX2_shortenWays_30 : decode cX2_shortenWays 30 = .ok (.aload_n 0, 1) := by decide +kernel
theorem dX2_shortenWays_31 : decode cX2_shortenWays 31 = .ok (.iload_n 2, 1) := by decide +kernel
theorem dX2_shortenWays_32 : decode cX2_shortenWays 32 = .ok (.iload_n 3, 1) := by decide +kernel
theorem dX2_shortenWays_33 : decode cX2_shortenWays 33 = .ok (.aload_n 0, 1) := by decide +kernel
theorem dX2_shortenWays_34 : decode cX2_shortenWays 34 = .ok (.iload_n 2, 1) := by decide +kernel
theorem dX2_shortenWays_35 : decode cX2_shortenWays 35 = .ok (.iload_n 3, 1) := by decide +kernel
theorem dX2_shortenWays_36 : decode cX2_shortenWays 36 = .ok (.invokevirtual 36, 3) := by decide +kernel
theorem dX2_shortenWays_39 : decode cX2_shortenWays 39 = .ok (.aload_n 0, 1) := by decide +kernel
theorem dX2_shortenWays_40 : decode cX2_shortenWays 40 = .ok (.iload_n 2, 1) := by decide +kernel
theorem dX2_shortenWays_41 : decode cX2_shortenWays 41 = .ok (.iload_n 1, 1) := by decide +kernel
theorem dX2_shortenWays_42 : decode cX2_shortenWays 42 = .ok (.invokevirtual 36, 3) := by decide +kernel
theorem dX2_shortenWays_45 : decode cX2_shortenWays 45 = .ok (.aload_n 0, 1) := by decide +kernel
theorem dX2_shortenWays_46 : decode cX2_shortenWays 46 = .ok (.iload_n 1, 1) := by decide +kernel
theorem dX2_shortenWays_47 : decode cX2_shortenWays 47 = .ok (.iload_n 3, 1) := by decide +kernel
theorem dX2_shortenWays_48 : decode cX2_shortenWays 48 = .ok (.invokevirtual 36, 3) := by decide +kernel
theorem dX2_shortenWays_51 : decode cX2_shortenWays 51 = .ok (.iadd, 1) := by decide +kernel
theorem dX2_shortenWays_52 : decode cX2_shortenWays 52 = .ok (.invokestatic 43, 3) := by decide +kernel
theorem dX2_shortenWays_55 : decode cX2_shortenWays 55 = .ok (.invokevirtual 39, 3) := by decide +kernel
theorem dX2_shortenWays_58 : decode cX2_shortenWays 58 = .ok (.iinc 3 1, 3) := by decide +kernel
theorem dX2_shortenWays_61 : decode cX2_shortenWays 61 = .ok (.goto (-39), 3) := by decide +kernel
theorem dX2_shortenWays_64 : decode cX2_shortenWays 64 = .ok (.iinc 2 1, 3) := by decide +kernel
theorem dX2_shortenWays_67 : decode cX2_shortenWays 67 = .ok (.goto (-55), 3) := by decide +kernel
theorem dX2_shortenWays_70 : decode cX2_shortenWays 70 = .ok (.iinc 1 1, 3) := by decide +kernel
theorem dX2_shortenWays_73 : decode cX2_shortenWays 73 = .ok (.goto (-71), 3) := by decide +kernel
theorem dX2_shortenWays_76 : decode cX2_shortenWays 76 = .ok (.return_, 1) := by decide +kernel
theorem dX2_greatest_0 : decode cX2_greatest 0 = .ok (.aload_n 0, 1) := by decide +kernel
theorem dX2_greatest_1 : decode cX2_greatest 1 = .ok (.getfield 9, 3) := by decide +kernel
theorem dX2_greatest_4 : decode cX2_greatest 4 = .ok (.iconst 0, 1) := by decide +kernel
theorem dX2_greatest_5 : decode cX2_greatest 5 = .ok (.iaload, 1) := by decide +kernel
theorem dX2_greatest_6 : decode cX2_greatest 6 = .ok (.istore_n 1, 1) := by decide +kernel
theorem dX2_greatest_7 : decode cX2_greatest 7 = .ok (.iconst 1, 1) := by decide +kernel
theorem dX2_greatest_8 : decode cX2_greatest 8 = .ok (.istore_n 2, 1) := by decide +kernel
theorem dX2_greatest_9 : decode cX2_greatest 9 = .ok (.iload_n 2, 1) := by decide +kernel
theorem dX2_greatest_10 : decode cX2_greatest 10 = .ok (.aload_n 0, 1) := by decide +kernel
theorem dX2_greatest_11 : decode cX2_greatest 11 = .ok (.invokevirtual 48, 3) := by decide +kernel
theorem dX2_greatest_14 : decode cX2_greatest 14 = .ok (.if_icmp .ge 20, 3) := by decide +kernel
theorem dX2_greatest_17 : decode cX2_greatest 17 = .ok (.iload_n 1, 1) := by decide +kernel
theorem dX2_greatest_18 : decode cX2_greatest 18 = .ok (.aload_n 0, 1) := by decide +kernel
theorem dX2_greatest_19 : decode cX2_greatest 19 = .ok (.getfield 9, 3) := by decide +kernel
theorem dX2_greatest_22 : decode cX2_greatest 22 = .ok (.iload_n 2, 1) := by decide +kernel
theorem dX2_greatest_23 : decode cX2_greatest 23 = .ok (.iaload, 1) := by decide +kernel
theorem dX2_greatest_24 : decode cX2_greatest 24 = .ok (.invokestatic 52, 3) := by decide +kernel
theorem dX2_greatest_27 : decode cX2_greatest 27 = .ok (.istore_n 1, 1) := by decide +kernel
theorem dX2_greatest_28 : decode cX2_greatest 28 = .ok (.iinc 2 1, 3) := by decide +kernel
theorem dX2_greatest_31 : decode cX2_greatest 31 = .ok (.goto (-22), 3) := by decide +kernel
theorem dX2_greatest_34 : decode cX2_greatest 34 = .ok (.iload_n 1, 1) := by decide +kernel
theorem dX2_greatest_35 : decode cX2_greatest 35 = .ok (.ireturn, 1) := by decide +kernel
theorem dX2_least_0 : decode cX2_least 0 = .ok (.aload_n 0, 1) := by decide +kernel
theorem dX2_least_1 : decode cX2_least 1 = .ok (.getfield 9, 3) := by decide +kernel
theorem dX2_least_4 : decode cX2_least 4 = .ok (.iconst 0, 1) := by decide +kernel
theorem dX2_least_5 : decode cX2_least 5 = .ok (.iaload, 1) := by decide +kernel
theorem dX2_least_6 : decode cX2_least 6 = .ok (.istore_n 1, 1) := by decide +kernel
theorem dX2_least_7 : decode cX2_least 7 = .ok (.iconst 1, 1) := by decide +kernel
theorem dX2_least_8 : decode cX2_least 8 = .ok (.istore_n 2, 1) := by decide +kernel
theorem dX2_least_9 : decode cX2_least 9 = .ok (.iload_n 2, 1) := by decide +kernel
theorem dX2_least_10 : decode cX2_least 10 = .ok (.aload_n 0, 1) := by decide +kernel
theorem dX2_least_11 : decode cX2_least 11 = .ok (.invokevirtual 48, 3) := by decide +kernel
theorem dX2_least_14 : decode cX2_least 14 = .ok (.if_icmp .ge 20, 3) := by decide +kernel
theorem dX2_least_17 : decode cX2_least 17 = .ok (.iload_n 1, 1) := by decide +kernel
theorem dX2_least_18 : decode cX2_least 18 = .ok (.aload_n 0, 1) := by decide +kernel
theorem dX2_least_19 : decode cX2_least 19 = .ok (.getfield 9, 3) := by decide +kernel
theorem dX2_least_22 : decode cX2_least 22 = .ok (.iload_n 2, 1) := by decide +kernel
theorem dX2_least_23 : decode cX2_least 23 = .ok (.iaload, 1) := by decide +kernel
theorem dX2_least_24 : decode cX2_least 24 = .ok (.invokestatic 43, 3) := by decide +kernel
theorem dX2_least_27 : decode cX2_least 27 = .ok (.istore_n 1, 1) := by decide +kernel
theorem dX2_least_28 : decode cX2_least 28 = .ok (.iinc 2 1, 3) := by decide +kernel
theorem dX2_least_31 : decode cX2_least 31 = .ok (.goto (-22), 3) := by decide +kernel
theorem dX2_least_34 : decode cX2_least 34 = .ok (.iload_n 1, 1) := by decide +kernel
theorem dX2_least_35 : decode cX2_least 35 = .ok (.ireturn, 1) := by decide +kernel
theorem dX2_unlikeEntries_0 : decode cX2_unlikeEntries 0 = .ok (.iconst 0, 1) := by decide +kernel
theorem dX2_unlikeEntries_1 : decode cX2_unlikeEntries 1 = .ok (.istore_n 1, 1) := by decide +kernel
theorem dX2_unlikeEntries_2 : decode cX2_unlikeEntries 2 = .ok (.iconst 0, 1) := by decide +kernel
theorem dX2_unlikeEntries_3 : decode cX2_unlikeEntries 3 = .ok (.istore_n 2, 1) := by decide +kernel
theorem dX2_unlikeEntries_4 : decode cX2_unlikeEntries 4 = .ok (.iload_n 2, 1) := by decide +kernel
theorem dX2_unlikeEntries_5 : decode cX2_unlikeEntries 5 = .ok (.aload_n 0, 1) := by decide +kernel
theorem dX2_unlikeEntries_6 : decode cX2_unlikeEntries 6 = .ok (.invokevirtual 48, 3) := by decide +kernel
theorem dX2_unlikeEntries_9 : decode cX2_unlikeEntries 9 = .ok (.if_icmp .ge 45, 3) := by decide +kernel
theorem dX2_unlikeEntries_12 : decode cX2_unlikeEntries 12 = .ok (.iconst 0, 1) := by decide +kernel
theorem dX2_unlikeEntries_13 : decode cX2_unlikeEntries 13 = .ok (.istore_n 3, 1) := by decide +kernel
theorem dX2_unlikeEntries_14 : decode cX2_unlikeEntries 14 = .ok (.iload_n 3, 1) := by decide +kernel
theorem dX2_unlikeEntries_15 : decode cX2_unlikeEntries 15 = .ok (.iload_n 2, 1) := by decide +kernel
theorem dX2_unlikeEntries_16 : decode cX2_unlikeEntries 16 = .ok (.if_icmp .ge 24, 3) := by decide +kernel
theorem dX2_unlikeEntries_19 : decode cX2_unlikeEntries 19 = .ok (.aload_n 0, 1) := by decide +kernel
theorem dX2_unlikeEntries_20 : decode cX2_unlikeEntries 20 = .ok (.getfield 9, 3) := by decide +kernel
theorem dX2_unlikeEntries_23 : decode cX2_unlikeEntries 23 = .ok (.iload_n 3, 1) := by decide +kernel
theorem dX2_unlikeEntries_24 : decode cX2_unlikeEntries 24 = .ok (.iaload, 1) := by decide +kernel
theorem dX2_unlikeEntries_25 : decode cX2_unlikeEntries 25 = .ok (.aload_n 0, 1) := by decide +kernel
theorem dX2_unlikeEntries_26 : decode cX2_unlikeEntries 26 = .ok (.getfield 9, 3) := by decide +kernel
theorem dX2_unlikeEntries_29 : decode cX2_unlikeEntries 29 = .ok (.iload_n 2, 1) := by decide +kernel
theorem dX2_unlikeEntries_30 : decode cX2_unlikeEntries 30 = .ok (.iaload, 1) := by decide +kernel
theorem dX2_unlikeEntries_31 : decode cX2_unlikeEntries 31 = .ok (.if_icmp .eq 9, 3) := by decide +kernel
theorem dX2_unlikeEntries_34 : decode cX2_unlikeEntries 34 = .ok (.iinc 3 1, 3) := by decide +kernel
theorem dX2_unlikeEntries_37 : decode cX2_unlikeEntries 37 = .ok (.goto (-23), 3) := by decide +kernel
theorem dX2_unlikeEntries_40 : decode cX2_unlikeEntries 40 = .ok (.iload_n 3, 1) := by decide +kernel
theorem dX2_unlikeEntries_41 : decode cX2_unlikeEntries 41 = .ok (.iload_n 2, 1) := by decide +kernel
theorem dX2_unlikeEntries_42 : decode cX2_unlikeEntries 42 = .ok (.if_icmp .ne 6, 3) := by decide +kernel
theorem dX2_unlikeEntries_45 : decode cX2_unlikeEntries 45 = .ok (.iinc 1 1, 3) := by decide +kernel
theorem dX2_unlikeEntries_48 : decode cX2_unlikeEntries 48 = .ok (.iinc 2 1, 3) := by decide +kernel
theorem dX2_unlikeEntries_51 : decode cX2_unlikeEntries 51 = .ok (.goto (-47), 3) := by decide +kernel
theorem dX2_unlikeEntries_54 : decode cX2_unlikeEntries 54 = .ok (.iload_n 1, 1) := by decide +kernel
theorem dX2_unlikeEntries_55 : decode cX2_unlikeEntries 55 = .ok (.ireturn, 1) := by decide +kernel
theorem dX2_unlikeIn_0 : decode cX2_unlikeIn 0 = .ok (.iconst 0, 1) := by decide +kernel
theorem dX2_unlikeIn_1 : decode cX2_unlikeIn 1 = .ok (.istore_n 2, 1) := by decide +kernel
theorem dX2_unlikeIn_2 : decode cX2_unlikeIn 2 = .ok (.iconst 0, 1) := by decide +kernel
theorem dX2_unlikeIn_3 : decode cX2_unlikeIn 3 = .ok (.istore_n 3, 1) := by decide +kernel
theorem dX2_unlikeIn_4 : decode cX2_unlikeIn 4 = .ok (.iload_n 3, 1) := by decide +kernel
theorem dX2_unlikeIn_5 : decode cX2_unlikeIn 5 = .ok (.aload_n 0, 1) := by decide +kernel
theorem dX2_unlikeIn_6 : decode cX2_unlikeIn 6 = .ok (.invokevirtual 48, 3) := by decide +kernel
theorem dX2_unlikeIn_9 : decode cX2_unlikeIn 9 = .ok (.if_icmp .ge 27, 3) := by decide +kernel
theorem dX2_unlikeIn_12 : decode cX2_unlikeIn 12 = .ok (.aload_n 0, 1) := by decide +kernel
theorem dX2_unlikeIn_13 : decode cX2_unlikeIn 13 = .ok (.getfield 9, 3) := by decide +kernel
theorem dX2_unlikeIn_16 : decode cX2_unlikeIn 16 = .ok (.iload_n 3, 1) := by decide +kernel
theorem dX2_unlikeIn_17 : decode cX2_unlikeIn 17 = .ok (.iaload, 1) := by decide +kernel
theorem dX2_unlikeIn_18 : decode cX2_unlikeIn 18 = .ok (.aload_n 1, 1) := by decide +kernel
theorem dX2_unlikeIn_19 : decode cX2_unlikeIn 19 = .ok (.getfield 9, 3) := by decide +kernel
theorem dX2_unlikeIn_22 : decode cX2_unlikeIn 22 = .ok (.iload_n 3, 1) := by decide +kernel
theorem dX2_unlikeIn_23 : decode cX2_unlikeIn 23 = .ok (.iaload, 1) := by decide +kernel
theorem dX2_unlikeIn_24 : decode cX2_unlikeIn 24 = .ok (.if_icmp .eq 6, 3) := by decide +kernel
theorem dX2_unlikeIn_27 : decode cX2_unlikeIn 27 = .ok (.iinc 2 1, 3) := by decide +kernel
theorem dX2_unlikeIn_30 : decode cX2_unlikeIn 30 = .ok (.iinc 3 1, 3) := by decide +kernel
theorem dX2_unlikeIn_33 : decode cX2_unlikeIn 33 = .ok (.goto (-29), 3) := by decide +kernel
theorem dX2_unlikeIn_36 : decode cX2_unlikeIn 36 = .ok (.iload_n 2, 1) := by decide +kernel
theorem dX2_unlikeIn_37 : decode cX2_unlikeIn 37 = .ok (.ireturn, 1) := by decide +kernel
theorem dX2_lines_0 : decode cX2_lines 0 = .ok (.iload_n 1, 1) := by decide +kernel
theorem dX2_lines_1 : decode cX2_lines 1 = .ok (.ifCond .eq 10, 3) := by decide +kernel
theorem dX2_lines_4 : decode cX2_lines 4 = .ok (.aload_n 0, 1) := by decide +kernel
theorem dX2_lines_5 : decode cX2_lines 5 = .ok (.getfield 15, 3) := by decide +kernel
theorem dX2_lines_8 : decode cX2_lines 8 = .ok (.goto 7, 3) := by decide +kernel
theorem dX2_lines_11 : decode cX2_lines 11 = .ok (.aload_n 0, 1) := by decide +kernel
theorem dX2_lines_12 : decode cX2_lines 12 = .ok (.getfield 19, 3) := by decide +kernel
theorem dX2_lines_15 : decode cX2_lines 15 = .ok (.ireturn, 1) := by decide +kernel
theorem dX2_hasLine_0 : decode cX2_hasLine 0 = .ok (.iload_n 2, 1) := by decide +kernel
theorem dX2_hasLine_1 : decode cX2_hasLine 1 = .ok (.ifCond .lt 16, 3) := by decide +kernel
theorem dX2_hasLine_4 : decode cX2_hasLine 4 = .ok (.iload_n 2, 1) := by decide +kernel
theorem dX2_hasLine_5 : decode cX2_hasLine 5 = .ok (.aload_n 0, 1) := by decide +kernel
theorem dX2_hasLine_6 : decode cX2_hasLine 6 = .ok (.iload_n 1, 1) := by decide +kernel
theorem dX2_hasLine_7 : decode cX2_hasLine 7 = .ok (.invokevirtual 55, 3) := by decide +kernel
theorem dX2_hasLine_10 : decode cX2_hasLine 10 = .ok (.if_icmp .ge 7, 3) := by decide +kernel
theorem dX2_hasLine_13 : decode cX2_hasLine 13 = .ok (.iconst 1, 1) := by decide +kernel
theorem dX2_hasLine_14 : decode cX2_hasLine 14 = .ok (.goto 4, 3) := by decide +kernel
theorem dX2_hasLine_17 : decode cX2_hasLine 17 = .ok (.iconst 0, 1) := by decide +kernel
theorem dX2_hasLine_18 : decode cX2_hasLine 18 = .ok (.ireturn, 1) := by decide +kernel
theorem dX2_placeInLine_0 : decode cX2_placeInLine 0 = .ok (.iload_n 1, 1) := by decide +kernel
theorem dX2_placeInLine_1 : decode cX2_placeInLine 1 = .ok (.ifCond .eq 12, 3) := by decide +kernel
theorem dX2_placeInLine_4 : decode cX2_placeInLine 4 = .ok (.aload_n 0, 1) := by decide +kernel
theorem dX2_placeInLine_5 : decode cX2_placeInLine 5 = .ok (.iload_n 2, 1) := by decide +kernel
theorem dX2_placeInLine_6 : decode cX2_placeInLine 6 = .ok (.iload_n 3, 1) := by decide +kernel
theorem dX2_placeInLine_7 : decode cX2_placeInLine 7 = .ok (.invokevirtual 22, 3) := by decide +kernel
theorem dX2_placeInLine_10 : decode cX2_placeInLine 10 = .ok (.goto 9, 3) := by decide +kernel
theorem dX2_placeInLine_13 : decode cX2_placeInLine 13 = .ok (.aload_n 0, 1) := by decide +kernel
theorem dX2_placeInLine_14 : decode cX2_placeInLine 14 = .ok (.iload_n 3, 1) := by decide +kernel
theorem dX2_placeInLine_15 : decode cX2_placeInLine 15 = .ok (.iload_n 2, 1) := by decide +kernel
theorem dX2_placeInLine_16 : decode cX2_placeInLine 16 = .ok (.invokevirtual 22, 3) := by decide +kernel
theorem dX2_placeInLine_19 : decode cX2_placeInLine 19 = .ok (.ireturn, 1) := by decide +kernel
theorem dX2_canAdd_0 : decode cX2_canAdd 0 = .ok (.iconst 0, 1) := by decide +kernel
theorem dX2_canAdd_1 : decode cX2_canAdd 1 = .ok (.istore 4, 2) := by decide +kernel
theorem dX2_canAdd_3 : decode cX2_canAdd 3 = .ok (.iload 4, 2) := by decide +kernel
theorem dX2_canAdd_5 : decode cX2_canAdd 5 = .ok (.aload_n 0, 1) := by decide +kernel
theorem dX2_canAdd_6 : decode cX2_canAdd 6 = .ok (.iload_n 1, 1) := by decide +kernel
theorem dX2_canAdd_7 : decode cX2_canAdd 7 = .ok (.ifCond .ne 7, 3) := by decide +kernel
theorem dX2_canAdd_10 : decode cX2_canAdd 10 = .ok (.iconst 1, 1) := by decide +kernel
theorem dX2_canAdd_11 : decode cX2_canAdd 11 = .ok (.goto 4, 3) := by decide +kernel
theorem dX2_canAdd_14 : decode cX2_canAdd 14 = .ok (.iconst 0, 1) := by decide +kernel
theorem dX2_canAdd_15 : decode cX2_canAdd 15 = .ok (.invokevirtual 55, 3) := by decide +kernel
theorem dX2_canAdd_18 : decode cX2_canAdd 18 = .ok (.if_icmp .ge 32, 3) := by decide +kernel
theorem dX2_canAdd_21 : decode cX2_canAdd 21 = .ok (.aload_n 0, 1) := by decide +kernel
theorem dX2_canAdd_22 : decode cX2_canAdd 22 = .ok (.getfield 9, 3) := by decide +kernel
theorem dX2_canAdd_25 : decode cX2_canAdd 25 = .ok (.aload_n 0, 1) := by decide +kernel
theorem dX2_canAdd_26 : decode cX2_canAdd 26 = .ok (.iload_n 1, 1) := by decide +kernel
theorem dX2_canAdd_27 : decode cX2_canAdd 27 = .ok (.iload_n 2, 1) := by decide +kernel
theorem dX2_canAdd_28 : decode cX2_canAdd 28 = .ok (.iload 4, 2) := by decide +kernel
theorem dX2_canAdd_30 : decode cX2_canAdd 30 = .ok (.invokevirtual 59, 3) := by decide +kernel
theorem dX2_canAdd_33 : decode cX2_canAdd 33 = .ok (.iaload, 1) := by decide +kernel
theorem dX2_canAdd_34 : decode cX2_canAdd 34 = .ok (.iload_n 3, 1) := by decide +kernel
theorem dX2_canAdd_35 : decode cX2_canAdd 35 = .ok (.iadd, 1) := by decide +kernel
theorem dX2_canAdd_36 : decode cX2_canAdd 36 = .ok (.invokestatic 63, 3) := by decide +kernel
theorem dX2_canAdd_39 : decode cX2_canAdd 39 = .ok (.ifCond .ne 5, 3) := by decide +kernel
theorem dX2_canAdd_42 : decode cX2_canAdd 42 = .ok (.iconst 0, 1) := by decide +kernel
theorem dX2_canAdd_43 : decode cX2_canAdd 43 = .ok (.ireturn, 1) := by decide +kernel
theorem dX2_canAdd_44 : decode cX2_canAdd 44 = .ok (.iinc 4 1, 3) := by decide +kernel
theorem dX2_canAdd_47 : decode cX2_canAdd 47 = .ok (.goto (-44), 3) := by decide +kernel
theorem dX2_canAdd_50 : decode cX2_canAdd 50 = .ok (.iconst 1, 1) := by decide +kernel
theorem dX2_canAdd_51 : decode cX2_canAdd 51 = .ok (.ireturn, 1) := by decide +kernel
theorem dX2_add_0 : decode cX2_add 0 = .ok (.iconst 0, 1) := by decide +kernel
theorem dX2_add_1 : decode cX2_add 1 = .ok (.istore 4, 2) := by decide +kernel
theorem dX2_add_3 : decode cX2_add 3 = .ok (.iload 4, 2) := by decide +kernel
theorem dX2_add_5 : decode cX2_add 5 = .ok (.aload_n 0, 1) := by decide +kernel
theorem dX2_add_6 : decode cX2_add 6 = .ok (.iload_n 1, 1) := by decide +kernel
theorem dX2_add_7 : decode cX2_add 7 = .ok (.ifCond .ne 7, 3) := by decide +kernel
theorem dX2_add_10 : decode cX2_add 10 = .ok (.iconst 1, 1) := by decide +kernel
theorem dX2_add_11 : decode cX2_add 11 = .ok (.goto 4, 3) := by decide +kernel
theorem dX2_add_14 : decode cX2_add 14 = .ok (.iconst 0, 1) := by decide +kernel
theorem dX2_add_15 : decode cX2_add 15 = .ok (.invokevirtual 55, 3) := by decide +kernel
theorem dX2_add_18 : decode cX2_add 18 = .ok (.if_icmp .ge 26, 3) := by decide +kernel
theorem dX2_add_21 : decode cX2_add 21 = .ok (.aload_n 0, 1) := by decide +kernel
theorem dX2_add_22 : decode cX2_add 22 = .ok (.getfield 9, 3) := by decide +kernel
theorem dX2_add_25 : decode cX2_add 25 = .ok (.aload_n 0, 1) := by decide +kernel
theorem dX2_add_26 : decode cX2_add 26 = .ok (.iload_n 1, 1) := by decide +kernel
theorem dX2_add_27 : decode cX2_add 27 = .ok (.iload_n 2, 1) := by decide +kernel
theorem dX2_add_28 : decode cX2_add 28 = .ok (.iload 4, 2) := by decide +kernel
theorem dX2_add_30 : decode cX2_add 30 = .ok (.invokevirtual 59, 3) := by decide +kernel
theorem dX2_add_33 : decode cX2_add 33 = .ok (.dup2, 1) := by decide +kernel
theorem dX2_add_34 : decode cX2_add 34 = .ok (.iaload, 1) := by decide +kernel
theorem dX2_add_35 : decode cX2_add 35 = .ok (.iload_n 3, 1) := by decide +kernel
theorem dX2_add_36 : decode cX2_add 36 = .ok (.iadd, 1) := by decide +kernel
theorem dX2_add_37 : decode cX2_add 37 = .ok (.iastore, 1) := by decide +kernel
theorem dX2_add_38 : decode cX2_add 38 = .ok (.iinc 4 1, 3) := by decide +kernel
theorem dX2_add_41 : decode cX2_add 41 = .ok (.goto (-38), 3) := by decide +kernel
theorem dX2_add_44 : decode cX2_add 44 = .ok (.return_, 1) := by decide +kernel
theorem dX2_swapLines_0 : decode cX2_swapLines 0 = .ok (.iconst 0, 1) := by decide +kernel
theorem dX2_swapLines_1 : decode cX2_swapLines 1 = .ok (.istore 4, 2) := by decide +kernel
theorem dX2_swapLines_3 : decode cX2_swapLines 3 = .ok (.iconst 0, 1) := by decide +kernel
theorem dX2_swapLines_4 : decode cX2_swapLines 4 = .ok (.istore 5, 2) := by decide +kernel
theorem dX2_swapLines_6 : decode cX2_swapLines 6 = .ok (.iload 5, 2) := by decide +kernel
theorem dX2_swapLines_8 : decode cX2_swapLines 8 = .ok (.aload_n 0, 1) := by decide +kernel
theorem dX2_swapLines_9 : decode cX2_swapLines 9 = .ok (.iload_n 1, 1) := by decide +kernel
theorem dX2_swapLines_10 : decode cX2_swapLines 10 = .ok (.ifCond .ne 7, 3) := by decide +kernel
theorem dX2_swapLines_13 : decode cX2_swapLines 13 = .ok (.iconst 1, 1) := by decide +kernel
theorem dX2_swapLines_14 : decode cX2_swapLines 14 = .ok (.goto 4, 3) := by decide +kernel
theorem dX2_swapLines_17 : decode cX2_swapLines 17 = .ok (.iconst 0, 1) := by decide +kernel
theorem dX2_swapLines_18 : decode cX2_swapLines 18 = .ok (.invokevirtual 55, 3) := by decide +kernel
theorem dX2_swapLines_21 : decode cX2_swapLines 21 = .ok (.if_icmp .ge 85, 3) := by decide +kernel
theorem dX2_swapLines_24 : decode cX2_swapLines 24 = .ok (.aload_n 0, 1) := by decide +kernel
theorem dX2_swapLines_25 : decode cX2_swapLines 25 = .ok (.iload_n 1, 1) := by decide +kernel
theorem dX2_swapLines_26 : decode cX2_swapLines 26 = .ok (.iload_n 2, 1) := by decide +kernel
theorem dX2_swapLines_27 : decode cX2_swapLines 27 = .ok (.iload 5, 2) := by decide +kernel
theorem dX2_swapLines_29 : decode cX2_swapLines 29 = .ok (.invokevirtual 59, 3) := by decide +kernel
theorem dX2_swapLines_32 : decode cX2_swapLines 32 = .ok (.istore 6, 2) := by decide +kernel
theorem dX2_swapLines_34 : decode cX2_swapLines 34 = .ok (.aload_n 0, 1) := by decide +kernel
theorem dX2_swapLines_35 : decode cX2_swapLines 35 = .ok (.iload_n 1, 1) := by decide +kernel
theorem dX2_swapLines_36 : decode cX2_swapLines 36 = .ok (.iload_n 3, 1) := by decide +kernel
theorem dX2_swapLines_37 : decode cX2_swapLines 37 = .ok (.iload 5, 2) := by decide +kernel
theorem dX2_swapLines_39 : decode cX2_swapLines 39 = .ok (.invokevirtual 59, 3) := by decide +kernel
theorem dX2_swapLines_42 : decode cX2_swapLines 42 = .ok (.istore 7, 2) := by decide +kernel
theorem dX2_swapLines_44 : decode cX2_swapLines 44 = .ok (.aload_n 0, 1) := by decide +kernel
theorem dX2_swapLines_45 : decode cX2_swapLines 45 = .ok (.getfield 9, 3) := by decide +kernel
theorem dX2_swapLines_48 : decode cX2_swapLines 48 = .ok (.iload 6, 2) := by decide +kernel
theorem dX2_swapLines_50 : decode cX2_swapLines 50 = .ok (.iaload, 1) := by decide +kernel
theorem dX2_swapLines_51 : decode cX2_swapLines 51 = .ok (.istore 8, 2) := by decide +kernel
theorem dX2_swapLines_53 : decode cX2_swapLines 53 = .ok (.iload 4, 2) := by decide +kernel
theorem dX2_swapLines_55 : decode cX2_swapLines 55 = .ok (.ifCond .ne 15, 3) := by decide +kernel
theorem dX2_swapLines_58 : decode cX2_swapLines 58 = .ok (.iload 8, 2) := by decide +kernel
theorem dX2_swapLines_60 : decode cX2_swapLines 60 = .ok (.aload_n 0, 1) := by decide +kernel
theorem dX2_swapLines_61 : decode cX2_swapLines 61 = .ok (.getfield 9, 3) := by decide +kernel
theorem dX2_swapLines_64 : decode cX2_swapLines 64 = .ok (.iload 7, 2) := by decide +kernel
theorem dX2_swapLines_66 : decode cX2_swapLines 66 = .ok (.iaload, 1) := by decide +kernel
theorem dX2_swapLines_67 : decode cX2_swapLines 67 = .ok (.if_icmp .eq 7, 3) := by decide +kernel
theorem dX2_swapLines_70 : decode cX2_swapLines 70 = .ok (.iconst 1, 1) := by decide +kernel
theorem dX2_swapLines_71 : decode cX2_swapLines 71 = .ok (.goto 4, 3) := by decide +kernel
theorem dX2_swapLines_74 : decode cX2_swapLines 74 = .ok (.iconst 0, 1) := by decide +kernel
theorem dX2_swapLines_75 : decode cX2_swapLines 75 = .ok (.istore 4, 2) := by decide +kernel
theorem dX2_swapLines_77 : decode cX2_swapLines 77 = .ok (.aload_n 0, 1) := by decide +kernel
theorem dX2_swapLines_78 : decode cX2_swapLines 78 = .ok (.getfield 9, 3) := by decide +kernel
theorem dX2_swapLines_81 : decode cX2_swapLines 81 = .ok (.iload 6, 2) := by decide +kernel
theorem dX2_swapLines_83 : decode cX2_swapLines 83 = .ok (.aload_n 0, 1) := by decide +kernel
theorem dX2_swapLines_84 : decode cX2_swapLines 84 = .ok (.getfield 9, 3) := by decide +kernel
theorem dX2_swapLines_87 : decode cX2_swapLines 87 = .ok (.iload 7, 2) := by decide +kernel
theorem dX2_swapLines_89 : decode cX2_swapLines 89 = .ok (.iaload, 1) := by decide +kernel
theorem dX2_swapLines_90 : decode cX2_swapLines 90 = .ok (.iastore, 1) := by decide +kernel
theorem dX2_swapLines_91 : decode cX2_swapLines 91 = .ok (.aload_n 0, 1) := by decide +kernel
theorem dX2_swapLines_92 : decode cX2_swapLines 92 = .ok (.getfield 9, 3) := by decide +kernel
theorem dX2_swapLines_95 : decode cX2_swapLines 95 = .ok (.iload 7, 2) := by decide +kernel
theorem dX2_swapLines_97 : decode cX2_swapLines 97 = .ok (.iload 8, 2) := by decide +kernel
theorem dX2_swapLines_99 : decode cX2_swapLines 99 = .ok (.iastore, 1) := by decide +kernel
theorem dX2_swapLines_100 : decode cX2_swapLines 100 = .ok (.iinc 5 1, 3) := by decide +kernel
theorem dX2_swapLines_103 : decode cX2_swapLines 103 = .ok (.goto (-97), 3) := by decide +kernel
theorem dX2_swapLines_106 : decode cX2_swapLines 106 = .ok (.iload 4, 2) := by decide +kernel
theorem dX2_swapLines_108 : decode cX2_swapLines 108 = .ok (.ireturn, 1) := by decide +kernel
theorem dX2_removeLine_0 : decode cX2_removeLine 0 = .ok (.iconst 0, 1) := by decide +kernel
theorem dX2_removeLine_1 : decode cX2_removeLine 1 = .ok (.istore_n 3, 1) := by decide +kernel
theorem dX2_removeLine_2 : decode cX2_removeLine 2 = .ok (.iconst 0, 1) := by decide +kernel
theorem dX2_removeLine_3 : decode cX2_removeLine 3 = .ok (.istore 4, 2) := by decide +kernel
theorem dX2_removeLine_5 : decode cX2_removeLine 5 = .ok (.iload 4, 2) := by decide +kernel
theorem dX2_removeLine_7 : decode cX2_removeLine 7 = .ok (.aload_n 0, 1) := by decide +kernel
theorem dX2_removeLine_8 : decode cX2_removeLine 8 = .ok (.getfield 15, 3) := by decide +kernel
theorem dX2_removeLine_11 : decode cX2_removeLine 11 = .ok (.if_icmp .ge 59, 3) := by decide +kernel
theorem dX2_removeLine_14 : decode cX2_removeLine 14 = .ok (.iconst 0, 1) := by decide +kernel
theorem dX2_removeLine_15 : decode cX2_removeLine 15 = .ok (.istore 5, 2) := by decide +kernel
theorem dX2_removeLine_17 : decode cX2_removeLine 17 = .ok (.iload 5, 2) := by decide +kernel
theorem dX2_removeLine_19 : decode cX2_removeLine 19 = .ok (.aload_n 0, 1) := by decide +kernel
theorem dX2_removeLine_20 : decode cX2_removeLine 20 = .ok (.getfield 19, 3) := by decide +kernel
theorem dX2_removeLine_23 : decode cX2_removeLine 23 = .ok (.if_icmp .ge 41, 3) := by decide +kernel
theorem dX2_removeLine_26 : decode cX2_removeLine 26 = .ok (.iload_n 1, 1) := by decide +kernel
theorem dX2_removeLine_27 : decode cX2_removeLine 27 = .ok (.ifCond .eq 8, 3) := by decide +kernel
theorem dX2_removeLine_30 : decode cX2_removeLine 30 = .ok (.iload 4, 2) := by decide +kernel
theorem dX2_removeLine_32 : decode cX2_removeLine 32 = .ok (.goto 5, 3) := by decide +kernel
theorem dX2_removeLine_35 : decode cX2_removeLine 35 = .ok (.iload 5, 2) := by decide +kernel
theorem dX2_removeLine_37 : decode cX2_removeLine 37 = .ok (.iload_n 2, 1) := by decide +kernel
theorem dX2_removeLine_38 : decode cX2_removeLine 38 = .ok (.if_icmp .eq 20, 3) := by decide +kernel
theorem dX2_removeLine_41 : decode cX2_removeLine 41 = .ok (.aload_n 0, 1) := by decide +kernel
theorem dX2_removeLine_42 : decode cX2_removeLine 42 = .ok (.getfield 9, 3) := by decide +kernel
theorem dX2_removeLine_45 : decode cX2_removeLine 45 = .ok (.iload_n 3, 1) := by decide +kernel
theorem dX2_removeLine_46 : decode cX2_removeLine 46 = .ok (.aload_n 0, 1) := by decide +kernel
theorem dX2_removeLine_47 : decode cX2_removeLine 47 = .ok (.iload 4, 2) := by decide +kernel
theorem dX2_removeLine_49 : decode cX2_removeLine 49 = .ok (.iload 5, 2) := by decide +kernel
theorem dX2_removeLine_51 : decode cX2_removeLine 51 = .ok (.invokevirtual 36, 3) := by decide +kernel
theorem dX2_removeLine_54 : decode cX2_removeLine 54 = .ok (.iastore, 1) := by decide +kernel
theorem dX2_removeLine_55 : decode cX2_removeLine 55 = .ok (.iinc 3 1, 3) := by decide +kernel
theorem dX2_removeLine_58 : decode cX2_removeLine 58 = .ok (.iinc 5 1, 3) := by decide +kernel
theorem dX2_removeLine_61 : decode cX2_removeLine 61 = .ok (.goto (-44), 3) := by decide +kernel
theorem dX2_removeLine_64 : decode cX2_removeLine 64 = .ok (.iinc 4 1, 3) := by decide +kernel
theorem dX2_removeLine_67 : decode cX2_removeLine 67 = .ok (.goto (-62), 3) := by decide +kernel
theorem dX2_removeLine_70 : decode cX2_removeLine 70 = .ok (.aload_n 0, 1) := by decide +kernel
theorem dX2_removeLine_71 : decode cX2_removeLine 71 = .ok (.iload_n 1, 1) := by decide +kernel
theorem dX2_removeLine_72 : decode cX2_removeLine 72 = .ok (.ifCond .eq 12, 3) := by decide +kernel
theorem dX2_removeLine_75 : decode cX2_removeLine 75 = .ok (.aload_n 0, 1) := by decide +kernel
theorem dX2_removeLine_76 : decode cX2_removeLine 76 = .ok (.getfield 15, 3) := by decide +kernel
theorem dX2_removeLine_79 : decode cX2_removeLine 79 = .ok (.iconst 1, 1) := by decide +kernel
theorem dX2_removeLine_80 : decode cX2_removeLine 80 = .ok (.isub, 1) := by decide +kernel
theorem dX2_removeLine_81 : decode cX2_removeLine 81 = .ok (.goto 7, 3) := by decide +kernel
theorem dX2_removeLine_84 : decode cX2_removeLine 84 = .ok (.aload_n 0, 1) := by decide +kernel
theorem dX2_removeLine_85 : decode cX2_removeLine 85 = .ok (.getfield 15, 3) := by decide +kernel
theorem dX2_removeLine_88 : decode cX2_removeLine 88 = .ok (.iload_n 1, 1) := by decide +kernel
theorem dX2_removeLine_89 : decode cX2_removeLine 89 = .ok (.ifCond .eq 10, 3) := by decide +kernel
theorem dX2_removeLine_92 : decode cX2_removeLine 92 = .ok (.aload_n 0, 1) := by decide +kernel
theorem dX2_removeLine_93 : decode cX2_removeLine 93 = .ok (.getfield 19, 3) := by decide +kernel
theorem dX2_removeLine_96 : decode cX2_removeLine 96 = .ok (.goto 9, 3) := by decide +kernel
theorem dX2_removeLine_99 : decode cX2_removeLine 99 = .ok (.aload_n 0, 1) := by decide +kernel
theorem dX2_removeLine_100 : decode cX2_removeLine 100 = .ok (.getfield 19, 3) := by decide +kernel
theorem dX2_removeLine_103 : decode cX2_removeLine 103 = .ok (.iconst 1, 1) := by decide +kernel
theorem dX2_removeLine_104 : decode cX2_removeLine 104 = .ok (.isub, 1) := by decide +kernel
theorem dX2_removeLine_105 : decode cX2_removeLine 105 = .ok (.invokevirtual 26, 3) := by decide +kernel
theorem dX2_removeLine_108 : decode cX2_removeLine 108 = .ok (.return_, 1) := by decide +kernel
theorem dX3_init_0 : decode cX3_init 0 = .ok (.aload_n 0, 1) := by decide +kernel
theorem dX3_init_1 : decode cX3_init 1 = .ok (.invokespecial 1, 3) := by decide +kernel
theorem dX3_init_4 : decode cX3_init 4 = .ok (.aload_n 0, 1) := by decide +kernel
theorem dX3_init_5 : decode cX3_init 5 = .ok (.bipush 6, 2) := by decide +kernel
theorem dX3_init_7 : decode cX3_init 7 = .ok (.anewarray 9, 3) := by decide +kernel
theorem dX3_init_10 : decode cX3_init 10 = .ok (.putfield 11, 3) := by decide +kernel
theorem dX3_init_13 : decode cX3_init 13 = .ok (.aload_n 0, 1) := by decide +kernel
theorem dX3_init_14 : decode cX3_init 14 = .ok (.iconst 0, 1) := by decide +kernel
theorem dX3_init_15 : decode cX3_init 15 = .ok (.putfield 15, 3) := by decide +kernel
theorem dX3_init_18 : decode cX3_init 18 = .ok (.aload_n 0, 1) := by decide +kernel
theorem dX3_init_19 : decode cX3_init 19 = .ok (.iconst 0, 1) := by decide +kernel
theorem dX3_init_20 : decode cX3_init 20 = .ok (.putfield 19, 3) := by decide +kernel
theorem dX3_init_23 : decode cX3_init 23 = .ok (.iconst 0, 1) := by decide +kernel
theorem dX3_init_24 : decode cX3_init 24 = .ok (.istore_n 1, 1) := by decide +kernel
theorem dX3_init_25 : decode cX3_init 25 = .ok (.iload_n 1, 1) := by decide +kernel
theorem dX3_init_26 : decode cX3_init 26 = .ok (.bipush 6, 2) := by decide +kernel
theorem dX3_init_28 : decode cX3_init 28 = .ok (.if_icmp .ge 22, 3) := by decide +kernel
theorem dX3_init_31 : decode cX3_init 31 = .ok (.aload_n 0, 1) := by decide +kernel
theorem dX3_init_32 : decode cX3_init 32 = .ok (.getfield 11, 3) := by decide +kernel
theorem dX3_init_35 : decode cX3_init 35 = .ok (.iload_n 1, 1) := by decide +kernel
theorem dX3_init_36 : decode cX3_init 36 = .ok (.new 9, 3) := by decide +kernel
theorem dX3_init_39 : decode cX3_init 39 = .ok (.dup, 1) := by decide +kernel
theorem dX3_init_40 : decode cX3_init 40 = .ok (.invokespecial 22, 3) := by decide +kernel
theorem dX3_init_43 : decode cX3_init 43 = .ok (.aastore, 1) := by decide +kernel
theorem dX3_init_44 : decode cX3_init 44 = .ok (.iinc 1 1, 3) := by decide +kernel
theorem dX3_init_47 : decode cX3_init 47 = .ok (.goto (-22), 3) := by decide +kernel
theorem dX3_init_50 : decode cX3_init 50 = .ok (.return_, 1) := by decide +kernel
theorem dX3_remember_0 : decode cX3_remember 0 = .ok (.aload_n 0, 1) := by decide +kernel
theorem dX3_remember_1 : decode cX3_remember 1 = .ok (.getfield 11, 3) := by decide +kernel
theorem dX3_remember_4 : decode cX3_remember 4 = .ok (.aload_n 0, 1) := by decide +kernel
theorem dX3_remember_5 : decode cX3_remember 5 = .ok (.getfield 15, 3) := by decide +kernel
theorem dX3_remember_8 : decode cX3_remember 8 = .ok (.aaload, 1) := by decide +kernel
theorem dX3_remember_9 : decode cX3_remember 9 = .ok (.aload_n 1, 1) := by decide +kernel
theorem dX3_remember_10 : decode cX3_remember 10 = .ok (.invokevirtual 23, 3) := by decide +kernel
theorem dX3_remember_13 : decode cX3_remember 13 = .ok (.aload_n 0, 1) := by decide +kernel
theorem dX3_remember_14 : decode cX3_remember 14 = .ok (.aload_n 0, 1) := by decide +kernel
theorem dX3_remember_15 : decode cX3_remember 15 = .ok (.getfield 15, 3) := by decide +kernel
theorem dX3_remember_18 : decode cX3_remember 18 = .ok (.iconst 1, 1) := by decide +kernel
theorem dX3_remember_19 : decode cX3_remember 19 = .ok (.iadd, 1) := by decide +kernel
theorem dX3_remember_20 : decode cX3_remember 20 = .ok (.bipush 6, 2) := by decide +kernel
theorem dX3_remember_22 : decode cX3_remember 22 = .ok (.irem, 1) := by decide +kernel
theorem dX3_remember_23 : decode cX3_remember 23 = .ok (.putfield 15, 3) := by decide +kernel
theorem dX3_remember_26 : decode cX3_remember 26 = .ok (.aload_n 0, 1) := by decide +kernel
theorem dX3_remember_27 : decode cX3_remember 27 = .ok (.aload_n 0, 1) := by decide +kernel
theorem dX3_remember_28 : decode cX3_remember 28 = .ok (.getfield 19, 3) := by decide +kernel
theorem dX3_remember_31 : decode cX3_remember 31 = .ok (.iconst 1, 1) := by decide +kernel
theorem dX3_remember_32 : decode cX3_remember 32 = .ok (.iadd, 1) := by decide +kernel
theorem dX3_remember_33 : decode cX3_remember 33 = .ok (.bipush 6, 2) := by decide +kernel
theorem dX3_remember_35 : decode cX3_remember 35 = .ok (.invokestatic 27, 3) := by decide +kernel
theorem dX3_remember_38 : decode cX3_remember 38 = .ok (.putfield 19, 3) := by decide +kernel
theorem dX3_remember_41 : decode cX3_remember 41 = .ok (.return_, 1) := by decide +kernel
theorem dX4_init_0 : decode cX4_init 0 = .ok (.aload_n 0, 1) := by decide +kernel
theorem dX4_init_1 : decode cX4_init 1 = .ok (.invokespecial 3, 3) := by decide +kernel
theorem dX4_init_4 : decode cX4_init 4 = .ok (.aload_n 0, 1) := by decide +kernel
theorem dX4_init_5 : decode cX4_init 5 = .ok (.bipush 80, 2) := by decide +kernel
theorem dX4_init_7 : decode cX4_init 7 = .ok (.newarray .char, 2) := by decide +kernel
theorem dX4_init_9 : decode cX4_init 9 = .ok (.putfield 11, 3) := by decide +kernel
theorem dX4_init_12 : decode cX4_init 12 = .ok (.aload_n 0, 1) := by decide +kernel
theorem dX4_init_13 : decode cX4_init 13 = .ok (.iconst 0, 1) := by decide +kernel
theorem dX4_init_14 : decode cX4_init 14 = .ok (.putfield 15, 3) := by decide +kernel
theorem dX4_init_17 : decode cX4_init 17 = .ok (.return_, 1) := by decide +kernel
theorem dX4_charactersIn_0 : decode cX4_charactersIn 0 = .ok (.iconst 0, 1) := by decide +kernel
theorem dX4_charactersIn_1 : decode cX4_charactersIn 1 = .ok (.istore_n 2, 1) := by decide +kernel
theorem dX4_charactersIn_2 : decode cX4_charactersIn 2 = .ok (.lload_n 0, 1) := by decide +kernel
theorem dX4_charactersIn_3 : decode cX4_charactersIn 3 = .ok (.lstore_n 3, 1) := by decide +kernel
theorem dX4_charactersIn_4 : decode cX4_charactersIn 4 = .ok (.lload_n 3, 1) := by decide +kernel
theorem dX4_charactersIn_5 : decode cX4_charactersIn 5 = .ok (.lconst 0, 1) := by decide +kernel
theorem dX4_charactersIn_6 : decode cX4_charactersIn 6 = .ok (.lcmp, 1) := by decide +kernel
theorem dX4_charactersIn_7 : decode cX4_charactersIn 7 = .ok (.ifCond .eq 44, 3) := by decide +kernel
theorem dX4_charactersIn_10 : decode cX4_charactersIn 10 = .ok (.iload_n 2, 1) := by decide +kernel
theorem dX4_charactersIn_11 : decode cX4_charactersIn 11 = .ok (.bipush 8, 2) := by decide +kernel
theorem dX4_charactersIn_13 : decode cX4_charactersIn 13 = .ok (.if_icmp .ge 38, 3) := by decide +kernel
theorem dX4_charactersIn_16 : decode cX4_charactersIn 16 = .ok (.lload_n 3, 1) := by decide +kernel
theorem dX4_charactersIn_17 : decode cX4_charactersIn 17 = .ok (.ldc2_w 19, 3) := by decide +kernel
theorem dX4_charactersIn_20 : decode cX4_charactersIn 20 = .ok (.land, 1) := by decide +kernel
theorem dX4_charactersIn_21 : decode cX4_charactersIn 21 = .ok (.l2i, 1) := by decide +kernel
theorem dX4_charactersIn_22 : decode cX4_charactersIn 22 = .ok (.istore 5, 2) := by decide +kernel
theorem dX4_charactersIn_24 : decode cX4_charactersIn 24 = .ok (.iload 5, 2) := by decide +kernel
theorem dX4_charactersIn_26 : decode cX4_charactersIn 26 = .ok (.bipush 33, 2) := by decide +kernel
theorem dX4_charactersIn_28 : decode cX4_charactersIn 28 = .ok (.if_icmp .lt 10, 3) := by decide +kernel
theorem dX4_charactersIn_31 : decode cX4_charactersIn 31 = .ok (.iload 5, 2) := by decide +kernel
theorem dX4_charactersIn_33 : decode cX4_charactersIn 33 = .ok (.bipush 126, 2) := by decide +kernel
theorem dX4_charactersIn_35 : decode cX4_charactersIn 35 = .ok (.if_icmp .le 5, 3) := by decide +kernel
theorem dX4_charactersIn_38 : decode cX4_charactersIn 38 = .ok (.iconst 0, 1) := by decide +kernel
theorem dX4_charactersIn_39 : decode cX4_charactersIn 39 = .ok (.ireturn, 1) := by decide +kernel
theorem dX4_charactersIn_40 : decode cX4_charactersIn 40 = .ok (.iinc 2 1, 3) := by decide +kernel
theorem dX4_charactersIn_43 : decode cX4_charactersIn 43 = .ok (.lload_n 3, 1) := by decide +kernel
theorem dX4_charactersIn_44 : decode cX4_charactersIn 44 = .ok (.bipush 8, 2) := by decide +kernel
theorem dX4_charactersIn_46 : decode cX4_charactersIn 46 = .ok (.lushr, 1) := by decide +kernel
theorem dX4_charactersIn_47 : decode cX4_charactersIn 47 = .ok (.lstore_n 3, 1) := by decide +kernel
theorem dX4_charactersIn_48 : decode cX4_charactersIn 48 = .ok (.goto (-44), 3) := by decide +kernel
theorem dX4_charactersIn_51 : decode cX4_charactersIn 51 = .ok (.iload_n 2, 1) := by decide +kernel
theorem dX4_charactersIn_52 : decode cX4_charactersIn 52 = .ok (.ireturn, 1) := by decide +kernel
theorem dX4_append_0 : decode cX4_append 0 = .ok (.iconst 0, 1) := by decide +kernel
theorem dX4_append_1 : decode cX4_append 1 = .ok (.istore 4, 2) := by decide +kernel
theorem dX4_append_3 : decode cX4_append 3 = .ok (.iload 4, 2) := by decide +kernel
theorem dX4_append_5 : decode cX4_append 5 = .ok (.iload_n 3, 1) := by decide +kernel
theorem dX4_append_6 : decode cX4_append 6 = .ok (.if_icmp .ge 38, 3) := by decide +kernel
theorem dX4_append_9 : decode cX4_append 9 = .ok (.aload_n 0, 1) := by decide +kernel
theorem dX4_append_10 : decode cX4_append 10 = .ok (.getfield 11, 3) := by decide +kernel
theorem dX4_append_13 : decode cX4_append 13 = .ok (.aload_n 0, 1) := by decide +kernel
theorem dX4_append_14 : decode cX4_append 14 = .ok (.getfield 15, 3) := by decide +kernel
theorem dX4_append_17 : decode cX4_append 17 = .ok (.iload 4, 2) := by decide +kernel
theorem dX4_append_19 : decode cX4_append 19 = .ok (.iadd, 1) := by decide +kernel
theorem dX4_append_20 : decode cX4_append 20 = .ok (.lload_n 1, 1) := by decide +kernel
theorem dX4_append_21 : decode cX4_append 21 = .ok (.bipush 8, 2) := by decide +kernel
theorem dX4_append_23 : decode cX4_append 23 = .ok (.iload_n 3, 1) := by decide +kernel
theorem dX4_append_24 : decode cX4_append 24 = .ok (.iconst 1, 1) := by decide +kernel
theorem dX4_append_25 : decode cX4_append 25 = .ok (.isub, 1) := by decide +kernel
theorem dX4_append_26 : decode cX4_append 26 = .ok (.iload 4, 2) := by decide +kernel
theorem dX4_append_28 : decode cX4_append 28 = .ok (.isub, 1) := by decide +kernel
theorem dX4_append_29 : decode cX4_append 29 = .ok (.imul, 1) := by decide +kernel
theorem dX4_append_30 : decode cX4_append 30 = .ok (.lushr, 1) := by decide +kernel
theorem dX4_append_31 : decode cX4_append 31 = .ok (.ldc2_w 19, 3) := by decide +kernel
theorem dX4_append_34 : decode cX4_append 34 = .ok (.land, 1) := by decide +kernel
theorem dX4_append_35 : decode cX4_append 35 = .ok (.l2i, 1) := by decide +kernel
theorem dX4_append_36 : decode cX4_append 36 = .ok (.i2c, 1) := by decide +kernel
theorem dX4_append_37 : decode cX4_append 37 = .ok (.castore, 1) := by decide +kernel
theorem dX4_append_38 : decode cX4_append 38 = .ok (.iinc 4 1, 3) := by decide +kernel
theorem dX4_append_41 : decode cX4_append 41 = .ok (.goto (-38), 3) := by decide +kernel
theorem dX4_append_44 : decode cX4_append 44 = .ok (.aload_n 0, 1) := by decide +kernel
theorem dX4_append_45 : decode cX4_append 45 = .ok (.dup, 1) := by decide +kernel
theorem dX4_append_46 : decode cX4_append 46 = .ok (.getfield 15, 3) := by decide +kernel
theorem dX4_append_49 : decode cX4_append 49 = .ok (.iload_n 3, 1) := by decide +kernel
theorem dX4_append_50 : decode cX4_append 50 = .ok (.iadd, 1) := by decide +kernel
theorem dX4_append_51 : decode cX4_append 51 = .ok (.putfield 15, 3) := by decide +kernel
theorem dX4_append_54 : decode cX4_append 54 = .ok (.return_, 1) := by decide +kernel
theorem dX4_isDigit_0 : decode cX4_isDigit 0 = .ok (.iload_n 0, 1) := by decide +kernel
theorem dX4_isDigit_1 : decode cX4_isDigit 1 = .ok (.bipush 48, 2) := by decide +kernel
theorem dX4_isDigit_3 : decode cX4_isDigit 3 = .ok (.if_icmp .lt 13, 3) := by decide +kernel
theorem dX4_isDigit_6 : decode cX4_isDigit 6 = .ok (.iload_n 0, 1) := by decide +kernel
theorem dX4_isDigit_7 : decode cX4_isDigit 7 = .ok (.bipush 57, 2) := by decide +kernel
theorem dX4_isDigit_9 : decode cX4_isDigit 9 = .ok (.if_icmp .gt 7, 3) := by decide +kernel
theorem dX4_isDigit_12 : decode cX4_isDigit 12 = .ok (.iconst 1, 1) := by decide +kernel
theorem dX4_isDigit_13 : decode cX4_isDigit 13 = .ok (.goto 4, 3) := by decide +kernel
theorem dX4_isDigit_16 : decode cX4_isDigit 16 = .ok (.iconst 0, 1) := by decide +kernel
theorem dX4_isDigit_17 : decode cX4_isDigit 17 = .ok (.ireturn, 1) := by decide +kernel
theorem dX4_firstFault_0 : decode cX4_firstFault 0 = .ok (.iconst (-1), 1) := by decide +kernel
theorem dX4_firstFault_1 : decode cX4_firstFault 1 = .ok (.istore_n 1, 1) := by decide +kernel
theorem dX4_firstFault_2 : decode cX4_firstFault 2 = .ok (.iconst 0, 1) := by decide +kernel
theorem dX4_firstFault_3 : decode cX4_firstFault 3 = .ok (.istore_n 2, 1) := by decide +kernel
theorem dX4_firstFault_4 : decode cX4_firstFault 4 = .ok (.iload_n 2, 1) := by decide +kernel
theorem dX4_firstFault_5 : decode cX4_firstFault 5 = .ok (.aload_n 0, 1) := by decide +kernel
theorem dX4_firstFault_6 : decode cX4_firstFault 6 = .ok (.getfield 15, 3) := by decide +kernel
theorem dX4_firstFault_9 : decode cX4_firstFault 9 = .ok (.if_icmp .ge 62, 3) := by decide +kernel
theorem dX4_firstFault_12 : decode cX4_firstFault 12 = .ok (.aload_n 0, 1) := by decide +kernel
theorem dX4_firstFault_13 : decode cX4_firstFault 13 = .ok (.getfield 11, 3) := by decide +kernel
theorem dX4_firstFault_16 : decode cX4_firstFault 16 = .ok (.iload_n 2, 1) := by decide +kernel
theorem dX4_firstFault_17 : decode cX4_firstFault 17 = .ok (.caload, 1) := by decide +kernel
theorem dX4_firstFault_18 : decode cX4_firstFault 18 = .ok (.istore_n 3, 1) := by decide +kernel
theorem dX4_firstFault_19 : decode cX4_firstFault 19 = .ok (.iload_n 3, 1) := by decide +kernel
theorem dX4_firstFault_20 : decode cX4_firstFault 20 = .ok (.invokestatic 21, 3) := by decide +kernel
theorem dX4_firstFault_23 : decode cX4_firstFault 23 = .ok (.ifCond .eq 18, 3) := by decide +kernel
theorem dX4_firstFault_26 : decode cX4_firstFault 26 = .ok (.iload_n 1, 1) := by decide +kernel
theorem dX4_firstFault_27 : decode cX4_firstFault 27 = .ok (.iload_n 3, 1) := by decide +kernel
theorem dX4_firstFault_28 : decode cX4_firstFault 28 = .ok (.invokestatic 25, 3) := by decide +kernel
theorem dX4_firstFault_31 : decode cX4_firstFault 31 = .ok (.istore_n 1, 1) := by decide +kernel
theorem dX4_firstFault_32 : decode cX4_firstFault 32 = .ok (.iload_n 1, 1) := by decide +kernel
theorem dX4_firstFault_33 : decode cX4_firstFault 33 = .ok (.sipush 999, 3) := by decide +kernel
theorem dX4_firstFault_36 : decode cX4_firstFault 36 = .ok (.if_icmp .le 29, 3) := by decide +kernel
theorem dX4_firstFault_39 : decode cX4_firstFault 39 = .ok (.iload_n 2, 1) := by decide +kernel
theorem dX4_firstFault_40 : decode cX4_firstFault 40 = .ok (.ireturn, 1) := by decide +kernel
theorem dX4_firstFault_41 : decode cX4_firstFault 41 = .ok (.iload_n 1, 1) := by decide +kernel
theorem dX4_firstFault_42 : decode cX4_firstFault 42 = .ok (.iconst (-1), 1) := by decide +kernel
theorem dX4_firstFault_43 : decode cX4_firstFault 43 = .ok (.if_icmp .eq 20, 3) := by decide +kernel
theorem dX4_firstFault_46 : decode cX4_firstFault 46 = .ok (.iload_n 3, 1) := by decide +kernel
theorem dX4_firstFault_47 : decode cX4_firstFault 47 = .ok (.bipush 44, 2) := by decide +kernel
theorem dX4_firstFault_49 : decode cX4_firstFault 49 = .ok (.if_icmp .eq 9, 3) := by decide +kernel
theorem dX4_firstFault_52 : decode cX4_firstFault 52 = .ok (.iload_n 3, 1) := by decide +kernel
theorem dX4_firstFault_53 : decode cX4_firstFault 53 = .ok (.bipush 59, 2) := by decide +kernel
theorem dX4_firstFault_55 : decode cX4_firstFault 55 = .ok (.if_icmp .ne 8, 3) := by decide +kernel
theorem dX4_firstFault_58 : decode cX4_firstFault 58 = .ok (.iconst (-1), 1) := by decide +kernel
theorem dX4_firstFault_59 : decode cX4_firstFault 59 = .ok (.istore_n 1, 1) := by decide +kernel
theorem dX4_firstFault_60 : decode cX4_firstFault 60 = .ok (.goto 5, 3) := by decide +kernel
theorem dX4_firstFault_63 : decode cX4_firstFault 63 = .ok (.iload_n 2, 1) := by decide +kernel
theorem dX4_firstFault_64 : decode cX4_firstFault 64 = .ok (.ireturn, 1) := by decide +kernel
theorem dX4_firstFault_65 : decode cX4_firstFault 65 = .ok (.iinc 2 1, 3) := by decide +kernel
theorem dX4_firstFault_68 : decode cX4_firstFault 68 = .ok (.goto (-64), 3) := by decide +kernel
theorem dX4_firstFault_71 : decode cX4_firstFault 71 = .ok (.iload_n 1, 1) := by decide +kernel
theorem dX4_firstFault_72 : decode cX4_firstFault 72 = .ok (.iconst (-1), 1) := by decide +kernel
theorem dX4_firstFault_73 : decode cX4_firstFault 73 = .ok (.if_icmp .ne 10, 3) := by decide +kernel
theorem dX4_firstFault_76 : decode cX4_firstFault 76 = .ok (.aload_n 0, 1) := by decide +kernel
theorem dX4_firstFault_77 : decode cX4_firstFault 77 = .ok (.getfield 15, 3) := by decide +kernel
theorem dX4_firstFault_80 : decode cX4_firstFault 80 = .ok (.goto 5, 3) := by decide +kernel
theorem dX4_firstFault_83 : decode cX4_firstFault 83 = .ok (.bipush (-6), 2) := by decide +kernel
theorem dX4_firstFault_85 : decode cX4_firstFault 85 = .ok (.ireturn, 1) := by decide +kernel
theorem dX4_withDigit_0 : decode cX4_withDigit 0 = .ok (.iload_n 0, 1) := by decide +kernel
theorem dX4_withDigit_1 : decode cX4_withDigit 1 = .ok (.ifCond .ne 7, 3) := by decide +kernel
theorem dX4_withDigit_4 : decode cX4_withDigit 4 = .ok (.sipush 1000, 3) := by decide +kernel
theorem dX4_withDigit_7 : decode cX4_withDigit 7 = .ok (.ireturn, 1) := by decide +kernel
theorem dX4_withDigit_8 : decode cX4_withDigit 8 = .ok (.iload_n 0, 1) := by decide +kernel
theorem dX4_withDigit_9 : decode cX4_withDigit 9 = .ok (.iconst 0, 1) := by decide +kernel
theorem dX4_withDigit_10 : decode cX4_withDigit 10 = .ok (.invokestatic 29, 3) := by decide +kernel
theorem dX4_withDigit_13 : decode cX4_withDigit 13 = .ok (.bipush 10, 2) := by decide +kernel
theorem dX4_withDigit_15 : decode cX4_withDigit 15 = .ok (.imul, 1) := by decide +kernel
theorem dX4_withDigit_16 : decode cX4_withDigit 16 = .ok (.iload_n 1, 1) := by decide +kernel
theorem dX4_withDigit_17 : decode cX4_withDigit 17 = .ok (.bipush 48, 2) := by decide +kernel
theorem dX4_withDigit_19 : decode cX4_withDigit 19 = .ok (.isub, 1) := by decide +kernel
theorem dX4_withDigit_20 : decode cX4_withDigit 20 = .ok (.iadd, 1) := by decide +kernel
theorem dX4_withDigit_21 : decode cX4_withDigit 21 = .ok (.ireturn, 1) := by decide +kernel
theorem dX4_measure_0 : decode cX4_measure 0 = .ok (.aload_n 0, 1) := by decide +kernel
theorem dX4_measure_1 : decode cX4_measure 1 = .ok (.iconst 0, 1) := by decide +kernel
theorem dX4_measure_2 : decode cX4_measure 2 = .ok (.putfield 35, 3) := by decide +kernel
theorem dX4_measure_5 : decode cX4_measure 5 = .ok (.aload_n 0, 1) := by decide +kernel
theorem dX4_measure_6 : decode cX4_measure 6 = .ok (.iconst 0, 1) := by decide +kernel
theorem dX4_measure_7 : decode cX4_measure 7 = .ok (.putfield 38, 3) := by decide +kernel
theorem dX4_measure_10 : decode cX4_measure 10 = .ok (.aload_n 0, 1) := by decide +kernel
theorem dX4_measure_11 : decode cX4_measure 11 = .ok (.iconst 0, 1) := by decide +kernel
theorem dX4_measure_12 : decode cX4_measure 12 = .ok (.putfield 41, 3) := by decide +kernel
theorem dX4_measure_15 : decode cX4_measure 15 = .ok (.aload_n 0, 1) := by decide +kernel
theorem dX4_measure_16 : decode cX4_measure 16 = .ok (.bipush 80, 2) := by decide +kernel
theorem dX4_measure_18 : decode cX4_measure 18 = .ok (.putfield 44, 3) := by decide +kernel
theorem dX4_measure_21 : decode cX4_measure 21 = .ok (.iconst 1, 1) := by decide +kernel
theorem dX4_measure_22 : decode cX4_measure 22 = .ok (.istore_n 1, 1) := by decide +kernel
theorem dX4_measure_23 : decode cX4_measure 23 = .ok (.iconst 0, 1) := by decide +kernel
theorem dX4_measure_24 : decode cX4_measure 24 = .ok (.istore_n 2, 1) := by decide +kernel
theorem dX4_measure_25 : decode cX4_measure 25 = .ok (.iload_n 2, 1) := by decide +kernel
theorem dX4_measure_26 : decode cX4_measure 26 = .ok (.aload_n 0, 1) := by decide +kernel
theorem dX4_measure_27 : decode cX4_measure 27 = .ok (.getfield 15, 3) := by decide +kernel
theorem dX4_measure_30 : decode cX4_measure 30 = .ok (.if_icmp .gt 91, 3) := by decide +kernel
theorem dX4_measure_33 : decode cX4_measure 33 = .ok (.iload_n 2, 1) := by decide +kernel
theorem dX4_measure_34 : decode cX4_measure 34 = .ok (.aload_n 0, 1) := by decide +kernel
theorem dX4_measure_35 : decode cX4_measure 35 = .ok (.getfield 15, 3) := by decide +kernel
theorem dX4_measure_38 : decode cX4_measure 38 = .ok (.if_icmp .eq 14, 3) := by decide +kernel
theorem dX4_measure_41 : decode cX4_measure 41 = .ok (.aload_n 0, 1) := by decide +kernel
theorem dX4_measure_42 : decode cX4_measure 42 = .ok (.getfield 11, 3) := by decide +kernel
theorem dX4_measure_45 : decode cX4_measure 45 = .ok (.iload_n 2, 1) := by decide +kernel
theorem dX4_measure_46 : decode cX4_measure 46 = .ok (.caload, 1) := by decide +kernel
theorem dX4_measure_47 : decode cX4_measure 47 = .ok (.bipush 59, 2) := by decide +kernel
theorem dX4_measure_49 : decode cX4_measure 49 = .ok (.if_icmp .ne 52, 3) := by decide +kernel
theorem dX4_measure_52 : decode cX4_measure 52 = .ok (.aload_n 0, 1) := by decide +kernel
theorem dX4_measure_53 : decode cX4_measure 53 = .ok (.dup, 1) := by decide +kernel
theorem dX4_measure_54 : decode cX4_measure 54 = .ok (.getfield 35, 3) := by decide +kernel
theorem dX4_measure_57 : decode cX4_measure 57 = .ok (.iconst 1, 1) := by decide +kernel
theorem dX4_measure_58 : decode cX4_measure 58 = .ok (.iadd, 1) := by decide +kernel
theorem dX4_measure_59 : decode cX4_measure 59 = .ok (.putfield 35, 3) := by decide +kernel
theorem dX4_measure_62 : decode cX4_measure 62 = .ok (.aload_n 0, 1) := by decide +kernel
theorem dX4_measure_63 : decode cX4_measure 63 = .ok (.dup, 1) := by decide +kernel
theorem dX4_measure_64 : decode cX4_measure 64 = .ok (.getfield 38, 3) := by decide +kernel
theorem dX4_measure_67 : decode cX4_measure 67 = .ok (.iload_n 1, 1) := by decide +kernel
theorem dX4_measure_68 : decode cX4_measure 68 = .ok (.iadd, 1) := by decide +kernel
theorem dX4_measure_69 : decode cX4_measure 69 = .ok (.putfield 38, 3) := by decide +kernel
theorem dX4_measure_72 : decode cX4_measure 72 = .ok (.aload_n 0, 1) := by decide +kernel
theorem dX4_measure_73 : decode cX4_measure 73 = .ok (.aload_n 0, 1) := by decide +kernel
theorem dX4_measure_74 : decode cX4_measure 74 = .ok (.getfield 41, 3) := by decide +kernel
theorem dX4_measure_77 : decode cX4_measure 77 = .ok (.iload_n 1, 1) := by decide +kernel
theorem dX4_measure_78 : decode cX4_measure 78 = .ok (.invokestatic 29, 3) := by decide +kernel
theorem dX4_measure_81 : decode cX4_measure 81 = .ok (.putfield 41, 3) := by decide +kernel
theorem dX4_measure_84 : decode cX4_measure 84 = .ok (.aload_n 0, 1) := by decide +kernel
theorem dX4_measure_85 : decode cX4_measure 85 = .ok (.aload_n 0, 1) := by decide +kernel
theorem dX4_measure_86 : decode cX4_measure 86 = .ok (.getfield 44, 3) := by decide +kernel
theorem dX4_measure_89 : decode cX4_measure 89 = .ok (.iload_n 1, 1) := by decide +kernel
theorem dX4_measure_90 : decode cX4_measure 90 = .ok (.invokestatic 47, 3) := by decide +kernel
theorem dX4_measure_93 : decode cX4_measure 93 = .ok (.putfield 44, 3) := by decide +kernel
theorem dX4_measure_96 : decode cX4_measure 96 = .ok (.iconst 1, 1) := by decide +kernel
theorem dX4_measure_97 : decode cX4_measure 97 = .ok (.istore_n 1, 1) := by decide +kernel
theorem dX4_measure_98 : decode cX4_measure 98 = .ok (.goto 17, 3) := by decide +kernel
theorem dX4_measure_101 : decode cX4_measure 101 = .ok (.aload_n 0, 1) := by decide +kernel
theorem dX4_measure_102 : decode cX4_measure 102 = .ok (.getfield 11, 3) := by decide +kernel
theorem dX4_measure_105 : decode cX4_measure 105 = .ok (.iload_n 2, 1) := by decide +kernel
theorem dX4_measure_106 : decode cX4_measure 106 = .ok (.caload, 1) := by decide +kernel
theorem dX4_measure_107 : decode cX4_measure 107 = .ok (.bipush 44, 2) := by decide +kernel
theorem dX4_measure_109 : decode cX4_measure 109 = .ok (.if_icmp .ne 6, 3) := by decide +kernel
theorem dX4_measure_112 : decode cX4_measure 112 = .ok (.iinc 1 1, 3) := by decide +kernel
theorem dX4_measure_115 : decode cX4_measure 115 = .ok (.iinc 2 1, 3) := by decide +kernel
theorem dX4_measure_118 : decode cX4_measure 118 = .ok (.goto (-93), 3) := by decide +kernel
theorem dX4_measure_121 : decode cX4_measure 121 = .ok (.return_, 1) := by decide +kernel
theorem dX4_readInto_0 : decode cX4_readInto 0 = .ok (.aload_n 1, 1) := by decide +kernel
theorem dX4_readInto_1 : decode cX4_readInto 1 = .ok (.aload_n 0, 1) := by decide +kernel
theorem dX4_readInto_2 : decode cX4_readInto 2 = .ok (.getfield 35, 3) := by decide +kernel
theorem dX4_readInto_5 : decode cX4_readInto 5 = .ok (.aload_n 0, 1) := by decide +kernel
theorem dX4_readInto_6 : decode cX4_readInto 6 = .ok (.getfield 41, 3) := by decide +kernel
theorem dX4_readInto_9 : decode cX4_readInto 9 = .ok (.invokevirtual 50, 3) := by decide +kernel
theorem dX4_readInto_12 : decode cX4_readInto 12 = .ok (.iconst 0, 1) := by decide +kernel
theorem dX4_readInto_13 : decode cX4_readInto 13 = .ok (.istore_n 2, 1) := by decide +kernel
theorem dX4_readInto_14 : decode cX4_readInto 14 = .ok (.iconst 0, 1) := by decide +kernel
theorem dX4_readInto_15 : decode cX4_readInto 15 = .ok (.istore_n 3, 1) := by decide +kernel
theorem dX4_readInto_16 : decode cX4_readInto 16 = .ok (.iconst 0, 1) := by decide +kernel
theorem dX4_readInto_17 : decode cX4_readInto 17 = .ok (.istore 4, 2) := by decide +kernel
theorem dX4_readInto_19 : decode cX4_readInto 19 = .ok (.iload 4, 2) := by decide +kernel
theorem dX4_readInto_21 : decode cX4_readInto 21 = .ok (.aload_n 0, 1) := by decide +kernel
theorem dX4_readInto_22 : decode cX4_readInto 22 = .ok (.getfield 15, 3) := by decide +kernel
theorem dX4_readInto_25 : decode cX4_readInto 25 = .ok (.if_icmp .gt 68, 3) := by decide +kernel
theorem dX4_readInto_28 : decode cX4_readInto 28 = .ok (.iload 4, 2) := by decide +kernel
theorem dX4_readInto_30 : decode cX4_readInto 30 = .ok (.aload_n 0, 1) := by decide +kernel
theorem dX4_readInto_31 : decode cX4_readInto 31 = .ok (.getfield 15, 3) := by decide +kernel
theorem dX4_readInto_34 : decode cX4_readInto 34 = .ok (.if_icmp .ge 35, 3) := by decide +kernel
theorem dX4_readInto_37 : decode cX4_readInto 37 = .ok (.aload_n 0, 1) := by decide +kernel
theorem dX4_readInto_38 : decode cX4_readInto 38 = .ok (.getfield 11, 3) := by decide +kernel
theorem dX4_readInto_41 : decode cX4_readInto 41 = .ok (.iload 4, 2) := by decide +kernel
theorem dX4_readInto_43 : decode cX4_readInto 43 = .ok (.caload, 1) := by decide +kernel
theorem dX4_readInto_44 : decode cX4_readInto 44 = .ok (.invokestatic 21, 3) := by decide +kernel
theorem dX4_readInto_47 : decode cX4_readInto 47 = .ok (.ifCond .eq 22, 3) := by decide +kernel
theorem dX4_readInto_50 : decode cX4_readInto 50 = .ok (.iload_n 3, 1) := by decide +kernel
theorem dX4_readInto_51 : decode cX4_readInto 51 = .ok (.bipush 10, 2) := by decide +kernel
theorem dX4_readInto_53 : decode cX4_readInto 53 = .ok (.imul, 1) := by decide +kernel
theorem dX4_readInto_54 : decode cX4_readInto 54 = .ok (.aload_n 0, 1) := by decide +kernel
theorem dX4_readInto_55 : decode cX4_readInto 55 = .ok (.getfield 11, 3) := by decide +kernel
theorem dX4_readInto_58 : decode cX4_readInto 58 = .ok (.iload 4, 2) := by decide +kernel
theorem dX4_readInto_60 : decode cX4_readInto 60 = .ok (.caload, 1) := by decide +kernel
theorem dX4_readInto_61 : decode cX4_readInto 61 = .ok (.bipush 48, 2) := by decide +kernel
theorem dX4_readInto_63 : decode cX4_readInto 63 = .ok (.isub, 1) := by decide +kernel
theorem dX4_readInto_64 : decode cX4_readInto 64 = .ok (.iadd, 1) := by decide +kernel
theorem dX4_readInto_65 : decode cX4_readInto 65 = .ok (.istore_n 3, 1) := by decide +kernel
theorem dX4_readInto_66 : decode cX4_readInto 66 = .ok (.goto 21, 3) := by decide +kernel
theorem dX4_readInto_69 : decode cX4_readInto 69 = .ok (.iload_n 2, 1) := by decide +kernel
theorem dX4_readInto_70 : decode cX4_readInto 70 = .ok (.bipush 12, 2) := by decide +kernel
theorem dX4_readInto_72 : decode cX4_readInto 72 = .ok (.if_icmp .ge 15, 3) := by decide +kernel
theorem dX4_readInto_75 : decode cX4_readInto 75 = .ok (.aload_n 1, 1) := by decide +kernel
theorem dX4_readInto_76 : decode cX4_readInto 76 = .ok (.getfield 56, 3) := by decide +kernel
theorem dX4_readInto_79 : decode cX4_readInto 79 = .ok (.iload_n 2, 1) := by decide +kernel
theorem dX4_readInto_80 : decode cX4_readInto 80 = .ok (.iload_n 3, 1) := by decide +kernel
theorem dX4_readInto_81 : decode cX4_readInto 81 = .ok (.iastore, 1) := by decide +kernel
theorem dX4_readInto_82 : decode cX4_readInto 82 = .ok (.iinc 2 1, 3) := by decide +kernel
theorem dX4_readInto_85 : decode cX4_readInto 85 = .ok (.iconst 0, 1) := by decide +kernel
theorem dX4_readInto_86 : decode cX4_readInto 86 = .ok (.istore_n 3, 1) := by decide +kernel
theorem dX4_readInto_87 : decode cX4_readInto 87 = .ok (.iinc 4 1, 3) := by decide +kernel
theorem dX4_readInto_90 : decode cX4_readInto 90 = .ok (.goto (-71), 3) := by decide +kernel
theorem dX4_readInto_93 : decode cX4_readInto 93 = .ok (.return_, 1) := by decide +kernel
theorem dX5_init_0 : decode cX5_init 0 = .ok (.aload_n 0, 1) := by decide +kernel
theorem dX5_init_1 : decode cX5_init 1 = .ok (.invokespecial 1, 3) := by decide +kernel
theorem dX5_init_4 : decode cX5_init 4 = .ok (.return_, 1) := by decide +kernel
theorem dX5_study_0 : decode cX5_study 0 = .ok (.aload_n 0, 1) := by decide +kernel
theorem dX5_study_1 : decode cX5_study 1 = .ok (.iconst 0, 1) := by decide +kernel
theorem dX5_study_2 : decode cX5_study 2 = .ok (.putfield 7, 3) := by decide +kernel
theorem dX5_study_5 : decode cX5_study 5 = .ok (.aload_n 0, 1) := by decide +kernel
theorem dX5_study_6 : decode cX5_study 6 = .ok (.iconst 0, 1) := by decide +kernel
theorem dX5_study_7 : decode cX5_study 7 = .ok (.putfield 13, 3) := by decide +kernel
theorem dX5_study_10 : decode cX5_study 10 = .ok (.aload_n 0, 1) := by decide +kernel
theorem dX5_study_11 : decode cX5_study 11 = .ok (.iconst 0, 1) := by decide +kernel
theorem dX5_study_12 : decode cX5_study 12 = .ok (.putfield 16, 3) := by decide +kernel
theorem dX5_study_15 : decode cX5_study 15 = .ok (.aload_n 0, 1) := by decide +kernel
theorem dX5_study_16 : decode cX5_study 16 = .ok (.iconst 0, 1) := by decide +kernel
theorem dX5_study_17 : decode cX5_study 17 = .ok (.putfield 19, 3) := by decide +kernel
theorem dX5_study_20 : decode cX5_study 20 = .ok (.iconst 1, 1) := by decide +kernel
theorem dX5_study_21 : decode cX5_study 21 = .ok (.istore_n 3, 1) := by decide +kernel
theorem dX5_study_22 : decode cX5_study 22 = .ok (.iload_n 3, 1) := by decide +kernel
theorem dX5_study_23 : decode cX5_study 23 = .ok (.iconst 1, 1) := by decide +kernel
theorem dX5_study_24 : decode cX5_study 24 = .ok (.aload_n 1, 1) := by decide +kernel
theorem dX5_study_25 : decode cX5_study 25 = .ok (.getfield 22, 3) := by decide +kernel
theorem dX5_study_28 : decode cX5_study 28 = .ok (.ishl, 1) := by decide +kernel
theorem dX5_study_29 : decode cX5_study 29 = .ok (.if_icmp .ge 48, 3) := by decide +kernel
theorem dX5_study_32 : decode cX5_study 32 = .ok (.iconst 1, 1) := by decide +kernel
theorem dX5_study_33 : decode cX5_study 33 = .ok (.istore 4, 2) := by decide +kernel
theorem dX5_study_35 : decode cX5_study 35 = .ok (.iload 4, 2) := by decide +kernel
theorem dX5_study_37 : decode cX5_study 37 = .ok (.iconst 1, 1) := by decide +kernel
theorem dX5_study_38 : decode cX5_study 38 = .ok (.aload_n 1, 1) := by decide +kernel
theorem dX5_study_39 : decode cX5_study 39 = .ok (.getfield 25, 3) := by decide +kernel
theorem dX5_study_42 : decode cX5_study 42 = .ok (.ishl, 1) := by decide +kernel
theorem dX5_study_43 : decode cX5_study 43 = .ok (.if_icmp .ge 28, 3) := by decide +kernel
theorem dX5_study_46 : decode cX5_study 46 = .ok (.aload_n 1, 1) := by decide +kernel
theorem dX5_study_47 : decode cX5_study 47 = .ok (.iload_n 3, 1) := by decide +kernel
theorem dX5_study_48 : decode cX5_study 48 = .ok (.iload 4, 2) := by decide +kernel
theorem dX5_study_50 : decode cX5_study 50 = .ok (.invokestatic 26, 3) := by decide +kernel
theorem dX5_study_53 : decode cX5_study 53 = .ok (.ifCond .eq 12, 3) := by decide +kernel
theorem dX5_study_56 : decode cX5_study 56 = .ok (.aload_n 0, 1) := by decide +kernel
theorem dX5_study_57 : decode cX5_study 57 = .ok (.aload_n 1, 1) := by decide +kernel
theorem dX5_study_58 : decode cX5_study 58 = .ok (.aload_n 2, 1) := by decide +kernel
theorem dX5_study_59 : decode cX5_study 59 = .ok (.iload_n 3, 1) := by decide +kernel
theorem dX5_study_60 : decode cX5_study 60 = .ok (.iload 4, 2) := by decide +kernel
theorem dX5_study_62 : decode cX5_study 62 = .ok (.invokevirtual 32, 3) := by decide +kernel
theorem dX5_study_65 : decode cX5_study 65 = .ok (.iinc 4 1, 3) := by decide +kernel
theorem dX5_study_68 : decode cX5_study 68 = .ok (.goto (-33), 3) := by decide +kernel
theorem dX5_study_71 : decode cX5_study 71 = .ok (.iinc 3 1, 3) := by decide +kernel
theorem dX5_study_74 : decode cX5_study 74 = .ok (.goto (-52), 3) := by decide +kernel
theorem dX5_study_77 : decode cX5_study 77 = .ok (.return_, 1) := by decide +kernel
theorem dX5_look_0 : decode cX5_look 0 = .ok (.aload_n 2, 1) := by decide +kernel
theorem dX5_look_1 : decode cX5_look 1 = .ok (.aload_n 1, 1) := by decide +kernel
theorem dX5_look_2 : decode cX5_look 2 = .ok (.iload_n 3, 1) := by decide +kernel
theorem dX5_look_3 : decode cX5_look 3 = .ok (.iload 4, 2) := by decide +kernel
theorem dX5_look_5 : decode cX5_look 5 = .ok (.invokevirtual 36, 3) := by decide +kernel
theorem dX5_look_8 : decode cX5_look 8 = .ok (.aload_n 2, 1) := by decide +kernel
theorem dX5_look_9 : decode cX5_look 9 = .ok (.invokevirtual 42, 3) := by decide +kernel
theorem dX5_look_12 : decode cX5_look 12 = .ok (.iconst 1, 1) := by decide +kernel
theorem dX5_look_13 : decode cX5_look 13 = .ok (.if_icmp .eq 4, 3) := by decide +kernel
theorem dX5_look_16 : decode cX5_look 16 = .ok (.return_, 1) := by decide +kernel
theorem dX5_look_17 : decode cX5_look 17 = .ok (.aload_n 0, 1) := by decide +kernel
theorem dX5_look_18 : decode cX5_look 18 = .ok (.dup, 1) := by decide +kernel
theorem dX5_look_19 : decode cX5_look 19 = .ok (.getfield 19, 3) := by decide +kernel
theorem dX5_look_22 : decode cX5_look 22 = .ok (.iconst 1, 1) := by decide +kernel
theorem dX5_look_23 : decode cX5_look 23 = .ok (.iadd, 1) := by decide +kernel
theorem dX5_look_24 : decode cX5_look 24 = .ok (.putfield 19, 3) := by decide +kernel
theorem dX5_look_27 : decode cX5_look 27 = .ok (.iload_n 3, 1) := by decide +kernel
theorem dX5_look_28 : decode cX5_look 28 = .ok (.invokestatic 46, 3) := by decide +kernel
theorem dX5_look_31 : decode cX5_look 31 = .ok (.aload_n 0, 1) := by decide +kernel
theorem dX5_look_32 : decode cX5_look 32 = .ok (.getfield 7, 3) := by decide +kernel
theorem dX5_look_35 : decode cX5_look 35 = .ok (.if_icmp .le 22, 3) := by decide +kernel
theorem dX5_look_38 : decode cX5_look 38 = .ok (.aload_n 0, 1) := by decide +kernel
theorem dX5_look_39 : decode cX5_look 39 = .ok (.iload_n 3, 1) := by decide +kernel
theorem dX5_look_40 : decode cX5_look 40 = .ok (.invokestatic 46, 3) := by decide +kernel
theorem dX5_look_43 : decode cX5_look 43 = .ok (.putfield 7, 3) := by decide +kernel
theorem dX5_look_46 : decode cX5_look 46 = .ok (.aload_n 0, 1) := by decide +kernel
theorem dX5_look_47 : decode cX5_look 47 = .ok (.iload_n 3, 1) := by decide +kernel
theorem dX5_look_48 : decode cX5_look 48 = .ok (.putfield 13, 3) := by decide +kernel
theorem dX5_look_51 : decode cX5_look 51 = .ok (.aload_n 0, 1) := by decide +kernel
theorem dX5_look_52 : decode cX5_look 52 = .ok (.iload 4, 2) := by decide +kernel
theorem dX5_look_54 : decode cX5_look 54 = .ok (.putfield 16, 3) := by decide +kernel
theorem dX5_look_57 : decode cX5_look 57 = .ok (.return_, 1) := by decide +kernel
theorem dX6_init_0 : decode cX6_init 0 = .ok (.aload_n 0, 1) := by decide +kernel
theorem dX6_init_1 : decode cX6_init 1 = .ok (.invokespecial 1, 3) := by decide +kernel
theorem dX6_init_4 : decode cX6_init 4 = .ok (.return_, 1) := by decide +kernel
theorem dX6_study_0 : decode cX6_study 0 = .ok (.aload_n 0, 1) := by decide +kernel
theorem dX6_study_1 : decode cX6_study 1 = .ok (.iconst 0, 1) := by decide +kernel
theorem dX6_study_2 : decode cX6_study 2 = .ok (.putfield 7, 3) := by decide +kernel
theorem dX6_study_5 : decode cX6_study 5 = .ok (.aload_n 0, 1) := by decide +kernel
theorem dX6_study_6 : decode cX6_study 6 = .ok (.iconst 0, 1) := by decide +kernel
theorem dX6_study_7 : decode cX6_study 7 = .ok (.putfield 13, 3) := by decide +kernel
theorem dX6_study_10 : decode cX6_study 10 = .ok (.aload_n 0, 1) := by decide +kernel
theorem dX6_study_11 : decode cX6_study 11 = .ok (.iconst 0, 1) := by decide +kernel
theorem dX6_study_12 : decode cX6_study 12 = .ok (.putfield 16, 3) := by decide +kernel
theorem dX6_study_15 : decode cX6_study 15 = .ok (.iconst 0, 1) := by decide +kernel
theorem dX6_study_16 : decode cX6_study 16 = .ok (.istore_n 2, 1) := by decide +kernel
theorem dX6_study_17 : decode cX6_study 17 = .ok (.iload_n 2, 1) := by decide +kernel
theorem dX6_study_18 : decode cX6_study 18 = .ok (.aload_n 1, 1) := by decide +kernel
theorem dX6_study_19 : decode cX6_study 19 = .ok (.getfield 19, 3) := by decide +kernel
theorem dX6_study_22 : decode cX6_study 22 = .ok (.if_icmp .ge 21, 3) := by decide +kernel
theorem dX6_study_25 : decode cX6_study 25 = .ok (.aload_n 0, 1) := by decide +kernel
theorem dX6_study_26 : decode cX6_study 26 = .ok (.aload_n 1, 1) := by decide +kernel
theorem dX6_study_27 : decode cX6_study 27 = .ok (.iload_n 2, 1) := by decide +kernel
theorem dX6_study_28 : decode cX6_study 28 = .ok (.iload_n 2, 1) := by decide +kernel
theorem dX6_study_29 : decode cX6_study 29 = .ok (.iconst 1, 1) := by decide +kernel
theorem dX6_study_30 : decode cX6_study 30 = .ok (.iload_n 2, 1) := by decide +kernel
theorem dX6_study_31 : decode cX6_study 31 = .ok (.ishl, 1) := by decide +kernel
theorem dX6_study_32 : decode cX6_study 32 = .ok (.iconst 0, 1) := by decide +kernel
theorem dX6_study_33 : decode cX6_study 33 = .ok (.iconst 1, 1) := by decide +kernel
theorem dX6_study_34 : decode cX6_study 34 = .ok (.invokestatic 24, 3) := by decide +kernel
theorem dX6_study_37 : decode cX6_study 37 = .ok (.iinc 2 1, 3) := by decide +kernel
theorem dX6_study_40 : decode cX6_study 40 = .ok (.goto (-23), 3) := by decide +kernel
theorem dX6_study_43 : decode cX6_study 43 = .ok (.return_, 1) := by decide +kernel
theorem dX6_goOn_0 : decode cX6_goOn 0 = .ok (.aload_n 0, 1) := by decide +kernel
theorem dX6_goOn_1 : decode cX6_goOn 1 = .ok (.iload 5, 2) := by decide +kernel
theorem dX6_goOn_3 : decode cX6_goOn 3 = .ok (.aload_n 1, 1) := by decide +kernel
theorem dX6_goOn_4 : decode cX6_goOn 4 = .ok (.iload_n 3, 1) := by decide +kernel
theorem dX6_goOn_5 : decode cX6_goOn 5 = .ok (.iload_n 2, 1) := by decide +kernel
theorem dX6_goOn_6 : decode cX6_goOn 6 = .ok (.invokevirtual 28, 3) := by decide +kernel
theorem dX6_goOn_9 : decode cX6_goOn 9 = .ok (.iadd, 1) := by decide +kernel
theorem dX6_goOn_10 : decode cX6_goOn 10 = .ok (.iload 6, 2) := by decide +kernel
theorem dX6_goOn_12 : decode cX6_goOn 12 = .ok (.invokevirtual 32, 3) := by decide +kernel
theorem dX6_goOn_15 : decode cX6_goOn 15 = .ok (.iload_n 2, 1) := by decide +kernel
theorem dX6_goOn_16 : decode cX6_goOn 16 = .ok (.iconst 1, 1) := by decide +kernel
theorem dX6_goOn_17 : decode cX6_goOn 17 = .ok (.iadd, 1) := by decide +kernel
theorem dX6_goOn_18 : decode cX6_goOn 18 = .ok (.istore 7, 2) := by decide +kernel
theorem dX6_goOn_20 : decode cX6_goOn 20 = .ok (.iload 7, 2) := by decide +kernel
theorem dX6_goOn_22 : decode cX6_goOn 22 = .ok (.aload_n 1, 1) := by decide +kernel
theorem dX6_goOn_23 : decode cX6_goOn 23 = .ok (.getfield 19, 3) := by decide +kernel
theorem dX6_goOn_26 : decode cX6_goOn 26 = .ok (.if_icmp .ge 57, 3) := by decide +kernel
theorem dX6_goOn_29 : decode cX6_goOn 29 = .ok (.iload 6, 2) := by decide +kernel
theorem dX6_goOn_31 : decode cX6_goOn 31 = .ok (.aload_n 1, 1) := by decide +kernel
theorem dX6_goOn_32 : decode cX6_goOn 32 = .ok (.getfield 19, 3) := by decide +kernel
theorem dX6_goOn_35 : decode cX6_goOn 35 = .ok (.if_icmp .ge 48, 3) := by decide +kernel
theorem dX6_goOn_38 : decode cX6_goOn 38 = .ok (.iload 4, 2) := by decide +kernel
theorem dX6_goOn_40 : decode cX6_goOn 40 = .ok (.iconst 1, 1) := by decide +kernel
theorem dX6_goOn_41 : decode cX6_goOn 41 = .ok (.iload 7, 2) := by decide +kernel
theorem dX6_goOn_43 : decode cX6_goOn 43 = .ok (.ishl, 1) := by decide +kernel
theorem dX6_goOn_44 : decode cX6_goOn 44 = .ok (.iand, 1) := by decide +kernel
theorem dX6_goOn_45 : decode cX6_goOn 45 = .ok (.ifCond .ne 32, 3) := by decide +kernel
theorem dX6_goOn_48 : decode cX6_goOn 48 = .ok (.aload_n 0, 1) := by decide +kernel
theorem dX6_goOn_49 : decode cX6_goOn 49 = .ok (.aload_n 1, 1) := by decide +kernel
theorem dX6_goOn_50 : decode cX6_goOn 50 = .ok (.iload_n 2, 1) := by decide +kernel
theorem dX6_goOn_51 : decode cX6_goOn 51 = .ok (.iload 7, 2) := by decide +kernel
theorem dX6_goOn_53 : decode cX6_goOn 53 = .ok (.iload 4, 2) := by decide +kernel
theorem dX6_goOn_55 : decode cX6_goOn 55 = .ok (.iconst 1, 1) := by decide +kernel
theorem dX6_goOn_56 : decode cX6_goOn 56 = .ok (.iload 7, 2) := by decide +kernel
theorem dX6_goOn_58 : decode cX6_goOn 58 = .ok (.ishl, 1) := by decide +kernel
theorem dX6_goOn_59 : decode cX6_goOn 59 = .ok (.ior, 1) := by decide +kernel
theorem dX6_goOn_60 : decode cX6_goOn 60 = .ok (.iload 5, 2) := by decide +kernel
theorem dX6_goOn_62 : decode cX6_goOn 62 = .ok (.aload_n 1, 1) := by decide +kernel
theorem dX6_goOn_63 : decode cX6_goOn 63 = .ok (.iload_n 3, 1) := by decide +kernel
theorem dX6_goOn_64 : decode cX6_goOn 64 = .ok (.iload 7, 2) := by decide +kernel
theorem dX6_goOn_66 : decode cX6_goOn 66 = .ok (.invokevirtual 28, 3) := by decide +kernel
theorem dX6_goOn_69 : decode cX6_goOn 69 = .ok (.iadd, 1) := by decide +kernel
theorem dX6_goOn_70 : decode cX6_goOn 70 = .ok (.iload 6, 2) := by decide +kernel
theorem dX6_goOn_72 : decode cX6_goOn 72 = .ok (.iconst 1, 1) := by decide +kernel
theorem dX6_goOn_73 : decode cX6_goOn 73 = .ok (.iadd, 1) := by decide +kernel
theorem dX6_goOn_74 : decode cX6_goOn 74 = .ok (.invokestatic 24, 3) := by decide +kernel
theorem dX6_goOn_77 : decode cX6_goOn 77 = .ok (.iinc 7 1, 3) := by decide +kernel
theorem dX6_goOn_80 : decode cX6_goOn 80 = .ok (.goto (-60), 3) := by decide +kernel
theorem dX6_goOn_83 : decode cX6_goOn 83 = .ok (.return_, 1) := by decide +kernel
theorem dX6_keep_0 : decode cX6_keep 0 = .ok (.aload_n 0, 1) := by decide +kernel
theorem dX6_keep_1 : decode cX6_keep 1 = .ok (.dup, 1) := by decide +kernel
theorem dX6_keep_2 : decode cX6_keep 2 = .ok (.getfield 7, 3) := by decide +kernel
theorem dX6_keep_5 : decode cX6_keep 5 = .ok (.iconst 1, 1) := by decide +kernel
theorem dX6_keep_6 : decode cX6_keep 6 = .ok (.iadd, 1) := by decide +kernel
theorem dX6_keep_7 : decode cX6_keep 7 = .ok (.putfield 7, 3) := by decide +kernel
theorem dX6_keep_10 : decode cX6_keep 10 = .ok (.iload_n 1, 1) := by decide +kernel
theorem dX6_keep_11 : decode cX6_keep 11 = .ok (.aload_n 0, 1) := by decide +kernel
theorem dX6_keep_12 : decode cX6_keep 12 = .ok (.getfield 16, 3) := by decide +kernel
theorem dX6_keep_15 : decode cX6_keep 15 = .ok (.imul, 1) := by decide +kernel
theorem dX6_keep_16 : decode cX6_keep 16 = .ok (.aload_n 0, 1) := by decide +kernel
theorem dX6_keep_17 : decode cX6_keep 17 = .ok (.getfield 13, 3) := by decide +kernel
theorem dX6_keep_20 : decode cX6_keep 20 = .ok (.iload_n 2, 1) := by decide +kernel
theorem dX6_keep_21 : decode cX6_keep 21 = .ok (.imul, 1) := by decide +kernel
theorem dX6_keep_22 : decode cX6_keep 22 = .ok (.isub, 1) := by decide +kernel
theorem dX6_keep_23 : decode cX6_keep 23 = .ok (.istore_n 3, 1) := by decide +kernel
theorem dX6_keep_24 : decode cX6_keep 24 = .ok (.aload_n 0, 1) := by decide +kernel
theorem dX6_keep_25 : decode cX6_keep 25 = .ok (.getfield 16, 3) := by decide +kernel
theorem dX6_keep_28 : decode cX6_keep 28 = .ok (.ifCond .eq 19, 3) := by decide +kernel
theorem dX6_keep_31 : decode cX6_keep 31 = .ok (.iload_n 3, 1) := by decide +kernel
theorem dX6_keep_32 : decode cX6_keep 32 = .ok (.ifCond .lt 15, 3) := by decide +kernel
theorem dX6_keep_35 : decode cX6_keep 35 = .ok (.iload_n 3, 1) := by decide +kernel
theorem dX6_keep_36 : decode cX6_keep 36 = .ok (.ifCond .ne 21, 3) := by decide +kernel
theorem dX6_keep_39 : decode cX6_keep 39 = .ok (.iload_n 2, 1) := by decide +kernel
theorem dX6_keep_40 : decode cX6_keep 40 = .ok (.aload_n 0, 1) := by decide +kernel
theorem dX6_keep_41 : decode cX6_keep 41 = .ok (.getfield 16, 3) := by decide +kernel
theorem dX6_keep_44 : decode cX6_keep 44 = .ok (.if_icmp .ge 13, 3) := by decide +kernel
theorem dX6_keep_47 : decode cX6_keep 47 = .ok (.aload_n 0, 1) := by decide +kernel
theorem dX6_keep_48 : decode cX6_keep 48 = .ok (.iload_n 1, 1) := by decide +kernel
theorem dX6_keep_49 : decode cX6_keep 49 = .ok (.putfield 13, 3) := by decide +kernel
theorem dX6_keep_52 : decode cX6_keep 52 = .ok (.aload_n 0, 1) := by decide +kernel
theorem dX6_keep_53 : decode cX6_keep 53 = .ok (.iload_n 2, 1) := by decide +kernel
theorem dX6_keep_54 : decode cX6_keep 54 = .ok (.putfield 16, 3) := by decide +kernel
theorem dX6_keep_57 : decode cX6_keep 57 = .ok (.return_, 1) := by decide +kernel
theorem dX7_init_0 : decode cX7_init 0 = .ok (.aload_n 0, 1) := by decide +kernel
theorem dX7_init_1 : decode cX7_init 1 = .ok (.invokespecial 3, 3) := by decide +kernel
theorem dX7_init_4 : decode cX7_init 4 = .ok (.aload_n 0, 1) := by decide +kernel
theorem dX7_init_5 : decode cX7_init 5 = .ok (.iconst 3, 1) := by decide +kernel
theorem dX7_init_6 : decode cX7_init 6 = .ok (.anewarray 9, 3) := by decide +kernel
theorem dX7_init_9 : decode cX7_init 9 = .ok (.putfield 11, 3) := by decide +kernel
theorem dX7_init_12 : decode cX7_init 12 = .ok (.iconst 0, 1) := by decide +kernel
theorem dX7_init_13 : decode cX7_init 13 = .ok (.istore_n 1, 1) := by decide +kernel
theorem dX7_init_14 : decode cX7_init 14 = .ok (.iload_n 1, 1) := by decide +kernel
theorem dX7_init_15 : decode cX7_init 15 = .ok (.iconst 3, 1) := by decide +kernel
theorem dX7_init_16 : decode cX7_init 16 = .ok (.if_icmp .ge 22, 3) := by decide +kernel
theorem dX7_init_19 : decode cX7_init 19 = .ok (.aload_n 0, 1) := by decide +kernel
theorem dX7_init_20 : decode cX7_init 20 = .ok (.getfield 11, 3) := by decide +kernel
theorem dX7_init_23 : decode cX7_init 23 = .ok (.iload_n 1, 1) := by decide +kernel
theorem dX7_init_24 : decode cX7_init 24 = .ok (.new 9, 3) := by decide +kernel
theorem dX7_init_27 : decode cX7_init 27 = .ok (.dup, 1) := by decide +kernel
theorem dX7_init_28 : decode cX7_init 28 = .ok (.invokespecial 17, 3) := by decide +kernel
theorem dX7_init_31 : decode cX7_init 31 = .ok (.aastore, 1) := by decide +kernel
theorem dX7_init_32 : decode cX7_init 32 = .ok (.iinc 1 1, 3) := by decide +kernel
theorem dX7_init_35 : decode cX7_init 35 = .ok (.goto (-21), 3) := by decide +kernel
theorem dX7_init_38 : decode cX7_init 38 = .ok (.return_, 1) := by decide +kernel
theorem dX7_become_0 : decode cX7_become 0 = .ok (.iconst 0, 1) := by decide +kernel
theorem dX7_become_1 : decode cX7_become 1 = .ok (.istore_n 2, 1) := by decide +kernel
theorem dX7_become_2 : decode cX7_become 2 = .ok (.iload_n 2, 1) := by decide +kernel
theorem dX7_become_3 : decode cX7_become 3 = .ok (.iconst 3, 1) := by decide +kernel
theorem dX7_become_4 : decode cX7_become 4 = .ok (.if_icmp .ge 24, 3) := by decide +kernel
theorem dX7_become_7 : decode cX7_become 7 = .ok (.aload_n 0, 1) := by decide +kernel
theorem dX7_become_8 : decode cX7_become 8 = .ok (.getfield 11, 3) := by decide +kernel
theorem dX7_become_11 : decode cX7_become 11 = .ok (.iload_n 2, 1) := by decide +kernel
theorem dX7_become_12 : decode cX7_become 12 = .ok (.aaload, 1) := by decide +kernel
theorem dX7_become_13 : decode cX7_become 13 = .ok (.aload_n 1, 1) := by decide +kernel
theorem dX7_become_14 : decode cX7_become 14 = .ok (.getfield 11, 3) := by decide +kernel
theorem dX7_become_17 : decode cX7_become 17 = .ok (.iload_n 2, 1) := by decide +kernel
theorem dX7_become_18 : decode cX7_become 18 = .ok (.aaload, 1) := by decide +kernel
theorem dX7_become_19 : decode cX7_become 19 = .ok (.invokevirtual 18, 3) := by decide +kernel
theorem dX7_become_22 : decode cX7_become 22 = .ok (.iinc 2 1, 3) := by decide +kernel
theorem dX7_become_25 : decode cX7_become 25 = .ok (.goto (-23), 3) := by decide +kernel
theorem dX7_become_28 : decode cX7_become 28 = .ok (.return_, 1) := by decide +kernel
theorem dX7_size_0 : decode cX7_size 0 = .ok (.iconst 0, 1) := by decide +kernel
theorem dX7_size_1 : decode cX7_size 1 = .ok (.istore_n 1, 1) := by decide +kernel
theorem dX7_size_2 : decode cX7_size 2 = .ok (.iconst 0, 1) := by decide +kernel
theorem dX7_size_3 : decode cX7_size 3 = .ok (.istore_n 2, 1) := by decide +kernel
theorem dX7_size_4 : decode cX7_size 4 = .ok (.iload_n 2, 1) := by decide +kernel
theorem dX7_size_5 : decode cX7_size 5 = .ok (.iconst 3, 1) := by decide +kernel
theorem dX7_size_6 : decode cX7_size 6 = .ok (.if_icmp .ge 21, 3) := by decide +kernel
theorem dX7_size_9 : decode cX7_size 9 = .ok (.iload_n 1, 1) := by decide +kernel
theorem dX7_size_10 : decode cX7_size 10 = .ok (.aload_n 0, 1) := by decide +kernel
theorem dX7_size_11 : decode cX7_size 11 = .ok (.getfield 11, 3) := by decide +kernel
theorem dX7_size_14 : decode cX7_size 14 = .ok (.iload_n 2, 1) := by decide +kernel
theorem dX7_size_15 : decode cX7_size 15 = .ok (.aaload, 1) := by decide +kernel
theorem dX7_size_16 : decode cX7_size 16 = .ok (.invokevirtual 22, 3) := by decide +kernel
theorem dX7_size_19 : decode cX7_size 19 = .ok (.iadd, 1) := by decide +kernel
theorem dX7_size_20 : decode cX7_size 20 = .ok (.istore_n 1, 1) := by decide +kernel
theorem dX7_size_21 : decode cX7_size 21 = .ok (.iinc 2 1, 3) := by decide +kernel
theorem dX7_size_24 : decode cX7_size 24 = .ok (.goto (-20), 3) := by decide +kernel
theorem dX7_size_27 : decode cX7_size 27 = .ok (.iload_n 1, 1) := by decide +kernel
theorem dX7_size_28 : decode cX7_size 28 = .ok (.ireturn, 1) := by decide +kernel
theorem dX8_init_0 : decode cX8_init 0 = .ok (.aload_n 0, 1) := by decide +kernel
theorem dX8_init_1 : decode cX8_init 1 = .ok (.invokespecial 1, 3) := by decide +kernel
theorem dX8_init_4 : decode cX8_init 4 = .ok (.aload_n 0, 1) := by decide +kernel
theorem dX8_init_5 : decode cX8_init 5 = .ok (.bipush 24, 2) := by decide +kernel
theorem dX8_init_7 : decode cX8_init 7 = .ok (.newarray .int, 2) := by decide +kernel
theorem dX8_init_9 : decode cX8_init 9 = .ok (.putfield 9, 3) := by decide +kernel
theorem dX8_init_12 : decode cX8_init 12 = .ok (.aload_n 0, 1) := by decide +kernel
theorem dX8_init_13 : decode cX8_init 13 = .ok (.bipush 24, 2) := by decide +kernel
theorem dX8_init_15 : decode cX8_init 15 = .ok (.newarray .int, 2) := by decide +kernel
theorem dX8_init_17 : decode cX8_init 17 = .ok (.putfield 13, 3) := by decide +kernel
theorem dX8_init_20 : decode cX8_init 20 = .ok (.return_, 1) := by decide +kernel
theorem dX8_gather_0 : decode cX8_gather 0 = .ok (.aload_n 0, 1) := by decide +kernel
theorem dX8_gather_1 : decode cX8_gather 1 = .ok (.iconst 0, 1) := by decide +kernel
theorem dX8_gather_2 : decode cX8_gather 2 = .ok (.putfield 16, 3) := by decide +kernel
theorem dX8_gather_5 : decode cX8_gather 5 = .ok (.aload_n 0, 1) := by decide +kernel
theorem dX8_gather_6 : decode cX8_gather 6 = .ok (.aload_n 1, 1) := by decide +kernel
theorem dX8_gather_7 : decode cX8_gather 7 = .ok (.iconst 0, 1) := by decide +kernel
theorem dX8_gather_8 : decode cX8_gather 8 = .ok (.iload_n 2, 1) := by decide +kernel
theorem dX8_gather_9 : decode cX8_gather 9 = .ok (.iload_n 3, 1) := by decide +kernel
theorem dX8_gather_10 : decode cX8_gather 10 = .ok (.iconst 0, 1) := by decide +kernel
theorem dX8_gather_11 : decode cX8_gather 11 = .ok (.iconst 0, 1) := by decide +kernel
theorem dX8_gather_12 : decode cX8_gather 12 = .ok (.invokestatic 20, 3) := by decide +kernel
theorem dX8_gather_15 : decode cX8_gather 15 = .ok (.return_, 1) := by decide +kernel
theorem dX8_goOn_0 : decode cX8_goOn 0 = .ok (.iload_n 2, 1) := by decide +kernel
theorem dX8_goOn_1 : decode cX8_goOn 1 = .ok (.aload_n 1, 1) := by decide +kernel
theorem dX8_goOn_2 : decode cX8_goOn 2 = .ok (.getfield 24, 3) := by decide +kernel
theorem dX8_goOn_5 : decode cX8_goOn 5 = .ok (.if_icmp .lt 14, 3) := by decide +kernel
theorem dX8_goOn_8 : decode cX8_goOn 8 = .ok (.aload_n 0, 1) := by decide +kernel
theorem dX8_goOn_9 : decode cX8_goOn 9 = .ok (.iload 5, 2) := by decide +kernel
theorem dX8_goOn_11 : decode cX8_goOn 11 = .ok (.iload 6, 2) := by decide +kernel
theorem dX8_goOn_13 : decode cX8_goOn 13 = .ok (.invokevirtual 29, 3) := by decide +kernel
theorem dX8_goOn_16 : decode cX8_goOn 16 = .ok (.goto 97, 3) := by decide +kernel
theorem dX8_goOn_19 : decode cX8_goOn 19 = .ok (.iload_n 3, 1) := by decide +kernel
theorem dX8_goOn_20 : decode cX8_goOn 20 = .ok (.iconst 1, 1) := by decide +kernel
theorem dX8_goOn_21 : decode cX8_goOn 21 = .ok (.iload_n 2, 1) := by decide +kernel
theorem dX8_goOn_22 : decode cX8_goOn 22 = .ok (.ishl, 1) := by decide +kernel
theorem dX8_goOn_23 : decode cX8_goOn 23 = .ok (.iand, 1) := by decide +kernel
theorem dX8_goOn_24 : decode cX8_goOn 24 = .ok (.ifCond .ne 21, 3) := by decide +kernel
theorem dX8_goOn_27 : decode cX8_goOn 27 = .ok (.aload_n 0, 1) := by decide +kernel
theorem dX8_goOn_28 : decode cX8_goOn 28 = .ok (.aload_n 1, 1) := by decide +kernel
theorem dX8_goOn_29 : decode cX8_goOn 29 = .ok (.iload_n 2, 1) := by decide +kernel
theorem dX8_goOn_30 : decode cX8_goOn 30 = .ok (.iconst 1, 1) := by decide +kernel
theorem dX8_goOn_31 : decode cX8_goOn 31 = .ok (.iadd, 1) := by decide +kernel
theorem dX8_goOn_32 : decode cX8_goOn 32 = .ok (.iload_n 3, 1) := by decide +kernel
theorem dX8_goOn_33 : decode cX8_goOn 33 = .ok (.iload 4, 2) := by decide +kernel
theorem dX8_goOn_35 : decode cX8_goOn 35 = .ok (.iload 5, 2) := by decide +kernel
theorem dX8_goOn_37 : decode cX8_goOn 37 = .ok (.iload 6, 2) := by decide +kernel
theorem dX8_goOn_39 : decode cX8_goOn 39 = .ok (.invokestatic 20, 3) := by decide +kernel
theorem dX8_goOn_42 : decode cX8_goOn 42 = .ok (.goto 71, 3) := by decide +kernel
theorem dX8_goOn_45 : decode cX8_goOn 45 = .ok (.iconst 0, 1) := by decide +kernel
theorem dX8_goOn_46 : decode cX8_goOn 46 = .ok (.istore 7, 2) := by decide +kernel
theorem dX8_goOn_48 : decode cX8_goOn 48 = .ok (.iload 7, 2) := by decide +kernel
theorem dX8_goOn_50 : decode cX8_goOn 50 = .ok (.aload_n 1, 1) := by decide +kernel
theorem dX8_goOn_51 : decode cX8_goOn 51 = .ok (.getfield 33, 3) := by decide +kernel
theorem dX8_goOn_54 : decode cX8_goOn 54 = .ok (.if_icmp .ge 59, 3) := by decide +kernel
theorem dX8_goOn_57 : decode cX8_goOn 57 = .ok (.iload 4, 2) := by decide +kernel
theorem dX8_goOn_59 : decode cX8_goOn 59 = .ok (.iconst 1, 1) := by decide +kernel
theorem dX8_goOn_60 : decode cX8_goOn 60 = .ok (.iload 7, 2) := by decide +kernel
theorem dX8_goOn_62 : decode cX8_goOn 62 = .ok (.ishl, 1) := by decide +kernel
theorem dX8_goOn_63 : decode cX8_goOn 63 = .ok (.iand, 1) := by decide +kernel
theorem dX8_goOn_64 : decode cX8_goOn 64 = .ok (.ifCond .eq 43, 3) := by decide +kernel
theorem dX8_goOn_67 : decode cX8_goOn 67 = .ok (.aload_n 0, 1) := by decide +kernel
theorem dX8_goOn_68 : decode cX8_goOn 68 = .ok (.aload_n 1, 1) := by decide +kernel
theorem dX8_goOn_69 : decode cX8_goOn 69 = .ok (.iload_n 2, 1) := by decide +kernel
theorem dX8_goOn_70 : decode cX8_goOn 70 = .ok (.iconst 1, 1) := by decide +kernel
theorem dX8_goOn_71 : decode cX8_goOn 71 = .ok (.iadd, 1) := by decide +kernel
theorem dX8_goOn_72 : decode cX8_goOn 72 = .ok (.iload_n 3, 1) := by decide +kernel
theorem dX8_goOn_73 : decode cX8_goOn 73 = .ok (.iload 4, 2) := by decide +kernel
theorem dX8_goOn_75 : decode cX8_goOn 75 = .ok (.iconst 1, 1) := by decide +kernel
theorem dX8_goOn_76 : decode cX8_goOn 76 = .ok (.iload 7, 2) := by decide +kernel
theorem dX8_goOn_78 : decode cX8_goOn 78 = .ok (.ishl, 1) := by decide +kernel
theorem dX8_goOn_79 : decode cX8_goOn 79 = .ok (.iconst (-1), 1) := by decide +kernel
theorem dX8_goOn_80 : decode cX8_goOn 80 = .ok (.ixor, 1) := by decide +kernel
theorem dX8_goOn_81 : decode cX8_goOn 81 = .ok (.iand, 1) := by decide +kernel
theorem dX8_goOn_82 : decode cX8_goOn 82 = .ok (.iload 5, 2) := by decide +kernel
theorem dX8_goOn_84 : decode cX8_goOn 84 = .ok (.aload_n 1, 1) := by decide +kernel
theorem dX8_goOn_85 : decode cX8_goOn 85 = .ok (.iload_n 2, 1) := by decide +kernel
theorem dX8_goOn_86 : decode cX8_goOn 86 = .ok (.iload 7, 2) := by decide +kernel
theorem dX8_goOn_88 : decode cX8_goOn 88 = .ok (.invokevirtual 36, 3) := by decide +kernel
theorem dX8_goOn_91 : decode cX8_goOn 91 = .ok (.iadd, 1) := by decide +kernel
theorem dX8_goOn_92 : decode cX8_goOn 92 = .ok (.iload 6, 2) := by decide +kernel
theorem dX8_goOn_94 : decode cX8_goOn 94 = .ok (.iconst 1, 1) := by decide +kernel
theorem dX8_goOn_95 : decode cX8_goOn 95 = .ok (.aload_n 1, 1) := by decide +kernel
theorem dX8_goOn_96 : decode cX8_goOn 96 = .ok (.iload_n 2, 1) := by decide +kernel
theorem dX8_goOn_97 : decode cX8_goOn 97 = .ok (.iload 7, 2) := by decide +kernel
theorem dX8_goOn_99 : decode cX8_goOn 99 = .ok (.invokevirtual 40, 3) := by decide +kernel
theorem dX8_goOn_102 : decode cX8_goOn 102 = .ok (.ishl, 1) := by decide +kernel
theorem dX8_goOn_103 : decode cX8_goOn 103 = .ok (.ior, 1) := by decide +kernel
theorem dX8_goOn_104 : decode cX8_goOn 104 = .ok (.invokestatic 20, 3) := by decide +kernel
theorem dX8_goOn_107 : decode cX8_goOn 107 = .ok (.iinc 7 1, 3) := by decide +kernel
theorem dX8_goOn_110 : decode cX8_goOn 110 = .ok (.goto (-62), 3) := by decide +kernel
theorem dX8_goOn_113 : decode cX8_goOn 113 = .ok (.return_, 1) := by decide +kernel
theorem dX8_keep_0 : decode cX8_keep 0 = .ok (.aload_n 0, 1) := by decide +kernel
theorem dX8_keep_1 : decode cX8_keep 1 = .ok (.getfield 16, 3) := by decide +kernel
theorem dX8_keep_4 : decode cX8_keep 4 = .ok (.bipush 24, 2) := by decide +kernel
theorem dX8_keep_6 : decode cX8_keep 6 = .ok (.if_icmp .ge 33, 3) := by decide +kernel
theorem dX8_keep_9 : decode cX8_keep 9 = .ok (.aload_n 0, 1) := by decide +kernel
theorem dX8_keep_10 : decode cX8_keep 10 = .ok (.getfield 9, 3) := by decide +kernel
theorem dX8_keep_13 : decode cX8_keep 13 = .ok (.aload_n 0, 1) := by decide +kernel
theorem dX8_keep_14 : decode cX8_keep 14 = .ok (.getfield 16, 3) := by decide +kernel
theorem dX8_keep_17 : decode cX8_keep 17 = .ok (.iload_n 1, 1) := by decide +kernel
theorem dX8_keep_18 : decode cX8_keep 18 = .ok (.iastore, 1) := by decide +kernel
theorem dX8_keep_19 : decode cX8_keep 19 = .ok (.aload_n 0, 1) := by decide +kernel
theorem dX8_keep_20 : decode cX8_keep 20 = .ok (.getfield 13, 3) := by decide +kernel
theorem dX8_keep_23 : decode cX8_keep 23 = .ok (.aload_n 0, 1) := by decide +kernel
theorem dX8_keep_24 : decode cX8_keep 24 = .ok (.getfield 16, 3) := by decide +kernel
theorem dX8_keep_27 : decode cX8_keep 27 = .ok (.iload_n 2, 1) := by decide +kernel
theorem dX8_keep_28 : decode cX8_keep 28 = .ok (.iastore, 1) := by decide +kernel
theorem dX8_keep_29 : decode cX8_keep 29 = .ok (.aload_n 0, 1) := by decide +kernel
theorem dX8_keep_30 : decode cX8_keep 30 = .ok (.dup, 1) := by decide +kernel
theorem dX8_keep_31 : decode cX8_keep 31 = .ok (.getfield 16, 3) := by decide +kernel
theorem dX8_keep_34 : decode cX8_keep 34 = .ok (.iconst 1, 1) := by decide +kernel
theorem dX8_keep_35 : decode cX8_keep 35 = .ok (.iadd, 1) := by decide +kernel
theorem dX8_keep_36 : decode cX8_keep 36 = .ok (.putfield 16, 3) := by decide +kernel
theorem dX8_keep_39 : decode cX8_keep 39 = .ok (.return_, 1) := by decide +kernel
theorem dX8_leastSum_0 : decode cX8_leastSum 0 = .ok (.aload_n 0, 1) := by decide +kernel
theorem dX8_leastSum_1 : decode cX8_leastSum 1 = .ok (.getfield 9, 3) := by decide +kernel
theorem dX8_leastSum_4 : decode cX8_leastSum 4 = .ok (.iconst 0, 1) := by decide +kernel
theorem dX8_leastSum_5 : decode cX8_leastSum 5 = .ok (.iaload, 1) := by decide +kernel
theorem dX8_leastSum_6 : decode cX8_leastSum 6 = .ok (.istore_n 1, 1) := by decide +kernel
theorem dX8_leastSum_7 : decode cX8_leastSum 7 = .ok (.iconst 1, 1) := by decide +kernel
theorem dX8_leastSum_8 : decode cX8_leastSum 8 = .ok (.istore_n 2, 1) := by decide +kernel
theorem dX8_leastSum_9 : decode cX8_leastSum 9 = .ok (.iload_n 2, 1) := by decide +kernel
theorem dX8_leastSum_10 : decode cX8_leastSum 10 = .ok (.aload_n 0, 1) := by decide +kernel
theorem dX8_leastSum_11 : decode cX8_leastSum 11 = .ok (.getfield 16, 3) := by decide +kernel
theorem dX8_leastSum_14 : decode cX8_leastSum 14 = .ok (.if_icmp .ge 20, 3) := by decide +kernel
theorem dX8_leastSum_17 : decode cX8_leastSum 17 = .ok (.iload_n 1, 1) := by decide +kernel
theorem dX8_leastSum_18 : decode cX8_leastSum 18 = .ok (.aload_n 0, 1) := by decide +kernel
theorem dX8_leastSum_19 : decode cX8_leastSum 19 = .ok (.getfield 9, 3) := by decide +kernel
theorem dX8_leastSum_22 : decode cX8_leastSum 22 = .ok (.iload_n 2, 1) := by decide +kernel
theorem dX8_leastSum_23 : decode cX8_leastSum 23 = .ok (.iaload, 1) := by decide +kernel
theorem dX8_leastSum_24 : decode cX8_leastSum 24 = .ok (.invokestatic 43, 3) := by decide +kernel
theorem dX8_leastSum_27 : decode cX8_leastSum 27 = .ok (.istore_n 1, 1) := by decide +kernel
theorem dX8_leastSum_28 : decode cX8_leastSum 28 = .ok (.iinc 2 1, 3) := by decide +kernel
theorem dX8_leastSum_31 : decode cX8_leastSum 31 = .ok (.goto (-22), 3) := by decide +kernel
theorem dX8_leastSum_34 : decode cX8_leastSum 34 = .ok (.iload_n 1, 1) := by decide +kernel
theorem dX8_leastSum_35 : decode cX8_leastSum 35 = .ok (.ireturn, 1) := by decide +kernel
theorem dX8_greatestSum_0 : decode cX8_greatestSum 0 = .ok (.aload_n 0, 1) := by decide +kernel
theorem dX8_greatestSum_1 : decode cX8_greatestSum 1 = .ok (.getfield 9, 3) := by decide +kernel
theorem dX8_greatestSum_4 : decode cX8_greatestSum 4 = .ok (.iconst 0, 1) := by decide +kernel
theorem dX8_greatestSum_5 : decode cX8_greatestSum 5 = .ok (.iaload, 1) := by decide +kernel
theorem dX8_greatestSum_6 : decode cX8_greatestSum 6 = .ok (.istore_n 1, 1) := by decide +kernel
theorem dX8_greatestSum_7 : decode cX8_greatestSum 7 = .ok (.iconst 1, 1) := by decide +kernel
theorem dX8_greatestSum_8 : decode cX8_greatestSum 8 = .ok (.istore_n 2, 1) := by decide +kernel
theorem dX8_greatestSum_9 : decode cX8_greatestSum 9 = .ok (.iload_n 2, 1) := by decide +kernel
theorem dX8_greatestSum_10 : decode cX8_greatestSum 10 = .ok (.aload_n 0, 1) := by decide +kernel
theorem dX8_greatestSum_11 : decode cX8_greatestSum 11 = .ok (.getfield 16, 3) := by decide +kernel
theorem dX8_greatestSum_14 : decode cX8_greatestSum 14 = .ok (.if_icmp .ge 20, 3) := by decide +kernel
theorem dX8_greatestSum_17 : decode cX8_greatestSum 17 = .ok (.iload_n 1, 1) := by decide +kernel
theorem dX8_greatestSum_18 : decode cX8_greatestSum 18 = .ok (.aload_n 0, 1) := by decide +kernel
theorem dX8_greatestSum_19 : decode cX8_greatestSum 19 = .ok (.getfield 9, 3) := by decide +kernel
theorem dX8_greatestSum_22 : decode cX8_greatestSum 22 = .ok (.iload_n 2, 1) := by decide +kernel
theorem dX8_greatestSum_23 : decode cX8_greatestSum 23 = .ok (.iaload, 1) := by decide +kernel
theorem dX8_greatestSum_24 : decode cX8_greatestSum 24 = .ok (.invokestatic 48, 3) := by decide +kernel
theorem dX8_greatestSum_27 : decode cX8_greatestSum 27 = .ok (.istore_n 1, 1) := by decide +kernel
theorem dX8_greatestSum_28 : decode cX8_greatestSum 28 = .ok (.iinc 2 1, 3) := by decide +kernel
theorem dX8_greatestSum_31 : decode cX8_greatestSum 31 = .ok (.goto (-22), 3) := by decide +kernel
theorem dX8_greatestSum_34 : decode cX8_greatestSum 34 = .ok (.iload_n 1, 1) := by decide +kernel
theorem dX8_greatestSum_35 : decode cX8_greatestSum 35 = .ok (.ireturn, 1) := by decide +kernel
theorem dX8_withLeastSum_0 : decode cX8_withLeastSum 0 = .ok (.aload_n 0, 1) := by decide +kernel
theorem dX8_withLeastSum_1 : decode cX8_withLeastSum 1 = .ok (.invokevirtual 51, 3) := by decide +kernel
theorem dX8_withLeastSum_4 : decode cX8_withLeastSum 4 = .ok (.istore_n 1, 1) := by decide +kernel
theorem dX8_withLeastSum_5 : decode cX8_withLeastSum 5 = .ok (.iconst 0, 1) := by decide +kernel
theorem dX8_withLeastSum_6 : decode cX8_withLeastSum 6 = .ok (.istore_n 2, 1) := by decide +kernel
theorem dX8_withLeastSum_7 : decode cX8_withLeastSum 7 = .ok (.iconst 0, 1) := by decide +kernel
theorem dX8_withLeastSum_8 : decode cX8_withLeastSum 8 = .ok (.istore_n 3, 1) := by decide +kernel
theorem dX8_withLeastSum_9 : decode cX8_withLeastSum 9 = .ok (.iload_n 3, 1) := by decide +kernel
theorem dX8_withLeastSum_10 : decode cX8_withLeastSum 10 = .ok (.aload_n 0, 1) := by decide +kernel
theorem dX8_withLeastSum_11 : decode cX8_withLeastSum 11 = .ok (.getfield 16, 3) := by decide +kernel
theorem dX8_withLeastSum_14 : decode cX8_withLeastSum 14 = .ok (.if_icmp .ge 22, 3) := by decide +kernel
theorem dX8_withLeastSum_17 : decode cX8_withLeastSum 17 = .ok (.aload_n 0, 1) := by decide +kernel
theorem dX8_withLeastSum_18 : decode cX8_withLeastSum 18 = .ok (.getfield 9, 3) := by decide +kernel
theorem dX8_withLeastSum_21 : decode cX8_withLeastSum 21 = .ok (.iload_n 3, 1) := by decide +kernel
theorem dX8_withLeastSum_22 : decode cX8_withLeastSum 22 = .ok (.iaload, 1) := by decide +kernel
theorem dX8_withLeastSum_23 : decode cX8_withLeastSum 23 = .ok (.iload_n 1, 1) := by decide +kernel
theorem dX8_withLeastSum_24 : decode cX8_withLeastSum 24 = .ok (.if_icmp .ne 6, 3) := by decide +kernel
theorem dX8_withLeastSum_27 : decode cX8_withLeastSum 27 = .ok (.iinc 2 1, 3) := by decide +kernel
theorem dX8_withLeastSum_30 : decode cX8_withLeastSum 30 = .ok (.iinc 3 1, 3) := by decide +kernel
theorem dX8_withLeastSum_33 : decode cX8_withLeastSum 33 = .ok (.goto (-24), 3) := by decide +kernel
theorem dX8_withLeastSum_36 : decode cX8_withLeastSum 36 = .ok (.iload_n 2, 1) := by decide +kernel
theorem dX8_withLeastSum_37 : decode cX8_withLeastSum 37 = .ok (.ireturn, 1) := by decide +kernel
theorem dX9_init_0 : decode cX9_init 0 = .ok (.aload_n 0, 1) := by decide +kernel
theorem dX9_init_1 : decode cX9_init 1 = .ok (.invokespecial 1, 3) := by decide +kernel
theorem dX9_init_4 : decode cX9_init 4 = .ok (.aload_n 0, 1) := by decide +kernel
theorem dX9_init_5 : decode cX9_init 5 = .ok (.new 7, 3) := by decide +kernel
theorem dX9_init_8 : decode cX9_init 8 = .ok (.dup, 1) := by decide +kernel
theorem dX9_init_9 : decode cX9_init 9 = .ok (.invokespecial 9, 3) := by decide +kernel
theorem dX9_init_12 : decode cX9_init 12 = .ok (.putfield 10, 3) := by decide +kernel
theorem dX9_init_15 : decode cX9_init 15 = .ok (.aload_n 0, 1) := by decide +kernel
theorem dX9_init_16 : decode cX9_init 16 = .ok (.new 16, 3) := by decide +kernel
theorem dX9_init_19 : decode cX9_init 19 = .ok (.dup, 1) := by decide +kernel
theorem dX9_init_20 : decode cX9_init 20 = .ok (.invokespecial 18, 3) := by decide +kernel
theorem dX9_init_23 : decode cX9_init 23 = .ok (.putfield 19, 3) := by decide +kernel
theorem dX9_init_26 : decode cX9_init 26 = .ok (.aload_n 0, 1) := by decide +kernel
theorem dX9_init_27 : decode cX9_init 27 = .ok (.iconst 2, 1) := by decide +kernel
theorem dX9_init_28 : decode cX9_init 28 = .ok (.anewarray 7, 3) := by decide +kernel
theorem dX9_init_31 : decode cX9_init 31 = .ok (.putfield 23, 3) := by decide +kernel
theorem dX9_init_34 : decode cX9_init 34 = .ok (.aload_n 0, 1) := by decide +kernel
theorem dX9_init_35 : decode cX9_init 35 = .ok (.iconst 2, 1) := by decide +kernel
theorem dX9_init_36 : decode cX9_init 36 = .ok (.newarray .boolean, 2) := by decide +kernel
theorem dX9_init_38 : decode cX9_init 38 = .ok (.putfield 27, 3) := by decide +kernel
theorem dX9_init_41 : decode cX9_init 41 = .ok (.aload_n 0, 1) := by decide +kernel
theorem dX9_init_42 : decode cX9_init 42 = .ok (.new 31, 3) := by decide +kernel
theorem dX9_init_45 : decode cX9_init 45 = .ok (.dup, 1) := by decide +kernel
theorem dX9_init_46 : decode cX9_init 46 = .ok (.invokespecial 33, 3) := by decide +kernel
theorem dX9_init_49 : decode cX9_init 49 = .ok (.putfield 34, 3) := by decide +kernel
theorem dX9_init_52 : decode cX9_init 52 = .ok (.aload_n 0, 1) := by decide +kernel
theorem dX9_init_53 : decode cX9_init 53 = .ok (.new 38, 3) := by decide +kernel
theorem dX9_init_56 : decode cX9_init 56 = .ok (.dup, 1) := by decide +kernel
theorem dX9_init_57 : decode cX9_init 57 = .ok (.invokespecial 40, 3) := by decide +kernel
theorem dX9_init_60 : decode cX9_init 60 = .ok (.putfield 41, 3) := by decide +kernel
theorem dX9_init_63 : decode cX9_init 63 = .ok (.aload_n 0, 1) := by decide +kernel
theorem dX9_init_64 : decode cX9_init 64 = .ok (.new 38, 3) := by decide +kernel
theorem dX9_init_67 : decode cX9_init 67 = .ok (.dup, 1) := by decide +kernel
theorem dX9_init_68 : decode cX9_init 68 = .ok (.invokespecial 40, 3) := by decide +kernel
theorem dX9_init_71 : decode cX9_init 71 = .ok (.putfield 45, 3) := by decide +kernel
theorem dX9_init_74 : decode cX9_init 74 = .ok (.aload_n 0, 1) := by decide +kernel
theorem dX9_init_75 : decode cX9_init 75 = .ok (.new 48, 3) := by decide +kernel
theorem dX9_init_78 : decode cX9_init 78 = .ok (.dup, 1) := by decide +kernel
theorem dX9_init_79 : decode cX9_init 79 = .ok (.invokespecial 50, 3) := by decide +kernel
theorem dX9_init_82 : decode cX9_init 82 = .ok (.putfield 51, 3) := by decide +kernel
theorem dX9_init_85 : decode cX9_init 85 = .ok (.aload_n 0, 1) := by decide +kernel
theorem dX9_init_86 : decode cX9_init 86 = .ok (.new 55, 3) := by decide +kernel
theorem dX9_init_89 : decode cX9_init 89 = .ok (.dup, 1) := by decide +kernel
theorem dX9_init_90 : decode cX9_init 90 = .ok (.invokespecial 57, 3) := by decide +kernel
theorem dX9_init_93 : decode cX9_init 93 = .ok (.putfield 58, 3) := by decide +kernel
theorem dX9_init_96 : decode cX9_init 96 = .ok (.aload_n 0, 1) := by decide +kernel
theorem dX9_init_97 : decode cX9_init 97 = .ok (.new 62, 3) := by decide +kernel
theorem dX9_init_100 : decode cX9_init 100 = .ok (.dup, 1) := by decide +kernel
theorem dX9_init_101 : decode cX9_init 101 = .ok (.invokespecial 64, 3) := by decide +kernel
theorem dX9_init_104 : decode cX9_init 104 = .ok (.putfield 65, 3) := by decide +kernel
theorem dX9_init_107 : decode cX9_init 107 = .ok (.aload_n 0, 1) := by decide +kernel
theorem dX9_init_108 : decode cX9_init 108 = .ok (.new 69, 3) := by decide +kernel
theorem dX9_init_111 : decode cX9_init 111 = .ok (.dup, 1) := by decide +kernel
theorem dX9_init_112 : decode cX9_init 112 = .ok (.invokespecial 71, 3) := by decide +kernel
theorem dX9_init_115 : decode cX9_init 115 = .ok (.putfield 72, 3) := by decide +kernel
theorem dX9_init_118 : decode cX9_init 118 = .ok (.iconst 0, 1) := by decide +kernel
theorem dX9_init_119 : decode cX9_init 119 = .ok (.istore_n 1, 1) := by decide +kernel
theorem dX9_init_120 : decode cX9_init 120 = .ok (.iload_n 1, 1) := by decide +kernel
theorem dX9_init_121 : decode cX9_init 121 = .ok (.iconst 2, 1) := by decide +kernel
theorem dX9_init_122 : decode cX9_init 122 = .ok (.if_icmp .ge 22, 3) := by decide +kernel
theorem dX9_init_125 : decode cX9_init 125 = .ok (.aload_n 0, 1) := by decide +kernel
theorem dX9_init_126 : decode cX9_init 126 = .ok (.getfield 23, 3) := by decide +kernel
theorem dX9_init_129 : decode cX9_init 129 = .ok (.iload_n 1, 1) := by decide +kernel
theorem dX9_init_130 : decode cX9_init 130 = .ok (.new 7, 3) := by decide +kernel
theorem dX9_init_133 : decode cX9_init 133 = .ok (.dup, 1) := by decide +kernel
theorem dX9_init_134 : decode cX9_init 134 = .ok (.invokespecial 9, 3) := by decide +kernel
theorem dX9_init_137 : decode cX9_init 137 = .ok (.aastore, 1) := by decide +kernel
theorem dX9_init_138 : decode cX9_init 138 = .ok (.iinc 1 1, 3) := by decide +kernel
theorem dX9_init_141 : decode cX9_init 141 = .ok (.goto (-21), 3) := by decide +kernel
theorem dX9_init_144 : decode cX9_init 144 = .ok (.return_, 1) := by decide +kernel
theorem dX9_load_0 : decode cX9_load 0 = .ok (.iload_n 1, 1) := by decide +kernel
theorem dX9_load_1 : decode cX9_load 1 = .ok (.invokestatic 76, 3) := by decide +kernel
theorem dX9_load_4 : decode cX9_load 4 = .ok (.ifCond .ne 5, 3) := by decide +kernel
theorem dX9_load_7 : decode cX9_load 7 = .ok (.iconst (-1), 1) := by decide +kernel
theorem dX9_load_8 : decode cX9_load 8 = .ok (.ireturn, 1) := by decide +kernel
theorem dX9_load_9 : decode cX9_load 9 = .ok (.aload_n 0, 1) := by decide +kernel
theorem dX9_load_10 : decode cX9_load 10 = .ok (.getfield 34, 3) := by decide +kernel
theorem dX9_load_13 : decode cX9_load 13 = .ok (.invokevirtual 80, 3) := by decide +kernel
theorem dX9_load_16 : decode cX9_load 16 = .ok (.bipush (-6), 2) := by decide +kernel
theorem dX9_load_18 : decode cX9_load 18 = .ok (.if_icmp .eq 6, 3) := by decide +kernel
theorem dX9_load_21 : decode cX9_load 21 = .ok (.bipush (-3), 2) := by decide +kernel
theorem dX9_load_23 : decode cX9_load 23 = .ok (.ireturn, 1) := by decide +kernel
theorem dX9_load_24 : decode cX9_load 24 = .ok (.aload_n 0, 1) := by decide +kernel
theorem dX9_load_25 : decode cX9_load 25 = .ok (.getfield 34, 3) := by decide +kernel
theorem dX9_load_28 : decode cX9_load 28 = .ok (.invokevirtual 84, 3) := by decide +kernel
theorem dX9_load_31 : decode cX9_load 31 = .ok (.aload_n 0, 1) := by decide +kernel
theorem dX9_load_32 : decode cX9_load 32 = .ok (.getfield 34, 3) := by decide +kernel
theorem dX9_load_35 : decode cX9_load 35 = .ok (.getfield 87, 3) := by decide +kernel
theorem dX9_load_38 : decode cX9_load 38 = .ok (.iconst 4, 1) := by decide +kernel
theorem dX9_load_39 : decode cX9_load 39 = .ok (.if_icmp .gt 26, 3) := by decide +kernel
theorem dX9_load_42 : decode cX9_load 42 = .ok (.aload_n 0, 1) := by decide +kernel
theorem dX9_load_43 : decode cX9_load 43 = .ok (.getfield 34, 3) := by decide +kernel
theorem dX9_load_46 : decode cX9_load 46 = .ok (.getfield 91, 3) := by decide +kernel
theorem dX9_load_49 : decode cX9_load 49 = .ok (.iconst 4, 1) := by decide +kernel
theorem dX9_load_50 : decode cX9_load 50 = .ok (.if_icmp .gt 15, 3) := by decide +kernel
theorem dX9_load_53 : decode cX9_load 53 = .ok (.aload_n 0, 1) := by decide +kernel
theorem dX9_load_54 : decode cX9_load 54 = .ok (.getfield 34, 3) := by decide +kernel
theorem dX9_load_57 : decode cX9_load 57 = .ok (.getfield 94, 3) := by decide +kernel
theorem dX9_load_60 : decode cX9_load 60 = .ok (.bipush 12, 2) := by decide +kernel
theorem dX9_load_62 : decode cX9_load 62 = .ok (.if_icmp .le 6, 3) := by decide +kernel
theorem dX9_load_65 : decode cX9_load 65 = .ok (.bipush (-4), 2) := by decide +kernel
theorem dX9_load_67 : decode cX9_load 67 = .ok (.ireturn, 1) := by decide +kernel
theorem dX9_load_68 : decode cX9_load 68 = .ok (.aload_n 0, 1) := by decide +kernel
theorem dX9_load_69 : decode cX9_load 69 = .ok (.getfield 34, 3) := by decide +kernel
theorem dX9_load_72 : decode cX9_load 72 = .ok (.getfield 91, 3) := by decide +kernel
theorem dX9_load_75 : decode cX9_load 75 = .ok (.aload_n 0, 1) := by decide +kernel
theorem dX9_load_76 : decode cX9_load 76 = .ok (.getfield 34, 3) := by decide +kernel
theorem dX9_load_79 : decode cX9_load 79 = .ok (.getfield 97, 3) := by decide +kernel
theorem dX9_load_82 : decode cX9_load 82 = .ok (.if_icmp .eq 6, 3) := by decide +kernel
theorem dX9_load_85 : decode cX9_load 85 = .ok (.bipush (-2), 2) := by decide +kernel
theorem dX9_load_87 : decode cX9_load 87 = .ok (.ireturn, 1) := by decide +kernel
theorem dX9_load_88 : decode cX9_load 88 = .ok (.aload_n 0, 1) := by decide +kernel
theorem dX9_load_89 : decode cX9_load 89 = .ok (.getfield 19, 3) := by decide +kernel
theorem dX9_load_92 : decode cX9_load 92 = .ok (.aload_n 0, 1) := by decide +kernel
theorem dX9_load_93 : decode cX9_load 93 = .ok (.getfield 10, 3) := by decide +kernel
theorem dX9_load_96 : decode cX9_load 96 = .ok (.invokevirtual 100, 3) := by decide +kernel
theorem dX9_load_99 : decode cX9_load 99 = .ok (.aload_n 0, 1) := by decide +kernel
theorem dX9_load_100 : decode cX9_load 100 = .ok (.getfield 10, 3) := by decide +kernel
theorem dX9_load_103 : decode cX9_load 103 = .ok (.getfield 104, 3) := by decide +kernel
theorem dX9_load_106 : decode cX9_load 106 = .ok (.iload_n 1, 1) := by decide +kernel
theorem dX9_load_107 : decode cX9_load 107 = .ok (.aaload, 1) := by decide +kernel
theorem dX9_load_108 : decode cX9_load 108 = .ok (.astore_n 2, 1) := by decide +kernel
theorem dX9_load_109 : decode cX9_load 109 = .ok (.aload_n 0, 1) := by decide +kernel
theorem dX9_load_110 : decode cX9_load 110 = .ok (.getfield 34, 3) := by decide +kernel
theorem dX9_load_113 : decode cX9_load 113 = .ok (.aload_n 2, 1) := by decide +kernel
theorem dX9_load_114 : decode cX9_load 114 = .ok (.invokevirtual 108, 3) := by decide +kernel
theorem dX9_load_117 : decode cX9_load 117 = .ok (.aload_n 0, 1) := by decide +kernel
theorem dX9_load_118 : decode cX9_load 118 = .ok (.getfield 34, 3) := by decide +kernel
theorem dX9_load_121 : decode cX9_load 121 = .ok (.iconst 0, 1) := by decide +kernel
theorem dX9_load_122 : decode cX9_load 122 = .ok (.putfield 112, 3) := by decide +kernel
theorem dX9_load_125 : decode cX9_load 125 = .ok (.aload_n 2, 1) := by decide +kernel
theorem dX9_load_126 : decode cX9_load 126 = .ok (.invokevirtual 115, 3) := by decide +kernel
theorem dX9_load_129 : decode cX9_load 129 = .ok (.ireturn, 1) := by decide +kernel
theorem dX9_set_0 : decode cX9_set 0 = .ok (.iload_n 1, 1) := by decide +kernel
theorem dX9_set_1 : decode cX9_set 1 = .ok (.invokestatic 76, 3) := by decide +kernel
theorem dX9_set_4 : decode cX9_set 4 = .ok (.ifCond .eq 20, 3) := by decide +kernel
theorem dX9_set_7 : decode cX9_set 7 = .ok (.aload_n 0, 1) := by decide +kernel
theorem dX9_set_8 : decode cX9_set 8 = .ok (.getfield 10, 3) := by decide +kernel
theorem dX9_set_11 : decode cX9_set 11 = .ok (.getfield 104, 3) := by decide +kernel
theorem dX9_set_14 : decode cX9_set 14 = .ok (.iload_n 1, 1) := by decide +kernel
theorem dX9_set_15 : decode cX9_set 15 = .ok (.aaload, 1) := by decide +kernel
theorem dX9_set_16 : decode cX9_set 16 = .ok (.iload_n 2, 1) := by decide +kernel
theorem dX9_set_17 : decode cX9_set 17 = .ok (.iload_n 3, 1) := by decide +kernel
theorem dX9_set_18 : decode cX9_set 18 = .ok (.invokevirtual 118, 3) := by decide +kernel
theorem dX9_set_21 : decode cX9_set 21 = .ok (.ifCond .ne 5, 3) := by decide +kernel
theorem dX9_set_24 : decode cX9_set 24 = .ok (.iconst (-1), 1) := by decide +kernel
theorem dX9_set_25 : decode cX9_set 25 = .ok (.ireturn, 1) := by decide +kernel
theorem dX9_set_26 : decode cX9_set 26 = .ok (.iload 4, 2) := by decide +kernel
theorem dX9_set_28 : decode cX9_set 28 = .ok (.invokestatic 122, 3) := by decide +kernel
theorem dX9_set_31 : decode cX9_set 31 = .ok (.ifCond .ne 6, 3) := by decide +kernel
theorem dX9_set_34 : decode cX9_set 34 = .ok (.bipush (-2), 2) := by decide +kernel
theorem dX9_set_36 : decode cX9_set 36 = .ok (.ireturn, 1) := by decide +kernel
theorem dX9_set_37 : decode cX9_set 37 = .ok (.aload_n 0, 1) := by decide +kernel
theorem dX9_set_38 : decode cX9_set 38 = .ok (.getfield 10, 3) := by decide +kernel
theorem dX9_set_41 : decode cX9_set 41 = .ok (.getfield 104, 3) := by decide +kernel
theorem dX9_set_44 : decode cX9_set 44 = .ok (.iload_n 1, 1) := by decide +kernel
theorem dX9_set_45 : decode cX9_set 45 = .ok (.aaload, 1) := by decide +kernel
theorem dX9_set_46 : decode cX9_set 46 = .ok (.astore 5, 2) := by decide +kernel
theorem dX9_set_48 : decode cX9_set 48 = .ok (.aload 5, 2) := by decide +kernel
theorem dX9_set_50 : decode cX9_set 50 = .ok (.iload_n 2, 1) := by decide +kernel
theorem dX9_set_51 : decode cX9_set 51 = .ok (.iload_n 3, 1) := by decide +kernel
theorem dX9_set_52 : decode cX9_set 52 = .ok (.invokevirtual 125, 3) := by decide +kernel
theorem dX9_set_55 : decode cX9_set 55 = .ok (.istore 6, 2) := by decide +kernel
theorem dX9_set_57 : decode cX9_set 57 = .ok (.aload_n 0, 1) := by decide +kernel
theorem dX9_set_58 : decode cX9_set 58 = .ok (.getfield 19, 3) := by decide +kernel
theorem dX9_set_61 : decode cX9_set 61 = .ok (.aload_n 0, 1) := by decide +kernel
theorem dX9_set_62 : decode cX9_set 62 = .ok (.getfield 10, 3) := by decide +kernel
theorem dX9_set_65 : decode cX9_set 65 = .ok (.invokevirtual 100, 3) := by decide +kernel
theorem dX9_set_68 : decode cX9_set 68 = .ok (.aload 5, 2) := by decide +kernel
theorem dX9_set_70 : decode cX9_set 70 = .ok (.iload_n 2, 1) := by decide +kernel
theorem dX9_set_71 : decode cX9_set 71 = .ok (.iload_n 3, 1) := by decide +kernel
theorem dX9_set_72 : decode cX9_set 72 = .ok (.iload 4, 2) := by decide +kernel
theorem dX9_set_74 : decode cX9_set 74 = .ok (.invokevirtual 129, 3) := by decide +kernel
theorem dX9_set_77 : decode cX9_set 77 = .ok (.iload 6, 2) := by decide +kernel
theorem dX9_set_79 : decode cX9_set 79 = .ok (.ireturn, 1) := by decide +kernel
theorem dX9_raise_0 : decode cX9_raise 0 = .ok (.iload_n 1, 1) := by decide +kernel
theorem dX9_raise_1 : decode cX9_raise 1 = .ok (.invokestatic 76, 3) := by decide +kernel
theorem dX9_raise_4 : decode cX9_raise 4 = .ok (.ifCond .eq 20, 3) := by decide +kernel
theorem dX9_raise_7 : decode cX9_raise 7 = .ok (.aload_n 0, 1) := by decide +kernel
theorem dX9_raise_8 : decode cX9_raise 8 = .ok (.getfield 10, 3) := by decide +kernel
theorem dX9_raise_11 : decode cX9_raise 11 = .ok (.getfield 104, 3) := by decide +kernel
theorem dX9_raise_14 : decode cX9_raise 14 = .ok (.iload_n 1, 1) := by decide +kernel
theorem dX9_raise_15 : decode cX9_raise 15 = .ok (.aaload, 1) := by decide +kernel
theorem dX9_raise_16 : decode cX9_raise 16 = .ok (.iload_n 2, 1) := by decide +kernel
theorem dX9_raise_17 : decode cX9_raise 17 = .ok (.iload_n 3, 1) := by decide +kernel
theorem dX9_raise_18 : decode cX9_raise 18 = .ok (.invokevirtual 133, 3) := by decide +kernel
theorem dX9_raise_21 : decode cX9_raise 21 = .ok (.ifCond .ne 5, 3) := by decide +kernel
theorem dX9_raise_24 : decode cX9_raise 24 = .ok (.iconst (-1), 1) := by decide +kernel
theorem dX9_raise_25 : decode cX9_raise 25 = .ok (.ireturn, 1) := by decide +kernel
theorem dX9_raise_26 : decode cX9_raise 26 = .ok (.iload 4, 2) := by decide +kernel
theorem dX9_raise_28 : decode cX9_raise 28 = .ok (.sipush (-999), 3) := by decide +kernel
theorem dX9_raise_31 : decode cX9_raise 31 = .ok (.if_icmp .lt 11, 3) := by decide +kernel
theorem dX9_raise_34 : decode cX9_raise 34 = .ok (.iload 4, 2) := by decide +kernel
theorem dX9_raise_36 : decode cX9_raise 36 = .ok (.sipush 999, 3) := by decide +kernel
theorem dX9_raise_39 : decode cX9_raise 39 = .ok (.if_icmp .le 6, 3) := by decide +kernel
theorem dX9_raise_42 : decode cX9_raise 42 = .ok (.bipush (-2), 2) := by decide +kernel
theorem dX9_raise_44 : decode cX9_raise 44 = .ok (.ireturn, 1) := by decide +kernel
theorem dX9_raise_45 : decode cX9_raise 45 = .ok (.aload_n 0, 1) := by decide +kernel
theorem dX9_raise_46 : decode cX9_raise 46 = .ok (.getfield 10, 3) := by decide +kernel
theorem dX9_raise_49 : decode cX9_raise 49 = .ok (.getfield 104, 3) := by decide +kernel
theorem dX9_raise_52 : decode cX9_raise 52 = .ok (.iload_n 1, 1) := by decide +kernel
theorem dX9_raise_53 : decode cX9_raise 53 = .ok (.aaload, 1) := by decide +kernel
theorem dX9_raise_54 : decode cX9_raise 54 = .ok (.astore 5, 2) := by decide +kernel
theorem dX9_raise_56 : decode cX9_raise 56 = .ok (.aload 5, 2) := by decide +kernel
theorem dX9_raise_58 : decode cX9_raise 58 = .ok (.iload_n 2, 1) := by decide +kernel
theorem dX9_raise_59 : decode cX9_raise 59 = .ok (.iload_n 3, 1) := by decide +kernel
theorem dX9_raise_60 : decode cX9_raise 60 = .ok (.iload 4, 2) := by decide +kernel
theorem dX9_raise_62 : decode cX9_raise 62 = .ok (.invokevirtual 137, 3) := by decide +kernel
theorem dX9_raise_65 : decode cX9_raise 65 = .ok (.ifCond .ne 6, 3) := by decide +kernel
theorem dX9_raise_68 : decode cX9_raise 68 = .ok (.bipush (-5), 2) := by decide +kernel
theorem dX9_raise_70 : decode cX9_raise 70 = .ok (.ireturn, 1) := by decide +kernel
theorem dX9_raise_71 : decode cX9_raise 71 = .ok (.aload_n 0, 1) := by decide +kernel
theorem dX9_raise_72 : decode cX9_raise 72 = .ok (.getfield 19, 3) := by decide +kernel
theorem dX9_raise_75 : decode cX9_raise 75 = .ok (.aload_n 0, 1) := by decide +kernel
theorem dX9_raise_76 : decode cX9_raise 76 = .ok (.getfield 10, 3) := by decide +kernel
theorem dX9_raise_79 : decode cX9_raise 79 = .ok (.invokevirtual 100, 3) := by decide +kernel
theorem dX9_raise_82 : decode cX9_raise 82 = .ok (.aload 5, 2) := by decide +kernel
theorem dX9_raise_84 : decode cX9_raise 84 = .ok (.iload_n 2, 1) := by decide +kernel
theorem dX9_raise_85 : decode cX9_raise 85 = .ok (.iload_n 3, 1) := by decide +kernel
theorem dX9_raise_86 : decode cX9_raise 86 = .ok (.iload 4, 2) := by decide +kernel
theorem dX9_raise_88 : decode cX9_raise 88 = .ok (.invokevirtual 141, 3) := by decide +kernel
theorem dX9_raise_91 : decode cX9_raise 91 = .ok (.aload 5, 2) := by decide +kernel
theorem dX9_raise_93 : decode cX9_raise 93 = .ok (.invokevirtual 145, 3) := by decide +kernel
theorem dX9_raise_96 : decode cX9_raise 96 = .ok (.ireturn, 1) := by decide +kernel
theorem dX9_exchange_0 : decode cX9_exchange 0 = .ok (.iload_n 1, 1) := by decide +kernel
theorem dX9_exchange_1 : decode cX9_exchange 1 = .ok (.invokestatic 76, 3) := by decide +kernel
theorem dX9_exchange_4 : decode cX9_exchange 4 = .ok (.ifCond .eq 38, 3) := by decide +kernel
theorem dX9_exchange_7 : decode cX9_exchange 7 = .ok (.aload_n 0, 1) := by decide +kernel
theorem dX9_exchange_8 : decode cX9_exchange 8 = .ok (.getfield 10, 3) := by decide +kernel
theorem dX9_exchange_11 : decode cX9_exchange 11 = .ok (.getfield 104, 3) := by decide +kernel
theorem dX9_exchange_14 : decode cX9_exchange 14 = .ok (.iload_n 1, 1) := by decide +kernel
theorem dX9_exchange_15 : decode cX9_exchange 15 = .ok (.aaload, 1) := by decide +kernel
theorem dX9_exchange_16 : decode cX9_exchange 16 = .ok (.iload_n 2, 1) := by decide +kernel
theorem dX9_exchange_17 : decode cX9_exchange 17 = .ok (.iload_n 3, 1) := by decide +kernel
theorem dX9_exchange_18 : decode cX9_exchange 18 = .ok (.invokevirtual 133, 3) := by decide +kernel
theorem dX9_exchange_21 : decode cX9_exchange 21 = .ok (.ifCond .eq 21, 3) := by decide +kernel
theorem dX9_exchange_24 : decode cX9_exchange 24 = .ok (.aload_n 0, 1) := by decide +kernel
theorem dX9_exchange_25 : decode cX9_exchange 25 = .ok (.getfield 10, 3) := by decide +kernel
theorem dX9_exchange_28 : decode cX9_exchange 28 = .ok (.getfield 104, 3) := by decide +kernel
theorem dX9_exchange_31 : decode cX9_exchange 31 = .ok (.iload_n 1, 1) := by decide +kernel
theorem dX9_exchange_32 : decode cX9_exchange 32 = .ok (.aaload, 1) := by decide +kernel
theorem dX9_exchange_33 : decode cX9_exchange 33 = .ok (.iload_n 2, 1) := by decide +kernel
theorem dX9_exchange_34 : decode cX9_exchange 34 = .ok (.iload 4, 2) := by decide +kernel
theorem dX9_exchange_36 : decode cX9_exchange 36 = .ok (.invokevirtual 133, 3) := by decide +kernel
theorem dX9_exchange_39 : decode cX9_exchange 39 = .ok (.ifCond .ne 5, 3) := by decide +kernel
theorem dX9_exchange_42 : decode cX9_exchange 42 = .ok (.iconst (-1), 1) := by decide +kernel
theorem dX9_exchange_43 : decode cX9_exchange 43 = .ok (.ireturn, 1) := by decide +kernel
theorem dX9_exchange_44 : decode cX9_exchange 44 = .ok (.iload_n 3, 1) := by decide +kernel
theorem dX9_exchange_45 : decode cX9_exchange 45 = .ok (.iload 4, 2) := by decide +kernel
theorem dX9_exchange_47 : decode cX9_exchange 47 = .ok (.if_icmp .ne 6, 3) := by decide +kernel
theorem dX9_exchange_50 : decode cX9_exchange 50 = .ok (.bipush (-2), 2) := by decide +kernel
theorem dX9_exchange_52 : decode cX9_exchange 52 = .ok (.ireturn, 1) := by decide +kernel
theorem dX9_exchange_53 : decode cX9_exchange 53 = .ok (.aload_n 0, 1) := by decide +kernel
theorem dX9_exchange_54 : decode cX9_exchange 54 = .ok (.getfield 19, 3) := by decide +kernel
theorem dX9_exchange_57 : decode cX9_exchange 57 = .ok (.aload_n 0, 1) := by decide +kernel
theorem dX9_exchange_58 : decode cX9_exchange 58 = .ok (.getfield 10, 3) := by decide +kernel
theorem dX9_exchange_61 : decode cX9_exchange 61 = .ok (.invokevirtual 100, 3) := by decide +kernel
theorem dX9_exchange_64 : decode cX9_exchange 64 = .ok (.aload_n 0, 1) := by decide +kernel
theorem dX9_exchange_65 : decode cX9_exchange 65 = .ok (.getfield 10, 3) := by decide +kernel
theorem dX9_exchange_68 : decode cX9_exchange 68 = .ok (.getfield 104, 3) := by decide +kernel
theorem dX9_exchange_71 : decode cX9_exchange 71 = .ok (.iload_n 1, 1) := by decide +kernel
theorem dX9_exchange_72 : decode cX9_exchange 72 = .ok (.aaload, 1) := by decide +kernel
theorem dX9_exchange_73 : decode cX9_exchange 73 = .ok (.iload_n 2, 1) := by decide +kernel
theorem dX9_exchange_74 : decode cX9_exchange 74 = .ok (.iload_n 3, 1) := by decide +kernel
theorem dX9_exchange_75 : decode cX9_exchange 75 = .ok (.iload 4, 2) := by decide +kernel
theorem dX9_exchange_77 : decode cX9_exchange 77 = .ok (.invokevirtual 148, 3) := by decide +kernel
theorem dX9_exchange_80 : decode cX9_exchange 80 = .ok (.ifCond .eq 7, 3) := by decide +kernel
theorem dX9_exchange_83 : decode cX9_exchange 83 = .ok (.iconst 1, 1) := by decide +kernel
theorem dX9_exchange_84 : decode cX9_exchange 84 = .ok (.goto 4, 3) := by decide +kernel
theorem dX9_exchange_87 : decode cX9_exchange 87 = .ok (.iconst 0, 1) := by decide +kernel
theorem dX9_exchange_88 : decode cX9_exchange 88 = .ok (.ireturn, 1) := by decide +kernel
theorem dX9_drop_0 : decode cX9_drop 0 = .ok (.iload_n 1, 1) := by decide +kernel
theorem dX9_drop_1 : decode cX9_drop 1 = .ok (.invokestatic 76, 3) := by decide +kernel
theorem dX9_drop_4 : decode cX9_drop 4 = .ok (.ifCond .eq 20, 3) := by decide +kernel
theorem dX9_drop_7 : decode cX9_drop 7 = .ok (.aload_n 0, 1) := by decide +kernel
theorem dX9_drop_8 : decode cX9_drop 8 = .ok (.getfield 10, 3) := by decide +kernel
theorem dX9_drop_11 : decode cX9_drop 11 = .ok (.getfield 104, 3) := by decide +kernel
theorem dX9_drop_14 : decode cX9_drop 14 = .ok (.iload_n 1, 1) := by decide +kernel
theorem dX9_drop_15 : decode cX9_drop 15 = .ok (.aaload, 1) := by decide +kernel
theorem dX9_drop_16 : decode cX9_drop 16 = .ok (.iload_n 2, 1) := by decide +kernel
theorem dX9_drop_17 : decode cX9_drop 17 = .ok (.iload_n 3, 1) := by decide +kernel
theorem dX9_drop_18 : decode cX9_drop 18 = .ok (.invokevirtual 133, 3) := by decide +kernel
theorem dX9_drop_21 : decode cX9_drop 21 = .ok (.ifCond .ne 5, 3) := by decide +kernel
theorem dX9_drop_24 : decode cX9_drop 24 = .ok (.iconst (-1), 1) := by decide +kernel
theorem dX9_drop_25 : decode cX9_drop 25 = .ok (.ireturn, 1) := by decide +kernel
theorem dX9_drop_26 : decode cX9_drop 26 = .ok (.aload_n 0, 1) := by decide +kernel
theorem dX9_drop_27 : decode cX9_drop 27 = .ok (.getfield 10, 3) := by decide +kernel
theorem dX9_drop_30 : decode cX9_drop 30 = .ok (.getfield 104, 3) := by decide +kernel
theorem dX9_drop_33 : decode cX9_drop 33 = .ok (.iload_n 1, 1) := by decide +kernel
theorem dX9_drop_34 : decode cX9_drop 34 = .ok (.aaload, 1) := by decide +kernel
theorem dX9_drop_35 : decode cX9_drop 35 = .ok (.astore 4, 2) := by decide +kernel
theorem dX9_drop_37 : decode cX9_drop 37 = .ok (.aload 4, 2) := by decide +kernel
theorem dX9_drop_39 : decode cX9_drop 39 = .ok (.iload_n 2, 1) := by decide +kernel
theorem dX9_drop_40 : decode cX9_drop 40 = .ok (.invokevirtual 151, 3) := by decide +kernel
theorem dX9_drop_43 : decode cX9_drop 43 = .ok (.iconst 1, 1) := by decide +kernel
theorem dX9_drop_44 : decode cX9_drop 44 = .ok (.if_icmp .ne 6, 3) := by decide +kernel
theorem dX9_drop_47 : decode cX9_drop 47 = .ok (.bipush (-5), 2) := by decide +kernel
theorem dX9_drop_49 : decode cX9_drop 49 = .ok (.ireturn, 1) := by decide +kernel
theorem dX9_drop_50 : decode cX9_drop 50 = .ok (.aload_n 0, 1) := by decide +kernel
theorem dX9_drop_51 : decode cX9_drop 51 = .ok (.getfield 19, 3) := by decide +kernel
theorem dX9_drop_54 : decode cX9_drop 54 = .ok (.aload_n 0, 1) := by decide +kernel
theorem dX9_drop_55 : decode cX9_drop 55 = .ok (.getfield 10, 3) := by decide +kernel
theorem dX9_drop_58 : decode cX9_drop 58 = .ok (.invokevirtual 100, 3) := by decide +kernel
theorem dX9_drop_61 : decode cX9_drop 61 = .ok (.aload 4, 2) := by decide +kernel
theorem dX9_drop_63 : decode cX9_drop 63 = .ok (.iload_n 2, 1) := by decide +kernel
theorem dX9_drop_64 : decode cX9_drop 64 = .ok (.iload_n 3, 1) := by decide +kernel
theorem dX9_drop_65 : decode cX9_drop 65 = .ok (.invokevirtual 155, 3) := by decide +kernel
theorem dX9_drop_68 : decode cX9_drop 68 = .ok (.aload 4, 2) := by decide +kernel
theorem dX9_drop_70 : decode cX9_drop 70 = .ok (.invokevirtual 115, 3) := by decide +kernel
theorem dX9_drop_73 : decode cX9_drop 73 = .ok (.ireturn, 1) := by decide +kernel
theorem dX9_turn_0 : decode cX9_turn 0 = .ok (.iload_n 1, 1) := by decide +kernel
theorem dX9_turn_1 : decode cX9_turn 1 = .ok (.invokestatic 76, 3) := by decide +kernel
theorem dX9_turn_4 : decode cX9_turn 4 = .ok (.ifCond .ne 5, 3) := by decide +kernel
theorem dX9_turn_7 : decode cX9_turn 7 = .ok (.iconst (-1), 1) := by decide +kernel
theorem dX9_turn_8 : decode cX9_turn 8 = .ok (.ireturn, 1) := by decide +kernel
theorem dX9_turn_9 : decode cX9_turn 9 = .ok (.aload_n 0, 1) := by decide +kernel
theorem dX9_turn_10 : decode cX9_turn 10 = .ok (.getfield 19, 3) := by decide +kernel
theorem dX9_turn_13 : decode cX9_turn 13 = .ok (.aload_n 0, 1) := by decide +kernel
theorem dX9_turn_14 : decode cX9_turn 14 = .ok (.getfield 10, 3) := by decide +kernel
theorem dX9_turn_17 : decode cX9_turn 17 = .ok (.invokevirtual 100, 3) := by decide +kernel
theorem dX9_turn_20 : decode cX9_turn 20 = .ok (.aload_n 0, 1) := by decide +kernel
theorem dX9_turn_21 : decode cX9_turn 21 = .ok (.getfield 10, 3) := by decide +kernel
theorem dX9_turn_24 : decode cX9_turn 24 = .ok (.getfield 104, 3) := by decide +kernel
theorem dX9_turn_27 : decode cX9_turn 27 = .ok (.iload_n 1, 1) := by decide +kernel
theorem dX9_turn_28 : decode cX9_turn 28 = .ok (.aaload, 1) := by decide +kernel
theorem dX9_turn_29 : decode cX9_turn 29 = .ok (.astore_n 2, 1) := by decide +kernel
theorem dX9_turn_30 : decode cX9_turn 30 = .ok (.aload_n 0, 1) := by decide +kernel
theorem dX9_turn_31 : decode cX9_turn 31 = .ok (.getfield 45, 3) := by decide +kernel
theorem dX9_turn_34 : decode cX9_turn 34 = .ok (.aload_n 2, 1) := by decide +kernel
theorem dX9_turn_35 : decode cX9_turn 35 = .ok (.invokevirtual 159, 3) := by decide +kernel
theorem dX9_turn_38 : decode cX9_turn 38 = .ok (.aload_n 2, 1) := by decide +kernel
theorem dX9_turn_39 : decode cX9_turn 39 = .ok (.aload_n 0, 1) := by decide +kernel
theorem dX9_turn_40 : decode cX9_turn 40 = .ok (.getfield 45, 3) := by decide +kernel
theorem dX9_turn_43 : decode cX9_turn 43 = .ok (.invokevirtual 162, 3) := by decide +kernel
theorem dX9_turn_46 : decode cX9_turn 46 = .ok (.aload_n 2, 1) := by decide +kernel
theorem dX9_turn_47 : decode cX9_turn 47 = .ok (.getfield 165, 3) := by decide +kernel
theorem dX9_turn_50 : decode cX9_turn 50 = .ok (.ireturn, 1) := by decide +kernel
theorem dX9_product_0 : decode cX9_product 0 = .ok (.iload_n 1, 1) := by decide +kernel
theorem dX9_product_1 : decode cX9_product 1 = .ok (.invokestatic 76, 3) := by decide +kernel
theorem dX9_product_4 : decode cX9_product 4 = .ok (.ifCond .eq 17, 3) := by decide +kernel
theorem dX9_product_7 : decode cX9_product 7 = .ok (.iload_n 2, 1) := by decide +kernel
theorem dX9_product_8 : decode cX9_product 8 = .ok (.invokestatic 76, 3) := by decide +kernel
theorem dX9_product_11 : decode cX9_product 11 = .ok (.ifCond .eq 10, 3) := by decide +kernel
theorem dX9_product_14 : decode cX9_product 14 = .ok (.iload_n 3, 1) := by decide +kernel
theorem dX9_product_15 : decode cX9_product 15 = .ok (.invokestatic 76, 3) := by decide +kernel
theorem dX9_product_18 : decode cX9_product 18 = .ok (.ifCond .ne 5, 3) := by decide +kernel
theorem dX9_product_21 : decode cX9_product 21 = .ok (.iconst (-1), 1) := by decide +kernel
theorem dX9_product_22 : decode cX9_product 22 = .ok (.ireturn, 1) := by decide +kernel
theorem dX9_product_23 : decode cX9_product 23 = .ok (.aload_n 0, 1) := by decide +kernel
theorem dX9_product_24 : decode cX9_product 24 = .ok (.getfield 10, 3) := by decide +kernel
theorem dX9_product_27 : decode cX9_product 27 = .ok (.getfield 104, 3) := by decide +kernel
theorem dX9_product_30 : decode cX9_product 30 = .ok (.iload_n 1, 1) := by decide +kernel
theorem dX9_product_31 : decode cX9_product 31 = .ok (.aaload, 1) := by decide +kernel
theorem dX9_product_32 : decode cX9_product 32 = .ok (.astore 4, 2) := by decide +kernel
theorem dX9_product_34 : decode cX9_product 34 = .ok (.aload_n 0, 1) := by decide +kernel
theorem dX9_product_35 : decode cX9_product 35 = .ok (.getfield 10, 3) := by decide +kernel
theorem dX9_product_38 : decode cX9_product 38 = .ok (.getfield 104, 3) := by decide +kernel
theorem dX9_product_41 : decode cX9_product 41 = .ok (.iload_n 2, 1) := by decide +kernel
theorem dX9_product_42 : decode cX9_product 42 = .ok (.aaload, 1) := by decide +kernel
theorem dX9_product_43 : decode cX9_product 43 = .ok (.astore 5, 2) := by decide +kernel
theorem dX9_product_45 : decode cX9_product 45 = .ok (.aload 4, 2) := by decide +kernel
theorem dX9_product_47 : decode cX9_product 47 = .ok (.getfield 166, 3) := by decide +kernel
theorem dX9_product_50 : decode cX9_product 50 = .ok (.aload 5, 2) := by decide +kernel
theorem dX9_product_52 : decode cX9_product 52 = .ok (.getfield 165, 3) := by decide +kernel
theorem dX9_product_55 : decode cX9_product 55 = .ok (.if_icmp .eq 6, 3) := by decide +kernel
theorem dX9_product_58 : decode cX9_product 58 = .ok (.bipush (-5), 2) := by decide +kernel
theorem dX9_product_60 : decode cX9_product 60 = .ok (.ireturn, 1) := by decide +kernel
theorem dX9_product_61 : decode cX9_product 61 = .ok (.aload 4, 2) := by decide +kernel
theorem dX9_product_63 : decode cX9_product 63 = .ok (.getfield 165, 3) := by decide +kernel
theorem dX9_product_66 : decode cX9_product 66 = .ok (.aload 5, 2) := by decide +kernel
theorem dX9_product_68 : decode cX9_product 68 = .ok (.getfield 166, 3) := by decide +kernel
theorem dX9_product_71 : decode cX9_product 71 = .ok (.imul, 1) := by decide +kernel
theorem dX9_product_72 : decode cX9_product 72 = .ok (.bipush 12, 2) := by decide +kernel
theorem dX9_product_74 : decode cX9_product 74 = .ok (.if_icmp .le 6, 3) := by decide +kernel
theorem dX9_product_77 : decode cX9_product 77 = .ok (.bipush (-4), 2) := by decide +kernel
theorem dX9_product_79 : decode cX9_product 79 = .ok (.ireturn, 1) := by decide +kernel
theorem dX9_product_80 : decode cX9_product 80 = .ok (.aload_n 0, 1) := by decide +kernel
theorem dX9_product_81 : decode cX9_product 81 = .ok (.getfield 41, 3) := by decide +kernel
theorem dX9_product_84 : decode cX9_product 84 = .ok (.aload 4, 2) := by decide +kernel
theorem dX9_product_86 : decode cX9_product 86 = .ok (.aload 5, 2) := by decide +kernel
theorem dX9_product_88 : decode cX9_product 88 = .ok (.invokevirtual 169, 3) := by decide +kernel
theorem dX9_product_91 : decode cX9_product 91 = .ok (.aload_n 0, 1) := by decide +kernel
theorem dX9_product_92 : decode cX9_product 92 = .ok (.getfield 41, 3) := by decide +kernel
theorem dX9_product_95 : decode cX9_product 95 = .ok (.invokevirtual 145, 3) := by decide +kernel
theorem dX9_product_98 : decode cX9_product 98 = .ok (.sipush 999, 3) := by decide +kernel
theorem dX9_product_101 : decode cX9_product 101 = .ok (.if_icmp .le 6, 3) := by decide +kernel
theorem dX9_product_104 : decode cX9_product 104 = .ok (.bipush (-4), 2) := by decide +kernel
theorem dX9_product_106 : decode cX9_product 106 = .ok (.ireturn, 1) := by decide +kernel
theorem dX9_product_107 : decode cX9_product 107 = .ok (.aload_n 0, 1) := by decide +kernel
theorem dX9_product_108 : decode cX9_product 108 = .ok (.getfield 19, 3) := by decide +kernel
theorem dX9_product_111 : decode cX9_product 111 = .ok (.aload_n 0, 1) := by decide +kernel
theorem dX9_product_112 : decode cX9_product 112 = .ok (.getfield 10, 3) := by decide +kernel
theorem dX9_product_115 : decode cX9_product 115 = .ok (.invokevirtual 100, 3) := by decide +kernel
theorem dX9_product_118 : decode cX9_product 118 = .ok (.aload_n 0, 1) := by decide +kernel
theorem dX9_product_119 : decode cX9_product 119 = .ok (.getfield 10, 3) := by decide +kernel
theorem dX9_product_122 : decode cX9_product 122 = .ok (.getfield 104, 3) := by decide +kernel
theorem dX9_product_125 : decode cX9_product 125 = .ok (.iload_n 3, 1) := by decide +kernel
theorem dX9_product_126 : decode cX9_product 126 = .ok (.aaload, 1) := by decide +kernel
theorem dX9_product_127 : decode cX9_product 127 = .ok (.aload_n 0, 1) := by decide +kernel
theorem dX9_product_128 : decode cX9_product 128 = .ok (.getfield 41, 3) := by decide +kernel
theorem dX9_product_131 : decode cX9_product 131 = .ok (.invokevirtual 162, 3) := by decide +kernel
theorem dX9_product_134 : decode cX9_product 134 = .ok (.aload_n 0, 1) := by decide +kernel
theorem dX9_product_135 : decode cX9_product 135 = .ok (.getfield 41, 3) := by decide +kernel
theorem dX9_product_138 : decode cX9_product 138 = .ok (.invokevirtual 115, 3) := by decide +kernel
theorem dX9_product_141 : decode cX9_product 141 = .ok (.ireturn, 1) := by decide +kernel
theorem dX9_close_0 : decode cX9_close 0 = .ok (.iload_n 1, 1) := by decide +kernel
theorem dX9_close_1 : decode cX9_close 1 = .ok (.invokestatic 76, 3) := by decide +kernel
theorem dX9_close_4 : decode cX9_close 4 = .ok (.ifCond .ne 5, 3) := by decide +kernel
theorem dX9_close_7 : decode cX9_close 7 = .ok (.iconst (-1), 1) := by decide +kernel
theorem dX9_close_8 : decode cX9_close 8 = .ok (.ireturn, 1) := by decide +kernel
theorem dX9_close_9 : decode cX9_close 9 = .ok (.aload_n 0, 1) := by decide +kernel
theorem dX9_close_10 : decode cX9_close 10 = .ok (.getfield 10, 3) := by decide +kernel
theorem dX9_close_13 : decode cX9_close 13 = .ok (.getfield 104, 3) := by decide +kernel
theorem dX9_close_16 : decode cX9_close 16 = .ok (.iload_n 1, 1) := by decide +kernel
theorem dX9_close_17 : decode cX9_close 17 = .ok (.aaload, 1) := by decide +kernel
theorem dX9_close_18 : decode cX9_close 18 = .ok (.astore_n 2, 1) := by decide +kernel
theorem dX9_close_19 : decode cX9_close 19 = .ok (.aload_n 2, 1) := by decide +kernel
theorem dX9_close_20 : decode cX9_close 20 = .ok (.getfield 165, 3) := by decide +kernel
theorem dX9_close_23 : decode cX9_close 23 = .ok (.aload_n 2, 1) := by decide +kernel
theorem dX9_close_24 : decode cX9_close 24 = .ok (.getfield 166, 3) := by decide +kernel
theorem dX9_close_27 : decode cX9_close 27 = .ok (.if_icmp .eq 6, 3) := by decide +kernel
theorem dX9_close_30 : decode cX9_close 30 = .ok (.bipush (-5), 2) := by decide +kernel
theorem dX9_close_32 : decode cX9_close 32 = .ok (.ireturn, 1) := by decide +kernel
theorem dX9_close_33 : decode cX9_close 33 = .ok (.aload_n 0, 1) := by decide +kernel
theorem dX9_close_34 : decode cX9_close 34 = .ok (.getfield 19, 3) := by decide +kernel
theorem dX9_close_37 : decode cX9_close 37 = .ok (.aload_n 0, 1) := by decide +kernel
theorem dX9_close_38 : decode cX9_close 38 = .ok (.getfield 10, 3) := by decide +kernel
theorem dX9_close_41 : decode cX9_close 41 = .ok (.invokevirtual 100, 3) := by decide +kernel
theorem dX9_close_44 : decode cX9_close 44 = .ok (.aload_n 0, 1) := by decide +kernel
theorem dX9_close_45 : decode cX9_close 45 = .ok (.getfield 41, 3) := by decide +kernel
theorem dX9_close_48 : decode cX9_close 48 = .ok (.aload_n 2, 1) := by decide +kernel
theorem dX9_close_49 : decode cX9_close 49 = .ok (.invokevirtual 162, 3) := by decide +kernel
theorem dX9_close_52 : decode cX9_close 52 = .ok (.aload_n 2, 1) := by decide +kernel
theorem dX9_close_53 : decode cX9_close 53 = .ok (.invokevirtual 173, 3) := by decide +kernel
theorem dX9_close_56 : decode cX9_close 56 = .ok (.aload_n 2, 1) := by decide +kernel
theorem dX9_close_57 : decode cX9_close 57 = .ok (.aload_n 0, 1) := by decide +kernel
theorem dX9_close_58 : decode cX9_close 58 = .ok (.getfield 41, 3) := by decide +kernel
theorem dX9_close_61 : decode cX9_close 61 = .ok (.invokevirtual 176, 3) := by decide +kernel
theorem dX9_close_64 : decode cX9_close 64 = .ok (.ireturn, 1) := by decide +kernel
theorem dX9_entry_0 : decode cX9_entry 0 = .ok (.iload_n 1, 1) := by decide +kernel
theorem dX9_entry_1 : decode cX9_entry 1 = .ok (.invokestatic 76, 3) := by decide +kernel
theorem dX9_entry_4 : decode cX9_entry 4 = .ok (.ifCond .eq 20, 3) := by decide +kernel
theorem dX9_entry_7 : decode cX9_entry 7 = .ok (.aload_n 0, 1) := by decide +kernel
theorem dX9_entry_8 : decode cX9_entry 8 = .ok (.getfield 10, 3) := by decide +kernel
theorem dX9_entry_11 : decode cX9_entry 11 = .ok (.getfield 104, 3) := by decide +kernel
theorem dX9_entry_14 : decode cX9_entry 14 = .ok (.iload_n 1, 1) := by decide +kernel
theorem dX9_entry_15 : decode cX9_entry 15 = .ok (.aaload, 1) := by decide +kernel
theorem dX9_entry_16 : decode cX9_entry 16 = .ok (.iload_n 2, 1) := by decide +kernel
theorem dX9_entry_17 : decode cX9_entry 17 = .ok (.iload_n 3, 1) := by decide +kernel
theorem dX9_entry_18 : decode cX9_entry 18 = .ok (.invokevirtual 118, 3) := by decide +kernel
theorem dX9_entry_21 : decode cX9_entry 21 = .ok (.ifCond .ne 5, 3) := by decide +kernel
theorem dX9_entry_24 : decode cX9_entry 24 = .ok (.iconst (-1), 1) := by decide +kernel
theorem dX9_entry_25 : decode cX9_entry 25 = .ok (.ireturn, 1) := by decide +kernel
theorem dX9_entry_26 : decode cX9_entry 26 = .ok (.aload_n 0, 1) := by decide +kernel
theorem dX9_entry_27 : decode cX9_entry 27 = .ok (.getfield 10, 3) := by decide +kernel
theorem dX9_entry_30 : decode cX9_entry 30 = .ok (.getfield 104, 3) := by decide +kernel
theorem dX9_entry_33 : decode cX9_entry 33 = .ok (.iload_n 1, 1) := by decide +kernel
theorem dX9_entry_34 : decode cX9_entry 34 = .ok (.aaload, 1) := by decide +kernel
theorem dX9_entry_35 : decode cX9_entry 35 = .ok (.iload_n 2, 1) := by decide +kernel
theorem dX9_entry_36 : decode cX9_entry 36 = .ok (.iload_n 3, 1) := by decide +kernel
theorem dX9_entry_37 : decode cX9_entry 37 = .ok (.invokevirtual 125, 3) := by decide +kernel
theorem dX9_entry_40 : decode cX9_entry 40 = .ok (.ireturn, 1) := by decide +kernel
theorem dX9_permanent_0 : decode cX9_permanent 0 = .ok (.iload_n 1, 1) := by decide +kernel
theorem dX9_permanent_1 : decode cX9_permanent 1 = .ok (.invokestatic 76, 3) := by decide +kernel
theorem dX9_permanent_4 : decode cX9_permanent 4 = .ok (.ifCond .ne 5, 3) := by decide +kernel
theorem dX9_permanent_7 : decode cX9_permanent 7 = .ok (.iconst (-1), 1) := by decide +kernel
theorem dX9_permanent_8 : decode cX9_permanent 8 = .ok (.ireturn, 1) := by decide +kernel
theorem dX9_permanent_9 : decode cX9_permanent 9 = .ok (.aload_n 0, 1) := by decide +kernel
theorem dX9_permanent_10 : decode cX9_permanent 10 = .ok (.getfield 10, 3) := by decide +kernel
theorem dX9_permanent_13 : decode cX9_permanent 13 = .ok (.getfield 104, 3) := by decide +kernel
theorem dX9_permanent_16 : decode cX9_permanent 16 = .ok (.iload_n 1, 1) := by decide +kernel
theorem dX9_permanent_17 : decode cX9_permanent 17 = .ok (.aaload, 1) := by decide +kernel
theorem dX9_permanent_18 : decode cX9_permanent 18 = .ok (.astore 5, 2) := by decide +kernel
theorem dX9_permanent_20 : decode cX9_permanent 20 = .ok (.aload 5, 2) := by decide +kernel
theorem dX9_permanent_22 : decode cX9_permanent 22 = .ok (.iload_n 2, 1) := by decide +kernel
theorem dX9_permanent_23 : decode cX9_permanent 23 = .ok (.iload_n 3, 1) := by decide +kernel
theorem dX9_permanent_24 : decode cX9_permanent 24 = .ok (.invokestatic 180, 3) := by decide +kernel
theorem dX9_permanent_27 : decode cX9_permanent 27 = .ok (.ifCond .eq 14, 3) := by decide +kernel
theorem dX9_permanent_30 : decode cX9_permanent 30 = .ok (.iload 4, 2) := by decide +kernel
theorem dX9_permanent_32 : decode cX9_permanent 32 = .ok (.ifCond .lt 9, 3) := by decide +kernel
theorem dX9_permanent_35 : decode cX9_permanent 35 = .ok (.iload 4, 2) := by decide +kernel
theorem dX9_permanent_37 : decode cX9_permanent 37 = .ok (.iconst 2, 1) := by decide +kernel
theorem dX9_permanent_38 : decode cX9_permanent 38 = .ok (.if_icmp .le 6, 3) := by decide +kernel
theorem dX9_permanent_41 : decode cX9_permanent 41 = .ok (.bipush (-2), 2) := by decide +kernel
theorem dX9_permanent_43 : decode cX9_permanent 43 = .ok (.ireturn, 1) := by decide +kernel
theorem dX9_permanent_44 : decode cX9_permanent 44 = .ok (.aload_n 0, 1) := by decide +kernel
theorem dX9_permanent_45 : decode cX9_permanent 45 = .ok (.getfield 51, 3) := by decide +kernel
theorem dX9_permanent_48 : decode cX9_permanent 48 = .ok (.aload 5, 2) := by decide +kernel
theorem dX9_permanent_50 : decode cX9_permanent 50 = .ok (.iload_n 2, 1) := by decide +kernel
theorem dX9_permanent_51 : decode cX9_permanent 51 = .ok (.iload_n 3, 1) := by decide +kernel
theorem dX9_permanent_52 : decode cX9_permanent 52 = .ok (.invokevirtual 184, 3) := by decide +kernel
theorem dX9_permanent_55 : decode cX9_permanent 55 = .ok (.iload 4, 2) := by decide +kernel
theorem dX9_permanent_57 : decode cX9_permanent 57 = .ok (.ifCond .ne 11, 3) := by decide +kernel
theorem dX9_permanent_60 : decode cX9_permanent 60 = .ok (.aload_n 0, 1) := by decide +kernel
theorem dX9_permanent_61 : decode cX9_permanent 61 = .ok (.getfield 51, 3) := by decide +kernel
theorem dX9_permanent_64 : decode cX9_permanent 64 = .ok (.invokevirtual 188, 3) := by decide +kernel
theorem dX9_permanent_67 : decode cX9_permanent 67 = .ok (.ireturn, 1) := by decide +kernel
theorem dX9_permanent_68 : decode cX9_permanent 68 = .ok (.iload 4, 2) := by decide +kernel
theorem dX9_permanent_70 : decode cX9_permanent 70 = .ok (.iconst 1, 1) := by decide +kernel
theorem dX9_permanent_71 : decode cX9_permanent 71 = .ok (.if_icmp .ne 13, 3) := by decide +kernel
theorem dX9_permanent_74 : decode cX9_permanent 74 = .ok (.aload_n 0, 1) := by decide +kernel
theorem dX9_permanent_75 : decode cX9_permanent 75 = .ok (.getfield 51, 3) := by decide +kernel
theorem dX9_permanent_78 : decode cX9_permanent 78 = .ok (.invokevirtual 191, 3) := by decide +kernel
theorem dX9_permanent_81 : decode cX9_permanent 81 = .ok (.goto 10, 3) := by decide +kernel
theorem dX9_permanent_84 : decode cX9_permanent 84 = .ok (.aload_n 0, 1) := by decide +kernel
theorem dX9_permanent_85 : decode cX9_permanent 85 = .ok (.getfield 51, 3) := by decide +kernel
theorem dX9_permanent_88 : decode cX9_permanent 88 = .ok (.invokevirtual 194, 3) := by decide +kernel
theorem dX9_permanent_91 : decode cX9_permanent 91 = .ok (.ireturn, 1) := by decide +kernel
theorem dX9_byParts_0 : decode cX9_byParts 0 = .ok (.iload_n 1, 1) := by decide +kernel
theorem dX9_byParts_1 : decode cX9_byParts 1 = .ok (.invokestatic 76, 3) := by decide +kernel
theorem dX9_byParts_4 : decode cX9_byParts 4 = .ok (.ifCond .ne 5, 3) := by decide +kernel
theorem dX9_byParts_7 : decode cX9_byParts 7 = .ok (.iconst (-1), 1) := by decide +kernel
theorem dX9_byParts_8 : decode cX9_byParts 8 = .ok (.ireturn, 1) := by decide +kernel
theorem dX9_byParts_9 : decode cX9_byParts 9 = .ok (.iload_n 2, 1) := by decide +kernel
theorem dX9_byParts_10 : decode cX9_byParts 10 = .ok (.ifCond .lt 8, 3) := by decide +kernel
theorem dX9_byParts_13 : decode cX9_byParts 13 = .ok (.iload_n 2, 1) := by decide +kernel
theorem dX9_byParts_14 : decode cX9_byParts 14 = .ok (.iconst 3, 1) := by decide +kernel
theorem dX9_byParts_15 : decode cX9_byParts 15 = .ok (.if_icmp .le 6, 3) := by decide +kernel
theorem dX9_byParts_18 : decode cX9_byParts 18 = .ok (.bipush (-2), 2) := by decide +kernel
theorem dX9_byParts_20 : decode cX9_byParts 20 = .ok (.ireturn, 1) := by decide +kernel
theorem dX9_byParts_21 : decode cX9_byParts 21 = .ok (.aload_n 0, 1) := by decide +kernel
theorem dX9_byParts_22 : decode cX9_byParts 22 = .ok (.getfield 58, 3) := by decide +kernel
theorem dX9_byParts_25 : decode cX9_byParts 25 = .ok (.aload_n 0, 1) := by decide +kernel
theorem dX9_byParts_26 : decode cX9_byParts 26 = .ok (.getfield 10, 3) := by decide +kernel
theorem dX9_byParts_29 : decode cX9_byParts 29 = .ok (.getfield 104, 3) := by decide +kernel
theorem dX9_byParts_32 : decode cX9_byParts 32 = .ok (.iload_n 1, 1) := by decide +kernel
theorem dX9_byParts_33 : decode cX9_byParts 33 = .ok (.aaload, 1) := by decide +kernel
theorem dX9_byParts_34 : decode cX9_byParts 34 = .ok (.aload_n 0, 1) := by decide +kernel
theorem dX9_byParts_35 : decode cX9_byParts 35 = .ok (.getfield 51, 3) := by decide +kernel
theorem dX9_byParts_38 : decode cX9_byParts 38 = .ok (.invokevirtual 197, 3) := by decide +kernel
theorem dX9_byParts_41 : decode cX9_byParts 41 = .ok (.iload_n 2, 1) := by decide +kernel
theorem dX9_byParts_42 : decode cX9_byParts 42 = .ok (.tableswitch 50 0 2 #[26, 34, 42], 26) := by decide +kernel
theorem dX9_byParts_68 : decode cX9_byParts 68 = .ok (.aload_n 0, 1) := by decide +kernel
theorem dX9_byParts_69 : decode cX9_byParts 69 = .ok (.getfield 58, 3) := by decide +kernel
theorem dX9_byParts_72 : decode cX9_byParts 72 = .ok (.getfield 201, 3) := by decide +kernel
theorem dX9_byParts_75 : decode cX9_byParts 75 = .ok (.ireturn, 1) := by decide +kernel
theorem dX9_byParts_76 : decode cX9_byParts 76 = .ok (.aload_n 0, 1) := by decide +kernel
theorem dX9_byParts_77 : decode cX9_byParts 77 = .ok (.getfield 58, 3) := by decide +kernel
theorem dX9_byParts_80 : decode cX9_byParts 80 = .ok (.getfield 204, 3) := by decide +kernel
theorem dX9_byParts_83 : decode cX9_byParts 83 = .ok (.ireturn, 1) := by decide +kernel
theorem dX9_byParts_84 : decode cX9_byParts 84 = .ok (.aload_n 0, 1) := by decide +kernel
theorem dX9_byParts_85 : decode cX9_byParts 85 = .ok (.getfield 58, 3) := by decide +kernel
theorem dX9_byParts_88 : decode cX9_byParts 88 = .ok (.getfield 205, 3) := by decide +kernel
theorem dX9_byParts_91 : decode cX9_byParts 91 = .ok (.ireturn, 1) := by decide +kernel
theorem dX9_byParts_92 : decode cX9_byParts 92 = .ok (.aload_n 0, 1) := by decide +kernel
theorem dX9_byParts_93 : decode cX9_byParts 93 = .ok (.getfield 58, 3) := by decide +kernel
theorem dX9_byParts_96 : decode cX9_byParts 96 = .ok (.getfield 206, 3) := by decide +kernel
theorem dX9_byParts_99 : decode cX9_byParts 99 = .ok (.ireturn, 1) := by decide +kernel
theorem dX9_canTouch_0 : decode cX9_canTouch 0 = .ok (.iload_n 1, 1) := by decide +kernel
theorem dX9_canTouch_1 : decode cX9_canTouch 1 = .ok (.invokestatic 76, 3) := by decide +kernel
theorem dX9_canTouch_4 : decode cX9_canTouch 4 = .ok (.ifCond .ne 5, 3) := by decide +kernel
theorem dX9_canTouch_7 : decode cX9_canTouch 7 = .ok (.iconst (-1), 1) := by decide +kernel
theorem dX9_canTouch_8 : decode cX9_canTouch 8 = .ok (.ireturn, 1) := by decide +kernel
theorem dX9_canTouch_9 : decode cX9_canTouch 9 = .ok (.aload_n 0, 1) := by decide +kernel
theorem dX9_canTouch_10 : decode cX9_canTouch 10 = .ok (.getfield 10, 3) := by decide +kernel
theorem dX9_canTouch_13 : decode cX9_canTouch 13 = .ok (.getfield 104, 3) := by decide +kernel
theorem dX9_canTouch_16 : decode cX9_canTouch 16 = .ok (.iload_n 1, 1) := by decide +kernel
theorem dX9_canTouch_17 : decode cX9_canTouch 17 = .ok (.aaload, 1) := by decide +kernel
theorem dX9_canTouch_18 : decode cX9_canTouch 18 = .ok (.astore_n 3, 1) := by decide +kernel
theorem dX9_canTouch_19 : decode cX9_canTouch 19 = .ok (.iload_n 2, 1) := by decide +kernel
theorem dX9_canTouch_20 : decode cX9_canTouch 20 = .ok (.aload_n 3, 1) := by decide +kernel
theorem dX9_canTouch_21 : decode cX9_canTouch 21 = .ok (.invokevirtual 115, 3) := by decide +kernel
theorem dX9_canTouch_24 : decode cX9_canTouch 24 = .ok (.invokestatic 209, 3) := by decide +kernel
theorem dX9_canTouch_27 : decode cX9_canTouch 27 = .ok (.ifCond .ne 6, 3) := by decide +kernel
theorem dX9_canTouch_30 : decode cX9_canTouch 30 = .ok (.bipush (-2), 2) := by decide +kernel
theorem dX9_canTouch_32 : decode cX9_canTouch 32 = .ok (.ireturn, 1) := by decide +kernel
theorem dX9_canTouch_33 : decode cX9_canTouch 33 = .ok (.aload_n 0, 1) := by decide +kernel
theorem dX9_canTouch_34 : decode cX9_canTouch 34 = .ok (.getfield 65, 3) := by decide +kernel
theorem dX9_canTouch_37 : decode cX9_canTouch 37 = .ok (.aload_n 3, 1) := by decide +kernel
theorem dX9_canTouch_38 : decode cX9_canTouch 38 = .ok (.aload_n 0, 1) := by decide +kernel
theorem dX9_canTouch_39 : decode cX9_canTouch 39 = .ok (.getfield 51, 3) := by decide +kernel
theorem dX9_canTouch_42 : decode cX9_canTouch 42 = .ok (.invokevirtual 212, 3) := by decide +kernel
theorem dX9_canTouch_45 : decode cX9_canTouch 45 = .ok (.aload_n 0, 1) := by decide +kernel
theorem dX9_canTouch_46 : decode cX9_canTouch 46 = .ok (.getfield 65, 3) := by decide +kernel
theorem dX9_canTouch_49 : decode cX9_canTouch 49 = .ok (.iload_n 2, 1) := by decide +kernel
theorem dX9_canTouch_50 : decode cX9_canTouch 50 = .ok (.invokevirtual 213, 3) := by decide +kernel
theorem dX9_canTouch_53 : decode cX9_canTouch 53 = .ok (.ifCond .eq 7, 3) := by decide +kernel
theorem dX9_canTouch_56 : decode cX9_canTouch 56 = .ok (.iconst 1, 1) := by decide +kernel
theorem dX9_canTouch_57 : decode cX9_canTouch 57 = .ok (.goto 4, 3) := by decide +kernel
theorem dX9_canTouch_60 : decode cX9_canTouch 60 = .ok (.iconst 0, 1) := by decide +kernel
theorem dX9_canTouch_61 : decode cX9_canTouch 61 = .ok (.ireturn, 1) := by decide +kernel
theorem dX9_byCovers_0 : decode cX9_byCovers 0 = .ok (.iload_n 1, 1) := by decide +kernel
theorem dX9_byCovers_1 : decode cX9_byCovers 1 = .ok (.invokestatic 76, 3) := by decide +kernel
theorem dX9_byCovers_4 : decode cX9_byCovers 4 = .ok (.ifCond .ne 5, 3) := by decide +kernel
theorem dX9_byCovers_7 : decode cX9_byCovers 7 = .ok (.iconst (-1), 1) := by decide +kernel
theorem dX9_byCovers_8 : decode cX9_byCovers 8 = .ok (.ireturn, 1) := by decide +kernel
theorem dX9_byCovers_9 : decode cX9_byCovers 9 = .ok (.iload_n 2, 1) := by decide +kernel
theorem dX9_byCovers_10 : decode cX9_byCovers 10 = .ok (.ifCond .lt 8, 3) := by decide +kernel
theorem dX9_byCovers_13 : decode cX9_byCovers 13 = .ok (.iload_n 2, 1) := by decide +kernel
theorem dX9_byCovers_14 : decode cX9_byCovers 14 = .ok (.iconst 2, 1) := by decide +kernel
theorem dX9_byCovers_15 : decode cX9_byCovers 15 = .ok (.if_icmp .le 6, 3) := by decide +kernel
theorem dX9_byCovers_18 : decode cX9_byCovers 18 = .ok (.bipush (-2), 2) := by decide +kernel
theorem dX9_byCovers_20 : decode cX9_byCovers 20 = .ok (.ireturn, 1) := by decide +kernel
theorem dX9_byCovers_21 : decode cX9_byCovers 21 = .ok (.aload_n 0, 1) := by decide +kernel
theorem dX9_byCovers_22 : decode cX9_byCovers 22 = .ok (.getfield 65, 3) := by decide +kernel
theorem dX9_byCovers_25 : decode cX9_byCovers 25 = .ok (.aload_n 0, 1) := by decide +kernel
theorem dX9_byCovers_26 : decode cX9_byCovers 26 = .ok (.getfield 10, 3) := by decide +kernel
theorem dX9_byCovers_29 : decode cX9_byCovers 29 = .ok (.getfield 104, 3) := by decide +kernel
theorem dX9_byCovers_32 : decode cX9_byCovers 32 = .ok (.iload_n 1, 1) := by decide +kernel
theorem dX9_byCovers_33 : decode cX9_byCovers 33 = .ok (.aaload, 1) := by decide +kernel
theorem dX9_byCovers_34 : decode cX9_byCovers 34 = .ok (.aload_n 0, 1) := by decide +kernel
theorem dX9_byCovers_35 : decode cX9_byCovers 35 = .ok (.getfield 51, 3) := by decide +kernel
theorem dX9_byCovers_38 : decode cX9_byCovers 38 = .ok (.invokevirtual 212, 3) := by decide +kernel
theorem dX9_byCovers_41 : decode cX9_byCovers 41 = .ok (.iload_n 2, 1) := by decide +kernel
theorem dX9_byCovers_42 : decode cX9_byCovers 42 = .ok (.ifCond .ne 11, 3) := by decide +kernel
theorem dX9_byCovers_45 : decode cX9_byCovers 45 = .ok (.aload_n 0, 1) := by decide +kernel
theorem dX9_byCovers_46 : decode cX9_byCovers 46 = .ok (.getfield 65, 3) := by decide +kernel
theorem dX9_byCovers_49 : decode cX9_byCovers 49 = .ok (.invokevirtual 216, 3) := by decide +kernel
theorem dX9_byCovers_52 : decode cX9_byCovers 52 = .ok (.ireturn, 1) := by decide +kernel
theorem dX9_byCovers_53 : decode cX9_byCovers 53 = .ok (.iload_n 2, 1) := by decide +kernel
theorem dX9_byCovers_54 : decode cX9_byCovers 54 = .ok (.iconst 1, 1) := by decide +kernel
theorem dX9_byCovers_55 : decode cX9_byCovers 55 = .ok (.if_icmp .ne 13, 3) := by decide +kernel
theorem dX9_byCovers_58 : decode cX9_byCovers 58 = .ok (.aload_n 0, 1) := by decide +kernel
theorem dX9_byCovers_59 : decode cX9_byCovers 59 = .ok (.getfield 65, 3) := by decide +kernel
theorem dX9_byCovers_62 : decode cX9_byCovers 62 = .ok (.invokevirtual 219, 3) := by decide +kernel
theorem dX9_byCovers_65 : decode cX9_byCovers 65 = .ok (.goto 10, 3) := by decide +kernel
theorem dX9_byCovers_68 : decode cX9_byCovers 68 = .ok (.aload_n 0, 1) := by decide +kernel
theorem dX9_byCovers_69 : decode cX9_byCovers 69 = .ok (.getfield 65, 3) := by decide +kernel
theorem dX9_byCovers_72 : decode cX9_byCovers 72 = .ok (.invokevirtual 222, 3) := by decide +kernel
theorem dX9_byCovers_75 : decode cX9_byCovers 75 = .ok (.ireturn, 1) := by decide +kernel
theorem dX9_cover_0 : decode cX9_cover 0 = .ok (.iload_n 1, 1) := by decide +kernel
theorem dX9_cover_1 : decode cX9_cover 1 = .ok (.invokestatic 76, 3) := by decide +kernel
theorem dX9_cover_4 : decode cX9_cover 4 = .ok (.ifCond .eq 23, 3) := by decide +kernel
theorem dX9_cover_7 : decode cX9_cover 7 = .ok (.iload_n 2, 1) := by decide +kernel
theorem dX9_cover_8 : decode cX9_cover 8 = .ok (.ifCond .lt 19, 3) := by decide +kernel
theorem dX9_cover_11 : decode cX9_cover 11 = .ok (.iload_n 2, 1) := by decide +kernel
theorem dX9_cover_12 : decode cX9_cover 12 = .ok (.aload_n 0, 1) := by decide +kernel
theorem dX9_cover_13 : decode cX9_cover 13 = .ok (.getfield 10, 3) := by decide +kernel
theorem dX9_cover_16 : decode cX9_cover 16 = .ok (.getfield 104, 3) := by decide +kernel
theorem dX9_cover_19 : decode cX9_cover 19 = .ok (.iload_n 1, 1) := by decide +kernel
theorem dX9_cover_20 : decode cX9_cover 20 = .ok (.aaload, 1) := by decide +kernel
theorem dX9_cover_21 : decode cX9_cover 21 = .ok (.invokevirtual 115, 3) := by decide +kernel
theorem dX9_cover_24 : decode cX9_cover 24 = .ok (.if_icmp .lt 5, 3) := by decide +kernel
theorem dX9_cover_27 : decode cX9_cover 27 = .ok (.iconst (-1), 1) := by decide +kernel
theorem dX9_cover_28 : decode cX9_cover 28 = .ok (.ireturn, 1) := by decide +kernel
theorem dX9_cover_29 : decode cX9_cover 29 = .ok (.aload_n 0, 1) := by decide +kernel
theorem dX9_cover_30 : decode cX9_cover 30 = .ok (.getfield 65, 3) := by decide +kernel
theorem dX9_cover_33 : decode cX9_cover 33 = .ok (.aload_n 0, 1) := by decide +kernel
theorem dX9_cover_34 : decode cX9_cover 34 = .ok (.getfield 10, 3) := by decide +kernel
theorem dX9_cover_37 : decode cX9_cover 37 = .ok (.getfield 104, 3) := by decide +kernel
theorem dX9_cover_40 : decode cX9_cover 40 = .ok (.iload_n 1, 1) := by decide +kernel
theorem dX9_cover_41 : decode cX9_cover 41 = .ok (.aaload, 1) := by decide +kernel
theorem dX9_cover_42 : decode cX9_cover 42 = .ok (.aload_n 0, 1) := by decide +kernel
theorem dX9_cover_43 : decode cX9_cover 43 = .ok (.getfield 51, 3) := by decide +kernel
theorem dX9_cover_46 : decode cX9_cover 46 = .ok (.invokevirtual 212, 3) := by decide +kernel
theorem dX9_cover_49 : decode cX9_cover 49 = .ok (.aload_n 0, 1) := by decide +kernel
theorem dX9_cover_50 : decode cX9_cover 50 = .ok (.getfield 65, 3) := by decide +kernel
theorem dX9_cover_53 : decode cX9_cover 53 = .ok (.invokevirtual 216, 3) := by decide +kernel
theorem dX9_cover_56 : decode cX9_cover 56 = .ok (.pop, 1) := by decide +kernel
theorem dX9_cover_57 : decode cX9_cover 57 = .ok (.aload_n 0, 1) := by decide +kernel
theorem dX9_cover_58 : decode cX9_cover 58 = .ok (.getfield 65, 3) := by decide +kernel
theorem dX9_cover_61 : decode cX9_cover 61 = .ok (.getfield 225, 3) := by decide +kernel
theorem dX9_cover_64 : decode cX9_cover 64 = .ok (.iload_n 2, 1) := by decide +kernel
theorem dX9_cover_65 : decode cX9_cover 65 = .ok (.iaload, 1) := by decide +kernel
theorem dX9_cover_66 : decode cX9_cover 66 = .ok (.ireturn, 1) := by decide +kernel
theorem dX9_cone_0 : decode cX9_cone 0 = .ok (.iload_n 1, 1) := by decide +kernel
theorem dX9_cone_1 : decode cX9_cone 1 = .ok (.invokestatic 76, 3) := by decide +kernel
theorem dX9_cone_4 : decode cX9_cone 4 = .ok (.ifCond .eq 20, 3) := by decide +kernel
theorem dX9_cone_7 : decode cX9_cone 7 = .ok (.aload_n 0, 1) := by decide +kernel
theorem dX9_cone_8 : decode cX9_cone 8 = .ok (.getfield 10, 3) := by decide +kernel
theorem dX9_cone_11 : decode cX9_cone 11 = .ok (.getfield 104, 3) := by decide +kernel
theorem dX9_cone_14 : decode cX9_cone 14 = .ok (.iload_n 1, 1) := by decide +kernel
theorem dX9_cone_15 : decode cX9_cone 15 = .ok (.aaload, 1) := by decide +kernel
theorem dX9_cone_16 : decode cX9_cone 16 = .ok (.iconst 0, 1) := by decide +kernel
theorem dX9_cone_17 : decode cX9_cone 17 = .ok (.iload_n 2, 1) := by decide +kernel
theorem dX9_cone_18 : decode cX9_cone 18 = .ok (.invokevirtual 133, 3) := by decide +kernel
theorem dX9_cone_21 : decode cX9_cone 21 = .ok (.ifCond .ne 5, 3) := by decide +kernel
theorem dX9_cone_24 : decode cX9_cone 24 = .ok (.iconst (-1), 1) := by decide +kernel
theorem dX9_cone_25 : decode cX9_cone 25 = .ok (.ireturn, 1) := by decide +kernel
theorem dX9_cone_26 : decode cX9_cone 26 = .ok (.aload_n 0, 1) := by decide +kernel
theorem dX9_cone_27 : decode cX9_cone 27 = .ok (.getfield 10, 3) := by decide +kernel
theorem dX9_cone_30 : decode cX9_cone 30 = .ok (.getfield 104, 3) := by decide +kernel
theorem dX9_cone_33 : decode cX9_cone 33 = .ok (.iload_n 1, 1) := by decide +kernel
theorem dX9_cone_34 : decode cX9_cone 34 = .ok (.aaload, 1) := by decide +kernel
theorem dX9_cone_35 : decode cX9_cone 35 = .ok (.astore 5, 2) := by decide +kernel
theorem dX9_cone_37 : decode cX9_cone 37 = .ok (.iload_n 3, 1) := by decide +kernel
theorem dX9_cone_38 : decode cX9_cone 38 = .ok (.aload 5, 2) := by decide +kernel
theorem dX9_cone_40 : decode cX9_cone 40 = .ok (.getfield 166, 3) := by decide +kernel
theorem dX9_cone_43 : decode cX9_cone 43 = .ok (.invokestatic 209, 3) := by decide +kernel
theorem dX9_cone_46 : decode cX9_cone 46 = .ok (.ifCond .eq 22, 3) := by decide +kernel
theorem dX9_cone_49 : decode cX9_cone 49 = .ok (.iload_n 3, 1) := by decide +kernel
theorem dX9_cone_50 : decode cX9_cone 50 = .ok (.iconst 1, 1) := by decide +kernel
theorem dX9_cone_51 : decode cX9_cone 51 = .ok (.iload_n 2, 1) := by decide +kernel
theorem dX9_cone_52 : decode cX9_cone 52 = .ok (.ishl, 1) := by decide +kernel
theorem dX9_cone_53 : decode cX9_cone 53 = .ok (.iand, 1) := by decide +kernel
theorem dX9_cone_54 : decode cX9_cone 54 = .ok (.ifCond .ne 14, 3) := by decide +kernel
theorem dX9_cone_57 : decode cX9_cone 57 = .ok (.iload 4, 2) := by decide +kernel
theorem dX9_cone_59 : decode cX9_cone 59 = .ok (.ifCond .lt 9, 3) := by decide +kernel
theorem dX9_cone_62 : decode cX9_cone 62 = .ok (.iload 4, 2) := by decide +kernel
theorem dX9_cone_64 : decode cX9_cone 64 = .ok (.iconst 1, 1) := by decide +kernel
theorem dX9_cone_65 : decode cX9_cone 65 = .ok (.if_icmp .le 6, 3) := by decide +kernel
theorem dX9_cone_68 : decode cX9_cone 68 = .ok (.bipush (-2), 2) := by decide +kernel
theorem dX9_cone_70 : decode cX9_cone 70 = .ok (.ireturn, 1) := by decide +kernel
theorem dX9_cone_71 : decode cX9_cone 71 = .ok (.aload 5, 2) := by decide +kernel
theorem dX9_cone_73 : decode cX9_cone 73 = .ok (.iload_n 2, 1) := by decide +kernel
theorem dX9_cone_74 : decode cX9_cone 74 = .ok (.iload_n 3, 1) := by decide +kernel
theorem dX9_cone_75 : decode cX9_cone 75 = .ok (.invokestatic 229, 3) := by decide +kernel
theorem dX9_cone_78 : decode cX9_cone 78 = .ok (.istore 6, 2) := by decide +kernel
theorem dX9_cone_80 : decode cX9_cone 80 = .ok (.iload 4, 2) := by decide +kernel
theorem dX9_cone_82 : decode cX9_cone 82 = .ok (.iconst 1, 1) := by decide +kernel
theorem dX9_cone_83 : decode cX9_cone 83 = .ok (.if_icmp .ne 6, 3) := by decide +kernel
theorem dX9_cone_86 : decode cX9_cone 86 = .ok (.iload 6, 2) := by decide +kernel
theorem dX9_cone_88 : decode cX9_cone 88 = .ok (.ireturn, 1) := by decide +kernel
theorem dX9_cone_89 : decode cX9_cone 89 = .ok (.iload 6, 2) := by decide +kernel
theorem dX9_cone_91 : decode cX9_cone 91 = .ok (.ifCond .ne 7, 3) := by decide +kernel
theorem dX9_cone_94 : decode cX9_cone 94 = .ok (.iconst 1, 1) := by decide +kernel
theorem dX9_cone_95 : decode cX9_cone 95 = .ok (.goto 4, 3) := by decide +kernel
theorem dX9_cone_98 : decode cX9_cone 98 = .ok (.iconst 0, 1) := by decide +kernel
theorem dX9_cone_99 : decode cX9_cone 99 = .ok (.ireturn, 1) := by decide +kernel
theorem dX9_factor_0 : decode cX9_factor 0 = .ok (.iload_n 1, 1) := by decide +kernel
theorem dX9_factor_1 : decode cX9_factor 1 = .ok (.invokestatic 76, 3) := by decide +kernel
theorem dX9_factor_4 : decode cX9_factor 4 = .ok (.ifCond .eq 37, 3) := by decide +kernel
theorem dX9_factor_7 : decode cX9_factor 7 = .ok (.aload_n 0, 1) := by decide +kernel
theorem dX9_factor_8 : decode cX9_factor 8 = .ok (.getfield 10, 3) := by decide +kernel
theorem dX9_factor_11 : decode cX9_factor 11 = .ok (.getfield 104, 3) := by decide +kernel
theorem dX9_factor_14 : decode cX9_factor 14 = .ok (.iload_n 1, 1) := by decide +kernel
theorem dX9_factor_15 : decode cX9_factor 15 = .ok (.aaload, 1) := by decide +kernel
theorem dX9_factor_16 : decode cX9_factor 16 = .ok (.iconst 0, 1) := by decide +kernel
theorem dX9_factor_17 : decode cX9_factor 17 = .ok (.iload_n 2, 1) := by decide +kernel
theorem dX9_factor_18 : decode cX9_factor 18 = .ok (.invokevirtual 133, 3) := by decide +kernel
theorem dX9_factor_21 : decode cX9_factor 21 = .ok (.ifCond .eq 20, 3) := by decide +kernel
theorem dX9_factor_24 : decode cX9_factor 24 = .ok (.aload_n 0, 1) := by decide +kernel
theorem dX9_factor_25 : decode cX9_factor 25 = .ok (.getfield 10, 3) := by decide +kernel
theorem dX9_factor_28 : decode cX9_factor 28 = .ok (.getfield 104, 3) := by decide +kernel
theorem dX9_factor_31 : decode cX9_factor 31 = .ok (.iload_n 1, 1) := by decide +kernel
theorem dX9_factor_32 : decode cX9_factor 32 = .ok (.aaload, 1) := by decide +kernel
theorem dX9_factor_33 : decode cX9_factor 33 = .ok (.iconst 0, 1) := by decide +kernel
theorem dX9_factor_34 : decode cX9_factor 34 = .ok (.iload_n 3, 1) := by decide +kernel
theorem dX9_factor_35 : decode cX9_factor 35 = .ok (.invokevirtual 133, 3) := by decide +kernel
theorem dX9_factor_38 : decode cX9_factor 38 = .ok (.ifCond .ne 5, 3) := by decide +kernel
theorem dX9_factor_41 : decode cX9_factor 41 = .ok (.iconst (-1), 1) := by decide +kernel
theorem dX9_factor_42 : decode cX9_factor 42 = .ok (.ireturn, 1) := by decide +kernel
theorem dX9_factor_43 : decode cX9_factor 43 = .ok (.iload_n 2, 1) := by decide +kernel
theorem dX9_factor_44 : decode cX9_factor 44 = .ok (.iload_n 3, 1) := by decide +kernel
theorem dX9_factor_45 : decode cX9_factor 45 = .ok (.if_icmp .ne 6, 3) := by decide +kernel
theorem dX9_factor_48 : decode cX9_factor 48 = .ok (.bipush (-2), 2) := by decide +kernel
theorem dX9_factor_50 : decode cX9_factor 50 = .ok (.ireturn, 1) := by decide +kernel
theorem dX9_factor_51 : decode cX9_factor 51 = .ok (.aload_n 0, 1) := by decide +kernel
theorem dX9_factor_52 : decode cX9_factor 52 = .ok (.getfield 10, 3) := by decide +kernel
theorem dX9_factor_55 : decode cX9_factor 55 = .ok (.getfield 104, 3) := by decide +kernel
theorem dX9_factor_58 : decode cX9_factor 58 = .ok (.iload_n 1, 1) := by decide +kernel
theorem dX9_factor_59 : decode cX9_factor 59 = .ok (.aaload, 1) := by decide +kernel
theorem dX9_factor_60 : decode cX9_factor 60 = .ok (.iload_n 2, 1) := by decide +kernel
theorem dX9_factor_61 : decode cX9_factor 61 = .ok (.iload_n 3, 1) := by decide +kernel
theorem dX9_factor_62 : decode cX9_factor 62 = .ok (.invokestatic 235, 3) := by decide +kernel
theorem dX9_factor_65 : decode cX9_factor 65 = .ok (.sipush 1000, 3) := by decide +kernel
theorem dX9_factor_68 : decode cX9_factor 68 = .ok (.iadd, 1) := by decide +kernel
theorem dX9_factor_69 : decode cX9_factor 69 = .ok (.ireturn, 1) := by decide +kernel
theorem dX9_byCone_0 : decode cX9_byCone 0 = .ok (.iload_n 1, 1) := by decide +kernel
theorem dX9_byCone_1 : decode cX9_byCone 1 = .ok (.invokestatic 76, 3) := by decide +kernel
theorem dX9_byCone_4 : decode cX9_byCone 4 = .ok (.ifCond .ne 5, 3) := by decide +kernel
theorem dX9_byCone_7 : decode cX9_byCone 7 = .ok (.iconst (-1), 1) := by decide +kernel
theorem dX9_byCone_8 : decode cX9_byCone 8 = .ok (.ireturn, 1) := by decide +kernel
theorem dX9_byCone_9 : decode cX9_byCone 9 = .ok (.iload_n 3, 1) := by decide +kernel
theorem dX9_byCone_10 : decode cX9_byCone 10 = .ok (.ifCond .lt 8, 3) := by decide +kernel
theorem dX9_byCone_13 : decode cX9_byCone 13 = .ok (.iload_n 3, 1) := by decide +kernel
theorem dX9_byCone_14 : decode cX9_byCone 14 = .ok (.iconst 1, 1) := by decide +kernel
theorem dX9_byCone_15 : decode cX9_byCone 15 = .ok (.if_icmp .le 6, 3) := by decide +kernel
theorem dX9_byCone_18 : decode cX9_byCone 18 = .ok (.bipush (-2), 2) := by decide +kernel
theorem dX9_byCone_20 : decode cX9_byCone 20 = .ok (.ireturn, 1) := by decide +kernel
theorem dX9_byCone_21 : decode cX9_byCone 21 = .ok (.aload_n 0, 1) := by decide +kernel
theorem dX9_byCone_22 : decode cX9_byCone 22 = .ok (.aload_n 0, 1) := by decide +kernel
theorem dX9_byCone_23 : decode cX9_byCone 23 = .ok (.getfield 10, 3) := by decide +kernel
theorem dX9_byCone_26 : decode cX9_byCone 26 = .ok (.getfield 104, 3) := by decide +kernel
theorem dX9_byCone_29 : decode cX9_byCone 29 = .ok (.iload_n 1, 1) := by decide +kernel
theorem dX9_byCone_30 : decode cX9_byCone 30 = .ok (.aaload, 1) := by decide +kernel
theorem dX9_byCone_31 : decode cX9_byCone 31 = .ok (.iload_n 2, 1) := by decide +kernel
theorem dX9_byCone_32 : decode cX9_byCone 32 = .ok (.invokevirtual 238, 3) := by decide +kernel
theorem dX9_byCone_35 : decode cX9_byCone 35 = .ok (.istore 4, 2) := by decide +kernel
theorem dX9_byCone_37 : decode cX9_byCone 37 = .ok (.iload_n 3, 1) := by decide +kernel
theorem dX9_byCone_38 : decode cX9_byCone 38 = .ok (.iconst 1, 1) := by decide +kernel
theorem dX9_byCone_39 : decode cX9_byCone 39 = .ok (.if_icmp .ne 8, 3) := by decide +kernel
theorem dX9_byCone_42 : decode cX9_byCone 42 = .ok (.iload 4, 2) := by decide +kernel
theorem dX9_byCone_44 : decode cX9_byCone 44 = .ok (.goto 8, 3) := by decide +kernel
theorem dX9_byCone_47 : decode cX9_byCone 47 = .ok (.iload 4, 2) := by decide +kernel
theorem dX9_byCone_49 : decode cX9_byCone 49 = .ok (.invokestatic 242, 3) := by decide +kernel
theorem dX9_byCone_52 : decode cX9_byCone 52 = .ok (.ireturn, 1) := by decide +kernel
theorem dX9_arrayOf_0 : decode cX9_arrayOf 0 = .ok (.iload_n 1, 1) := by decide +kernel
theorem dX9_arrayOf_1 : decode cX9_arrayOf 1 = .ok (.invokestatic 76, 3) := by decide +kernel
theorem dX9_arrayOf_4 : decode cX9_arrayOf 4 = .ok (.ifCond .ne 5, 3) := by decide +kernel
theorem dX9_arrayOf_7 : decode cX9_arrayOf 7 = .ok (.iconst (-1), 1) := by decide +kernel
theorem dX9_arrayOf_8 : decode cX9_arrayOf 8 = .ok (.ireturn, 1) := by decide +kernel
theorem dX9_arrayOf_9 : decode cX9_arrayOf 9 = .ok (.aload_n 0, 1) := by decide +kernel
theorem dX9_arrayOf_10 : decode cX9_arrayOf 10 = .ok (.getfield 10, 3) := by decide +kernel
theorem dX9_arrayOf_13 : decode cX9_arrayOf 13 = .ok (.getfield 104, 3) := by decide +kernel
theorem dX9_arrayOf_16 : decode cX9_arrayOf 16 = .ok (.iload_n 1, 1) := by decide +kernel
theorem dX9_arrayOf_17 : decode cX9_arrayOf 17 = .ok (.aaload, 1) := by decide +kernel
theorem dX9_arrayOf_18 : decode cX9_arrayOf 18 = .ok (.astore_n 3, 1) := by decide +kernel
theorem dX9_arrayOf_19 : decode cX9_arrayOf 19 = .ok (.iload_n 2, 1) := by decide +kernel
theorem dX9_arrayOf_20 : decode cX9_arrayOf 20 = .ok (.tableswitch 61 0 4 #[36, 41, 46, 51, 56], 36) := by decide +kernel
theorem dX9_arrayOf_56 : decode cX9_arrayOf 56 = .ok (.aload_n 3, 1) := by decide +kernel
theorem dX9_arrayOf_57 : decode cX9_arrayOf 57 = .ok (.getfield 165, 3) := by decide +kernel
theorem dX9_arrayOf_60 : decode cX9_arrayOf 60 = .ok (.ireturn, 1) := by decide +kernel
theorem dX9_arrayOf_61 : decode cX9_arrayOf 61 = .ok (.aload_n 3, 1) := by decide +kernel
theorem dX9_arrayOf_62 : decode cX9_arrayOf 62 = .ok (.getfield 166, 3) := by decide +kernel
theorem dX9_arrayOf_65 : decode cX9_arrayOf 65 = .ok (.ireturn, 1) := by decide +kernel
theorem dX9_arrayOf_66 : decode cX9_arrayOf 66 = .ok (.aload_n 3, 1) := by decide +kernel
theorem dX9_arrayOf_67 : decode cX9_arrayOf 67 = .ok (.invokevirtual 145, 3) := by decide +kernel
theorem dX9_arrayOf_70 : decode cX9_arrayOf 70 = .ok (.ireturn, 1) := by decide +kernel
theorem dX9_arrayOf_71 : decode cX9_arrayOf 71 = .ok (.aload_n 3, 1) := by decide +kernel
theorem dX9_arrayOf_72 : decode cX9_arrayOf 72 = .ok (.invokevirtual 248, 3) := by decide +kernel
theorem dX9_arrayOf_75 : decode cX9_arrayOf 75 = .ok (.ireturn, 1) := by decide +kernel
theorem dX9_arrayOf_76 : decode cX9_arrayOf 76 = .ok (.aload_n 3, 1) := by decide +kernel
theorem dX9_arrayOf_77 : decode cX9_arrayOf 77 = .ok (.invokevirtual 251, 3) := by decide +kernel
theorem dX9_arrayOf_80 : decode cX9_arrayOf 80 = .ok (.ireturn, 1) := by decide +kernel
theorem dX9_arrayOf_81 : decode cX9_arrayOf 81 = .ok (.bipush (-2), 2) := by decide +kernel
theorem dX9_arrayOf_83 : decode cX9_arrayOf 83 = .ok (.ireturn, 1) := by decide +kernel
theorem dX9_ring_0 : decode cX9_ring 0 = .ok (.iload_n 1, 1) := by decide +kernel
theorem dX9_ring_1 : decode cX9_ring 1 = .ok (.invokestatic 76, 3) := by decide +kernel
theorem dX9_ring_4 : decode cX9_ring 4 = .ok (.ifCond .ne 5, 3) := by decide +kernel
theorem dX9_ring_7 : decode cX9_ring 7 = .ok (.iconst (-1), 1) := by decide +kernel
theorem dX9_ring_8 : decode cX9_ring 8 = .ok (.ireturn, 1) := by decide +kernel
theorem dX9_ring_9 : decode cX9_ring 9 = .ok (.iload_n 2, 1) := by decide +kernel
theorem dX9_ring_10 : decode cX9_ring 10 = .ok (.ifCond .lt 8, 3) := by decide +kernel
theorem dX9_ring_13 : decode cX9_ring 13 = .ok (.iload_n 2, 1) := by decide +kernel
theorem dX9_ring_14 : decode cX9_ring 14 = .ok (.iconst 2, 1) := by decide +kernel
theorem dX9_ring_15 : decode cX9_ring 15 = .ok (.if_icmp .le 6, 3) := by decide +kernel
theorem dX9_ring_18 : decode cX9_ring 18 = .ok (.bipush (-2), 2) := by decide +kernel
theorem dX9_ring_20 : decode cX9_ring 20 = .ok (.ireturn, 1) := by decide +kernel
theorem dX9_ring_21 : decode cX9_ring 21 = .ok (.aload_n 0, 1) := by decide +kernel
theorem dX9_ring_22 : decode cX9_ring 22 = .ok (.getfield 10, 3) := by decide +kernel
theorem dX9_ring_25 : decode cX9_ring 25 = .ok (.getfield 104, 3) := by decide +kernel
theorem dX9_ring_28 : decode cX9_ring 28 = .ok (.iload_n 1, 1) := by decide +kernel
theorem dX9_ring_29 : decode cX9_ring 29 = .ok (.aaload, 1) := by decide +kernel
theorem dX9_ring_30 : decode cX9_ring 30 = .ok (.astore_n 3, 1) := by decide +kernel
theorem dX9_ring_31 : decode cX9_ring 31 = .ok (.aload_n 3, 1) := by decide +kernel
theorem dX9_ring_32 : decode cX9_ring 32 = .ok (.getfield 165, 3) := by decide +kernel
theorem dX9_ring_35 : decode cX9_ring 35 = .ok (.aload_n 3, 1) := by decide +kernel
theorem dX9_ring_36 : decode cX9_ring 36 = .ok (.getfield 166, 3) := by decide +kernel
theorem dX9_ring_39 : decode cX9_ring 39 = .ok (.if_icmp .eq 6, 3) := by decide +kernel
theorem dX9_ring_42 : decode cX9_ring 42 = .ok (.bipush (-5), 2) := by decide +kernel
theorem dX9_ring_44 : decode cX9_ring 44 = .ok (.ireturn, 1) := by decide +kernel
theorem dX9_ring_45 : decode cX9_ring 45 = .ok (.aload_n 0, 1) := by decide +kernel
theorem dX9_ring_46 : decode cX9_ring 46 = .ok (.getfield 72, 3) := by decide +kernel
theorem dX9_ring_49 : decode cX9_ring 49 = .ok (.aload_n 3, 1) := by decide +kernel
theorem dX9_ring_50 : decode cX9_ring 50 = .ok (.invokevirtual 254, 3) := by decide +kernel
theorem dX9_ring_53 : decode cX9_ring 53 = .ok (.iload_n 2, 1) := by decide +kernel
theorem dX9_ring_54 : decode cX9_ring 54 = .ok (.ifCond .ne 11, 3) := by decide +kernel
theorem dX9_ring_57 : decode cX9_ring 57 = .ok (.aload_n 0, 1) := by decide +kernel
theorem dX9_ring_58 : decode cX9_ring 58 = .ok (.getfield 72, 3) := by decide +kernel
theorem dX9_ring_61 : decode cX9_ring 61 = .ok (.getfield 256, 3) := by decide +kernel
theorem dX9_ring_64 : decode cX9_ring 64 = .ok (.ireturn, 1) := by decide +kernel
theorem dX9_ring_65 : decode cX9_ring 65 = .ok (.iload_n 2, 1) := by decide +kernel
theorem dX9_ring_66 : decode cX9_ring 66 = .ok (.iconst 1, 1) := by decide +kernel
theorem dX9_ring_67 : decode cX9_ring 67 = .ok (.if_icmp .ne 13, 3) := by decide +kernel
theorem dX9_ring_70 : decode cX9_ring 70 = .ok (.aload_n 0, 1) := by decide +kernel
theorem dX9_ring_71 : decode cX9_ring 71 = .ok (.getfield 72, 3) := by decide +kernel
theorem dX9_ring_74 : decode cX9_ring 74 = .ok (.getfield 259, 3) := by decide +kernel
theorem dX9_ring_77 : decode cX9_ring 77 = .ok (.goto 10, 3) := by decide +kernel
theorem dX9_ring_80 : decode cX9_ring 80 = .ok (.aload_n 0, 1) := by decide +kernel
theorem dX9_ring_81 : decode cX9_ring 81 = .ok (.getfield 72, 3) := by decide +kernel
theorem dX9_ring_84 : decode cX9_ring 84 = .ok (.getfield 262, 3) := by decide +kernel
theorem dX9_ring_87 : decode cX9_ring 87 = .ok (.ireturn, 1) := by decide +kernel
theorem dX9_count_0 : decode cX9_count 0 = .ok (.iload_n 1, 1) := by decide +kernel
theorem dX9_count_1 : decode cX9_count 1 = .ok (.tableswitch 51 0 2 #[27, 35, 43], 27) := by decide +kernel
theorem dX9_count_28 : decode cX9_count 28 = .ok (.aload_n 0, 1) := by decide +kernel
theorem dX9_count_29 : decode cX9_count 29 = .ok (.getfield 10, 3) := by decide +kernel
theorem dX9_count_32 : decode cX9_count 32 = .ok (.invokevirtual 265, 3) := by decide +kernel
theorem dX9_count_35 : decode cX9_count 35 = .ok (.ireturn, 1) := by decide +kernel
theorem dX9_count_36 : decode cX9_count 36 = .ok (.aload_n 0, 1) := by decide +kernel
theorem dX9_count_37 : decode cX9_count 37 = .ok (.getfield 34, 3) := by decide +kernel
theorem dX9_count_40 : decode cX9_count 40 = .ok (.getfield 112, 3) := by decide +kernel
theorem dX9_count_43 : decode cX9_count 43 = .ok (.ireturn, 1) := by decide +kernel
theorem dX9_count_44 : decode cX9_count 44 = .ok (.aload_n 0, 1) := by decide +kernel
theorem dX9_count_45 : decode cX9_count 45 = .ok (.getfield 19, 3) := by decide +kernel
theorem dX9_count_48 : decode cX9_count 48 = .ok (.getfield 266, 3) := by decide +kernel
theorem dX9_count_51 : decode cX9_count 51 = .ok (.ireturn, 1) := by decide +kernel
theorem dX9_count_52 : decode cX9_count 52 = .ok (.bipush (-2), 2) := by decide +kernel
theorem dX9_count_54 : decode cX9_count 54 = .ok (.ireturn, 1) := by decide +kernel
theorem dX9_ifSet_0 : decode cX9_ifSet 0 = .ok (.iload_n 1, 1) := by decide +kernel
theorem dX9_ifSet_1 : decode cX9_ifSet 1 = .ok (.invokestatic 76, 3) := by decide +kernel
theorem dX9_ifSet_4 : decode cX9_ifSet 4 = .ok (.ifCond .eq 20, 3) := by decide +kernel
theorem dX9_ifSet_7 : decode cX9_ifSet 7 = .ok (.aload_n 0, 1) := by decide +kernel
theorem dX9_ifSet_8 : decode cX9_ifSet 8 = .ok (.getfield 10, 3) := by decide +kernel
theorem dX9_ifSet_11 : decode cX9_ifSet 11 = .ok (.getfield 104, 3) := by decide +kernel
theorem dX9_ifSet_14 : decode cX9_ifSet 14 = .ok (.iload_n 1, 1) := by decide +kernel
theorem dX9_ifSet_15 : decode cX9_ifSet 15 = .ok (.aaload, 1) := by decide +kernel
theorem dX9_ifSet_16 : decode cX9_ifSet 16 = .ok (.iload_n 2, 1) := by decide +kernel
theorem dX9_ifSet_17 : decode cX9_ifSet 17 = .ok (.iload_n 3, 1) := by decide +kernel
theorem dX9_ifSet_18 : decode cX9_ifSet 18 = .ok (.invokevirtual 118, 3) := by decide +kernel
theorem dX9_ifSet_21 : decode cX9_ifSet 21 = .ok (.ifCond .ne 5, 3) := by decide +kernel
theorem dX9_ifSet_24 : decode cX9_ifSet 24 = .ok (.iconst (-1), 1) := by decide +kernel
theorem dX9_ifSet_25 : decode cX9_ifSet 25 = .ok (.ireturn, 1) := by decide +kernel
theorem dX9_ifSet_26 : decode cX9_ifSet 26 = .ok (.iload 4, 2) := by decide +kernel
theorem dX9_ifSet_28 : decode cX9_ifSet 28 = .ok (.invokestatic 122, 3) := by decide +kernel
theorem dX9_ifSet_31 : decode cX9_ifSet 31 = .ok (.ifCond .eq 14, 3) := by decide +kernel
theorem dX9_ifSet_34 : decode cX9_ifSet 34 = .ok (.iload 5, 2) := by decide +kernel
theorem dX9_ifSet_36 : decode cX9_ifSet 36 = .ok (.ifCond .lt 9, 3) := by decide +kernel
theorem dX9_ifSet_39 : decode cX9_ifSet 39 = .ok (.iload 5, 2) := by decide +kernel
theorem dX9_ifSet_41 : decode cX9_ifSet 41 = .ok (.iconst 3, 1) := by decide +kernel
theorem dX9_ifSet_42 : decode cX9_ifSet 42 = .ok (.if_icmp .le 6, 3) := by decide +kernel
theorem dX9_ifSet_45 : decode cX9_ifSet 45 = .ok (.bipush (-2), 2) := by decide +kernel
theorem dX9_ifSet_47 : decode cX9_ifSet 47 = .ok (.ireturn, 1) := by decide +kernel
theorem dX9_ifSet_48 : decode cX9_ifSet 48 = .ok (.aload_n 0, 1) := by decide +kernel
theorem dX9_ifSet_49 : decode cX9_ifSet 49 = .ok (.getfield 41, 3) := by decide +kernel
theorem dX9_ifSet_52 : decode cX9_ifSet 52 = .ok (.aload_n 0, 1) := by decide +kernel
theorem dX9_ifSet_53 : decode cX9_ifSet 53 = .ok (.getfield 10, 3) := by decide +kernel
theorem dX9_ifSet_56 : decode cX9_ifSet 56 = .ok (.getfield 104, 3) := by decide +kernel
theorem dX9_ifSet_59 : decode cX9_ifSet 59 = .ok (.iload_n 1, 1) := by decide +kernel
theorem dX9_ifSet_60 : decode cX9_ifSet 60 = .ok (.aaload, 1) := by decide +kernel
theorem dX9_ifSet_61 : decode cX9_ifSet 61 = .ok (.invokevirtual 162, 3) := by decide +kernel
theorem dX9_ifSet_64 : decode cX9_ifSet 64 = .ok (.aload_n 0, 1) := by decide +kernel
theorem dX9_ifSet_65 : decode cX9_ifSet 65 = .ok (.getfield 41, 3) := by decide +kernel
theorem dX9_ifSet_68 : decode cX9_ifSet 68 = .ok (.iload_n 2, 1) := by decide +kernel
theorem dX9_ifSet_69 : decode cX9_ifSet 69 = .ok (.iload_n 3, 1) := by decide +kernel
theorem dX9_ifSet_70 : decode cX9_ifSet 70 = .ok (.iload 4, 2) := by decide +kernel
theorem dX9_ifSet_72 : decode cX9_ifSet 72 = .ok (.invokevirtual 129, 3) := by decide +kernel
theorem dX9_ifSet_75 : decode cX9_ifSet 75 = .ok (.aload_n 0, 1) := by decide +kernel
theorem dX9_ifSet_76 : decode cX9_ifSet 76 = .ok (.aload_n 0, 1) := by decide +kernel
theorem dX9_ifSet_77 : decode cX9_ifSet 77 = .ok (.getfield 41, 3) := by decide +kernel
theorem dX9_ifSet_80 : decode cX9_ifSet 80 = .ok (.iload 5, 2) := by decide +kernel
theorem dX9_ifSet_82 : decode cX9_ifSet 82 = .ok (.invokevirtual 268, 3) := by decide +kernel
theorem dX9_ifSet_85 : decode cX9_ifSet 85 = .ok (.ireturn, 1) := by decide +kernel
theorem dX9_bestZero_0 : decode cX9_bestZero 0 = .ok (.iload_n 1, 1) := by decide +kernel
theorem dX9_bestZero_1 : decode cX9_bestZero 1 = .ok (.invokestatic 76, 3) := by decide +kernel
theorem dX9_bestZero_4 : decode cX9_bestZero 4 = .ok (.ifCond .ne 5, 3) := by decide +kernel
theorem dX9_bestZero_7 : decode cX9_bestZero 7 = .ok (.iconst (-1), 1) := by decide +kernel
theorem dX9_bestZero_8 : decode cX9_bestZero 8 = .ok (.ireturn, 1) := by decide +kernel
theorem dX9_bestZero_9 : decode cX9_bestZero 9 = .ok (.aload_n 0, 1) := by decide +kernel
theorem dX9_bestZero_10 : decode cX9_bestZero 10 = .ok (.getfield 10, 3) := by decide +kernel
theorem dX9_bestZero_13 : decode cX9_bestZero 13 = .ok (.getfield 104, 3) := by decide +kernel
theorem dX9_bestZero_16 : decode cX9_bestZero 16 = .ok (.iload_n 1, 1) := by decide +kernel
theorem dX9_bestZero_17 : decode cX9_bestZero 17 = .ok (.aaload, 1) := by decide +kernel
theorem dX9_bestZero_18 : decode cX9_bestZero 18 = .ok (.astore_n 2, 1) := by decide +kernel
theorem dX9_bestZero_19 : decode cX9_bestZero 19 = .ok (.iconst 0, 1) := by decide +kernel
theorem dX9_bestZero_20 : decode cX9_bestZero 20 = .ok (.istore_n 3, 1) := by decide +kernel
theorem dX9_bestZero_21 : decode cX9_bestZero 21 = .ok (.bipush 13, 2) := by decide +kernel
theorem dX9_bestZero_23 : decode cX9_bestZero 23 = .ok (.istore 4, 2) := by decide +kernel
theorem dX9_bestZero_25 : decode cX9_bestZero 25 = .ok (.iconst 0, 1) := by decide +kernel
theorem dX9_bestZero_26 : decode cX9_bestZero 26 = .ok (.istore 5, 2) := by decide +kernel
theorem dX9_bestZero_28 : decode cX9_bestZero 28 = .ok (.iload 5, 2) := by decide +kernel
theorem dX9_bestZero_30 : decode cX9_bestZero 30 = .ok (.aload_n 2, 1) := by decide +kernel
theorem dX9_bestZero_31 : decode cX9_bestZero 31 = .ok (.getfield 165, 3) := by decide +kernel
theorem dX9_bestZero_34 : decode cX9_bestZero 34 = .ok (.if_icmp .ge 78, 3) := by decide +kernel
theorem dX9_bestZero_37 : decode cX9_bestZero 37 = .ok (.iconst 0, 1) := by decide +kernel
theorem dX9_bestZero_38 : decode cX9_bestZero 38 = .ok (.istore 6, 2) := by decide +kernel
theorem dX9_bestZero_40 : decode cX9_bestZero 40 = .ok (.iload 6, 2) := by decide +kernel
theorem dX9_bestZero_42 : decode cX9_bestZero 42 = .ok (.aload_n 2, 1) := by decide +kernel
theorem dX9_bestZero_43 : decode cX9_bestZero 43 = .ok (.getfield 166, 3) := by decide +kernel
theorem dX9_bestZero_46 : decode cX9_bestZero 46 = .ok (.if_icmp .ge 60, 3) := by decide +kernel
theorem dX9_bestZero_49 : decode cX9_bestZero 49 = .ok (.aload_n 0, 1) := by decide +kernel
theorem dX9_bestZero_50 : decode cX9_bestZero 50 = .ok (.getfield 41, 3) := by decide +kernel
theorem dX9_bestZero_53 : decode cX9_bestZero 53 = .ok (.aload_n 2, 1) := by decide +kernel
theorem dX9_bestZero_54 : decode cX9_bestZero 54 = .ok (.invokevirtual 162, 3) := by decide +kernel
theorem dX9_bestZero_57 : decode cX9_bestZero 57 = .ok (.aload_n 0, 1) := by decide +kernel
theorem dX9_bestZero_58 : decode cX9_bestZero 58 = .ok (.getfield 41, 3) := by decide +kernel
theorem dX9_bestZero_61 : decode cX9_bestZero 61 = .ok (.iload 5, 2) := by decide +kernel
theorem dX9_bestZero_63 : decode cX9_bestZero 63 = .ok (.iload 6, 2) := by decide +kernel
theorem dX9_bestZero_65 : decode cX9_bestZero 65 = .ok (.iconst 0, 1) := by decide +kernel
theorem dX9_bestZero_66 : decode cX9_bestZero 66 = .ok (.invokevirtual 129, 3) := by decide +kernel
theorem dX9_bestZero_69 : decode cX9_bestZero 69 = .ok (.aload_n 0, 1) := by decide +kernel
theorem dX9_bestZero_70 : decode cX9_bestZero 70 = .ok (.aload_n 0, 1) := by decide +kernel
theorem dX9_bestZero_71 : decode cX9_bestZero 71 = .ok (.getfield 41, 3) := by decide +kernel
theorem dX9_bestZero_74 : decode cX9_bestZero 74 = .ok (.iconst 1, 1) := by decide +kernel
theorem dX9_bestZero_75 : decode cX9_bestZero 75 = .ok (.invokevirtual 268, 3) := by decide +kernel
theorem dX9_bestZero_78 : decode cX9_bestZero 78 = .ok (.istore 7, 2) := by decide +kernel
theorem dX9_bestZero_80 : decode cX9_bestZero 80 = .ok (.iload 7, 2) := by decide +kernel
theorem dX9_bestZero_82 : decode cX9_bestZero 82 = .ok (.iload 4, 2) := by decide +kernel
theorem dX9_bestZero_84 : decode cX9_bestZero 84 = .ok (.if_icmp .ge 16, 3) := by decide +kernel
theorem dX9_bestZero_87 : decode cX9_bestZero 87 = .ok (.iload 7, 2) := by decide +kernel
theorem dX9_bestZero_89 : decode cX9_bestZero 89 = .ok (.istore 4, 2) := by decide +kernel
theorem dX9_bestZero_91 : decode cX9_bestZero 91 = .ok (.aload_n 2, 1) := by decide +kernel
theorem dX9_bestZero_92 : decode cX9_bestZero 92 = .ok (.iload 5, 2) := by decide +kernel
theorem dX9_bestZero_94 : decode cX9_bestZero 94 = .ok (.iload 6, 2) := by decide +kernel
theorem dX9_bestZero_96 : decode cX9_bestZero 96 = .ok (.invokevirtual 271, 3) := by decide +kernel
theorem dX9_bestZero_99 : decode cX9_bestZero 99 = .ok (.istore_n 3, 1) := by decide +kernel
theorem dX9_bestZero_100 : decode cX9_bestZero 100 = .ok (.iinc 6 1, 3) := by decide +kernel
theorem dX9_bestZero_103 : decode cX9_bestZero 103 = .ok (.goto (-63), 3) := by decide +kernel
theorem dX9_bestZero_106 : decode cX9_bestZero 106 = .ok (.iinc 5 1, 3) := by decide +kernel
theorem dX9_bestZero_109 : decode cX9_bestZero 109 = .ok (.goto (-81), 3) := by decide +kernel
theorem dX9_bestZero_112 : decode cX9_bestZero 112 = .ok (.iload_n 3, 1) := by decide +kernel
theorem dX9_bestZero_113 : decode cX9_bestZero 113 = .ok (.ireturn, 1) := by decide +kernel
theorem dX9_put_0 : decode cX9_put 0 = .ok (.lload_n 1, 1) := by decide +kernel
theorem dX9_put_1 : decode cX9_put 1 = .ok (.invokestatic 274, 3) := by decide +kernel
theorem dX9_put_4 : decode cX9_put 4 = .ok (.istore_n 3, 1) := by decide +kernel
theorem dX9_put_5 : decode cX9_put 5 = .ok (.iload_n 3, 1) := by decide +kernel
theorem dX9_put_6 : decode cX9_put 6 = .ok (.ifCond .ne 6, 3) := by decide +kernel
theorem dX9_put_9 : decode cX9_put 9 = .ok (.bipush (-2), 2) := by decide +kernel
theorem dX9_put_11 : decode cX9_put 11 = .ok (.ireturn, 1) := by decide +kernel
theorem dX9_put_12 : decode cX9_put 12 = .ok (.aload_n 0, 1) := by decide +kernel
theorem dX9_put_13 : decode cX9_put 13 = .ok (.getfield 34, 3) := by decide +kernel
theorem dX9_put_16 : decode cX9_put 16 = .ok (.getfield 112, 3) := by decide +kernel
theorem dX9_put_19 : decode cX9_put 19 = .ok (.iload_n 3, 1) := by decide +kernel
theorem dX9_put_20 : decode cX9_put 20 = .ok (.iadd, 1) := by decide +kernel
theorem dX9_put_21 : decode cX9_put 21 = .ok (.bipush 80, 2) := by decide +kernel
theorem dX9_put_23 : decode cX9_put 23 = .ok (.if_icmp .le 6, 3) := by decide +kernel
theorem dX9_put_26 : decode cX9_put 26 = .ok (.bipush (-4), 2) := by decide +kernel
theorem dX9_put_28 : decode cX9_put 28 = .ok (.ireturn, 1) := by decide +kernel
theorem dX9_put_29 : decode cX9_put 29 = .ok (.aload_n 0, 1) := by decide +kernel
theorem dX9_put_30 : decode cX9_put 30 = .ok (.getfield 34, 3) := by decide +kernel
theorem dX9_put_33 : decode cX9_put 33 = .ok (.lload_n 1, 1) := by decide +kernel
theorem dX9_put_34 : decode cX9_put 34 = .ok (.iload_n 3, 1) := by decide +kernel
theorem dX9_put_35 : decode cX9_put 35 = .ok (.invokevirtual 278, 3) := by decide +kernel
theorem dX9_put_38 : decode cX9_put 38 = .ok (.aload_n 0, 1) := by decide +kernel
theorem dX9_put_39 : decode cX9_put 39 = .ok (.getfield 34, 3) := by decide +kernel
theorem dX9_put_42 : decode cX9_put 42 = .ok (.getfield 112, 3) := by decide +kernel
theorem dX9_put_45 : decode cX9_put 45 = .ok (.ireturn, 1) := by decide +kernel
theorem dX9_wipe_0 : decode cX9_wipe 0 = .ok (.aload_n 0, 1) := by decide +kernel
theorem dX9_wipe_1 : decode cX9_wipe 1 = .ok (.getfield 34, 3) := by decide +kernel
theorem dX9_wipe_4 : decode cX9_wipe 4 = .ok (.getfield 112, 3) := by decide +kernel
theorem dX9_wipe_7 : decode cX9_wipe 7 = .ok (.istore_n 1, 1) := by decide +kernel
theorem dX9_wipe_8 : decode cX9_wipe 8 = .ok (.aload_n 0, 1) := by decide +kernel
theorem dX9_wipe_9 : decode cX9_wipe 9 = .ok (.getfield 34, 3) := by decide +kernel
theorem dX9_wipe_12 : decode cX9_wipe 12 = .ok (.iconst 0, 1) := by decide +kernel
theorem dX9_wipe_13 : decode cX9_wipe 13 = .ok (.putfield 112, 3) := by decide +kernel
theorem dX9_wipe_16 : decode cX9_wipe 16 = .ok (.iload_n 1, 1) := by decide +kernel
theorem dX9_wipe_17 : decode cX9_wipe 17 = .ok (.ireturn, 1) := by decide +kernel
theorem dX9_isArray_0 : decode cX9_isArray 0 = .ok (.iload_n 0, 1) := by decide +kernel
theorem dX9_isArray_1 : decode cX9_isArray 1 = .ok (.ifCond .lt 12, 3) := by decide +kernel
theorem dX9_isArray_4 : decode cX9_isArray 4 = .ok (.iload_n 0, 1) := by decide +kernel
theorem dX9_isArray_5 : decode cX9_isArray 5 = .ok (.iconst 3, 1) := by decide +kernel
theorem dX9_isArray_6 : decode cX9_isArray 6 = .ok (.if_icmp .ge 7, 3) := by decide +kernel
theorem dX9_isArray_9 : decode cX9_isArray 9 = .ok (.iconst 1, 1) := by decide +kernel
theorem dX9_isArray_10 : decode cX9_isArray 10 = .ok (.goto 4, 3) := by decide +kernel
theorem dX9_isArray_13 : decode cX9_isArray 13 = .ok (.iconst 0, 1) := by decide +kernel
theorem dX9_isArray_14 : decode cX9_isArray 14 = .ok (.ireturn, 1) := by decide +kernel
theorem dX9_isValue_0 : decode cX9_isValue 0 = .ok (.iload_n 0, 1) := by decide +kernel
theorem dX9_isValue_1 : decode cX9_isValue 1 = .ok (.ifCond .lt 14, 3) := by decide +kernel
theorem dX9_isValue_4 : decode cX9_isValue 4 = .ok (.iload_n 0, 1) := by decide +kernel
theorem dX9_isValue_5 : decode cX9_isValue 5 = .ok (.sipush 999, 3) := by decide +kernel
theorem dX9_isValue_8 : decode cX9_isValue 8 = .ok (.if_icmp .gt 7, 3) := by decide +kernel
theorem dX9_isValue_11 : decode cX9_isValue 11 = .ok (.iconst 1, 1) := by decide +kernel
theorem dX9_isValue_12 : decode cX9_isValue 12 = .ok (.goto 4, 3) := by decide +kernel
theorem dX9_isValue_15 : decode cX9_isValue 15 = .ok (.iconst 0, 1) := by decide +kernel
theorem dX9_isValue_16 : decode cX9_isValue 16 = .ok (.ireturn, 1) := by decide +kernel
theorem dX9_isSet_0 : decode cX9_isSet 0 = .ok (.iload_n 0, 1) := by decide +kernel
theorem dX9_isSet_1 : decode cX9_isSet 1 = .ok (.ifCond .lt 14, 3) := by decide +kernel
theorem dX9_isSet_4 : decode cX9_isSet 4 = .ok (.iload_n 0, 1) := by decide +kernel
theorem dX9_isSet_5 : decode cX9_isSet 5 = .ok (.iconst 1, 1) := by decide +kernel
theorem dX9_isSet_6 : decode cX9_isSet 6 = .ok (.iload_n 1, 1) := by decide +kernel
theorem dX9_isSet_7 : decode cX9_isSet 7 = .ok (.ishl, 1) := by decide +kernel
theorem dX9_isSet_8 : decode cX9_isSet 8 = .ok (.if_icmp .ge 7, 3) := by decide +kernel
theorem dX9_isSet_11 : decode cX9_isSet 11 = .ok (.iconst 1, 1) := by decide +kernel
theorem dX9_isSet_12 : decode cX9_isSet 12 = .ok (.goto 4, 3) := by decide +kernel
theorem dX9_isSet_15 : decode cX9_isSet 15 = .ok (.iconst 0, 1) := by decide +kernel
theorem dX9_isSet_16 : decode cX9_isSet 16 = .ok (.ireturn, 1) := by decide +kernel
theorem dX9_isPart_0 : decode cX9_isPart 0 = .ok (.iload_n 1, 1) := by decide +kernel
theorem dX9_isPart_1 : decode cX9_isPart 1 = .ok (.ifCond .eq 40, 3) := by decide +kernel
theorem dX9_isPart_4 : decode cX9_isPart 4 = .ok (.iload_n 1, 1) := by decide +kernel
theorem dX9_isPart_5 : decode cX9_isPart 5 = .ok (.aload_n 0, 1) := by decide +kernel
theorem dX9_isPart_6 : decode cX9_isPart 6 = .ok (.getfield 165, 3) := by decide +kernel
theorem dX9_isPart_9 : decode cX9_isPart 9 = .ok (.invokestatic 209, 3) := by decide +kernel
theorem dX9_isPart_12 : decode cX9_isPart 12 = .ok (.ifCond .eq 29, 3) := by decide +kernel
theorem dX9_isPart_15 : decode cX9_isPart 15 = .ok (.iload_n 2, 1) := by decide +kernel
theorem dX9_isPart_16 : decode cX9_isPart 16 = .ok (.aload_n 0, 1) := by decide +kernel
theorem dX9_isPart_17 : decode cX9_isPart 17 = .ok (.getfield 166, 3) := by decide +kernel
theorem dX9_isPart_20 : decode cX9_isPart 20 = .ok (.invokestatic 209, 3) := by decide +kernel
theorem dX9_isPart_23 : decode cX9_isPart 23 = .ok (.ifCond .eq 18, 3) := by decide +kernel
theorem dX9_isPart_26 : decode cX9_isPart 26 = .ok (.iload_n 1, 1) := by decide +kernel
theorem dX9_isPart_27 : decode cX9_isPart 27 = .ok (.invokestatic 242, 3) := by decide +kernel
theorem dX9_isPart_30 : decode cX9_isPart 30 = .ok (.iload_n 2, 1) := by decide +kernel
theorem dX9_isPart_31 : decode cX9_isPart 31 = .ok (.invokestatic 242, 3) := by decide +kernel
theorem dX9_isPart_34 : decode cX9_isPart 34 = .ok (.if_icmp .ne 7, 3) := by decide +kernel
theorem dX9_isPart_37 : decode cX9_isPart 37 = .ok (.iconst 1, 1) := by decide +kernel
theorem dX9_isPart_38 : decode cX9_isPart 38 = .ok (.goto 4, 3) := by decide +kernel
theorem dX9_isPart_41 : decode cX9_isPart 41 = .ok (.iconst 0, 1) := by decide +kernel
theorem dX9_isPart_42 : decode cX9_isPart 42 = .ok (.ireturn, 1) := by decide +kernel
theorem dX9_rank_0 : decode cX9_rank 0 = .ok (.iload_n 2, 1) := by decide +kernel
theorem dX9_rank_1 : decode cX9_rank 1 = .ok (.tableswitch 77 0 2 #[27, 47, 67], 27) := by decide +kernel
theorem dX9_rank_28 : decode cX9_rank 28 = .ok (.aload_n 0, 1) := by decide +kernel
theorem dX9_rank_29 : decode cX9_rank 29 = .ok (.getfield 58, 3) := by decide +kernel
theorem dX9_rank_32 : decode cX9_rank 32 = .ok (.aload_n 1, 1) := by decide +kernel
theorem dX9_rank_33 : decode cX9_rank 33 = .ok (.aload_n 0, 1) := by decide +kernel
theorem dX9_rank_34 : decode cX9_rank 34 = .ok (.getfield 51, 3) := by decide +kernel
theorem dX9_rank_37 : decode cX9_rank 37 = .ok (.invokevirtual 197, 3) := by decide +kernel
theorem dX9_rank_40 : decode cX9_rank 40 = .ok (.aload_n 0, 1) := by decide +kernel
theorem dX9_rank_41 : decode cX9_rank 41 = .ok (.getfield 58, 3) := by decide +kernel
theorem dX9_rank_44 : decode cX9_rank 44 = .ok (.getfield 201, 3) := by decide +kernel
theorem dX9_rank_47 : decode cX9_rank 47 = .ok (.ireturn, 1) := by decide +kernel
theorem dX9_rank_48 : decode cX9_rank 48 = .ok (.aload_n 0, 1) := by decide +kernel
theorem dX9_rank_49 : decode cX9_rank 49 = .ok (.getfield 65, 3) := by decide +kernel
theorem dX9_rank_52 : decode cX9_rank 52 = .ok (.aload_n 1, 1) := by decide +kernel
theorem dX9_rank_53 : decode cX9_rank 53 = .ok (.aload_n 0, 1) := by decide +kernel
theorem dX9_rank_54 : decode cX9_rank 54 = .ok (.getfield 51, 3) := by decide +kernel
theorem dX9_rank_57 : decode cX9_rank 57 = .ok (.invokevirtual 212, 3) := by decide +kernel
theorem dX9_rank_60 : decode cX9_rank 60 = .ok (.aload_n 0, 1) := by decide +kernel
theorem dX9_rank_61 : decode cX9_rank 61 = .ok (.getfield 65, 3) := by decide +kernel
theorem dX9_rank_64 : decode cX9_rank 64 = .ok (.invokevirtual 216, 3) := by decide +kernel
theorem dX9_rank_67 : decode cX9_rank 67 = .ok (.ireturn, 1) := by decide +kernel
theorem dX9_rank_68 : decode cX9_rank 68 = .ok (.aload_n 0, 1) := by decide +kernel
theorem dX9_rank_69 : decode cX9_rank 69 = .ok (.aload_n 1, 1) := by decide +kernel
theorem dX9_rank_70 : decode cX9_rank 70 = .ok (.iconst 0, 1) := by decide +kernel
theorem dX9_rank_71 : decode cX9_rank 71 = .ok (.invokevirtual 238, 3) := by decide +kernel
theorem dX9_rank_74 : decode cX9_rank 74 = .ok (.invokestatic 242, 3) := by decide +kernel
theorem dX9_rank_77 : decode cX9_rank 77 = .ok (.ireturn, 1) := by decide +kernel
theorem dX9_rank_78 : decode cX9_rank 78 = .ok (.aload_n 0, 1) := by decide +kernel
theorem dX9_rank_79 : decode cX9_rank 79 = .ok (.aload_n 1, 1) := by decide +kernel
theorem dX9_rank_80 : decode cX9_rank 80 = .ok (.iconst 1, 1) := by decide +kernel
theorem dX9_rank_81 : decode cX9_rank 81 = .ok (.invokevirtual 238, 3) := by decide +kernel
theorem dX9_rank_84 : decode cX9_rank 84 = .ok (.invokestatic 242, 3) := by decide +kernel
theorem dX9_rank_87 : decode cX9_rank 87 = .ok (.ireturn, 1) := by decide +kernel
theorem dX9_neededLines_0 : decode cX9_neededLines 0 = .ok (.iload_n 2, 1) := by decide +kernel
theorem dX9_neededLines_1 : decode cX9_neededLines 1 = .ok (.ifCond .ne 8, 3) := by decide +kernel
theorem dX9_neededLines_4 : decode cX9_neededLines 4 = .ok (.aload_n 1, 1) := by decide +kernel
theorem dX9_neededLines_5 : decode cX9_neededLines 5 = .ok (.invokestatic 290, 3) := by decide +kernel
theorem dX9_neededLines_8 : decode cX9_neededLines 8 = .ok (.ireturn, 1) := by decide +kernel
theorem dX9_neededLines_9 : decode cX9_neededLines 9 = .ok (.aload_n 0, 1) := by decide +kernel
theorem dX9_neededLines_10 : decode cX9_neededLines 10 = .ok (.getfield 45, 3) := by decide +kernel
theorem dX9_neededLines_13 : decode cX9_neededLines 13 = .ok (.aload_n 1, 1) := by decide +kernel
theorem dX9_neededLines_14 : decode cX9_neededLines 14 = .ok (.invokevirtual 159, 3) := by decide +kernel
theorem dX9_neededLines_17 : decode cX9_neededLines 17 = .ok (.aload_n 0, 1) := by decide +kernel
theorem dX9_neededLines_18 : decode cX9_neededLines 18 = .ok (.getfield 45, 3) := by decide +kernel
theorem dX9_neededLines_21 : decode cX9_neededLines 21 = .ok (.invokestatic 290, 3) := by decide +kernel
theorem dX9_neededLines_24 : decode cX9_neededLines 24 = .ok (.ireturn, 1) := by decide +kernel
theorem dJ6_bitCount_0f7a4_0 : decode cJ6_bitCount_0f7a4 0 = .ok (.iload_n 0, 1) := by decide +kernel
theorem dJ6_bitCount_0f7a4_1 : decode cJ6_bitCount_0f7a4 1 = .ok (.iload_n 0, 1) := by decide +kernel
theorem dJ6_bitCount_0f7a4_2 : decode cJ6_bitCount_0f7a4 2 = .ok (.iconst 1, 1) := by decide +kernel
theorem dJ6_bitCount_0f7a4_3 : decode cJ6_bitCount_0f7a4 3 = .ok (.iushr, 1) := by decide +kernel
theorem dJ6_bitCount_0f7a4_4 : decode cJ6_bitCount_0f7a4 4 = .ok (.ldc_w 265, 3) := by decide +kernel
theorem dJ6_bitCount_0f7a4_7 : decode cJ6_bitCount_0f7a4 7 = .ok (.iand, 1) := by decide +kernel
theorem dJ6_bitCount_0f7a4_8 : decode cJ6_bitCount_0f7a4 8 = .ok (.isub, 1) := by decide +kernel
theorem dJ6_bitCount_0f7a4_9 : decode cJ6_bitCount_0f7a4 9 = .ok (.istore_n 0, 1) := by decide +kernel
theorem dJ6_bitCount_0f7a4_10 : decode cJ6_bitCount_0f7a4 10 = .ok (.iload_n 0, 1) := by decide +kernel
theorem dJ6_bitCount_0f7a4_11 : decode cJ6_bitCount_0f7a4 11 = .ok (.ldc_w 266, 3) := by decide +kernel
theorem dJ6_bitCount_0f7a4_14 : decode cJ6_bitCount_0f7a4 14 = .ok (.iand, 1) := by decide +kernel
theorem dJ6_bitCount_0f7a4_15 : decode cJ6_bitCount_0f7a4 15 = .ok (.iload_n 0, 1) := by decide +kernel
theorem dJ6_bitCount_0f7a4_16 : decode cJ6_bitCount_0f7a4 16 = .ok (.iconst 2, 1) := by decide +kernel
theorem dJ6_bitCount_0f7a4_17 : decode cJ6_bitCount_0f7a4 17 = .ok (.iushr, 1) := by decide +kernel
theorem dJ6_bitCount_0f7a4_18 : decode cJ6_bitCount_0f7a4 18 = .ok (.ldc_w 266, 3) := by decide +kernel
theorem dJ6_bitCount_0f7a4_21 : decode cJ6_bitCount_0f7a4 21 = .ok (.iand, 1) := by decide +kernel
theorem dJ6_bitCount_0f7a4_22 : decode cJ6_bitCount_0f7a4 22 = .ok (.iadd, 1) := by decide +kernel
theorem dJ6_bitCount_0f7a4_23 : decode cJ6_bitCount_0f7a4 23 = .ok (.istore_n 0, 1) := by decide +kernel
theorem dJ6_bitCount_0f7a4_24 : decode cJ6_bitCount_0f7a4 24 = .ok (.iload_n 0, 1) := by decide +kernel
theorem dJ6_bitCount_0f7a4_25 : decode cJ6_bitCount_0f7a4 25 = .ok (.iload_n 0, 1) := by decide +kernel
theorem dJ6_bitCount_0f7a4_26 : decode cJ6_bitCount_0f7a4 26 = .ok (.iconst 4, 1) := by decide +kernel
theorem dJ6_bitCount_0f7a4_27 : decode cJ6_bitCount_0f7a4 27 = .ok (.iushr, 1) := by decide +kernel
theorem dJ6_bitCount_0f7a4_28 : decode cJ6_bitCount_0f7a4 28 = .ok (.iadd, 1) := by decide +kernel
theorem dJ6_bitCount_0f7a4_29 : decode cJ6_bitCount_0f7a4 29 = .ok (.ldc_w 267, 3) := by decide +kernel
theorem dJ6_bitCount_0f7a4_32 : decode cJ6_bitCount_0f7a4 32 = .ok (.iand, 1) := by decide +kernel
theorem dJ6_bitCount_0f7a4_33 : decode cJ6_bitCount_0f7a4 33 = .ok (.istore_n 0, 1) := by decide +kernel
theorem dJ6_bitCount_0f7a4_34 : decode cJ6_bitCount_0f7a4 34 = .ok (.iload_n 0, 1) := by decide +kernel
theorem dJ6_bitCount_0f7a4_35 : decode cJ6_bitCount_0f7a4 35 = .ok (.iload_n 0, 1) := by decide +kernel
theorem dJ6_bitCount_0f7a4_36 : decode cJ6_bitCount_0f7a4 36 = .ok (.bipush 8, 2) := by decide +kernel
theorem dJ6_bitCount_0f7a4_38 : decode cJ6_bitCount_0f7a4 38 = .ok (.iushr, 1) := by decide +kernel
theorem dJ6_bitCount_0f7a4_39 : decode cJ6_bitCount_0f7a4 39 = .ok (.iadd, 1) := by decide +kernel
theorem dJ6_bitCount_0f7a4_40 : decode cJ6_bitCount_0f7a4 40 = .ok (.istore_n 0, 1) := by decide +kernel
theorem dJ6_bitCount_0f7a4_41 : decode cJ6_bitCount_0f7a4 41 = .ok (.iload_n 0, 1) := by decide +kernel
theorem dJ6_bitCount_0f7a4_42 : decode cJ6_bitCount_0f7a4 42 = .ok (.iload_n 0, 1) := by decide +kernel
theorem dJ6_bitCount_0f7a4_43 : decode cJ6_bitCount_0f7a4 43 = .ok (.bipush 16, 2) := by decide +kernel
theorem dJ6_bitCount_0f7a4_45 : decode cJ6_bitCount_0f7a4 45 = .ok (.iushr, 1) := by decide +kernel
theorem dJ6_bitCount_0f7a4_46 : decode cJ6_bitCount_0f7a4 46 = .ok (.iadd, 1) := by decide +kernel
theorem dJ6_bitCount_0f7a4_47 : decode cJ6_bitCount_0f7a4 47 = .ok (.istore_n 0, 1) := by decide +kernel
theorem dJ6_bitCount_0f7a4_48 : decode cJ6_bitCount_0f7a4 48 = .ok (.iload_n 0, 1) := by decide +kernel
theorem dJ6_bitCount_0f7a4_49 : decode cJ6_bitCount_0f7a4 49 = .ok (.bipush 63, 2) := by decide +kernel
theorem dJ6_bitCount_0f7a4_51 : decode cJ6_bitCount_0f7a4 51 = .ok (.iand, 1) := by decide +kernel
theorem dJ6_bitCount_0f7a4_52 : decode cJ6_bitCount_0f7a4 52 = .ok (.ireturn, 1) := by decide +kernel
theorem dJ13_bitCount_95d88_0 : decode cJ13_bitCount_95d88 0 = .ok (.lload_n 0, 1) := by decide +kernel
theorem dJ13_bitCount_95d88_1 : decode cJ13_bitCount_95d88 1 = .ok (.lload_n 0, 1) := by decide +kernel
theorem dJ13_bitCount_95d88_2 : decode cJ13_bitCount_95d88 2 = .ok (.iconst 1, 1) := by decide +kernel
theorem dJ13_bitCount_95d88_3 : decode cJ13_bitCount_95d88 3 = .ok (.lushr, 1) := by decide +kernel
theorem dJ13_bitCount_95d88_4 : decode cJ13_bitCount_95d88 4 = .ok (.ldc2_w 314, 3) := by decide +kernel
theorem dJ13_bitCount_95d88_7 : decode cJ13_bitCount_95d88 7 = .ok (.land, 1) := by decide +kernel
theorem dJ13_bitCount_95d88_8 : decode cJ13_bitCount_95d88 8 = .ok (.lsub, 1) := by decide +kernel
theorem dJ13_bitCount_95d88_9 : decode cJ13_bitCount_95d88 9 = .ok (.lstore_n 0, 1) := by decide +kernel
theorem dJ13_bitCount_95d88_10 : decode cJ13_bitCount_95d88 10 = .ok (.lload_n 0, 1) := by decide +kernel
theorem dJ13_bitCount_95d88_11 : decode cJ13_bitCount_95d88 11 = .ok (.ldc2_w 316, 3) := by decide +kernel
theorem dJ13_bitCount_95d88_14 : decode cJ13_bitCount_95d88 14 = .ok (.land, 1) := by decide +kernel
theorem dJ13_bitCount_95d88_15 : decode cJ13_bitCount_95d88 15 = .ok (.lload_n 0, 1) := by decide +kernel
theorem dJ13_bitCount_95d88_16 : decode cJ13_bitCount_95d88 16 = .ok (.iconst 2, 1) := by decide +kernel
theorem dJ13_bitCount_95d88_17 : decode cJ13_bitCount_95d88 17 = .ok (.lushr, 1) := by decide +kernel
theorem dJ13_bitCount_95d88_18 : decode cJ13_bitCount_95d88 18 = .ok (.ldc2_w 316, 3) := by decide +kernel
theorem dJ13_bitCount_95d88_21 : decode cJ13_bitCount_95d88 21 = .ok (.land, 1) := by decide +kernel
theorem dJ13_bitCount_95d88_22 : decode cJ13_bitCount_95d88 22 = .ok (.ladd, 1) := by decide +kernel
theorem dJ13_bitCount_95d88_23 : decode cJ13_bitCount_95d88 23 = .ok (.lstore_n 0, 1) := by decide +kernel
theorem dJ13_bitCount_95d88_24 : decode cJ13_bitCount_95d88 24 = .ok (.lload_n 0, 1) := by decide +kernel
theorem dJ13_bitCount_95d88_25 : decode cJ13_bitCount_95d88 25 = .ok (.lload_n 0, 1) := by decide +kernel
theorem dJ13_bitCount_95d88_26 : decode cJ13_bitCount_95d88 26 = .ok (.iconst 4, 1) := by decide +kernel
theorem dJ13_bitCount_95d88_27 : decode cJ13_bitCount_95d88 27 = .ok (.lushr, 1) := by decide +kernel
theorem dJ13_bitCount_95d88_28 : decode cJ13_bitCount_95d88 28 = .ok (.ladd, 1) := by decide +kernel
theorem dJ13_bitCount_95d88_29 : decode cJ13_bitCount_95d88 29 = .ok (.ldc2_w 318, 3) := by decide +kernel
theorem dJ13_bitCount_95d88_32 : decode cJ13_bitCount_95d88 32 = .ok (.land, 1) := by decide +kernel
theorem dJ13_bitCount_95d88_33 : decode cJ13_bitCount_95d88 33 = .ok (.lstore_n 0, 1) := by decide +kernel
theorem dJ13_bitCount_95d88_34 : decode cJ13_bitCount_95d88 34 = .ok (.lload_n 0, 1) := by decide +kernel
theorem dJ13_bitCount_95d88_35 : decode cJ13_bitCount_95d88 35 = .ok (.lload_n 0, 1) := by decide +kernel
theorem dJ13_bitCount_95d88_36 : decode cJ13_bitCount_95d88 36 = .ok (.bipush 8, 2) := by decide +kernel
theorem dJ13_bitCount_95d88_38 : decode cJ13_bitCount_95d88 38 = .ok (.lushr, 1) := by decide +kernel
theorem dJ13_bitCount_95d88_39 : decode cJ13_bitCount_95d88 39 = .ok (.ladd, 1) := by decide +kernel
theorem dJ13_bitCount_95d88_40 : decode cJ13_bitCount_95d88 40 = .ok (.lstore_n 0, 1) := by decide +kernel
theorem dJ13_bitCount_95d88_41 : decode cJ13_bitCount_95d88 41 = .ok (.lload_n 0, 1) := by decide +kernel
theorem dJ13_bitCount_95d88_42 : decode cJ13_bitCount_95d88 42 = .ok (.lload_n 0, 1) := by decide +kernel
theorem dJ13_bitCount_95d88_43 : decode cJ13_bitCount_95d88 43 = .ok (.bipush 16, 2) := by decide +kernel
theorem dJ13_bitCount_95d88_45 : decode cJ13_bitCount_95d88 45 = .ok (.lushr, 1) := by decide +kernel
theorem dJ13_bitCount_95d88_46 : decode cJ13_bitCount_95d88 46 = .ok (.ladd, 1) := by decide +kernel
theorem dJ13_bitCount_95d88_47 : decode cJ13_bitCount_95d88 47 = .ok (.lstore_n 0, 1) := by decide +kernel
theorem dJ13_bitCount_95d88_48 : decode cJ13_bitCount_95d88 48 = .ok (.lload_n 0, 1) := by decide +kernel
theorem dJ13_bitCount_95d88_49 : decode cJ13_bitCount_95d88 49 = .ok (.lload_n 0, 1) := by decide +kernel
theorem dJ13_bitCount_95d88_50 : decode cJ13_bitCount_95d88 50 = .ok (.bipush 32, 2) := by decide +kernel
theorem dJ13_bitCount_95d88_52 : decode cJ13_bitCount_95d88 52 = .ok (.lushr, 1) := by decide +kernel
theorem dJ13_bitCount_95d88_53 : decode cJ13_bitCount_95d88 53 = .ok (.ladd, 1) := by decide +kernel
theorem dJ13_bitCount_95d88_54 : decode cJ13_bitCount_95d88 54 = .ok (.lstore_n 0, 1) := by decide +kernel
theorem dJ13_bitCount_95d88_55 : decode cJ13_bitCount_95d88 55 = .ok (.lload_n 0, 1) := by decide +kernel
theorem dJ13_bitCount_95d88_56 : decode cJ13_bitCount_95d88 56 = .ok (.l2i, 1) := by decide +kernel
theorem dJ13_bitCount_95d88_57 : decode cJ13_bitCount_95d88 57 = .ok (.bipush 127, 2) := by decide +kernel
theorem dJ13_bitCount_95d88_59 : decode cJ13_bitCount_95d88 59 = .ok (.iand, 1) := by decide +kernel
theorem dJ13_bitCount_95d88_60 : decode cJ13_bitCount_95d88 60 = .ok (.ireturn, 1) := by decide +kernel
theorem dJ9_max_7cf53_0 : decode cJ9_max_7cf53 0 = .ok (.iload_n 0, 1) := by decide +kernel
theorem dJ9_max_7cf53_1 : decode cJ9_max_7cf53 1 = .ok (.iload_n 1, 1) := by decide +kernel
theorem dJ9_max_7cf53_2 : decode cJ9_max_7cf53 2 = .ok (.if_icmp .lt 7, 3) := by decide +kernel
theorem dJ9_max_7cf53_5 : decode cJ9_max_7cf53 5 = .ok (.iload_n 0, 1) := by decide +kernel
theorem dJ9_max_7cf53_6 : decode cJ9_max_7cf53 6 = .ok (.goto 4, 3) := by decide +kernel
theorem dJ9_max_7cf53_9 : decode cJ9_max_7cf53 9 = .ok (.iload_n 1, 1) := by decide +kernel
theorem dJ9_max_7cf53_10 : decode cJ9_max_7cf53 10 = .ok (.ireturn, 1) := by decide +kernel
theorem dJ9_min_7cf53_0 : decode cJ9_min_7cf53 0 = .ok (.iload_n 0, 1) := by decide +kernel
theorem dJ9_min_7cf53_1 : decode cJ9_min_7cf53 1 = .ok (.iload_n 1, 1) := by decide +kernel
theorem dJ9_min_7cf53_2 : decode cJ9_min_7cf53 2 = .ok (.if_icmp .gt 7, 3) := by decide +kernel
theorem dJ9_min_7cf53_5 : decode cJ9_min_7cf53 5 = .ok (.iload_n 0, 1) := by decide +kernel
theorem dJ9_min_7cf53_6 : decode cJ9_min_7cf53 6 = .ok (.goto 4, 3) := by decide +kernel
theorem dJ9_min_7cf53_9 : decode cJ9_min_7cf53 9 = .ok (.iload_n 1, 1) := by decide +kernel
theorem dJ9_min_7cf53_10 : decode cJ9_min_7cf53 10 = .ok (.ireturn, 1) := by decide +kernel
theorem dL_cell_0 : decode cL_cell 0 = .ok (.iload_n 1, 1) := by decide +kernel
theorem dL_cell_1 : decode cL_cell 1 = .ok (.aload_n 0, 1) := by decide +kernel
theorem dL_cell_2 : decode cL_cell 2 = .ok (.arraylength, 1) := by decide +kernel
theorem dL_cell_3 : decode cL_cell 3 = .ok (.if_icmp .ge 9, 3) := by decide +kernel
theorem dL_cell_6 : decode cL_cell 6 = .ok (.aload_n 0, 1) := by decide +kernel
theorem dL_cell_7 : decode cL_cell 7 = .ok (.iload_n 1, 1) := by decide +kernel
theorem dL_cell_8 : decode cL_cell 8 = .ok (.iaload, 1) := by decide +kernel
theorem dL_cell_9 : decode cL_cell 9 = .ok (.goto 12, 3) := by decide +kernel
theorem dL_cell_12 : decode cL_cell 12 = .ok (.ldc 7, 2) := by decide +kernel
theorem dL_cell_14 : decode cL_cell 14 = .ok (.iload_n 1, 1) := by decide +kernel
theorem dL_cell_15 : decode cL_cell 15 = .ok (.iconst 1, 1) := by decide +kernel
theorem dL_cell_16 : decode cL_cell 16 = .ok (.iadd, 1) := by decide +kernel
theorem dL_cell_17 : decode cL_cell 17 = .ok (.imul, 1) := by decide +kernel
theorem dL_cell_18 : decode cL_cell 18 = .ok (.ldc 8, 2) := by decide +kernel
theorem dL_cell_20 : decode cL_cell 20 = .ok (.iadd, 1) := by decide +kernel
theorem dL_cell_21 : decode cL_cell 21 = .ok (.ireturn, 1) := by decide +kernel
theorem dL_low_0 : decode cL_low 0 = .ok (.iload_n 0, 1) := by decide +kernel
theorem dL_low_1 : decode cL_low 1 = .ok (.ldc 9, 2) := by decide +kernel
theorem dL_low_3 : decode cL_low 3 = .ok (.iand, 1) := by decide +kernel
theorem dL_low_4 : decode cL_low 4 = .ok (.iload_n 1, 1) := by decide +kernel
theorem dL_low_5 : decode cL_low 5 = .ok (.irem, 1) := by decide +kernel
theorem dL_low_6 : decode cL_low 6 = .ok (.ireturn, 1) := by decide +kernel
theorem dL_at_0 : decode cL_at 0 = .ok (.aload_n 3, 1) := by decide +kernel
theorem dL_at_1 : decode cL_at 1 = .ok (.bipush 12, 2) := by decide +kernel
theorem dL_at_3 : decode cL_at 3 = .ok (.iload_n 0, 1) := by decide +kernel
theorem dL_at_4 : decode cL_at 4 = .ok (.imul, 1) := by decide +kernel
theorem dL_at_5 : decode cL_at 5 = .ok (.iconst 2, 1) := by decide +kernel
theorem dL_at_6 : decode cL_at 6 = .ok (.iadd, 1) := by decide +kernel
theorem dL_at_7 : decode cL_at 7 = .ok (.iload_n 1, 1) := by decide +kernel
theorem dL_at_8 : decode cL_at 8 = .ok (.aload_n 3, 1) := by decide +kernel
theorem dL_at_9 : decode cL_at 9 = .ok (.bipush 12, 2) := by decide +kernel
theorem dL_at_11 : decode cL_at 11 = .ok (.iload_n 0, 1) := by decide +kernel
theorem dL_at_12 : decode cL_at 12 = .ok (.imul, 1) := by decide +kernel
theorem dL_at_13 : decode cL_at 13 = .ok (.iconst 1, 1) := by decide +kernel
theorem dL_at_14 : decode cL_at 14 = .ok (.iadd, 1) := by decide +kernel
theorem dL_at_15 : decode cL_at 15 = .ok (.iaload, 1) := by decide +kernel
theorem dL_at_16 : decode cL_at 16 = .ok (.imul, 1) := by decide +kernel
theorem dL_at_17 : decode cL_at 17 = .ok (.iadd, 1) := by decide +kernel
theorem dL_at_18 : decode cL_at 18 = .ok (.iload_n 2, 1) := by decide +kernel
theorem dL_at_19 : decode cL_at 19 = .ok (.iadd, 1) := by decide +kernel
theorem dL_at_20 : decode cL_at 20 = .ok (.iaload, 1) := by decide +kernel
theorem dL_at_21 : decode cL_at 21 = .ok (.ireturn, 1) := by decide +kernel
theorem dL_many_0 : decode cL_many 0 = .ok (.aload_n 1, 1) := by decide +kernel
theorem dL_many_1 : decode cL_many 1 = .ok (.bipush 12, 2) := by decide +kernel
theorem dL_many_3 : decode cL_many 3 = .ok (.iload_n 0, 1) := by decide +kernel
theorem dL_many_4 : decode cL_many 4 = .ok (.imul, 1) := by decide +kernel
theorem dL_many_5 : decode cL_many 5 = .ok (.iaload, 1) := by decide +kernel
theorem dL_many_6 : decode cL_many 6 = .ok (.aload_n 1, 1) := by decide +kernel
theorem dL_many_7 : decode cL_many 7 = .ok (.bipush 12, 2) := by decide +kernel
theorem dL_many_9 : decode cL_many 9 = .ok (.iload_n 0, 1) := by decide +kernel
theorem dL_many_10 : decode cL_many 10 = .ok (.imul, 1) := by decide +kernel
theorem dL_many_11 : decode cL_many 11 = .ok (.iconst 1, 1) := by decide +kernel
theorem dL_many_12 : decode cL_many 12 = .ok (.iadd, 1) := by decide +kernel
theorem dL_many_13 : decode cL_many 13 = .ok (.iaload, 1) := by decide +kernel
theorem dL_many_14 : decode cL_many 14 = .ok (.imul, 1) := by decide +kernel
theorem dL_many_15 : decode cL_many 15 = .ok (.ireturn, 1) := by decide +kernel
theorem dL_bits_0 : decode cL_bits 0 = .ok (.iconst 0, 1) := by decide +kernel
theorem dL_bits_1 : decode cL_bits 1 = .ok (.istore_n 1, 1) := by decide +kernel
theorem dL_bits_2 : decode cL_bits 2 = .ok (.iload_n 0, 1) := by decide +kernel
theorem dL_bits_3 : decode cL_bits 3 = .ok (.istore_n 2, 1) := by decide +kernel
theorem dL_bits_4 : decode cL_bits 4 = .ok (.iload_n 2, 1) := by decide +kernel
theorem dL_bits_5 : decode cL_bits 5 = .ok (.ifCond .eq 15, 3) := by decide +kernel
theorem dL_bits_8 : decode cL_bits 8 = .ok (.iinc 1 1, 3) := by decide +kernel
theorem dL_bits_11 : decode cL_bits 11 = .ok (.iload_n 2, 1) := by decide +kernel
theorem dL_bits_12 : decode cL_bits 12 = .ok (.iload_n 2, 1) := by decide +kernel
theorem dL_bits_13 : decode cL_bits 13 = .ok (.iconst 1, 1) := by decide +kernel
theorem dL_bits_14 : decode cL_bits 14 = .ok (.isub, 1) := by decide +kernel
theorem dL_bits_15 : decode cL_bits 15 = .ok (.iand, 1) := by decide +kernel
theorem dL_bits_16 : decode cL_bits 16 = .ok (.istore_n 2, 1) := by decide +kernel
theorem dL_bits_17 : decode cL_bits 17 = .ok (.goto (-13), 3) := by decide +kernel
theorem dL_bits_20 : decode cL_bits 20 = .ok (.iload_n 1, 1) := by decide +kernel
theorem dL_bits_21 : decode cL_bits 21 = .ok (.ireturn, 1) := by decide +kernel
theorem dL_touches_0 : decode cL_touches 0 = .ok (.aload_n 2, 1) := by decide +kernel
theorem dL_touches_1 : decode cL_touches 1 = .ok (.bipush 12, 2) := by decide +kernel
theorem dL_touches_3 : decode cL_touches 3 = .ok (.iload_n 0, 1) := by decide +kernel
theorem dL_touches_4 : decode cL_touches 4 = .ok (.imul, 1) := by decide +kernel
theorem dL_touches_5 : decode cL_touches 5 = .ok (.iaload, 1) := by decide +kernel
theorem dL_touches_6 : decode cL_touches 6 = .ok (.istore 4, 2) := by decide +kernel
theorem dL_touches_8 : decode cL_touches 8 = .ok (.aload_n 2, 1) := by decide +kernel
theorem dL_touches_9 : decode cL_touches 9 = .ok (.bipush 12, 2) := by decide +kernel
theorem dL_touches_11 : decode cL_touches 11 = .ok (.iload_n 0, 1) := by decide +kernel
theorem dL_touches_12 : decode cL_touches 12 = .ok (.imul, 1) := by decide +kernel
theorem dL_touches_13 : decode cL_touches 13 = .ok (.iconst 1, 1) := by decide +kernel
theorem dL_touches_14 : decode cL_touches 14 = .ok (.iadd, 1) := by decide +kernel
theorem dL_touches_15 : decode cL_touches 15 = .ok (.iaload, 1) := by decide +kernel
theorem dL_touches_16 : decode cL_touches 16 = .ok (.istore 5, 2) := by decide +kernel
theorem dL_touches_18 : decode cL_touches 18 = .ok (.iconst 0, 1) := by decide +kernel
theorem dL_touches_19 : decode cL_touches 19 = .ok (.istore 6, 2) := by decide +kernel
theorem dL_touches_21 : decode cL_touches 21 = .ok (.iload 6, 2) := by decide +kernel
theorem dL_touches_23 : decode cL_touches 23 = .ok (.iload 4, 2) := by decide +kernel
theorem dL_touches_25 : decode cL_touches 25 = .ok (.if_icmp .ge 14, 3) := by decide +kernel
theorem dL_touches_28 : decode cL_touches 28 = .ok (.aload_n 3, 1) := by decide +kernel
theorem dL_touches_29 : decode cL_touches 29 = .ok (.iload 6, 2) := by decide +kernel
theorem dL_touches_31 : decode cL_touches 31 = .ok (.iconst 0, 1) := by decide +kernel
theorem dL_touches_32 : decode cL_touches 32 = .ok (.iastore, 1) := by decide +kernel
theorem dL_touches_33 : decode cL_touches 33 = .ok (.iinc 6 1, 3) := by decide +kernel
theorem dL_touches_36 : decode cL_touches 36 = .ok (.goto (-15), 3) := by decide +kernel
theorem dL_touches_39 : decode cL_touches 39 = .ok (.iconst 0, 1) := by decide +kernel
theorem dL_touches_40 : decode cL_touches 40 = .ok (.istore 6, 2) := by decide +kernel
theorem dL_touches_42 : decode cL_touches 42 = .ok (.iload 6, 2) := by decide +kernel
theorem dL_touches_44 : decode cL_touches 44 = .ok (.iload 4, 2) := by decide +kernel
theorem dL_touches_46 : decode cL_touches 46 = .ok (.if_icmp .gt 156, 3) := by decide +kernel
theorem dL_touches_49 : decode cL_touches 49 = .ok (.iconst 1, 1) := by decide +kernel
theorem dL_touches_50 : decode cL_touches 50 = .ok (.istore 7, 2) := by decide +kernel
theorem dL_touches_52 : decode cL_touches 52 = .ok (.iconst 0, 1) := by decide +kernel
theorem dL_touches_53 : decode cL_touches 53 = .ok (.istore 8, 2) := by decide +kernel
theorem dL_touches_55 : decode cL_touches 55 = .ok (.iload 8, 2) := by decide +kernel
theorem dL_touches_57 : decode cL_touches 57 = .ok (.iload 4, 2) := by decide +kernel
theorem dL_touches_59 : decode cL_touches 59 = .ok (.iload 5, 2) := by decide +kernel
theorem dL_touches_61 : decode cL_touches 61 = .ok (.imul, 1) := by decide +kernel
theorem dL_touches_62 : decode cL_touches 62 = .ok (.if_icmp .ge 127, 3) := by decide +kernel
theorem dL_touches_65 : decode cL_touches 65 = .ok (.iload_n 1, 1) := by decide +kernel
theorem dL_touches_66 : decode cL_touches 66 = .ok (.iload 8, 2) := by decide +kernel
theorem dL_touches_68 : decode cL_touches 68 = .ok (.ishr, 1) := by decide +kernel
theorem dL_touches_69 : decode cL_touches 69 = .ok (.iconst 1, 1) := by decide +kernel
theorem dL_touches_70 : decode cL_touches 70 = .ok (.iand, 1) := by decide +kernel
theorem dL_touches_71 : decode cL_touches 71 = .ok (.ifCond .ne 6, 3) := by decide +kernel
theorem dL_touches_74 : decode cL_touches 74 = .ok (.goto 109, 3) := by decide +kernel
theorem dL_touches_77 : decode cL_touches 77 = .ok (.iconst 0, 1) := by decide +kernel
theorem dL_touches_78 : decode cL_touches 78 = .ok (.istore 9, 2) := by decide +kernel
theorem dL_touches_80 : decode cL_touches 80 = .ok (.iload 9, 2) := by decide +kernel
theorem dL_touches_82 : decode cL_touches 82 = .ok (.iload 4, 2) := by decide +kernel
theorem dL_touches_84 : decode cL_touches 84 = .ok (.if_icmp .ge 99, 3) := by decide +kernel
theorem dL_touches_87 : decode cL_touches 87 = .ok (.aload_n 3, 1) := by decide +kernel
theorem dL_touches_88 : decode cL_touches 88 = .ok (.iload 9, 2) := by decide +kernel
theorem dL_touches_90 : decode cL_touches 90 = .ok (.iaload, 1) := by decide +kernel
theorem dL_touches_91 : decode cL_touches 91 = .ok (.iload_n 0, 1) := by decide +kernel
theorem dL_touches_92 : decode cL_touches 92 = .ok (.iload 8, 2) := by decide +kernel
theorem dL_touches_94 : decode cL_touches 94 = .ok (.iload 5, 2) := by decide +kernel
theorem dL_touches_96 : decode cL_touches 96 = .ok (.idiv, 1) := by decide +kernel
theorem dL_touches_97 : decode cL_touches 97 = .ok (.iload 8, 2) := by decide +kernel
theorem dL_touches_99 : decode cL_touches 99 = .ok (.iload 5, 2) := by decide +kernel
theorem dL_touches_101 : decode cL_touches 101 = .ok (.irem, 1) := by decide +kernel
theorem dL_touches_102 : decode cL_touches 102 = .ok (.aload_n 2, 1) := by decide +kernel
theorem dL_touches_103 : decode cL_touches 103 = .ok (.invokestatic 10, 3) := by decide +kernel
theorem dL_touches_106 : decode cL_touches 106 = .ok (.iadd, 1) := by decide +kernel
theorem dL_touches_107 : decode cL_touches 107 = .ok (.iload_n 0, 1) := by decide +kernel
theorem dL_touches_108 : decode cL_touches 108 = .ok (.iload 9, 2) := by decide +kernel
theorem dL_touches_110 : decode cL_touches 110 = .ok (.iload 8, 2) := by decide +kernel
theorem dL_touches_112 : decode cL_touches 112 = .ok (.iload 5, 2) := by decide +kernel
theorem dL_touches_114 : decode cL_touches 114 = .ok (.irem, 1) := by decide +kernel
theorem dL_touches_115 : decode cL_touches 115 = .ok (.aload_n 2, 1) := by decide +kernel
theorem dL_touches_116 : decode cL_touches 116 = .ok (.invokestatic 10, 3) := by decide +kernel
theorem dL_touches_119 : decode cL_touches 119 = .ok (.isub, 1) := by decide +kernel
theorem dL_touches_120 : decode cL_touches 120 = .ok (.istore 10, 2) := by decide +kernel
theorem dL_touches_122 : decode cL_touches 122 = .ok (.iload 7, 2) := by decide +kernel
theorem dL_touches_124 : decode cL_touches 124 = .ok (.ifCond .eq 19, 3) := by decide +kernel
theorem dL_touches_127 : decode cL_touches 127 = .ok (.aload_n 3, 1) := by decide +kernel
theorem dL_touches_128 : decode cL_touches 128 = .ok (.iload 8, 2) := by decide +kernel
theorem dL_touches_130 : decode cL_touches 130 = .ok (.iload 5, 2) := by decide +kernel
theorem dL_touches_132 : decode cL_touches 132 = .ok (.idiv, 1) := by decide +kernel
theorem dL_touches_133 : decode cL_touches 133 = .ok (.iaload, 1) := by decide +kernel
theorem dL_touches_134 : decode cL_touches 134 = .ok (.iload 10, 2) := by decide +kernel
theorem dL_touches_136 : decode cL_touches 136 = .ok (.if_icmp .gt 7, 3) := by decide +kernel
theorem dL_touches_139 : decode cL_touches 139 = .ok (.iconst 1, 1) := by decide +kernel
theorem dL_touches_140 : decode cL_touches 140 = .ok (.goto 4, 3) := by decide +kernel
theorem dL_touches_143 : decode cL_touches 143 = .ok (.iconst 0, 1) := by decide +kernel
theorem dL_touches_144 : decode cL_touches 144 = .ok (.istore 7, 2) := by decide +kernel
theorem dL_touches_146 : decode cL_touches 146 = .ok (.aload_n 3, 1) := by decide +kernel
theorem dL_touches_147 : decode cL_touches 147 = .ok (.iload 8, 2) := by decide +kernel
theorem dL_touches_149 : decode cL_touches 149 = .ok (.iload 5, 2) := by decide +kernel
theorem dL_touches_151 : decode cL_touches 151 = .ok (.idiv, 1) := by decide +kernel
theorem dL_touches_152 : decode cL_touches 152 = .ok (.aload_n 3, 1) := by decide +kernel
theorem dL_touches_153 : decode cL_touches 153 = .ok (.iload 8, 2) := by decide +kernel
theorem dL_touches_155 : decode cL_touches 155 = .ok (.iload 5, 2) := by decide +kernel
theorem dL_touches_157 : decode cL_touches 157 = .ok (.idiv, 1) := by decide +kernel
theorem dL_touches_158 : decode cL_touches 158 = .ok (.iaload, 1) := by decide +kernel
theorem dL_touches_159 : decode cL_touches 159 = .ok (.iload 10, 2) := by decide +kernel
theorem dL_touches_161 : decode cL_touches 161 = .ok (.if_icmp .ge 13, 3) := by decide +kernel
theorem dL_touches_164 : decode cL_touches 164 = .ok (.aload_n 3, 1) := by decide +kernel
theorem dL_touches_165 : decode cL_touches 165 = .ok (.iload 8, 2) := by decide +kernel
theorem dL_touches_167 : decode cL_touches 167 = .ok (.iload 5, 2) := by decide +kernel
theorem dL_touches_169 : decode cL_touches 169 = .ok (.idiv, 1) := by decide +kernel
theorem dL_touches_170 : decode cL_touches 170 = .ok (.iaload, 1) := by decide +kernel
theorem dL_touches_171 : decode cL_touches 171 = .ok (.goto 5, 3) := by decide +kernel
theorem dL_touches_174 : decode cL_touches 174 = .ok (.iload 10, 2) := by decide +kernel
theorem dL_touches_176 : decode cL_touches 176 = .ok (.iastore, 1) := by decide +kernel
theorem dL_touches_177 : decode cL_touches 177 = .ok (.iinc 9 1, 3) := by decide +kernel
theorem dL_touches_180 : decode cL_touches 180 = .ok (.goto (-100), 3) := by decide +kernel
theorem dL_touches_183 : decode cL_touches 183 = .ok (.iinc 8 1, 3) := by decide +kernel
theorem dL_touches_186 : decode cL_touches 186 = .ok (.goto (-131), 3) := by decide +kernel
theorem dL_touches_189 : decode cL_touches 189 = .ok (.iload 7, 2) := by decide +kernel
theorem dL_touches_191 : decode cL_touches 191 = .ok (.ifCond .eq 5, 3) := by decide +kernel
theorem dL_touches_194 : decode cL_touches 194 = .ok (.iconst 1, 1) := by decide +kernel
theorem dL_touches_195 : decode cL_touches 195 = .ok (.ireturn, 1) := by decide +kernel
theorem dL_touches_196 : decode cL_touches 196 = .ok (.iinc 6 1, 3) := by decide +kernel
theorem dL_touches_199 : decode cL_touches 199 = .ok (.goto (-157), 3) := by decide +kernel
theorem dL_touches_202 : decode cL_touches 202 = .ok (.iconst 0, 1) := by decide +kernel
theorem dL_touches_203 : decode cL_touches 203 = .ok (.ireturn, 1) := by decide +kernel
theorem dL_sets_0 : decode cL_sets 0 = .ok (.iconst 0, 1) := by decide +kernel
theorem dL_sets_1 : decode cL_sets 1 = .ok (.istore 4, 2) := by decide +kernel
theorem dL_sets_3 : decode cL_sets 3 = .ok (.iconst 0, 1) := by decide +kernel
theorem dL_sets_4 : decode cL_sets 4 = .ok (.istore 5, 2) := by decide +kernel
theorem dL_sets_6 : decode cL_sets 6 = .ok (.iload 5, 2) := by decide +kernel
theorem dL_sets_8 : decode cL_sets 8 = .ok (.bipush 8, 2) := by decide +kernel
theorem dL_sets_10 : decode cL_sets 10 = .ok (.if_icmp .ge 14, 3) := by decide +kernel
theorem dL_sets_13 : decode cL_sets 13 = .ok (.aload_n 3, 1) := by decide +kernel
theorem dL_sets_14 : decode cL_sets 14 = .ok (.iload 5, 2) := by decide +kernel
theorem dL_sets_16 : decode cL_sets 16 = .ok (.lconst 0, 1) := by decide +kernel
theorem dL_sets_17 : decode cL_sets 17 = .ok (.lastore, 1) := by decide +kernel
theorem dL_sets_18 : decode cL_sets 18 = .ok (.iinc 5 1, 3) := by decide +kernel
theorem dL_sets_21 : decode cL_sets 21 = .ok (.goto (-15), 3) := by decide +kernel
theorem dL_sets_24 : decode cL_sets 24 = .ok (.iconst 0, 1) := by decide +kernel
theorem dL_sets_25 : decode cL_sets 25 = .ok (.istore 5, 2) := by decide +kernel
theorem dL_sets_27 : decode cL_sets 27 = .ok (.iload 5, 2) := by decide +kernel
theorem dL_sets_29 : decode cL_sets 29 = .ok (.iconst 1, 1) := by decide +kernel
theorem dL_sets_30 : decode cL_sets 30 = .ok (.iload_n 0, 1) := by decide +kernel
theorem dL_sets_31 : decode cL_sets 31 = .ok (.aload_n 1, 1) := by decide +kernel
theorem dL_sets_32 : decode cL_sets 32 = .ok (.invokestatic 16, 3) := by decide +kernel
theorem dL_sets_35 : decode cL_sets 35 = .ok (.ishl, 1) := by decide +kernel
theorem dL_sets_36 : decode cL_sets 36 = .ok (.if_icmp .ge 43, 3) := by decide +kernel
theorem dL_sets_39 : decode cL_sets 39 = .ok (.iload_n 0, 1) := by decide +kernel
theorem dL_sets_40 : decode cL_sets 40 = .ok (.iload 5, 2) := by decide +kernel
theorem dL_sets_42 : decode cL_sets 42 = .ok (.aload_n 1, 1) := by decide +kernel
theorem dL_sets_43 : decode cL_sets 43 = .ok (.aload_n 2, 1) := by decide +kernel
theorem dL_sets_44 : decode cL_sets 44 = .ok (.invokestatic 20, 3) := by decide +kernel
theorem dL_sets_47 : decode cL_sets 47 = .ok (.ifCond .ne 6, 3) := by decide +kernel
theorem dL_sets_50 : decode cL_sets 50 = .ok (.goto 23, 3) := by decide +kernel
theorem dL_sets_53 : decode cL_sets 53 = .ok (.aload_n 3, 1) := by decide +kernel
theorem dL_sets_54 : decode cL_sets 54 = .ok (.iload 5, 2) := by decide +kernel
theorem dL_sets_56 : decode cL_sets 56 = .ok (.bipush 64, 2) := by decide +kernel
theorem dL_sets_58 : decode cL_sets 58 = .ok (.idiv, 1) := by decide +kernel
theorem dL_sets_59 : decode cL_sets 59 = .ok (.dup2, 1) := by decide +kernel
theorem dL_sets_60 : decode cL_sets 60 = .ok (.laload, 1) := by decide +kernel
theorem dL_sets_61 : decode cL_sets 61 = .ok (.lconst 1, 1) := by decide +kernel
theorem dL_sets_62 : decode cL_sets 62 = .ok (.iload 5, 2) := by decide +kernel
theorem dL_sets_64 : decode cL_sets 64 = .ok (.bipush 64, 2) := by decide +kernel
theorem dL_sets_66 : decode cL_sets 66 = .ok (.irem, 1) := by decide +kernel
theorem dL_sets_67 : decode cL_sets 67 = .ok (.lshl, 1) := by decide +kernel
theorem dL_sets_68 : decode cL_sets 68 = .ok (.lor, 1) := by decide +kernel
theorem dL_sets_69 : decode cL_sets 69 = .ok (.lastore, 1) := by decide +kernel
theorem dL_sets_70 : decode cL_sets 70 = .ok (.iinc 4 1, 3) := by decide +kernel
theorem dL_sets_73 : decode cL_sets 73 = .ok (.iinc 5 1, 3) := by decide +kernel
theorem dL_sets_76 : decode cL_sets 76 = .ok (.goto (-49), 3) := by decide +kernel
theorem dL_sets_79 : decode cL_sets 79 = .ok (.iload 4, 2) := by decide +kernel
theorem dL_sets_81 : decode cL_sets 81 = .ok (.ireturn, 1) := by decide +kernel
theorem dL_colors_0 : decode cL_colors 0 = .ok (.iload_n 0, 1) := by decide +kernel
theorem dL_colors_1 : decode cL_colors 1 = .ok (.aload_n 1, 1) := by decide +kernel
theorem dL_colors_2 : decode cL_colors 2 = .ok (.invokestatic 16, 3) := by decide +kernel
theorem dL_colors_5 : decode cL_colors 5 = .ok (.istore 4, 2) := by decide +kernel
theorem dL_colors_7 : decode cL_colors 7 = .ok (.iconst 1, 1) := by decide +kernel
theorem dL_colors_8 : decode cL_colors 8 = .ok (.istore 5, 2) := by decide +kernel
theorem dL_colors_10 : decode cL_colors 10 = .ok (.iload 5, 2) := by decide +kernel
theorem dL_colors_12 : decode cL_colors 12 = .ok (.iload 4, 2) := by decide +kernel
theorem dL_colors_14 : decode cL_colors 14 = .ok (.if_icmp .gt 158, 3) := by decide +kernel
theorem dL_colors_17 : decode cL_colors 17 = .ok (.iconst 0, 1) := by decide +kernel
theorem dL_colors_18 : decode cL_colors 18 = .ok (.istore 6, 2) := by decide +kernel
theorem dL_colors_20 : decode cL_colors 20 = .ok (.aload_n 3, 1) := by decide +kernel
theorem dL_colors_21 : decode cL_colors 21 = .ok (.iconst 0, 1) := by decide +kernel
theorem dL_colors_22 : decode cL_colors 22 = .ok (.iconst 0, 1) := by decide +kernel
theorem dL_colors_23 : decode cL_colors 23 = .ok (.iastore, 1) := by decide +kernel
theorem dL_colors_24 : decode cL_colors 24 = .ok (.iload 6, 2) := by decide +kernel
theorem dL_colors_26 : decode cL_colors 26 = .ok (.ifCond .lt 130, 3) := by decide +kernel
theorem dL_colors_29 : decode cL_colors 29 = .ok (.iload 6, 2) := by decide +kernel
theorem dL_colors_31 : decode cL_colors 31 = .ok (.iload 4, 2) := by decide +kernel
theorem dL_colors_33 : decode cL_colors 33 = .ok (.if_icmp .ge 123, 3) := by decide +kernel
theorem dL_colors_36 : decode cL_colors 36 = .ok (.aload_n 3, 1) := by decide +kernel
theorem dL_colors_37 : decode cL_colors 37 = .ok (.iload 6, 2) := by decide +kernel
theorem dL_colors_39 : decode cL_colors 39 = .ok (.iaload, 1) := by decide +kernel
theorem dL_colors_40 : decode cL_colors 40 = .ok (.iload 5, 2) := by decide +kernel
theorem dL_colors_42 : decode cL_colors 42 = .ok (.if_icmp .ne 22, 3) := by decide +kernel
theorem dL_colors_45 : decode cL_colors 45 = .ok (.iinc 6 (-1), 3) := by decide +kernel
theorem dL_colors_48 : decode cL_colors 48 = .ok (.iload 6, 2) := by decide +kernel
theorem dL_colors_50 : decode cL_colors 50 = .ok (.ifCond .lt (-26), 3) := by decide +kernel
theorem dL_colors_53 : decode cL_colors 53 = .ok (.aload_n 3, 1) := by decide +kernel
theorem dL_colors_54 : decode cL_colors 54 = .ok (.iload 6, 2) := by decide +kernel
theorem dL_colors_56 : decode cL_colors 56 = .ok (.dup2, 1) := by decide +kernel
theorem dL_colors_57 : decode cL_colors 57 = .ok (.iaload, 1) := by decide +kernel
theorem dL_colors_58 : decode cL_colors 58 = .ok (.iconst 1, 1) := by decide +kernel
theorem dL_colors_59 : decode cL_colors 59 = .ok (.iadd, 1) := by decide +kernel
theorem dL_colors_60 : decode cL_colors 60 = .ok (.iastore, 1) := by decide +kernel
theorem dL_colors_61 : decode cL_colors 61 = .ok (.goto (-37), 3) := by decide +kernel
theorem dL_colors_64 : decode cL_colors 64 = .ok (.iconst 0, 1) := by decide +kernel
theorem dL_colors_65 : decode cL_colors 65 = .ok (.istore 7, 2) := by decide +kernel
theorem dL_colors_67 : decode cL_colors 67 = .ok (.iconst 0, 1) := by decide +kernel
theorem dL_colors_68 : decode cL_colors 68 = .ok (.istore 8, 2) := by decide +kernel
theorem dL_colors_70 : decode cL_colors 70 = .ok (.iload 8, 2) := by decide +kernel
theorem dL_colors_72 : decode cL_colors 72 = .ok (.iload 6, 2) := by decide +kernel
theorem dL_colors_74 : decode cL_colors 74 = .ok (.if_icmp .gt 33, 3) := by decide +kernel
theorem dL_colors_77 : decode cL_colors 77 = .ok (.iload 7, 2) := by decide +kernel
theorem dL_colors_79 : decode cL_colors 79 = .ok (.aload_n 3, 1) := by decide +kernel
theorem dL_colors_80 : decode cL_colors 80 = .ok (.iload 8, 2) := by decide +kernel
theorem dL_colors_82 : decode cL_colors 82 = .ok (.iaload, 1) := by decide +kernel
theorem dL_colors_83 : decode cL_colors 83 = .ok (.aload_n 3, 1) := by decide +kernel
theorem dL_colors_84 : decode cL_colors 84 = .ok (.iload 6, 2) := by decide +kernel
theorem dL_colors_86 : decode cL_colors 86 = .ok (.iaload, 1) := by decide +kernel
theorem dL_colors_87 : decode cL_colors 87 = .ok (.if_icmp .ne 10, 3) := by decide +kernel
theorem dL_colors_90 : decode cL_colors 90 = .ok (.iconst 1, 1) := by decide +kernel
theorem dL_colors_91 : decode cL_colors 91 = .ok (.iload 8, 2) := by decide +kernel
theorem dL_colors_93 : decode cL_colors 93 = .ok (.ishl, 1) := by decide +kernel
theorem dL_colors_94 : decode cL_colors 94 = .ok (.goto 4, 3) := by decide +kernel
theorem dL_colors_97 : decode cL_colors 97 = .ok (.iconst 0, 1) := by decide +kernel
theorem dL_colors_98 : decode cL_colors 98 = .ok (.ior, 1) := by decide +kernel
theorem dL_colors_99 : decode cL_colors 99 = .ok (.istore 7, 2) := by decide +kernel
theorem dL_colors_101 : decode cL_colors 101 = .ok (.iinc 8 1, 3) := by decide +kernel
theorem dL_colors_104 : decode cL_colors 104 = .ok (.goto (-34), 3) := by decide +kernel
theorem dL_colors_107 : decode cL_colors 107 = .ok (.aload_n 2, 1) := by decide +kernel
theorem dL_colors_108 : decode cL_colors 108 = .ok (.iload 7, 2) := by decide +kernel
theorem dL_colors_110 : decode cL_colors 110 = .ok (.bipush 64, 2) := by decide +kernel
theorem dL_colors_112 : decode cL_colors 112 = .ok (.idiv, 1) := by decide +kernel
theorem dL_colors_113 : decode cL_colors 113 = .ok (.laload, 1) := by decide +kernel
theorem dL_colors_114 : decode cL_colors 114 = .ok (.iload 7, 2) := by decide +kernel
theorem dL_colors_116 : decode cL_colors 116 = .ok (.bipush 64, 2) := by decide +kernel
theorem dL_colors_118 : decode cL_colors 118 = .ok (.irem, 1) := by decide +kernel
theorem dL_colors_119 : decode cL_colors 119 = .ok (.lushr, 1) := by decide +kernel
theorem dL_colors_120 : decode cL_colors 120 = .ok (.lconst 1, 1) := by decide +kernel
theorem dL_colors_121 : decode cL_colors 121 = .ok (.land, 1) := by decide +kernel
theorem dL_colors_122 : decode cL_colors 122 = .ok (.lconst 0, 1) := by decide +kernel
theorem dL_colors_123 : decode cL_colors 123 = .ok (.lcmp, 1) := by decide +kernel
theorem dL_colors_124 : decode cL_colors 124 = .ok (.ifCond .ne 14, 3) := by decide +kernel
theorem dL_colors_127 : decode cL_colors 127 = .ok (.aload_n 3, 1) := by decide +kernel
theorem dL_colors_128 : decode cL_colors 128 = .ok (.iload 6, 2) := by decide +kernel
theorem dL_colors_130 : decode cL_colors 130 = .ok (.dup2, 1) := by decide +kernel
theorem dL_colors_131 : decode cL_colors 131 = .ok (.iaload, 1) := by decide +kernel
theorem dL_colors_132 : decode cL_colors 132 = .ok (.iconst 1, 1) := by decide +kernel
theorem dL_colors_133 : decode cL_colors 133 = .ok (.iadd, 1) := by decide +kernel
theorem dL_colors_134 : decode cL_colors 134 = .ok (.iastore, 1) := by decide +kernel
theorem dL_colors_135 : decode cL_colors 135 = .ok (.goto (-111), 3) := by decide +kernel
theorem dL_colors_138 : decode cL_colors 138 = .ok (.iinc 6 1, 3) := by decide +kernel
theorem dL_colors_141 : decode cL_colors 141 = .ok (.iload 6, 2) := by decide +kernel
theorem dL_colors_143 : decode cL_colors 143 = .ok (.iload 4, 2) := by decide +kernel
theorem dL_colors_145 : decode cL_colors 145 = .ok (.if_icmp .ge 8, 3) := by decide +kernel
theorem dL_colors_148 : decode cL_colors 148 = .ok (.aload_n 3, 1) := by decide +kernel
theorem dL_colors_149 : decode cL_colors 149 = .ok (.iload 6, 2) := by decide +kernel
theorem dL_colors_151 : decode cL_colors 151 = .ok (.iconst 0, 1) := by decide +kernel
theorem dL_colors_152 : decode cL_colors 152 = .ok (.iastore, 1) := by decide +kernel
theorem dL_colors_153 : decode cL_colors 153 = .ok (.goto (-129), 3) := by decide +kernel
theorem dL_colors_156 : decode cL_colors 156 = .ok (.iload 6, 2) := by decide +kernel
theorem dL_colors_158 : decode cL_colors 158 = .ok (.iload 4, 2) := by decide +kernel
theorem dL_colors_160 : decode cL_colors 160 = .ok (.if_icmp .ne 6, 3) := by decide +kernel
theorem dL_colors_163 : decode cL_colors 163 = .ok (.iload 5, 2) := by decide +kernel
theorem dL_colors_165 : decode cL_colors 165 = .ok (.ireturn, 1) := by decide +kernel
theorem dL_colors_166 : decode cL_colors 166 = .ok (.iinc 5 1, 3) := by decide +kernel
theorem dL_colors_169 : decode cL_colors 169 = .ok (.goto (-159), 3) := by decide +kernel
theorem dL_colors_172 : decode cL_colors 172 = .ok (.iconst 0, 1) := by decide +kernel
theorem dL_colors_173 : decode cL_colors 173 = .ok (.ireturn, 1) := by decide +kernel
theorem dL_ways_0 : decode cL_ways 0 = .ok (.aload_n 3, 1) := by decide +kernel
theorem dL_ways_1 : decode cL_ways 1 = .ok (.bipush 12, 2) := by decide +kernel
theorem dL_ways_3 : decode cL_ways 3 = .ok (.iload_n 0, 1) := by decide +kernel
theorem dL_ways_4 : decode cL_ways 4 = .ok (.imul, 1) := by decide +kernel
theorem dL_ways_5 : decode cL_ways 5 = .ok (.iaload, 1) := by decide +kernel
theorem dL_ways_6 : decode cL_ways 6 = .ok (.istore 4, 2) := by decide +kernel
theorem dL_ways_8 : decode cL_ways 8 = .ok (.aload_n 3, 1) := by decide +kernel
theorem dL_ways_9 : decode cL_ways 9 = .ok (.bipush 12, 2) := by decide +kernel
theorem dL_ways_11 : decode cL_ways 11 = .ok (.iload_n 0, 1) := by decide +kernel
theorem dL_ways_12 : decode cL_ways 12 = .ok (.imul, 1) := by decide +kernel
theorem dL_ways_13 : decode cL_ways 13 = .ok (.iconst 1, 1) := by decide +kernel
theorem dL_ways_14 : decode cL_ways 14 = .ok (.iadd, 1) := by decide +kernel
theorem dL_ways_15 : decode cL_ways 15 = .ok (.iaload, 1) := by decide +kernel
theorem dL_ways_16 : decode cL_ways 16 = .ok (.istore 5, 2) := by decide +kernel
theorem dL_ways_18 : decode cL_ways 18 = .ok (.ldc 24, 2) := by decide +kernel
theorem dL_ways_20 : decode cL_ways 20 = .ok (.istore 6, 2) := by decide +kernel
theorem dL_ways_22 : decode cL_ways 22 = .ok (.iconst 0, 1) := by decide +kernel
theorem dL_ways_23 : decode cL_ways 23 = .ok (.istore 7, 2) := by decide +kernel
theorem dL_ways_25 : decode cL_ways 25 = .ok (.iconst 1, 1) := by decide +kernel
theorem dL_ways_26 : decode cL_ways 26 = .ok (.istore 8, 2) := by decide +kernel
theorem dL_ways_28 : decode cL_ways 28 = .ok (.iconst 0, 1) := by decide +kernel
theorem dL_ways_29 : decode cL_ways 29 = .ok (.istore 9, 2) := by decide +kernel
theorem dL_ways_31 : decode cL_ways 31 = .ok (.iload 9, 2) := by decide +kernel
theorem dL_ways_33 : decode cL_ways 33 = .ok (.iload_n 1, 1) := by decide +kernel
theorem dL_ways_34 : decode cL_ways 34 = .ok (.invokestatic 25, 3) := by decide +kernel
theorem dL_ways_37 : decode cL_ways 37 = .ok (.if_icmp .ge 16, 3) := by decide +kernel
theorem dL_ways_40 : decode cL_ways 40 = .ok (.iload 8, 2) := by decide +kernel
theorem dL_ways_42 : decode cL_ways 42 = .ok (.iload 5, 2) := by decide +kernel
theorem dL_ways_44 : decode cL_ways 44 = .ok (.imul, 1) := by decide +kernel
theorem dL_ways_45 : decode cL_ways 45 = .ok (.istore 8, 2) := by decide +kernel
theorem dL_ways_47 : decode cL_ways 47 = .ok (.iinc 9 1, 3) := by decide +kernel
theorem dL_ways_50 : decode cL_ways 50 = .ok (.goto (-19), 3) := by decide +kernel
theorem dL_ways_53 : decode cL_ways 53 = .ok (.iconst 0, 1) := by decide +kernel
theorem dL_ways_54 : decode cL_ways 54 = .ok (.istore 9, 2) := by decide +kernel
theorem dL_ways_56 : decode cL_ways 56 = .ok (.iload 9, 2) := by decide +kernel
theorem dL_ways_58 : decode cL_ways 58 = .ok (.iload 8, 2) := by decide +kernel
theorem dL_ways_60 : decode cL_ways 60 = .ok (.if_icmp .ge 158, 3) := by decide +kernel
theorem dL_ways_63 : decode cL_ways 63 = .ok (.iload 9, 2) := by decide +kernel
theorem dL_ways_65 : decode cL_ways 65 = .ok (.istore 10, 2) := by decide +kernel
theorem dL_ways_67 : decode cL_ways 67 = .ok (.iload_n 2, 1) := by decide +kernel
theorem dL_ways_68 : decode cL_ways 68 = .ok (.istore 11, 2) := by decide +kernel
theorem dL_ways_70 : decode cL_ways 70 = .ok (.iconst 0, 1) := by decide +kernel
theorem dL_ways_71 : decode cL_ways 71 = .ok (.istore 12, 2) := by decide +kernel
theorem dL_ways_73 : decode cL_ways 73 = .ok (.iconst 0, 1) := by decide +kernel
theorem dL_ways_74 : decode cL_ways 74 = .ok (.istore 13, 2) := by decide +kernel
theorem dL_ways_76 : decode cL_ways 76 = .ok (.iload 13, 2) := by decide +kernel
theorem dL_ways_78 : decode cL_ways 78 = .ok (.iload 4, 2) := by decide +kernel
theorem dL_ways_80 : decode cL_ways 80 = .ok (.if_icmp .ge 76, 3) := by decide +kernel
theorem dL_ways_83 : decode cL_ways 83 = .ok (.iload_n 1, 1) := by decide +kernel
theorem dL_ways_84 : decode cL_ways 84 = .ok (.iload 13, 2) := by decide +kernel
theorem dL_ways_86 : decode cL_ways 86 = .ok (.ishr, 1) := by decide +kernel
theorem dL_ways_87 : decode cL_ways 87 = .ok (.iconst 1, 1) := by decide +kernel
theorem dL_ways_88 : decode cL_ways 88 = .ok (.iand, 1) := by decide +kernel
theorem dL_ways_89 : decode cL_ways 89 = .ok (.ifCond .ne 6, 3) := by decide +kernel
theorem dL_ways_92 : decode cL_ways 92 = .ok (.goto 58, 3) := by decide +kernel
theorem dL_ways_95 : decode cL_ways 95 = .ok (.iload 10, 2) := by decide +kernel
theorem dL_ways_97 : decode cL_ways 97 = .ok (.iload 5, 2) := by decide +kernel
theorem dL_ways_99 : decode cL_ways 99 = .ok (.irem, 1) := by decide +kernel
theorem dL_ways_100 : decode cL_ways 100 = .ok (.istore 14, 2) := by decide +kernel
theorem dL_ways_102 : decode cL_ways 102 = .ok (.iload 10, 2) := by decide +kernel
theorem dL_ways_104 : decode cL_ways 104 = .ok (.iload 5, 2) := by decide +kernel
theorem dL_ways_106 : decode cL_ways 106 = .ok (.idiv, 1) := by decide +kernel
theorem dL_ways_107 : decode cL_ways 107 = .ok (.istore 10, 2) := by decide +kernel
theorem dL_ways_109 : decode cL_ways 109 = .ok (.iload 12, 2) := by decide +kernel
theorem dL_ways_111 : decode cL_ways 111 = .ok (.iload 11, 2) := by decide +kernel
theorem dL_ways_113 : decode cL_ways 113 = .ok (.iload 14, 2) := by decide +kernel
theorem dL_ways_115 : decode cL_ways 115 = .ok (.ishr, 1) := by decide +kernel
theorem dL_ways_116 : decode cL_ways 116 = .ok (.iconst 1, 1) := by decide +kernel
theorem dL_ways_117 : decode cL_ways 117 = .ok (.iand, 1) := by decide +kernel
theorem dL_ways_118 : decode cL_ways 118 = .ok (.iconst 1, 1) := by decide +kernel
theorem dL_ways_119 : decode cL_ways 119 = .ok (.if_icmp .ne 15, 3) := by decide +kernel
theorem dL_ways_122 : decode cL_ways 122 = .ok (.iload_n 0, 1) := by decide +kernel
theorem dL_ways_123 : decode cL_ways 123 = .ok (.iload 13, 2) := by decide +kernel
theorem dL_ways_125 : decode cL_ways 125 = .ok (.iload 14, 2) := by decide +kernel
theorem dL_ways_127 : decode cL_ways 127 = .ok (.aload_n 3, 1) := by decide +kernel
theorem dL_ways_128 : decode cL_ways 128 = .ok (.invokestatic 10, 3) := by decide +kernel
theorem dL_ways_131 : decode cL_ways 131 = .ok (.goto 5, 3) := by decide +kernel
theorem dL_ways_134 : decode cL_ways 134 = .ok (.ldc 24, 2) := by decide +kernel
theorem dL_ways_136 : decode cL_ways 136 = .ok (.iadd, 1) := by decide +kernel
theorem dL_ways_137 : decode cL_ways 137 = .ok (.istore 12, 2) := by decide +kernel
theorem dL_ways_139 : decode cL_ways 139 = .ok (.iload 11, 2) := by decide +kernel
theorem dL_ways_141 : decode cL_ways 141 = .ok (.iconst 1, 1) := by decide +kernel
theorem dL_ways_142 : decode cL_ways 142 = .ok (.iload 14, 2) := by decide +kernel
theorem dL_ways_144 : decode cL_ways 144 = .ok (.ishl, 1) := by decide +kernel
theorem dL_ways_145 : decode cL_ways 145 = .ok (.iconst (-1), 1) := by decide +kernel
theorem dL_ways_146 : decode cL_ways 146 = .ok (.ixor, 1) := by decide +kernel
theorem dL_ways_147 : decode cL_ways 147 = .ok (.iand, 1) := by decide +kernel
theorem dL_ways_148 : decode cL_ways 148 = .ok (.istore 11, 2) := by decide +kernel
theorem dL_ways_150 : decode cL_ways 150 = .ok (.iinc 13 1, 3) := by decide +kernel
theorem dL_ways_153 : decode cL_ways 153 = .ok (.goto (-77), 3) := by decide +kernel
theorem dL_ways_156 : decode cL_ways 156 = .ok (.iload 12, 2) := by decide +kernel
theorem dL_ways_158 : decode cL_ways 158 = .ok (.sipush 9999, 3) := by decide +kernel
theorem dL_ways_161 : decode cL_ways 161 = .ok (.if_icmp .le 6, 3) := by decide +kernel
theorem dL_ways_164 : decode cL_ways 164 = .ok (.goto 48, 3) := by decide +kernel
theorem dL_ways_167 : decode cL_ways 167 = .ok (.iload 12, 2) := by decide +kernel
theorem dL_ways_169 : decode cL_ways 169 = .ok (.iload 6, 2) := by decide +kernel
theorem dL_ways_171 : decode cL_ways 171 = .ok (.if_icmp .ge 7, 3) := by decide +kernel
theorem dL_ways_174 : decode cL_ways 174 = .ok (.iconst 1, 1) := by decide +kernel
theorem dL_ways_175 : decode cL_ways 175 = .ok (.goto 19, 3) := by decide +kernel
theorem dL_ways_178 : decode cL_ways 178 = .ok (.iload 12, 2) := by decide +kernel
theorem dL_ways_180 : decode cL_ways 180 = .ok (.iload 6, 2) := by decide +kernel
theorem dL_ways_182 : decode cL_ways 182 = .ok (.if_icmp .ne 10, 3) := by decide +kernel
theorem dL_ways_185 : decode cL_ways 185 = .ok (.iload 7, 2) := by decide +kernel
theorem dL_ways_187 : decode cL_ways 187 = .ok (.iconst 1, 1) := by decide +kernel
theorem dL_ways_188 : decode cL_ways 188 = .ok (.iadd, 1) := by decide +kernel
theorem dL_ways_189 : decode cL_ways 189 = .ok (.goto 5, 3) := by decide +kernel
theorem dL_ways_192 : decode cL_ways 192 = .ok (.iload 7, 2) := by decide +kernel
theorem dL_ways_194 : decode cL_ways 194 = .ok (.istore 7, 2) := by decide +kernel
theorem dL_ways_196 : decode cL_ways 196 = .ok (.iload 12, 2) := by decide +kernel
theorem dL_ways_198 : decode cL_ways 198 = .ok (.iload 6, 2) := by decide +kernel
theorem dL_ways_200 : decode cL_ways 200 = .ok (.if_icmp .ge 8, 3) := by decide +kernel
theorem dL_ways_203 : decode cL_ways 203 = .ok (.iload 12, 2) := by decide +kernel
theorem dL_ways_205 : decode cL_ways 205 = .ok (.goto 5, 3) := by decide +kernel
theorem dL_ways_208 : decode cL_ways 208 = .ok (.iload 6, 2) := by decide +kernel
theorem dL_ways_210 : decode cL_ways 210 = .ok (.istore 6, 2) := by decide +kernel
theorem dL_ways_212 : decode cL_ways 212 = .ok (.iinc 9 1, 3) := by decide +kernel
theorem dL_ways_215 : decode cL_ways 215 = .ok (.goto (-159), 3) := by decide +kernel
theorem dL_ways_218 : decode cL_ways 218 = .ok (.iload 7, 2) := by decide +kernel
theorem dL_ways_220 : decode cL_ways 220 = .ok (.sipush 10000, 3) := by decide +kernel
theorem dL_ways_223 : decode cL_ways 223 = .ok (.imul, 1) := by decide +kernel
theorem dL_ways_224 : decode cL_ways 224 = .ok (.iload 6, 2) := by decide +kernel
theorem dL_ways_226 : decode cL_ways 226 = .ok (.iadd, 1) := by decide +kernel
theorem dL_ways_227 : decode cL_ways 227 = .ok (.ireturn, 1) := by decide +kernel
theorem dL_factor_0 : decode cL_factor 0 = .ok (.sipush (-9999), 3) := by decide +kernel
theorem dL_factor_3 : decode cL_factor 3 = .ok (.istore 4, 2) := by decide +kernel
theorem dL_factor_5 : decode cL_factor 5 = .ok (.iconst 0, 1) := by decide +kernel
theorem dL_factor_6 : decode cL_factor 6 = .ok (.istore 5, 2) := by decide +kernel
theorem dL_factor_8 : decode cL_factor 8 = .ok (.iload 5, 2) := by decide +kernel
theorem dL_factor_10 : decode cL_factor 10 = .ok (.aload_n 3, 1) := by decide +kernel
theorem dL_factor_11 : decode cL_factor 11 = .ok (.bipush 12, 2) := by decide +kernel
theorem dL_factor_13 : decode cL_factor 13 = .ok (.iload_n 0, 1) := by decide +kernel
theorem dL_factor_14 : decode cL_factor 14 = .ok (.imul, 1) := by decide +kernel
theorem dL_factor_15 : decode cL_factor 15 = .ok (.iaload, 1) := by decide +kernel
theorem dL_factor_16 : decode cL_factor 16 = .ok (.if_icmp .ge 55, 3) := by decide +kernel
theorem dL_factor_19 : decode cL_factor 19 = .ok (.iload_n 0, 1) := by decide +kernel
theorem dL_factor_20 : decode cL_factor 20 = .ok (.iload 5, 2) := by decide +kernel
theorem dL_factor_22 : decode cL_factor 22 = .ok (.iload_n 1, 1) := by decide +kernel
theorem dL_factor_23 : decode cL_factor 23 = .ok (.aload_n 3, 1) := by decide +kernel
theorem dL_factor_24 : decode cL_factor 24 = .ok (.invokestatic 10, 3) := by decide +kernel
theorem dL_factor_27 : decode cL_factor 27 = .ok (.iload_n 0, 1) := by decide +kernel
theorem dL_factor_28 : decode cL_factor 28 = .ok (.iload 5, 2) := by decide +kernel
theorem dL_factor_30 : decode cL_factor 30 = .ok (.iload_n 2, 1) := by decide +kernel
theorem dL_factor_31 : decode cL_factor 31 = .ok (.aload_n 3, 1) := by decide +kernel
theorem dL_factor_32 : decode cL_factor 32 = .ok (.invokestatic 10, 3) := by decide +kernel
theorem dL_factor_35 : decode cL_factor 35 = .ok (.isub, 1) := by decide +kernel
theorem dL_factor_36 : decode cL_factor 36 = .ok (.iload 4, 2) := by decide +kernel
theorem dL_factor_38 : decode cL_factor 38 = .ok (.if_icmp .le 23, 3) := by decide +kernel
theorem dL_factor_41 : decode cL_factor 41 = .ok (.iload_n 0, 1) := by decide +kernel
theorem dL_factor_42 : decode cL_factor 42 = .ok (.iload 5, 2) := by decide +kernel
theorem dL_factor_44 : decode cL_factor 44 = .ok (.iload_n 1, 1) := by decide +kernel
theorem dL_factor_45 : decode cL_factor 45 = .ok (.aload_n 3, 1) := by decide +kernel
theorem dL_factor_46 : decode cL_factor 46 = .ok (.invokestatic 10, 3) := by decide +kernel
theorem dL_factor_49 : decode cL_factor 49 = .ok (.iload_n 0, 1) := by decide +kernel
theorem dL_factor_50 : decode cL_factor 50 = .ok (.iload 5, 2) := by decide +kernel
theorem dL_factor_52 : decode cL_factor 52 = .ok (.iload_n 2, 1) := by decide +kernel
theorem dL_factor_53 : decode cL_factor 53 = .ok (.aload_n 3, 1) := by decide +kernel
theorem dL_factor_54 : decode cL_factor 54 = .ok (.invokestatic 10, 3) := by decide +kernel
theorem dL_factor_57 : decode cL_factor 57 = .ok (.isub, 1) := by decide +kernel
theorem dL_factor_58 : decode cL_factor 58 = .ok (.goto 5, 3) := by decide +kernel
theorem dL_factor_61 : decode cL_factor 61 = .ok (.iload 4, 2) := by decide +kernel
theorem dL_factor_63 : decode cL_factor 63 = .ok (.istore 4, 2) := by decide +kernel
theorem dL_factor_65 : decode cL_factor 65 = .ok (.iinc 5 1, 3) := by decide +kernel
theorem dL_factor_68 : decode cL_factor 68 = .ok (.goto (-60), 3) := by decide +kernel
theorem dL_factor_71 : decode cL_factor 71 = .ok (.iload 4, 2) := by decide +kernel
theorem dL_factor_73 : decode cL_factor 73 = .ok (.ireturn, 1) := by decide +kernel
theorem dL_misses_0 : decode cL_misses 0 = .ok (.iconst 0, 1) := by decide +kernel
theorem dL_misses_1 : decode cL_misses 1 = .ok (.istore 4, 2) := by decide +kernel
theorem dL_misses_3 : decode cL_misses 3 = .ok (.iconst 0, 1) := by decide +kernel
theorem dL_misses_4 : decode cL_misses 4 = .ok (.istore 5, 2) := by decide +kernel
theorem dL_misses_6 : decode cL_misses 6 = .ok (.iload 5, 2) := by decide +kernel
theorem dL_misses_8 : decode cL_misses 8 = .ok (.aload_n 3, 1) := by decide +kernel
theorem dL_misses_9 : decode cL_misses 9 = .ok (.bipush 12, 2) := by decide +kernel
theorem dL_misses_11 : decode cL_misses 11 = .ok (.iload_n 0, 1) := by decide +kernel
theorem dL_misses_12 : decode cL_misses 12 = .ok (.imul, 1) := by decide +kernel
theorem dL_misses_13 : decode cL_misses 13 = .ok (.iaload, 1) := by decide +kernel
theorem dL_misses_14 : decode cL_misses 14 = .ok (.if_icmp .ge 114, 3) := by decide +kernel
theorem dL_misses_17 : decode cL_misses 17 = .ok (.ldc 24, 2) := by decide +kernel
theorem dL_misses_19 : decode cL_misses 19 = .ok (.istore 6, 2) := by decide +kernel
theorem dL_misses_21 : decode cL_misses 21 = .ok (.iconst 0, 1) := by decide +kernel
theorem dL_misses_22 : decode cL_misses 22 = .ok (.istore 7, 2) := by decide +kernel
theorem dL_misses_24 : decode cL_misses 24 = .ok (.iload 7, 2) := by decide +kernel
theorem dL_misses_26 : decode cL_misses 26 = .ok (.aload_n 3, 1) := by decide +kernel
theorem dL_misses_27 : decode cL_misses 27 = .ok (.bipush 12, 2) := by decide +kernel
theorem dL_misses_29 : decode cL_misses 29 = .ok (.iload_n 0, 1) := by decide +kernel
theorem dL_misses_30 : decode cL_misses 30 = .ok (.imul, 1) := by decide +kernel
theorem dL_misses_31 : decode cL_misses 31 = .ok (.iconst 1, 1) := by decide +kernel
theorem dL_misses_32 : decode cL_misses 32 = .ok (.iadd, 1) := by decide +kernel
theorem dL_misses_33 : decode cL_misses 33 = .ok (.iaload, 1) := by decide +kernel
theorem dL_misses_34 : decode cL_misses 34 = .ok (.if_icmp .ge 62, 3) := by decide +kernel
theorem dL_misses_37 : decode cL_misses 37 = .ok (.iload_n 2, 1) := by decide +kernel
theorem dL_misses_38 : decode cL_misses 38 = .ok (.iload 7, 2) := by decide +kernel
theorem dL_misses_40 : decode cL_misses 40 = .ok (.ishr, 1) := by decide +kernel
theorem dL_misses_41 : decode cL_misses 41 = .ok (.iconst 1, 1) := by decide +kernel
theorem dL_misses_42 : decode cL_misses 42 = .ok (.iand, 1) := by decide +kernel
theorem dL_misses_43 : decode cL_misses 43 = .ok (.iconst 1, 1) := by decide +kernel
theorem dL_misses_44 : decode cL_misses 44 = .ok (.if_icmp .ne 46, 3) := by decide +kernel
theorem dL_misses_47 : decode cL_misses 47 = .ok (.iload_n 0, 1) := by decide +kernel
theorem dL_misses_48 : decode cL_misses 48 = .ok (.iload_n 1, 1) := by decide +kernel
theorem dL_misses_49 : decode cL_misses 49 = .ok (.iload 7, 2) := by decide +kernel
theorem dL_misses_51 : decode cL_misses 51 = .ok (.aload_n 3, 1) := by decide +kernel
theorem dL_misses_52 : decode cL_misses 52 = .ok (.invokestatic 29, 3) := by decide +kernel
theorem dL_misses_55 : decode cL_misses 55 = .ok (.iload_n 0, 1) := by decide +kernel
theorem dL_misses_56 : decode cL_misses 56 = .ok (.iload 5, 2) := by decide +kernel
theorem dL_misses_58 : decode cL_misses 58 = .ok (.iload 7, 2) := by decide +kernel
theorem dL_misses_60 : decode cL_misses 60 = .ok (.aload_n 3, 1) := by decide +kernel
theorem dL_misses_61 : decode cL_misses 61 = .ok (.invokestatic 10, 3) := by decide +kernel
theorem dL_misses_64 : decode cL_misses 64 = .ok (.iadd, 1) := by decide +kernel
theorem dL_misses_65 : decode cL_misses 65 = .ok (.iload 6, 2) := by decide +kernel
theorem dL_misses_67 : decode cL_misses 67 = .ok (.if_icmp .ge 23, 3) := by decide +kernel
theorem dL_misses_70 : decode cL_misses 70 = .ok (.iload_n 0, 1) := by decide +kernel
theorem dL_misses_71 : decode cL_misses 71 = .ok (.iload_n 1, 1) := by decide +kernel
theorem dL_misses_72 : decode cL_misses 72 = .ok (.iload 7, 2) := by decide +kernel
theorem dL_misses_74 : decode cL_misses 74 = .ok (.aload_n 3, 1) := by decide +kernel
theorem dL_misses_75 : decode cL_misses 75 = .ok (.invokestatic 29, 3) := by decide +kernel
theorem dL_misses_78 : decode cL_misses 78 = .ok (.iload_n 0, 1) := by decide +kernel
theorem dL_misses_79 : decode cL_misses 79 = .ok (.iload 5, 2) := by decide +kernel
theorem dL_misses_81 : decode cL_misses 81 = .ok (.iload 7, 2) := by decide +kernel
theorem dL_misses_83 : decode cL_misses 83 = .ok (.aload_n 3, 1) := by decide +kernel
theorem dL_misses_84 : decode cL_misses 84 = .ok (.invokestatic 10, 3) := by decide +kernel
theorem dL_misses_87 : decode cL_misses 87 = .ok (.iadd, 1) := by decide +kernel
theorem dL_misses_88 : decode cL_misses 88 = .ok (.istore 6, 2) := by decide +kernel
theorem dL_misses_90 : decode cL_misses 90 = .ok (.iinc 7 1, 3) := by decide +kernel
theorem dL_misses_93 : decode cL_misses 93 = .ok (.goto (-69), 3) := by decide +kernel
theorem dL_misses_96 : decode cL_misses 96 = .ok (.iload 4, 2) := by decide +kernel
theorem dL_misses_98 : decode cL_misses 98 = .ok (.iload 6, 2) := by decide +kernel
theorem dL_misses_100 : decode cL_misses 100 = .ok (.iload_n 0, 1) := by decide +kernel
theorem dL_misses_101 : decode cL_misses 101 = .ok (.iload 5, 2) := by decide +kernel
theorem dL_misses_103 : decode cL_misses 103 = .ok (.iload_n 1, 1) := by decide +kernel
theorem dL_misses_104 : decode cL_misses 104 = .ok (.aload_n 3, 1) := by decide +kernel
theorem dL_misses_105 : decode cL_misses 105 = .ok (.invokestatic 10, 3) := by decide +kernel
theorem dL_misses_108 : decode cL_misses 108 = .ok (.if_icmp .ne 7, 3) := by decide +kernel
theorem dL_misses_111 : decode cL_misses 111 = .ok (.iconst 0, 1) := by decide +kernel
theorem dL_misses_112 : decode cL_misses 112 = .ok (.goto 7, 3) := by decide +kernel
theorem dL_misses_115 : decode cL_misses 115 = .ok (.iconst 1, 1) := by decide +kernel
theorem dL_misses_116 : decode cL_misses 116 = .ok (.iload 5, 2) := by decide +kernel
theorem dL_misses_118 : decode cL_misses 118 = .ok (.ishl, 1) := by decide +kernel
theorem dL_misses_119 : decode cL_misses 119 = .ok (.ior, 1) := by decide +kernel
theorem dL_misses_120 : decode cL_misses 120 = .ok (.istore 4, 2) := by decide +kernel
theorem dL_misses_122 : decode cL_misses 122 = .ok (.iinc 5 1, 3) := by decide +kernel
theorem dL_misses_125 : decode cL_misses 125 = .ok (.goto (-119), 3) := by decide +kernel
theorem dL_misses_128 : decode cL_misses 128 = .ok (.iload 4, 2) := by decide +kernel
theorem dL_misses_130 : decode cL_misses 130 = .ok (.ireturn, 1) := by decide +kernel
theorem dL_stay_0 : decode cL_stay 0 = .ok (.iconst 1, 1) := by decide +kernel
theorem dL_stay_1 : decode cL_stay 1 = .ok (.aload_n 1, 1) := by decide +kernel
theorem dL_stay_2 : decode cL_stay 2 = .ok (.bipush 12, 2) := by decide +kernel
theorem dL_stay_4 : decode cL_stay 4 = .ok (.iload_n 0, 1) := by decide +kernel
theorem dL_stay_5 : decode cL_stay 5 = .ok (.imul, 1) := by decide +kernel
theorem dL_stay_6 : decode cL_stay 6 = .ok (.iconst 1, 1) := by decide +kernel
theorem dL_stay_7 : decode cL_stay 7 = .ok (.iadd, 1) := by decide +kernel
theorem dL_stay_8 : decode cL_stay 8 = .ok (.iaload, 1) := by decide +kernel
theorem dL_stay_9 : decode cL_stay 9 = .ok (.ishl, 1) := by decide +kernel
theorem dL_stay_10 : decode cL_stay 10 = .ok (.iconst 1, 1) := by decide +kernel
theorem dL_stay_11 : decode cL_stay 11 = .ok (.isub, 1) := by decide +kernel
theorem dL_stay_12 : decode cL_stay 12 = .ok (.istore_n 2, 1) := by decide +kernel
theorem dL_stay_13 : decode cL_stay 13 = .ok (.iconst 0, 1) := by decide +kernel
theorem dL_stay_14 : decode cL_stay 14 = .ok (.istore_n 3, 1) := by decide +kernel
theorem dL_stay_15 : decode cL_stay 15 = .ok (.iload_n 3, 1) := by decide +kernel
theorem dL_stay_16 : decode cL_stay 16 = .ok (.aload_n 1, 1) := by decide +kernel
theorem dL_stay_17 : decode cL_stay 17 = .ok (.bipush 12, 2) := by decide +kernel
theorem dL_stay_19 : decode cL_stay 19 = .ok (.iload_n 0, 1) := by decide +kernel
theorem dL_stay_20 : decode cL_stay 20 = .ok (.imul, 1) := by decide +kernel
theorem dL_stay_21 : decode cL_stay 21 = .ok (.iconst 1, 1) := by decide +kernel
theorem dL_stay_22 : decode cL_stay 22 = .ok (.iadd, 1) := by decide +kernel
theorem dL_stay_23 : decode cL_stay 23 = .ok (.iaload, 1) := by decide +kernel
theorem dL_stay_24 : decode cL_stay 24 = .ok (.if_icmp .ge 33, 3) := by decide +kernel
theorem dL_stay_27 : decode cL_stay 27 = .ok (.iload_n 0, 1) := by decide +kernel
theorem dL_stay_28 : decode cL_stay 28 = .ok (.iload_n 3, 1) := by decide +kernel
theorem dL_stay_29 : decode cL_stay 29 = .ok (.iload_n 2, 1) := by decide +kernel
theorem dL_stay_30 : decode cL_stay 30 = .ok (.iconst 1, 1) := by decide +kernel
theorem dL_stay_31 : decode cL_stay 31 = .ok (.iload_n 3, 1) := by decide +kernel
theorem dL_stay_32 : decode cL_stay 32 = .ok (.ishl, 1) := by decide +kernel
theorem dL_stay_33 : decode cL_stay 33 = .ok (.iconst (-1), 1) := by decide +kernel
theorem dL_stay_34 : decode cL_stay 34 = .ok (.ixor, 1) := by decide +kernel
theorem dL_stay_35 : decode cL_stay 35 = .ok (.iand, 1) := by decide +kernel
theorem dL_stay_36 : decode cL_stay 36 = .ok (.aload_n 1, 1) := by decide +kernel
theorem dL_stay_37 : decode cL_stay 37 = .ok (.invokestatic 32, 3) := by decide +kernel
theorem dL_stay_40 : decode cL_stay 40 = .ok (.ifCond .ne 11, 3) := by decide +kernel
theorem dL_stay_43 : decode cL_stay 43 = .ok (.iload_n 2, 1) := by decide +kernel
theorem dL_stay_44 : decode cL_stay 44 = .ok (.iconst 1, 1) := by decide +kernel
theorem dL_stay_45 : decode cL_stay 45 = .ok (.iload_n 3, 1) := by decide +kernel
theorem dL_stay_46 : decode cL_stay 46 = .ok (.ishl, 1) := by decide +kernel
theorem dL_stay_47 : decode cL_stay 47 = .ok (.iconst (-1), 1) := by decide +kernel
theorem dL_stay_48 : decode cL_stay 48 = .ok (.ixor, 1) := by decide +kernel
theorem dL_stay_49 : decode cL_stay 49 = .ok (.iand, 1) := by decide +kernel
theorem dL_stay_50 : decode cL_stay 50 = .ok (.istore_n 2, 1) := by decide +kernel
theorem dL_stay_51 : decode cL_stay 51 = .ok (.iinc 3 1, 3) := by decide +kernel
theorem dL_stay_54 : decode cL_stay 54 = .ok (.goto (-39), 3) := by decide +kernel
theorem dL_stay_57 : decode cL_stay 57 = .ok (.iload_n 2, 1) := by decide +kernel
theorem dL_stay_58 : decode cL_stay 58 = .ok (.ireturn, 1) := by decide +kernel
theorem dL_turn_0 : decode cL_turn 0 = .ok (.bipush 9, 2) := by decide +kernel
theorem dL_turn_2 : decode cL_turn 2 = .ok (.newarray .int, 2) := by decide +kernel
theorem dL_turn_4 : decode cL_turn 4 = .ok (.astore_n 2, 1) := by decide +kernel
theorem dL_turn_5 : decode cL_turn 5 = .ok (.bipush 12, 2) := by decide +kernel
theorem dL_turn_7 : decode cL_turn 7 = .ok (.iload_n 0, 1) := by decide +kernel
theorem dL_turn_8 : decode cL_turn 8 = .ok (.imul, 1) := by decide +kernel
theorem dL_turn_9 : decode cL_turn 9 = .ok (.istore_n 3, 1) := by decide +kernel
theorem dL_turn_10 : decode cL_turn 10 = .ok (.iload_n 0, 1) := by decide +kernel
theorem dL_turn_11 : decode cL_turn 11 = .ok (.aload_n 1, 1) := by decide +kernel
theorem dL_turn_12 : decode cL_turn 12 = .ok (.invokestatic 16, 3) := by decide +kernel
theorem dL_turn_15 : decode cL_turn 15 = .ok (.istore 4, 2) := by decide +kernel
theorem dL_turn_17 : decode cL_turn 17 = .ok (.aload_n 1, 1) := by decide +kernel
theorem dL_turn_18 : decode cL_turn 18 = .ok (.iload_n 3, 1) := by decide +kernel
theorem dL_turn_19 : decode cL_turn 19 = .ok (.iaload, 1) := by decide +kernel
theorem dL_turn_20 : decode cL_turn 20 = .ok (.istore 5, 2) := by decide +kernel
theorem dL_turn_22 : decode cL_turn 22 = .ok (.iconst 0, 1) := by decide +kernel
theorem dL_turn_23 : decode cL_turn 23 = .ok (.istore 6, 2) := by decide +kernel
theorem dL_turn_25 : decode cL_turn 25 = .ok (.iload 6, 2) := by decide +kernel
theorem dL_turn_27 : decode cL_turn 27 = .ok (.iload 4, 2) := by decide +kernel
theorem dL_turn_29 : decode cL_turn 29 = .ok (.if_icmp .ge 39, 3) := by decide +kernel
theorem dL_turn_32 : decode cL_turn 32 = .ok (.aload_n 2, 1) := by decide +kernel
theorem dL_turn_33 : decode cL_turn 33 = .ok (.iload 6, 2) := by decide +kernel
theorem dL_turn_35 : decode cL_turn 35 = .ok (.aload_n 1, 1) := by decide +kernel
theorem dL_turn_36 : decode cL_turn 36 = .ok (.iload_n 3, 1) := by decide +kernel
theorem dL_turn_37 : decode cL_turn 37 = .ok (.iconst 1, 1) := by decide +kernel
theorem dL_turn_38 : decode cL_turn 38 = .ok (.iadd, 1) := by decide +kernel
theorem dL_turn_39 : decode cL_turn 39 = .ok (.iaload, 1) := by decide +kernel
theorem dL_turn_40 : decode cL_turn 40 = .ok (.irem, 1) := by decide +kernel
theorem dL_turn_41 : decode cL_turn 41 = .ok (.iload 5, 2) := by decide +kernel
theorem dL_turn_43 : decode cL_turn 43 = .ok (.imul, 1) := by decide +kernel
theorem dL_turn_44 : decode cL_turn 44 = .ok (.iload 6, 2) := by decide +kernel
theorem dL_turn_46 : decode cL_turn 46 = .ok (.aload_n 1, 1) := by decide +kernel
theorem dL_turn_47 : decode cL_turn 47 = .ok (.iload_n 3, 1) := by decide +kernel
theorem dL_turn_48 : decode cL_turn 48 = .ok (.iconst 1, 1) := by decide +kernel
theorem dL_turn_49 : decode cL_turn 49 = .ok (.iadd, 1) := by decide +kernel
theorem dL_turn_50 : decode cL_turn 50 = .ok (.iaload, 1) := by decide +kernel
theorem dL_turn_51 : decode cL_turn 51 = .ok (.idiv, 1) := by decide +kernel
theorem dL_turn_52 : decode cL_turn 52 = .ok (.iadd, 1) := by decide +kernel
theorem dL_turn_53 : decode cL_turn 53 = .ok (.aload_n 1, 1) := by decide +kernel
theorem dL_turn_54 : decode cL_turn 54 = .ok (.iload_n 3, 1) := by decide +kernel
theorem dL_turn_55 : decode cL_turn 55 = .ok (.iconst 2, 1) := by decide +kernel
theorem dL_turn_56 : decode cL_turn 56 = .ok (.iadd, 1) := by decide +kernel
theorem dL_turn_57 : decode cL_turn 57 = .ok (.iload 6, 2) := by decide +kernel
theorem dL_turn_59 : decode cL_turn 59 = .ok (.iadd, 1) := by decide +kernel
theorem dL_turn_60 : decode cL_turn 60 = .ok (.iaload, 1) := by decide +kernel
theorem dL_turn_61 : decode cL_turn 61 = .ok (.iastore, 1) := by decide +kernel
theorem dL_turn_62 : decode cL_turn 62 = .ok (.iinc 6 1, 3) := by decide +kernel
theorem dL_turn_65 : decode cL_turn 65 = .ok (.goto (-40), 3) := by decide +kernel
theorem dL_turn_68 : decode cL_turn 68 = .ok (.iconst 0, 1) := by decide +kernel
theorem dL_turn_69 : decode cL_turn 69 = .ok (.istore 6, 2) := by decide +kernel
theorem dL_turn_71 : decode cL_turn 71 = .ok (.iload 6, 2) := by decide +kernel
theorem dL_turn_73 : decode cL_turn 73 = .ok (.iload 4, 2) := by decide +kernel
theorem dL_turn_75 : decode cL_turn 75 = .ok (.if_icmp .ge 21, 3) := by decide +kernel
theorem dL_turn_78 : decode cL_turn 78 = .ok (.aload_n 1, 1) := by decide +kernel
theorem dL_turn_79 : decode cL_turn 79 = .ok (.iload_n 3, 1) := by decide +kernel
theorem dL_turn_80 : decode cL_turn 80 = .ok (.iconst 2, 1) := by decide +kernel
theorem dL_turn_81 : decode cL_turn 81 = .ok (.iadd, 1) := by decide +kernel
theorem dL_turn_82 : decode cL_turn 82 = .ok (.iload 6, 2) := by decide +kernel
theorem dL_turn_84 : decode cL_turn 84 = .ok (.iadd, 1) := by decide +kernel
theorem dL_turn_85 : decode cL_turn 85 = .ok (.aload_n 2, 1) := by decide +kernel
theorem dL_turn_86 : decode cL_turn 86 = .ok (.iload 6, 2) := by decide +kernel
theorem dL_turn_88 : decode cL_turn 88 = .ok (.iaload, 1) := by decide +kernel
theorem dL_turn_89 : decode cL_turn 89 = .ok (.iastore, 1) := by decide +kernel
theorem dL_turn_90 : decode cL_turn 90 = .ok (.iinc 6 1, 3) := by decide +kernel
theorem dL_turn_93 : decode cL_turn 93 = .ok (.goto (-22), 3) := by decide +kernel
theorem dL_turn_96 : decode cL_turn 96 = .ok (.aload_n 1, 1) := by decide +kernel
theorem dL_turn_97 : decode cL_turn 97 = .ok (.iload_n 3, 1) := by decide +kernel
theorem dL_turn_98 : decode cL_turn 98 = .ok (.aload_n 1, 1) := by decide +kernel
theorem dL_turn_99 : decode cL_turn 99 = .ok (.iload_n 3, 1) := by decide +kernel
theorem dL_turn_100 : decode cL_turn 100 = .ok (.iconst 1, 1) := by decide +kernel
theorem dL_turn_101 : decode cL_turn 101 = .ok (.iadd, 1) := by decide +kernel
theorem dL_turn_102 : decode cL_turn 102 = .ok (.iaload, 1) := by decide +kernel
theorem dL_turn_103 : decode cL_turn 103 = .ok (.iastore, 1) := by decide +kernel
theorem dL_turn_104 : decode cL_turn 104 = .ok (.aload_n 1, 1) := by decide +kernel
theorem dL_turn_105 : decode cL_turn 105 = .ok (.iload_n 3, 1) := by decide +kernel
theorem dL_turn_106 : decode cL_turn 106 = .ok (.iconst 1, 1) := by decide +kernel
theorem dL_turn_107 : decode cL_turn 107 = .ok (.iadd, 1) := by decide +kernel
theorem dL_turn_108 : decode cL_turn 108 = .ok (.iload 5, 2) := by decide +kernel
theorem dL_turn_110 : decode cL_turn 110 = .ok (.iastore, 1) := by decide +kernel
theorem dL_turn_111 : decode cL_turn 111 = .ok (.return_, 1) := by decide +kernel
theorem dL_same_0 : decode cL_same 0 = .ok (.bipush 12, 2) := by decide +kernel
theorem dL_same_2 : decode cL_same 2 = .ok (.iload_n 1, 1) := by decide +kernel
theorem dL_same_3 : decode cL_same 3 = .ok (.imul, 1) := by decide +kernel
theorem dL_same_4 : decode cL_same 4 = .ok (.istore 7, 2) := by decide +kernel
theorem dL_same_6 : decode cL_same 6 = .ok (.iload_n 1, 1) := by decide +kernel
theorem dL_same_7 : decode cL_same 7 = .ok (.aload_n 3, 1) := by decide +kernel
theorem dL_same_8 : decode cL_same 8 = .ok (.invokestatic 16, 3) := by decide +kernel
theorem dL_same_11 : decode cL_same 11 = .ok (.istore 8, 2) := by decide +kernel
theorem dL_same_13 : decode cL_same 13 = .ok (.sipush 999, 3) := by decide +kernel
theorem dL_same_16 : decode cL_same 16 = .ok (.istore 9, 2) := by decide +kernel
theorem dL_same_18 : decode cL_same 18 = .ok (.iconst 0, 1) := by decide +kernel
theorem dL_same_19 : decode cL_same 19 = .ok (.istore 10, 2) := by decide +kernel
theorem dL_same_21 : decode cL_same 21 = .ok (.iconst 0, 1) := by decide +kernel
theorem dL_same_22 : decode cL_same 22 = .ok (.istore 11, 2) := by decide +kernel
theorem dL_same_24 : decode cL_same 24 = .ok (.iconst 0, 1) := by decide +kernel
theorem dL_same_25 : decode cL_same 25 = .ok (.istore 12, 2) := by decide +kernel
theorem dL_same_27 : decode cL_same 27 = .ok (.iload 12, 2) := by decide +kernel
theorem dL_same_29 : decode cL_same 29 = .ok (.iload 8, 2) := by decide +kernel
theorem dL_same_31 : decode cL_same 31 = .ok (.if_icmp .ge 173, 3) := by decide +kernel
theorem dL_same_34 : decode cL_same 34 = .ok (.iconst 1, 1) := by decide +kernel
theorem dL_same_35 : decode cL_same 35 = .ok (.istore 13, 2) := by decide +kernel
theorem dL_same_37 : decode cL_same 37 = .ok (.iconst 0, 1) := by decide +kernel
theorem dL_same_38 : decode cL_same 38 = .ok (.istore 14, 2) := by decide +kernel
theorem dL_same_40 : decode cL_same 40 = .ok (.iload 14, 2) := by decide +kernel
theorem dL_same_42 : decode cL_same 42 = .ok (.iload 12, 2) := by decide +kernel
theorem dL_same_44 : decode cL_same 44 = .ok (.if_icmp .ge 42, 3) := by decide +kernel
theorem dL_same_47 : decode cL_same 47 = .ok (.iload 13, 2) := by decide +kernel
theorem dL_same_49 : decode cL_same 49 = .ok (.ifCond .eq 28, 3) := by decide +kernel
theorem dL_same_52 : decode cL_same 52 = .ok (.aload_n 3, 1) := by decide +kernel
theorem dL_same_53 : decode cL_same 53 = .ok (.iload 7, 2) := by decide +kernel
theorem dL_same_55 : decode cL_same 55 = .ok (.iconst 2, 1) := by decide +kernel
theorem dL_same_56 : decode cL_same 56 = .ok (.iadd, 1) := by decide +kernel
theorem dL_same_57 : decode cL_same 57 = .ok (.iload 14, 2) := by decide +kernel
theorem dL_same_59 : decode cL_same 59 = .ok (.iadd, 1) := by decide +kernel
theorem dL_same_60 : decode cL_same 60 = .ok (.iaload, 1) := by decide +kernel
theorem dL_same_61 : decode cL_same 61 = .ok (.aload_n 3, 1) := by decide +kernel
theorem dL_same_62 : decode cL_same 62 = .ok (.iload 7, 2) := by decide +kernel
theorem dL_same_64 : decode cL_same 64 = .ok (.iconst 2, 1) := by decide +kernel
theorem dL_same_65 : decode cL_same 65 = .ok (.iadd, 1) := by decide +kernel
theorem dL_same_66 : decode cL_same 66 = .ok (.iload 12, 2) := by decide +kernel
theorem dL_same_68 : decode cL_same 68 = .ok (.iadd, 1) := by decide +kernel
theorem dL_same_69 : decode cL_same 69 = .ok (.iaload, 1) := by decide +kernel
theorem dL_same_70 : decode cL_same 70 = .ok (.if_icmp .eq 7, 3) := by decide +kernel
theorem dL_same_73 : decode cL_same 73 = .ok (.iconst 1, 1) := by decide +kernel
theorem dL_same_74 : decode cL_same 74 = .ok (.goto 4, 3) := by decide +kernel
theorem dL_same_77 : decode cL_same 77 = .ok (.iconst 0, 1) := by decide +kernel
theorem dL_same_78 : decode cL_same 78 = .ok (.istore 13, 2) := by decide +kernel
theorem dL_same_80 : decode cL_same 80 = .ok (.iinc 14 1, 3) := by decide +kernel
theorem dL_same_83 : decode cL_same 83 = .ok (.goto (-43), 3) := by decide +kernel
theorem dL_same_86 : decode cL_same 86 = .ok (.iload 11, 2) := by decide +kernel
theorem dL_same_88 : decode cL_same 88 = .ok (.iload 13, 2) := by decide +kernel
theorem dL_same_90 : decode cL_same 90 = .ok (.ifCond .eq 7, 3) := by decide +kernel
theorem dL_same_93 : decode cL_same 93 = .ok (.iconst 1, 1) := by decide +kernel
theorem dL_same_94 : decode cL_same 94 = .ok (.goto 4, 3) := by decide +kernel
theorem dL_same_97 : decode cL_same 97 = .ok (.iconst 0, 1) := by decide +kernel
theorem dL_same_98 : decode cL_same 98 = .ok (.iadd, 1) := by decide +kernel
theorem dL_same_99 : decode cL_same 99 = .ok (.istore 11, 2) := by decide +kernel
theorem dL_same_101 : decode cL_same 101 = .ok (.aload_n 3, 1) := by decide +kernel
theorem dL_same_102 : decode cL_same 102 = .ok (.iload 7, 2) := by decide +kernel
theorem dL_same_104 : decode cL_same 104 = .ok (.iconst 2, 1) := by decide +kernel
theorem dL_same_105 : decode cL_same 105 = .ok (.iadd, 1) := by decide +kernel
theorem dL_same_106 : decode cL_same 106 = .ok (.iload 12, 2) := by decide +kernel
theorem dL_same_108 : decode cL_same 108 = .ok (.iadd, 1) := by decide +kernel
theorem dL_same_109 : decode cL_same 109 = .ok (.iaload, 1) := by decide +kernel
theorem dL_same_110 : decode cL_same 110 = .ok (.iload 9, 2) := by decide +kernel
theorem dL_same_112 : decode cL_same 112 = .ok (.if_icmp .ge 15, 3) := by decide +kernel
theorem dL_same_115 : decode cL_same 115 = .ok (.aload_n 3, 1) := by decide +kernel
theorem dL_same_116 : decode cL_same 116 = .ok (.iload 7, 2) := by decide +kernel
theorem dL_same_118 : decode cL_same 118 = .ok (.iconst 2, 1) := by decide +kernel
theorem dL_same_119 : decode cL_same 119 = .ok (.iadd, 1) := by decide +kernel
theorem dL_same_120 : decode cL_same 120 = .ok (.iload 12, 2) := by decide +kernel
theorem dL_same_122 : decode cL_same 122 = .ok (.iadd, 1) := by decide +kernel
theorem dL_same_123 : decode cL_same 123 = .ok (.iaload, 1) := by decide +kernel
theorem dL_same_124 : decode cL_same 124 = .ok (.goto 5, 3) := by decide +kernel
theorem dL_same_127 : decode cL_same 127 = .ok (.iload 9, 2) := by decide +kernel
theorem dL_same_129 : decode cL_same 129 = .ok (.istore 9, 2) := by decide +kernel
theorem dL_same_131 : decode cL_same 131 = .ok (.aload_n 3, 1) := by decide +kernel
theorem dL_same_132 : decode cL_same 132 = .ok (.iload 7, 2) := by decide +kernel
theorem dL_same_134 : decode cL_same 134 = .ok (.iconst 2, 1) := by decide +kernel
theorem dL_same_135 : decode cL_same 135 = .ok (.iadd, 1) := by decide +kernel
theorem dL_same_136 : decode cL_same 136 = .ok (.iload 12, 2) := by decide +kernel
theorem dL_same_138 : decode cL_same 138 = .ok (.iadd, 1) := by decide +kernel
theorem dL_same_139 : decode cL_same 139 = .ok (.iaload, 1) := by decide +kernel
theorem dL_same_140 : decode cL_same 140 = .ok (.iload 10, 2) := by decide +kernel
theorem dL_same_142 : decode cL_same 142 = .ok (.if_icmp .le 15, 3) := by decide +kernel
theorem dL_same_145 : decode cL_same 145 = .ok (.aload_n 3, 1) := by decide +kernel
theorem dL_same_146 : decode cL_same 146 = .ok (.iload 7, 2) := by decide +kernel
theorem dL_same_148 : decode cL_same 148 = .ok (.iconst 2, 1) := by decide +kernel
theorem dL_same_149 : decode cL_same 149 = .ok (.iadd, 1) := by decide +kernel
theorem dL_same_150 : decode cL_same 150 = .ok (.iload 12, 2) := by decide +kernel
theorem dL_same_152 : decode cL_same 152 = .ok (.iadd, 1) := by decide +kernel
theorem dL_same_153 : decode cL_same 153 = .ok (.iaload, 1) := by decide +kernel
theorem dL_same_154 : decode cL_same 154 = .ok (.goto 5, 3) := by decide +kernel
theorem dL_same_157 : decode cL_same 157 = .ok (.iload 10, 2) := by decide +kernel
theorem dL_same_159 : decode cL_same 159 = .ok (.istore 10, 2) := by decide +kernel
theorem dL_same_161 : decode cL_same 161 = .ok (.aload_n 0, 1) := by decide +kernel
theorem dL_same_162 : decode cL_same 162 = .ok (.iload_n 1, 1) := by decide +kernel
theorem dL_same_163 : decode cL_same 163 = .ok (.iload 12, 2) := by decide +kernel
theorem dL_same_165 : decode cL_same 165 = .ok (.aload_n 3, 1) := by decide +kernel
theorem dL_same_166 : decode cL_same 166 = .ok (.iload 7, 2) := by decide +kernel
theorem dL_same_168 : decode cL_same 168 = .ok (.iconst 1, 1) := by decide +kernel
theorem dL_same_169 : decode cL_same 169 = .ok (.iadd, 1) := by decide +kernel
theorem dL_same_170 : decode cL_same 170 = .ok (.iaload, 1) := by decide +kernel
theorem dL_same_171 : decode cL_same 171 = .ok (.idiv, 1) := by decide +kernel
theorem dL_same_172 : decode cL_same 172 = .ok (.iload 12, 2) := by decide +kernel
theorem dL_same_174 : decode cL_same 174 = .ok (.aload_n 3, 1) := by decide +kernel
theorem dL_same_175 : decode cL_same 175 = .ok (.iload 7, 2) := by decide +kernel
theorem dL_same_177 : decode cL_same 177 = .ok (.iconst 1, 1) := by decide +kernel
theorem dL_same_178 : decode cL_same 178 = .ok (.iadd, 1) := by decide +kernel
theorem dL_same_179 : decode cL_same 179 = .ok (.iaload, 1) := by decide +kernel
theorem dL_same_180 : decode cL_same 180 = .ok (.irem, 1) := by decide +kernel
theorem dL_same_181 : decode cL_same 181 = .ok (.invokevirtual 35, 3) := by decide +kernel
theorem dL_same_184 : decode cL_same 184 = .ok (.aload_n 3, 1) := by decide +kernel
theorem dL_same_185 : decode cL_same 185 = .ok (.iload 7, 2) := by decide +kernel
theorem dL_same_187 : decode cL_same 187 = .ok (.iconst 2, 1) := by decide +kernel
theorem dL_same_188 : decode cL_same 188 = .ok (.iadd, 1) := by decide +kernel
theorem dL_same_189 : decode cL_same 189 = .ok (.iload 12, 2) := by decide +kernel
theorem dL_same_191 : decode cL_same 191 = .ok (.iadd, 1) := by decide +kernel
theorem dL_same_192 : decode cL_same 192 = .ok (.iaload, 1) := by decide +kernel
theorem dL_same_193 : decode cL_same 193 = .ok (.if_icmp .eq 5, 3) := by decide +kernel
theorem dL_same_196 : decode cL_same 196 = .ok (.iconst 0, 1) := by decide +kernel
theorem dL_same_197 : decode cL_same 197 = .ok (.ireturn, 1) := by decide +kernel
theorem dL_same_198 : decode cL_same 198 = .ok (.iinc 12 1, 3) := by decide +kernel
theorem dL_same_201 : decode cL_same 201 = .ok (.goto (-174), 3) := by decide +kernel
theorem dL_same_204 : decode cL_same 204 = .ok (.aload_n 0, 1) := by decide +kernel
theorem dL_same_205 : decode cL_same 205 = .ok (.iload_n 1, 1) := by decide +kernel
theorem dL_same_206 : decode cL_same 206 = .ok (.iconst 0, 1) := by decide +kernel
theorem dL_same_207 : decode cL_same 207 = .ok (.invokevirtual 41, 3) := by decide +kernel
theorem dL_same_210 : decode cL_same 210 = .ok (.aload_n 3, 1) := by decide +kernel
theorem dL_same_211 : decode cL_same 211 = .ok (.iload 7, 2) := by decide +kernel
theorem dL_same_213 : decode cL_same 213 = .ok (.iaload, 1) := by decide +kernel
theorem dL_same_214 : decode cL_same 214 = .ok (.if_icmp .ne 76, 3) := by decide +kernel
theorem dL_same_217 : decode cL_same 217 = .ok (.aload_n 0, 1) := by decide +kernel
theorem dL_same_218 : decode cL_same 218 = .ok (.iload_n 1, 1) := by decide +kernel
theorem dL_same_219 : decode cL_same 219 = .ok (.iconst 1, 1) := by decide +kernel
theorem dL_same_220 : decode cL_same 220 = .ok (.invokevirtual 41, 3) := by decide +kernel
theorem dL_same_223 : decode cL_same 223 = .ok (.aload_n 3, 1) := by decide +kernel
theorem dL_same_224 : decode cL_same 224 = .ok (.iload 7, 2) := by decide +kernel
theorem dL_same_226 : decode cL_same 226 = .ok (.iconst 1, 1) := by decide +kernel
theorem dL_same_227 : decode cL_same 227 = .ok (.iadd, 1) := by decide +kernel
theorem dL_same_228 : decode cL_same 228 = .ok (.iaload, 1) := by decide +kernel
theorem dL_same_229 : decode cL_same 229 = .ok (.if_icmp .ne 61, 3) := by decide +kernel
theorem dL_same_232 : decode cL_same 232 = .ok (.aload_n 0, 1) := by decide +kernel
theorem dL_same_233 : decode cL_same 233 = .ok (.iload_n 1, 1) := by decide +kernel
theorem dL_same_234 : decode cL_same 234 = .ok (.iconst 2, 1) := by decide +kernel
theorem dL_same_235 : decode cL_same 235 = .ok (.invokevirtual 41, 3) := by decide +kernel
theorem dL_same_238 : decode cL_same 238 = .ok (.iload 10, 2) := by decide +kernel
theorem dL_same_240 : decode cL_same 240 = .ok (.if_icmp .ne 50, 3) := by decide +kernel
theorem dL_same_243 : decode cL_same 243 = .ok (.aload_n 0, 1) := by decide +kernel
theorem dL_same_244 : decode cL_same 244 = .ok (.iload_n 1, 1) := by decide +kernel
theorem dL_same_245 : decode cL_same 245 = .ok (.iconst 3, 1) := by decide +kernel
theorem dL_same_246 : decode cL_same 246 = .ok (.invokevirtual 41, 3) := by decide +kernel
theorem dL_same_249 : decode cL_same 249 = .ok (.iload 9, 2) := by decide +kernel
theorem dL_same_251 : decode cL_same 251 = .ok (.if_icmp .ne 39, 3) := by decide +kernel
theorem dL_same_254 : decode cL_same 254 = .ok (.aload_n 0, 1) := by decide +kernel
theorem dL_same_255 : decode cL_same 255 = .ok (.iload_n 1, 1) := by decide +kernel
theorem dL_same_256 : decode cL_same 256 = .ok (.iconst 4, 1) := by decide +kernel
theorem dL_same_257 : decode cL_same 257 = .ok (.invokevirtual 41, 3) := by decide +kernel
theorem dL_same_260 : decode cL_same 260 = .ok (.iload 11, 2) := by decide +kernel
theorem dL_same_262 : decode cL_same 262 = .ok (.if_icmp .ne 28, 3) := by decide +kernel
theorem dL_same_265 : decode cL_same 265 = .ok (.aload_n 0, 1) := by decide +kernel
theorem dL_same_266 : decode cL_same 266 = .ok (.iconst 0, 1) := by decide +kernel
theorem dL_same_267 : decode cL_same 267 = .ok (.invokevirtual 45, 3) := by decide +kernel
theorem dL_same_270 : decode cL_same 270 = .ok (.iconst 0, 1) := by decide +kernel
theorem dL_same_271 : decode cL_same 271 = .ok (.aload_n 3, 1) := by decide +kernel
theorem dL_same_272 : decode cL_same 272 = .ok (.invokestatic 16, 3) := by decide +kernel
theorem dL_same_275 : decode cL_same 275 = .ok (.iconst 1, 1) := by decide +kernel
theorem dL_same_276 : decode cL_same 276 = .ok (.aload_n 3, 1) := by decide +kernel
theorem dL_same_277 : decode cL_same 277 = .ok (.invokestatic 16, 3) := by decide +kernel
theorem dL_same_280 : decode cL_same 280 = .ok (.iadd, 1) := by decide +kernel
theorem dL_same_281 : decode cL_same 281 = .ok (.iconst 2, 1) := by decide +kernel
theorem dL_same_282 : decode cL_same 282 = .ok (.aload_n 3, 1) := by decide +kernel
theorem dL_same_283 : decode cL_same 283 = .ok (.invokestatic 16, 3) := by decide +kernel
theorem dL_same_286 : decode cL_same 286 = .ok (.iadd, 1) := by decide +kernel
theorem dL_same_287 : decode cL_same 287 = .ok (.if_icmp .eq 5, 3) := by decide +kernel
theorem dL_same_290 : decode cL_same 290 = .ok (.iconst 0, 1) := by decide +kernel
theorem dL_same_291 : decode cL_same 291 = .ok (.ireturn, 1) := by decide +kernel
theorem dL_same_292 : decode cL_same 292 = .ok (.iconst 0, 1) := by decide +kernel
theorem dL_same_293 : decode cL_same 293 = .ok (.istore 12, 2) := by decide +kernel
theorem dL_same_295 : decode cL_same 295 = .ok (.iconst 0, 1) := by decide +kernel
theorem dL_same_296 : decode cL_same 296 = .ok (.istore 13, 2) := by decide +kernel
theorem dL_same_298 : decode cL_same 298 = .ok (.iconst 0, 1) := by decide +kernel
theorem dL_same_299 : decode cL_same 299 = .ok (.istore 14, 2) := by decide +kernel
theorem dL_same_301 : decode cL_same 301 = .ok (.iconst 0, 1) := by decide +kernel
theorem dL_same_302 : decode cL_same 302 = .ok (.istore 15, 2) := by decide +kernel
theorem dL_same_304 : decode cL_same 304 = .ok (.iconst 1, 1) := by decide +kernel
theorem dL_same_305 : decode cL_same 305 = .ok (.aload_n 3, 1) := by decide +kernel
theorem dL_same_306 : decode cL_same 306 = .ok (.iload 7, 2) := by decide +kernel
theorem dL_same_308 : decode cL_same 308 = .ok (.iaload, 1) := by decide +kernel
theorem dL_same_309 : decode cL_same 309 = .ok (.ishl, 1) := by decide +kernel
theorem dL_same_310 : decode cL_same 310 = .ok (.iconst 1, 1) := by decide +kernel
theorem dL_same_311 : decode cL_same 311 = .ok (.isub, 1) := by decide +kernel
theorem dL_same_312 : decode cL_same 312 = .ok (.istore 16, 2) := by decide +kernel
theorem dL_same_314 : decode cL_same 314 = .ok (.iload 16, 2) := by decide +kernel
theorem dL_same_316 : decode cL_same 316 = .ok (.ifCond .le 161, 3) := by decide +kernel
theorem dL_same_319 : decode cL_same 319 = .ok (.iconst 1, 1) := by decide +kernel
theorem dL_same_320 : decode cL_same 320 = .ok (.aload_n 3, 1) := by decide +kernel
theorem dL_same_321 : decode cL_same 321 = .ok (.iload 7, 2) := by decide +kernel
theorem dL_same_323 : decode cL_same 323 = .ok (.iconst 1, 1) := by decide +kernel
theorem dL_same_324 : decode cL_same 324 = .ok (.iadd, 1) := by decide +kernel
theorem dL_same_325 : decode cL_same 325 = .ok (.iaload, 1) := by decide +kernel
theorem dL_same_326 : decode cL_same 326 = .ok (.ishl, 1) := by decide +kernel
theorem dL_same_327 : decode cL_same 327 = .ok (.iconst 1, 1) := by decide +kernel
theorem dL_same_328 : decode cL_same 328 = .ok (.isub, 1) := by decide +kernel
theorem dL_same_329 : decode cL_same 329 = .ok (.istore 17, 2) := by decide +kernel
theorem dL_same_331 : decode cL_same 331 = .ok (.iload 17, 2) := by decide +kernel
theorem dL_same_333 : decode cL_same 333 = .ok (.ifCond .le 138, 3) := by decide +kernel
theorem dL_same_336 : decode cL_same 336 = .ok (.iload 16, 2) := by decide +kernel
theorem dL_same_338 : decode cL_same 338 = .ok (.invokestatic 25, 3) := by decide +kernel
theorem dL_same_341 : decode cL_same 341 = .ok (.iload 17, 2) := by decide +kernel
theorem dL_same_343 : decode cL_same 343 = .ok (.invokestatic 25, 3) := by decide +kernel
theorem dL_same_346 : decode cL_same 346 = .ok (.if_icmp .eq 6, 3) := by decide +kernel
theorem dL_same_349 : decode cL_same 349 = .ok (.goto 116, 3) := by decide +kernel
theorem dL_same_352 : decode cL_same 352 = .ok (.iload_n 1, 1) := by decide +kernel
theorem dL_same_353 : decode cL_same 353 = .ok (.iload 16, 2) := by decide +kernel
theorem dL_same_355 : decode cL_same 355 = .ok (.iload 17, 2) := by decide +kernel
theorem dL_same_357 : decode cL_same 357 = .ok (.aload_n 3, 1) := by decide +kernel
theorem dL_same_358 : decode cL_same 358 = .ok (.invokestatic 48, 3) := by decide +kernel
theorem dL_same_361 : decode cL_same 361 = .ok (.istore 18, 2) := by decide +kernel
theorem dL_same_363 : decode cL_same 363 = .ok (.iload 16, 2) := by decide +kernel
theorem dL_same_365 : decode cL_same 365 = .ok (.bipush 16, 2) := by decide +kernel
theorem dL_same_367 : decode cL_same 367 = .ok (.imul, 1) := by decide +kernel
theorem dL_same_368 : decode cL_same 368 = .ok (.iload 17, 2) := by decide +kernel
theorem dL_same_370 : decode cL_same 370 = .ok (.iadd, 1) := by decide +kernel
theorem dL_same_371 : decode cL_same 371 = .ok (.iload_n 2, 1) := by decide +kernel
theorem dL_same_372 : decode cL_same 372 = .ok (.sipush 200, 3) := by decide +kernel
theorem dL_same_375 : decode cL_same 375 = .ok (.invokestatic 51, 3) := by decide +kernel
theorem dL_same_378 : decode cL_same 378 = .ok (.if_icmp .ne 43, 3) := by decide +kernel
theorem dL_same_381 : decode cL_same 381 = .ok (.aload_n 0, 1) := by decide +kernel
theorem dL_same_382 : decode cL_same 382 = .ok (.iload_n 1, 1) := by decide +kernel
theorem dL_same_383 : decode cL_same 383 = .ok (.iload 16, 2) := by decide +kernel
theorem dL_same_385 : decode cL_same 385 = .ok (.iload 17, 2) := by decide +kernel
theorem dL_same_387 : decode cL_same 387 = .ok (.iconst 0, 1) := by decide +kernel
theorem dL_same_388 : decode cL_same 388 = .ok (.invokevirtual 54, 3) := by decide +kernel
theorem dL_same_391 : decode cL_same 391 = .ok (.iload 18, 2) := by decide +kernel
theorem dL_same_393 : decode cL_same 393 = .ok (.sipush 10000, 3) := by decide +kernel
theorem dL_same_396 : decode cL_same 396 = .ok (.irem, 1) := by decide +kernel
theorem dL_same_397 : decode cL_same 397 = .ok (.if_icmp .ne 22, 3) := by decide +kernel
theorem dL_same_400 : decode cL_same 400 = .ok (.aload_n 0, 1) := by decide +kernel
theorem dL_same_401 : decode cL_same 401 = .ok (.iload_n 1, 1) := by decide +kernel
theorem dL_same_402 : decode cL_same 402 = .ok (.iload 16, 2) := by decide +kernel
theorem dL_same_404 : decode cL_same 404 = .ok (.iload 17, 2) := by decide +kernel
theorem dL_same_406 : decode cL_same 406 = .ok (.iconst 1, 1) := by decide +kernel
theorem dL_same_407 : decode cL_same 407 = .ok (.invokevirtual 54, 3) := by decide +kernel
theorem dL_same_410 : decode cL_same 410 = .ok (.iload 18, 2) := by decide +kernel
theorem dL_same_412 : decode cL_same 412 = .ok (.sipush 10000, 3) := by decide +kernel
theorem dL_same_415 : decode cL_same 415 = .ok (.idiv, 1) := by decide +kernel
theorem dL_same_416 : decode cL_same 416 = .ok (.if_icmp .eq 5, 3) := by decide +kernel
theorem dL_same_419 : decode cL_same 419 = .ok (.iconst 0, 1) := by decide +kernel
theorem dL_same_420 : decode cL_same 420 = .ok (.ireturn, 1) := by decide +kernel
theorem dL_same_421 : decode cL_same 421 = .ok (.iload 18, 2) := by decide +kernel
theorem dL_same_423 : decode cL_same 423 = .ok (.sipush 10000, 3) := by decide +kernel
theorem dL_same_426 : decode cL_same 426 = .ok (.idiv, 1) := by decide +kernel
theorem dL_same_427 : decode cL_same 427 = .ok (.iconst 1, 1) := by decide +kernel
theorem dL_same_428 : decode cL_same 428 = .ok (.if_icmp .eq 6, 3) := by decide +kernel
theorem dL_same_431 : decode cL_same 431 = .ok (.goto 34, 3) := by decide +kernel
theorem dL_same_434 : decode cL_same 434 = .ok (.iinc 15 1, 3) := by decide +kernel
theorem dL_same_437 : decode cL_same 437 = .ok (.iload 16, 2) := by decide +kernel
theorem dL_same_439 : decode cL_same 439 = .ok (.invokestatic 25, 3) := by decide +kernel
theorem dL_same_442 : decode cL_same 442 = .ok (.iload 12, 2) := by decide +kernel
theorem dL_same_444 : decode cL_same 444 = .ok (.if_icmp .ge 6, 3) := by decide +kernel
theorem dL_same_447 : decode cL_same 447 = .ok (.goto 18, 3) := by decide +kernel
theorem dL_same_450 : decode cL_same 450 = .ok (.iload 16, 2) := by decide +kernel
theorem dL_same_452 : decode cL_same 452 = .ok (.invokestatic 25, 3) := by decide +kernel
theorem dL_same_455 : decode cL_same 455 = .ok (.istore 12, 2) := by decide +kernel
theorem dL_same_457 : decode cL_same 457 = .ok (.iload 16, 2) := by decide +kernel
theorem dL_same_459 : decode cL_same 459 = .ok (.istore 13, 2) := by decide +kernel
theorem dL_same_461 : decode cL_same 461 = .ok (.iload 17, 2) := by decide +kernel
theorem dL_same_463 : decode cL_same 463 = .ok (.istore 14, 2) := by decide +kernel
theorem dL_same_465 : decode cL_same 465 = .ok (.iinc 17 (-1), 3) := by decide +kernel
theorem dL_same_468 : decode cL_same 468 = .ok (.goto (-137), 3) := by decide +kernel
theorem dL_same_471 : decode cL_same 471 = .ok (.iinc 16 (-1), 3) := by decide +kernel
theorem dL_same_474 : decode cL_same 474 = .ok (.goto (-160), 3) := by decide +kernel
theorem dL_same_477 : decode cL_same 477 = .ok (.aload_n 0, 1) := by decide +kernel
theorem dL_same_478 : decode cL_same 478 = .ok (.iload_n 1, 1) := by decide +kernel
theorem dL_same_479 : decode cL_same 479 = .ok (.iconst 0, 1) := by decide +kernel
theorem dL_same_480 : decode cL_same 480 = .ok (.invokevirtual 58, 3) := by decide +kernel
theorem dL_same_483 : decode cL_same 483 = .ok (.iload 12, 2) := by decide +kernel
theorem dL_same_485 : decode cL_same 485 = .ok (.if_icmp .ne 36, 3) := by decide +kernel
theorem dL_same_488 : decode cL_same 488 = .ok (.aload_n 0, 1) := by decide +kernel
theorem dL_same_489 : decode cL_same 489 = .ok (.iload_n 1, 1) := by decide +kernel
theorem dL_same_490 : decode cL_same 490 = .ok (.iconst 1, 1) := by decide +kernel
theorem dL_same_491 : decode cL_same 491 = .ok (.invokevirtual 58, 3) := by decide +kernel
theorem dL_same_494 : decode cL_same 494 = .ok (.iload 13, 2) := by decide +kernel
theorem dL_same_496 : decode cL_same 496 = .ok (.if_icmp .ne 25, 3) := by decide +kernel
theorem dL_same_499 : decode cL_same 499 = .ok (.aload_n 0, 1) := by decide +kernel
theorem dL_same_500 : decode cL_same 500 = .ok (.iload_n 1, 1) := by decide +kernel
theorem dL_same_501 : decode cL_same 501 = .ok (.iconst 2, 1) := by decide +kernel
theorem dL_same_502 : decode cL_same 502 = .ok (.invokevirtual 58, 3) := by decide +kernel
theorem dL_same_505 : decode cL_same 505 = .ok (.iload 14, 2) := by decide +kernel
theorem dL_same_507 : decode cL_same 507 = .ok (.if_icmp .ne 14, 3) := by decide +kernel
theorem dL_same_510 : decode cL_same 510 = .ok (.aload_n 0, 1) := by decide +kernel
theorem dL_same_511 : decode cL_same 511 = .ok (.iload_n 1, 1) := by decide +kernel
theorem dL_same_512 : decode cL_same 512 = .ok (.iconst 3, 1) := by decide +kernel
theorem dL_same_513 : decode cL_same 513 = .ok (.invokevirtual 58, 3) := by decide +kernel
theorem dL_same_516 : decode cL_same 516 = .ok (.iload 15, 2) := by decide +kernel
theorem dL_same_518 : decode cL_same 518 = .ok (.if_icmp .eq 5, 3) := by decide +kernel
theorem dL_same_521 : decode cL_same 521 = .ok (.iconst 0, 1) := by decide +kernel
theorem dL_same_522 : decode cL_same 522 = .ok (.ireturn, 1) := by decide +kernel
theorem dL_same_523 : decode cL_same 523 = .ok (.iload_n 1, 1) := by decide +kernel
theorem dL_same_524 : decode cL_same 524 = .ok (.aload_n 3, 1) := by decide +kernel
theorem dL_same_525 : decode cL_same 525 = .ok (.aload 4, 2) := by decide +kernel
theorem dL_same_527 : decode cL_same 527 = .ok (.aload 6, 2) := by decide +kernel
theorem dL_same_529 : decode cL_same 529 = .ok (.invokestatic 61, 3) := by decide +kernel
theorem dL_same_532 : decode cL_same 532 = .ok (.istore 16, 2) := by decide +kernel
theorem dL_same_534 : decode cL_same 534 = .ok (.iload_n 1, 1) := by decide +kernel
theorem dL_same_535 : decode cL_same 535 = .ok (.aload_n 3, 1) := by decide +kernel
theorem dL_same_536 : decode cL_same 536 = .ok (.aload 6, 2) := by decide +kernel
theorem dL_same_538 : decode cL_same 538 = .ok (.aload 5, 2) := by decide +kernel
theorem dL_same_540 : decode cL_same 540 = .ok (.invokestatic 65, 3) := by decide +kernel
theorem dL_same_543 : decode cL_same 543 = .ok (.istore 17, 2) := by decide +kernel
theorem dL_same_545 : decode cL_same 545 = .ok (.iconst 0, 1) := by decide +kernel
theorem dL_same_546 : decode cL_same 546 = .ok (.istore 18, 2) := by decide +kernel
theorem dL_same_548 : decode cL_same 548 = .ok (.iconst 0, 1) := by decide +kernel
theorem dL_same_549 : decode cL_same 549 = .ok (.istore 19, 2) := by decide +kernel
theorem dL_same_551 : decode cL_same 551 = .ok (.iload 19, 2) := by decide +kernel
theorem dL_same_553 : decode cL_same 553 = .ok (.iconst 1, 1) := by decide +kernel
theorem dL_same_554 : decode cL_same 554 = .ok (.iload 8, 2) := by decide +kernel
theorem dL_same_556 : decode cL_same 556 = .ok (.ishl, 1) := by decide +kernel
theorem dL_same_557 : decode cL_same 557 = .ok (.if_icmp .ge 47, 3) := by decide +kernel
theorem dL_same_560 : decode cL_same 560 = .ok (.aload 6, 2) := by decide +kernel
theorem dL_same_562 : decode cL_same 562 = .ok (.iload 19, 2) := by decide +kernel
theorem dL_same_564 : decode cL_same 564 = .ok (.bipush 64, 2) := by decide +kernel
theorem dL_same_566 : decode cL_same 566 = .ok (.idiv, 1) := by decide +kernel
theorem dL_same_567 : decode cL_same 567 = .ok (.laload, 1) := by decide +kernel
theorem dL_same_568 : decode cL_same 568 = .ok (.iload 19, 2) := by decide +kernel
theorem dL_same_570 : decode cL_same 570 = .ok (.bipush 64, 2) := by decide +kernel
theorem dL_same_572 : decode cL_same 572 = .ok (.irem, 1) := by decide +kernel
theorem dL_same_573 : decode cL_same 573 = .ok (.lushr, 1) := by decide +kernel
theorem dL_same_574 : decode cL_same 574 = .ok (.lconst 1, 1) := by decide +kernel
theorem dL_same_575 : decode cL_same 575 = .ok (.land, 1) := by decide +kernel
theorem dL_same_576 : decode cL_same 576 = .ok (.lconst 1, 1) := by decide +kernel
theorem dL_same_577 : decode cL_same 577 = .ok (.lcmp, 1) := by decide +kernel
theorem dL_same_578 : decode cL_same 578 = .ok (.ifCond .ne 20, 3) := by decide +kernel
theorem dL_same_581 : decode cL_same 581 = .ok (.iload 19, 2) := by decide +kernel
theorem dL_same_583 : decode cL_same 583 = .ok (.invokestatic 25, 3) := by decide +kernel
theorem dL_same_586 : decode cL_same 586 = .ok (.iload 18, 2) := by decide +kernel
theorem dL_same_588 : decode cL_same 588 = .ok (.if_icmp .le 10, 3) := by decide +kernel
theorem dL_same_591 : decode cL_same 591 = .ok (.iload 19, 2) := by decide +kernel
theorem dL_same_593 : decode cL_same 593 = .ok (.invokestatic 25, 3) := by decide +kernel
theorem dL_same_596 : decode cL_same 596 = .ok (.istore 18, 2) := by decide +kernel
theorem dL_same_598 : decode cL_same 598 = .ok (.iinc 19 1, 3) := by decide +kernel
theorem dL_same_601 : decode cL_same 601 = .ok (.goto (-50), 3) := by decide +kernel
theorem dL_same_604 : decode cL_same 604 = .ok (.iconst 0, 1) := by decide +kernel
theorem dL_same_605 : decode cL_same 605 = .ok (.istore 19, 2) := by decide +kernel
theorem dL_same_607 : decode cL_same 607 = .ok (.iload 19, 2) := by decide +kernel
theorem dL_same_609 : decode cL_same 609 = .ok (.iload 8, 2) := by decide +kernel
theorem dL_same_611 : decode cL_same 611 = .ok (.if_icmp .ge 26, 3) := by decide +kernel
theorem dL_same_614 : decode cL_same 614 = .ok (.aload_n 0, 1) := by decide +kernel
theorem dL_same_615 : decode cL_same 615 = .ok (.iload_n 1, 1) := by decide +kernel
theorem dL_same_616 : decode cL_same 616 = .ok (.iload 19, 2) := by decide +kernel
theorem dL_same_618 : decode cL_same 618 = .ok (.invokevirtual 69, 3) := by decide +kernel
theorem dL_same_621 : decode cL_same 621 = .ok (.aload 5, 2) := by decide +kernel
theorem dL_same_623 : decode cL_same 623 = .ok (.iload 19, 2) := by decide +kernel
theorem dL_same_625 : decode cL_same 625 = .ok (.iaload, 1) := by decide +kernel
theorem dL_same_626 : decode cL_same 626 = .ok (.if_icmp .eq 5, 3) := by decide +kernel
theorem dL_same_629 : decode cL_same 629 = .ok (.iconst 0, 1) := by decide +kernel
theorem dL_same_630 : decode cL_same 630 = .ok (.ireturn, 1) := by decide +kernel
theorem dL_same_631 : decode cL_same 631 = .ok (.iinc 19 1, 3) := by decide +kernel
theorem dL_same_634 : decode cL_same 634 = .ok (.goto (-27), 3) := by decide +kernel
theorem dL_same_637 : decode cL_same 637 = .ok (.iload_n 2, 1) := by decide +kernel
theorem dL_same_638 : decode cL_same 638 = .ok (.iconst 3, 1) := by decide +kernel
theorem dL_same_639 : decode cL_same 639 = .ok (.ishr, 1) := by decide +kernel
theorem dL_same_640 : decode cL_same 640 = .ok (.iconst 1, 1) := by decide +kernel
theorem dL_same_641 : decode cL_same 641 = .ok (.iload 8, 2) := by decide +kernel
theorem dL_same_643 : decode cL_same 643 = .ok (.ishl, 1) := by decide +kernel
theorem dL_same_644 : decode cL_same 644 = .ok (.invokestatic 51, 3) := by decide +kernel
theorem dL_same_647 : decode cL_same 647 = .ok (.istore 19, 2) := by decide +kernel
theorem dL_same_649 : decode cL_same 649 = .ok (.aload_n 0, 1) := by decide +kernel
theorem dL_same_650 : decode cL_same 650 = .ok (.iload_n 1, 1) := by decide +kernel
theorem dL_same_651 : decode cL_same 651 = .ok (.iload 19, 2) := by decide +kernel
theorem dL_same_653 : decode cL_same 653 = .ok (.invokevirtual 72, 3) := by decide +kernel
theorem dL_same_656 : decode cL_same 656 = .ok (.aload 6, 2) := by decide +kernel
theorem dL_same_658 : decode cL_same 658 = .ok (.iload 19, 2) := by decide +kernel
theorem dL_same_660 : decode cL_same 660 = .ok (.bipush 64, 2) := by decide +kernel
theorem dL_same_662 : decode cL_same 662 = .ok (.idiv, 1) := by decide +kernel
theorem dL_same_663 : decode cL_same 663 = .ok (.laload, 1) := by decide +kernel
theorem dL_same_664 : decode cL_same 664 = .ok (.iload 19, 2) := by decide +kernel
theorem dL_same_666 : decode cL_same 666 = .ok (.bipush 64, 2) := by decide +kernel
theorem dL_same_668 : decode cL_same 668 = .ok (.irem, 1) := by decide +kernel
theorem dL_same_669 : decode cL_same 669 = .ok (.lushr, 1) := by decide +kernel
theorem dL_same_670 : decode cL_same 670 = .ok (.lconst 1, 1) := by decide +kernel
theorem dL_same_671 : decode cL_same 671 = .ok (.land, 1) := by decide +kernel
theorem dL_same_672 : decode cL_same 672 = .ok (.l2i, 1) := by decide +kernel
theorem dL_same_673 : decode cL_same 673 = .ok (.if_icmp .ne 36, 3) := by decide +kernel
theorem dL_same_676 : decode cL_same 676 = .ok (.aload_n 0, 1) := by decide +kernel
theorem dL_same_677 : decode cL_same 677 = .ok (.iload_n 1, 1) := by decide +kernel
theorem dL_same_678 : decode cL_same 678 = .ok (.iconst 0, 1) := by decide +kernel
theorem dL_same_679 : decode cL_same 679 = .ok (.invokevirtual 75, 3) := by decide +kernel
theorem dL_same_682 : decode cL_same 682 = .ok (.iload 17, 2) := by decide +kernel
theorem dL_same_684 : decode cL_same 684 = .ok (.if_icmp .ne 25, 3) := by decide +kernel
theorem dL_same_687 : decode cL_same 687 = .ok (.aload_n 0, 1) := by decide +kernel
theorem dL_same_688 : decode cL_same 688 = .ok (.iload_n 1, 1) := by decide +kernel
theorem dL_same_689 : decode cL_same 689 = .ok (.iconst 1, 1) := by decide +kernel
theorem dL_same_690 : decode cL_same 690 = .ok (.invokevirtual 75, 3) := by decide +kernel
theorem dL_same_693 : decode cL_same 693 = .ok (.iload 16, 2) := by decide +kernel
theorem dL_same_695 : decode cL_same 695 = .ok (.if_icmp .ne 14, 3) := by decide +kernel
theorem dL_same_698 : decode cL_same 698 = .ok (.aload_n 0, 1) := by decide +kernel
theorem dL_same_699 : decode cL_same 699 = .ok (.iload_n 1, 1) := by decide +kernel
theorem dL_same_700 : decode cL_same 700 = .ok (.iconst 2, 1) := by decide +kernel
theorem dL_same_701 : decode cL_same 701 = .ok (.invokevirtual 75, 3) := by decide +kernel
theorem dL_same_704 : decode cL_same 704 = .ok (.iload 18, 2) := by decide +kernel
theorem dL_same_706 : decode cL_same 706 = .ok (.if_icmp .eq 5, 3) := by decide +kernel
theorem dL_same_709 : decode cL_same 709 = .ok (.iconst 0, 1) := by decide +kernel
theorem dL_same_710 : decode cL_same 710 = .ok (.ireturn, 1) := by decide +kernel
theorem dL_same_711 : decode cL_same 711 = .ok (.iload_n 2, 1) := by decide +kernel
theorem dL_same_712 : decode cL_same 712 = .ok (.iconst 5, 1) := by decide +kernel
theorem dL_same_713 : decode cL_same 713 = .ok (.ishr, 1) := by decide +kernel
theorem dL_same_714 : decode cL_same 714 = .ok (.aload_n 3, 1) := by decide +kernel
theorem dL_same_715 : decode cL_same 715 = .ok (.iload 7, 2) := by decide +kernel
theorem dL_same_717 : decode cL_same 717 = .ok (.iconst 1, 1) := by decide +kernel
theorem dL_same_718 : decode cL_same 718 = .ok (.iadd, 1) := by decide +kernel
theorem dL_same_719 : decode cL_same 719 = .ok (.iaload, 1) := by decide +kernel
theorem dL_same_720 : decode cL_same 720 = .ok (.invokestatic 51, 3) := by decide +kernel
theorem dL_same_723 : decode cL_same 723 = .ok (.istore 20, 2) := by decide +kernel
theorem dL_same_725 : decode cL_same 725 = .ok (.iload_n 2, 1) := by decide +kernel
theorem dL_same_726 : decode cL_same 726 = .ok (.bipush 7, 2) := by decide +kernel
theorem dL_same_728 : decode cL_same 728 = .ok (.ishr, 1) := by decide +kernel
theorem dL_same_729 : decode cL_same 729 = .ok (.iconst 1, 1) := by decide +kernel
theorem dL_same_730 : decode cL_same 730 = .ok (.aload_n 3, 1) := by decide +kernel
theorem dL_same_731 : decode cL_same 731 = .ok (.iload 7, 2) := by decide +kernel
theorem dL_same_733 : decode cL_same 733 = .ok (.iconst 1, 1) := by decide +kernel
theorem dL_same_734 : decode cL_same 734 = .ok (.iadd, 1) := by decide +kernel
theorem dL_same_735 : decode cL_same 735 = .ok (.iaload, 1) := by decide +kernel
theorem dL_same_736 : decode cL_same 736 = .ok (.ishl, 1) := by decide +kernel
theorem dL_same_737 : decode cL_same 737 = .ok (.invokestatic 51, 3) := by decide +kernel
theorem dL_same_740 : decode cL_same 740 = .ok (.iconst 1, 1) := by decide +kernel
theorem dL_same_741 : decode cL_same 741 = .ok (.iload 20, 2) := by decide +kernel
theorem dL_same_743 : decode cL_same 743 = .ok (.ishl, 1) := by decide +kernel
theorem dL_same_744 : decode cL_same 744 = .ok (.iconst (-1), 1) := by decide +kernel
theorem dL_same_745 : decode cL_same 745 = .ok (.ixor, 1) := by decide +kernel
theorem dL_same_746 : decode cL_same 746 = .ok (.iand, 1) := by decide +kernel
theorem dL_same_747 : decode cL_same 747 = .ok (.istore 21, 2) := by decide +kernel
theorem dL_same_749 : decode cL_same 749 = .ok (.iload_n 1, 1) := by decide +kernel
theorem dL_same_750 : decode cL_same 750 = .ok (.iload 20, 2) := by decide +kernel
theorem dL_same_752 : decode cL_same 752 = .ok (.iload 21, 2) := by decide +kernel
theorem dL_same_754 : decode cL_same 754 = .ok (.aload_n 3, 1) := by decide +kernel
theorem dL_same_755 : decode cL_same 755 = .ok (.invokestatic 32, 3) := by decide +kernel
theorem dL_same_758 : decode cL_same 758 = .ok (.istore 22, 2) := by decide +kernel
theorem dL_same_760 : decode cL_same 760 = .ok (.iload_n 1, 1) := by decide +kernel
theorem dL_same_761 : decode cL_same 761 = .ok (.aload_n 3, 1) := by decide +kernel
theorem dL_same_762 : decode cL_same 762 = .ok (.invokestatic 78, 3) := by decide +kernel
theorem dL_same_765 : decode cL_same 765 = .ok (.istore 23, 2) := by decide +kernel
theorem dL_same_767 : decode cL_same 767 = .ok (.aload_n 0, 1) := by decide +kernel
theorem dL_same_768 : decode cL_same 768 = .ok (.iload_n 1, 1) := by decide +kernel
theorem dL_same_769 : decode cL_same 769 = .ok (.iload 20, 2) := by decide +kernel
theorem dL_same_771 : decode cL_same 771 = .ok (.iload 21, 2) := by decide +kernel
theorem dL_same_773 : decode cL_same 773 = .ok (.iconst 0, 1) := by decide +kernel
theorem dL_same_774 : decode cL_same 774 = .ok (.invokevirtual 81, 3) := by decide +kernel
theorem dL_same_777 : decode cL_same 777 = .ok (.iload 22, 2) := by decide +kernel
theorem dL_same_779 : decode cL_same 779 = .ok (.ifCond .ne 7, 3) := by decide +kernel
theorem dL_same_782 : decode cL_same 782 = .ok (.iconst 1, 1) := by decide +kernel
theorem dL_same_783 : decode cL_same 783 = .ok (.goto 4, 3) := by decide +kernel
theorem dL_same_786 : decode cL_same 786 = .ok (.iconst 0, 1) := by decide +kernel
theorem dL_same_787 : decode cL_same 787 = .ok (.if_icmp .ne 45, 3) := by decide +kernel
theorem dL_same_790 : decode cL_same 790 = .ok (.aload_n 0, 1) := by decide +kernel
theorem dL_same_791 : decode cL_same 791 = .ok (.iload_n 1, 1) := by decide +kernel
theorem dL_same_792 : decode cL_same 792 = .ok (.iload 20, 2) := by decide +kernel
theorem dL_same_794 : decode cL_same 794 = .ok (.iload 21, 2) := by decide +kernel
theorem dL_same_796 : decode cL_same 796 = .ok (.iconst 1, 1) := by decide +kernel
theorem dL_same_797 : decode cL_same 797 = .ok (.invokevirtual 81, 3) := by decide +kernel
theorem dL_same_800 : decode cL_same 800 = .ok (.iload 22, 2) := by decide +kernel
theorem dL_same_802 : decode cL_same 802 = .ok (.if_icmp .ne 30, 3) := by decide +kernel
theorem dL_same_805 : decode cL_same 805 = .ok (.aload_n 0, 1) := by decide +kernel
theorem dL_same_806 : decode cL_same 806 = .ok (.iload_n 1, 1) := by decide +kernel
theorem dL_same_807 : decode cL_same 807 = .ok (.iconst 0, 1) := by decide +kernel
theorem dL_same_808 : decode cL_same 808 = .ok (.iconst 0, 1) := by decide +kernel
theorem dL_same_809 : decode cL_same 809 = .ok (.invokevirtual 84, 3) := by decide +kernel
theorem dL_same_812 : decode cL_same 812 = .ok (.iload 23, 2) := by decide +kernel
theorem dL_same_814 : decode cL_same 814 = .ok (.invokestatic 25, 3) := by decide +kernel
theorem dL_same_817 : decode cL_same 817 = .ok (.if_icmp .ne 15, 3) := by decide +kernel
theorem dL_same_820 : decode cL_same 820 = .ok (.aload_n 0, 1) := by decide +kernel
theorem dL_same_821 : decode cL_same 821 = .ok (.iload_n 1, 1) := by decide +kernel
theorem dL_same_822 : decode cL_same 822 = .ok (.iconst 0, 1) := by decide +kernel
theorem dL_same_823 : decode cL_same 823 = .ok (.iconst 1, 1) := by decide +kernel
theorem dL_same_824 : decode cL_same 824 = .ok (.invokevirtual 84, 3) := by decide +kernel
theorem dL_same_827 : decode cL_same 827 = .ok (.iload 23, 2) := by decide +kernel
theorem dL_same_829 : decode cL_same 829 = .ok (.if_icmp .eq 5, 3) := by decide +kernel
theorem dL_same_832 : decode cL_same 832 = .ok (.iconst 0, 1) := by decide +kernel
theorem dL_same_833 : decode cL_same 833 = .ok (.ireturn, 1) := by decide +kernel
theorem dL_same_834 : decode cL_same 834 = .ok (.iconst 0, 1) := by decide +kernel
theorem dL_same_835 : decode cL_same 835 = .ok (.istore 24, 2) := by decide +kernel
theorem dL_same_837 : decode cL_same 837 = .ok (.iload 24, 2) := by decide +kernel
theorem dL_same_839 : decode cL_same 839 = .ok (.aload_n 3, 1) := by decide +kernel
theorem dL_same_840 : decode cL_same 840 = .ok (.iload 7, 2) := by decide +kernel
theorem dL_same_842 : decode cL_same 842 = .ok (.iconst 1, 1) := by decide +kernel
theorem dL_same_843 : decode cL_same 843 = .ok (.iadd, 1) := by decide +kernel
theorem dL_same_844 : decode cL_same 844 = .ok (.iaload, 1) := by decide +kernel
theorem dL_same_845 : decode cL_same 845 = .ok (.if_icmp .ge 48, 3) := by decide +kernel
theorem dL_same_848 : decode cL_same 848 = .ok (.aload_n 0, 1) := by decide +kernel
theorem dL_same_849 : decode cL_same 849 = .ok (.iload_n 1, 1) := by decide +kernel
theorem dL_same_850 : decode cL_same 850 = .ok (.iload 20, 2) := by decide +kernel
theorem dL_same_852 : decode cL_same 852 = .ok (.iload 24, 2) := by decide +kernel
theorem dL_same_854 : decode cL_same 854 = .ok (.invokevirtual 88, 3) := by decide +kernel
theorem dL_same_857 : decode cL_same 857 = .ok (.iload 24, 2) := by decide +kernel
theorem dL_same_859 : decode cL_same 859 = .ok (.iload 20, 2) := by decide +kernel
theorem dL_same_861 : decode cL_same 861 = .ok (.if_icmp .ne 8, 3) := by decide +kernel
theorem dL_same_864 : decode cL_same 864 = .ok (.bipush (-2), 2) := by decide +kernel
theorem dL_same_866 : decode cL_same 866 = .ok (.goto 16, 3) := by decide +kernel
theorem dL_same_869 : decode cL_same 869 = .ok (.iload_n 1, 1) := by decide +kernel
theorem dL_same_870 : decode cL_same 870 = .ok (.iload 20, 2) := by decide +kernel
theorem dL_same_872 : decode cL_same 872 = .ok (.iload 24, 2) := by decide +kernel
theorem dL_same_874 : decode cL_same 874 = .ok (.aload_n 3, 1) := by decide +kernel
theorem dL_same_875 : decode cL_same 875 = .ok (.invokestatic 29, 3) := by decide +kernel
theorem dL_same_878 : decode cL_same 878 = .ok (.sipush 1000, 3) := by decide +kernel
theorem dL_same_881 : decode cL_same 881 = .ok (.iadd, 1) := by decide +kernel
theorem dL_same_882 : decode cL_same 882 = .ok (.if_icmp .eq 5, 3) := by decide +kernel
theorem dL_same_885 : decode cL_same 885 = .ok (.iconst 0, 1) := by decide +kernel
theorem dL_same_886 : decode cL_same 886 = .ok (.ireturn, 1) := by decide +kernel
theorem dL_same_887 : decode cL_same 887 = .ok (.iinc 24 1, 3) := by decide +kernel
theorem dL_same_890 : decode cL_same 890 = .ok (.goto (-53), 3) := by decide +kernel
theorem dL_same_893 : decode cL_same 893 = .ok (.iload_n 1, 1) := by decide +kernel
theorem dL_same_894 : decode cL_same 894 = .ok (.aload_n 3, 1) := by decide +kernel
theorem dL_same_895 : decode cL_same 895 = .ok (.invokestatic 90, 3) := by decide +kernel
theorem dL_same_898 : decode cL_same 898 = .ok (.iload_n 1, 1) := by decide +kernel
theorem dL_same_899 : decode cL_same 899 = .ok (.aload_n 3, 1) := by decide +kernel
theorem dL_same_900 : decode cL_same 900 = .ok (.invokestatic 78, 3) := by decide +kernel
theorem dL_same_903 : decode cL_same 903 = .ok (.istore 24, 2) := by decide +kernel
theorem dL_same_905 : decode cL_same 905 = .ok (.iload_n 1, 1) := by decide +kernel
theorem dL_same_906 : decode cL_same 906 = .ok (.aload_n 3, 1) := by decide +kernel
theorem dL_same_907 : decode cL_same 907 = .ok (.invokestatic 90, 3) := by decide +kernel
theorem dL_same_910 : decode cL_same 910 = .ok (.aload_n 0, 1) := by decide +kernel
theorem dL_same_911 : decode cL_same 911 = .ok (.iload_n 1, 1) := by decide +kernel
theorem dL_same_912 : decode cL_same 912 = .ok (.iconst 1, 1) := by decide +kernel
theorem dL_same_913 : decode cL_same 913 = .ok (.iconst 0, 1) := by decide +kernel
theorem dL_same_914 : decode cL_same 914 = .ok (.invokevirtual 84, 3) := by decide +kernel
theorem dL_same_917 : decode cL_same 917 = .ok (.iload 24, 2) := by decide +kernel
theorem dL_same_919 : decode cL_same 919 = .ok (.invokestatic 25, 3) := by decide +kernel
theorem dL_same_922 : decode cL_same 922 = .ok (.if_icmp .ne 15, 3) := by decide +kernel
theorem dL_same_925 : decode cL_same 925 = .ok (.aload_n 0, 1) := by decide +kernel
theorem dL_same_926 : decode cL_same 926 = .ok (.iload_n 1, 1) := by decide +kernel
theorem dL_same_927 : decode cL_same 927 = .ok (.iconst 1, 1) := by decide +kernel
theorem dL_same_928 : decode cL_same 928 = .ok (.iconst 1, 1) := by decide +kernel
theorem dL_same_929 : decode cL_same 929 = .ok (.invokevirtual 84, 3) := by decide +kernel
theorem dL_same_932 : decode cL_same 932 = .ok (.iload 24, 2) := by decide +kernel
theorem dL_same_934 : decode cL_same 934 = .ok (.if_icmp .eq 5, 3) := by decide +kernel
theorem dL_same_937 : decode cL_same 937 = .ok (.iconst 0, 1) := by decide +kernel
theorem dL_same_938 : decode cL_same 938 = .ok (.ireturn, 1) := by decide +kernel
theorem dL_same_939 : decode cL_same 939 = .ok (.aload_n 3, 1) := by decide +kernel
theorem dL_same_940 : decode cL_same 940 = .ok (.iload 7, 2) := by decide +kernel
theorem dL_same_942 : decode cL_same 942 = .ok (.iaload, 1) := by decide +kernel
theorem dL_same_943 : decode cL_same 943 = .ok (.aload_n 3, 1) := by decide +kernel
theorem dL_same_944 : decode cL_same 944 = .ok (.iload 7, 2) := by decide +kernel
theorem dL_same_946 : decode cL_same 946 = .ok (.iconst 1, 1) := by decide +kernel
theorem dL_same_947 : decode cL_same 947 = .ok (.iadd, 1) := by decide +kernel
theorem dL_same_948 : decode cL_same 948 = .ok (.iaload, 1) := by decide +kernel
theorem dL_same_949 : decode cL_same 949 = .ok (.if_icmp .eq 20, 3) := by decide +kernel
theorem dL_same_952 : decode cL_same 952 = .ok (.aload_n 0, 1) := by decide +kernel
theorem dL_same_953 : decode cL_same 953 = .ok (.iload_n 1, 1) := by decide +kernel
theorem dL_same_954 : decode cL_same 954 = .ok (.iconst 0, 1) := by decide +kernel
theorem dL_same_955 : decode cL_same 955 = .ok (.invokevirtual 94, 3) := by decide +kernel
theorem dL_same_958 : decode cL_same 958 = .ok (.bipush (-5), 2) := by decide +kernel
theorem dL_same_960 : decode cL_same 960 = .ok (.if_icmp .ne 7, 3) := by decide +kernel
theorem dL_same_963 : decode cL_same 963 = .ok (.iconst 1, 1) := by decide +kernel
theorem dL_same_964 : decode cL_same 964 = .ok (.goto 4, 3) := by decide +kernel
theorem dL_same_967 : decode cL_same 967 = .ok (.iconst 0, 1) := by decide +kernel
theorem dL_same_968 : decode cL_same 968 = .ok (.ireturn, 1) := by decide +kernel
theorem dL_same_969 : decode cL_same 969 = .ok (.iconst 0, 1) := by decide +kernel
theorem dL_same_970 : decode cL_same 970 = .ok (.istore 25, 2) := by decide +kernel
theorem dL_same_972 : decode cL_same 972 = .ok (.sipush 9999, 3) := by decide +kernel
theorem dL_same_975 : decode cL_same 975 = .ok (.istore 26, 2) := by decide +kernel
theorem dL_same_977 : decode cL_same 977 = .ok (.iconst 1, 1) := by decide +kernel
theorem dL_same_978 : decode cL_same 978 = .ok (.istore 27, 2) := by decide +kernel
theorem dL_same_980 : decode cL_same 980 = .ok (.iconst 0, 1) := by decide +kernel
theorem dL_same_981 : decode cL_same 981 = .ok (.istore 28, 2) := by decide +kernel
theorem dL_same_983 : decode cL_same 983 = .ok (.iload 28, 2) := by decide +kernel
theorem dL_same_985 : decode cL_same 985 = .ok (.aload_n 3, 1) := by decide +kernel
theorem dL_same_986 : decode cL_same 986 = .ok (.iload 7, 2) := by decide +kernel
theorem dL_same_988 : decode cL_same 988 = .ok (.iaload, 1) := by decide +kernel
theorem dL_same_989 : decode cL_same 989 = .ok (.if_icmp .ge 43, 3) := by decide +kernel
theorem dL_same_992 : decode cL_same 992 = .ok (.iinc 25 1, 3) := by decide +kernel
theorem dL_same_995 : decode cL_same 995 = .ok (.iload_n 1, 1) := by decide +kernel
theorem dL_same_996 : decode cL_same 996 = .ok (.iload 28, 2) := by decide +kernel
theorem dL_same_998 : decode cL_same 998 = .ok (.iload 28, 2) := by decide +kernel
theorem dL_same_1000 : decode cL_same 1000 = .ok (.aload_n 3, 1) := by decide +kernel
theorem dL_same_1001 : decode cL_same 1001 = .ok (.invokestatic 10, 3) := by decide +kernel
theorem dL_same_1004 : decode cL_same 1004 = .ok (.iload 27, 2) := by decide +kernel
theorem dL_same_1006 : decode cL_same 1006 = .ok (.imul, 1) := by decide +kernel
theorem dL_same_1007 : decode cL_same 1007 = .ok (.iload 26, 2) := by decide +kernel
theorem dL_same_1009 : decode cL_same 1009 = .ok (.if_icmp .ge 17, 3) := by decide +kernel
theorem dL_same_1012 : decode cL_same 1012 = .ok (.iload_n 1, 1) := by decide +kernel
theorem dL_same_1013 : decode cL_same 1013 = .ok (.iload 28, 2) := by decide +kernel
theorem dL_same_1015 : decode cL_same 1015 = .ok (.iload 28, 2) := by decide +kernel
theorem dL_same_1017 : decode cL_same 1017 = .ok (.aload_n 3, 1) := by decide +kernel
theorem dL_same_1018 : decode cL_same 1018 = .ok (.invokestatic 10, 3) := by decide +kernel
theorem dL_same_1021 : decode cL_same 1021 = .ok (.istore 26, 2) := by decide +kernel
theorem dL_same_1023 : decode cL_same 1023 = .ok (.iconst 1, 1) := by decide +kernel
theorem dL_same_1024 : decode cL_same 1024 = .ok (.istore 27, 2) := by decide +kernel
theorem dL_same_1026 : decode cL_same 1026 = .ok (.iinc 28 1, 3) := by decide +kernel
theorem dL_same_1029 : decode cL_same 1029 = .ok (.goto (-46), 3) := by decide +kernel
theorem dL_same_1032 : decode cL_same 1032 = .ok (.iconst 0, 1) := by decide +kernel
theorem dL_same_1033 : decode cL_same 1033 = .ok (.istore 28, 2) := by decide +kernel
theorem dL_same_1035 : decode cL_same 1035 = .ok (.iload 28, 2) := by decide +kernel
theorem dL_same_1037 : decode cL_same 1037 = .ok (.aload_n 3, 1) := by decide +kernel
theorem dL_same_1038 : decode cL_same 1038 = .ok (.iload 7, 2) := by decide +kernel
theorem dL_same_1040 : decode cL_same 1040 = .ok (.iaload, 1) := by decide +kernel
theorem dL_same_1041 : decode cL_same 1041 = .ok (.if_icmp .ge 76, 3) := by decide +kernel
theorem dL_same_1044 : decode cL_same 1044 = .ok (.iload 28, 2) := by decide +kernel
theorem dL_same_1046 : decode cL_same 1046 = .ok (.iconst 1, 1) := by decide +kernel
theorem dL_same_1047 : decode cL_same 1047 = .ok (.iadd, 1) := by decide +kernel
theorem dL_same_1048 : decode cL_same 1048 = .ok (.istore 29, 2) := by decide +kernel
theorem dL_same_1050 : decode cL_same 1050 = .ok (.iload 29, 2) := by decide +kernel
theorem dL_same_1052 : decode cL_same 1052 = .ok (.aload_n 3, 1) := by decide +kernel
theorem dL_same_1053 : decode cL_same 1053 = .ok (.iload 7, 2) := by decide +kernel
theorem dL_same_1055 : decode cL_same 1055 = .ok (.iaload, 1) := by decide +kernel
theorem dL_same_1056 : decode cL_same 1056 = .ok (.if_icmp .ge 55, 3) := by decide +kernel
theorem dL_same_1059 : decode cL_same 1059 = .ok (.iload_n 1, 1) := by decide +kernel
theorem dL_same_1060 : decode cL_same 1060 = .ok (.iload 28, 2) := by decide +kernel
theorem dL_same_1062 : decode cL_same 1062 = .ok (.iload 29, 2) := by decide +kernel
theorem dL_same_1064 : decode cL_same 1064 = .ok (.aload_n 3, 1) := by decide +kernel
theorem dL_same_1065 : decode cL_same 1065 = .ok (.invokestatic 10, 3) := by decide +kernel
theorem dL_same_1068 : decode cL_same 1068 = .ok (.iload_n 1, 1) := by decide +kernel
theorem dL_same_1069 : decode cL_same 1069 = .ok (.iload 29, 2) := by decide +kernel
theorem dL_same_1071 : decode cL_same 1071 = .ok (.iload 28, 2) := by decide +kernel
theorem dL_same_1073 : decode cL_same 1073 = .ok (.aload_n 3, 1) := by decide +kernel
theorem dL_same_1074 : decode cL_same 1074 = .ok (.invokestatic 10, 3) := by decide +kernel
theorem dL_same_1077 : decode cL_same 1077 = .ok (.iadd, 1) := by decide +kernel
theorem dL_same_1078 : decode cL_same 1078 = .ok (.istore 30, 2) := by decide +kernel
theorem dL_same_1080 : decode cL_same 1080 = .ok (.iinc 25 1, 3) := by decide +kernel
theorem dL_same_1083 : decode cL_same 1083 = .ok (.iload 30, 2) := by decide +kernel
theorem dL_same_1085 : decode cL_same 1085 = .ok (.iload 27, 2) := by decide +kernel
theorem dL_same_1087 : decode cL_same 1087 = .ok (.imul, 1) := by decide +kernel
theorem dL_same_1088 : decode cL_same 1088 = .ok (.iload 26, 2) := by decide +kernel
theorem dL_same_1090 : decode cL_same 1090 = .ok (.iconst 2, 1) := by decide +kernel
theorem dL_same_1091 : decode cL_same 1091 = .ok (.imul, 1) := by decide +kernel
theorem dL_same_1092 : decode cL_same 1092 = .ok (.if_icmp .lt 6, 3) := by decide +kernel
theorem dL_same_1095 : decode cL_same 1095 = .ok (.goto 10, 3) := by decide +kernel
theorem dL_same_1098 : decode cL_same 1098 = .ok (.iload 30, 2) := by decide +kernel
theorem dL_same_1100 : decode cL_same 1100 = .ok (.istore 26, 2) := by decide +kernel
theorem dL_same_1102 : decode cL_same 1102 = .ok (.iconst 2, 1) := by decide +kernel
theorem dL_same_1103 : decode cL_same 1103 = .ok (.istore 27, 2) := by decide +kernel
theorem dL_same_1105 : decode cL_same 1105 = .ok (.iinc 29 1, 3) := by decide +kernel
theorem dL_same_1108 : decode cL_same 1108 = .ok (.goto (-58), 3) := by decide +kernel
theorem dL_same_1111 : decode cL_same 1111 = .ok (.iinc 28 1, 3) := by decide +kernel
theorem dL_same_1114 : decode cL_same 1114 = .ok (.goto (-79), 3) := by decide +kernel
theorem dL_same_1117 : decode cL_same 1117 = .ok (.iconst 1, 1) := by decide +kernel
theorem dL_same_1118 : decode cL_same 1118 = .ok (.istore 28, 2) := by decide +kernel
theorem dL_same_1120 : decode cL_same 1120 = .ok (.iload 28, 2) := by decide +kernel
theorem dL_same_1122 : decode cL_same 1122 = .ok (.iconst 3, 1) := by decide +kernel
theorem dL_same_1123 : decode cL_same 1123 = .ok (.if_icmp .ge 75, 3) := by decide +kernel
theorem dL_same_1126 : decode cL_same 1126 = .ok (.aload_n 3, 1) := by decide +kernel
theorem dL_same_1127 : decode cL_same 1127 = .ok (.iload 7, 2) := by decide +kernel
theorem dL_same_1129 : decode cL_same 1129 = .ok (.iaload, 1) := by decide +kernel
theorem dL_same_1130 : decode cL_same 1130 = .ok (.iconst 3, 1) := by decide +kernel
theorem dL_same_1131 : decode cL_same 1131 = .ok (.if_icmp .ne 67, 3) := by decide +kernel
theorem dL_same_1134 : decode cL_same 1134 = .ok (.iload_n 1, 1) := by decide +kernel
theorem dL_same_1135 : decode cL_same 1135 = .ok (.iconst 0, 1) := by decide +kernel
theorem dL_same_1136 : decode cL_same 1136 = .ok (.iload 28, 2) := by decide +kernel
theorem dL_same_1138 : decode cL_same 1138 = .ok (.aload_n 3, 1) := by decide +kernel
theorem dL_same_1139 : decode cL_same 1139 = .ok (.invokestatic 10, 3) := by decide +kernel
theorem dL_same_1142 : decode cL_same 1142 = .ok (.iload_n 1, 1) := by decide +kernel
theorem dL_same_1143 : decode cL_same 1143 = .ok (.iload 28, 2) := by decide +kernel
theorem dL_same_1145 : decode cL_same 1145 = .ok (.iconst 3, 1) := by decide +kernel
theorem dL_same_1146 : decode cL_same 1146 = .ok (.iload 28, 2) := by decide +kernel
theorem dL_same_1148 : decode cL_same 1148 = .ok (.isub, 1) := by decide +kernel
theorem dL_same_1149 : decode cL_same 1149 = .ok (.aload_n 3, 1) := by decide +kernel
theorem dL_same_1150 : decode cL_same 1150 = .ok (.invokestatic 10, 3) := by decide +kernel
theorem dL_same_1153 : decode cL_same 1153 = .ok (.iadd, 1) := by decide +kernel
theorem dL_same_1154 : decode cL_same 1154 = .ok (.iload_n 1, 1) := by decide +kernel
theorem dL_same_1155 : decode cL_same 1155 = .ok (.iconst 3, 1) := by decide +kernel
theorem dL_same_1156 : decode cL_same 1156 = .ok (.iload 28, 2) := by decide +kernel
theorem dL_same_1158 : decode cL_same 1158 = .ok (.isub, 1) := by decide +kernel
theorem dL_same_1159 : decode cL_same 1159 = .ok (.iconst 0, 1) := by decide +kernel
theorem dL_same_1160 : decode cL_same 1160 = .ok (.aload_n 3, 1) := by decide +kernel
theorem dL_same_1161 : decode cL_same 1161 = .ok (.invokestatic 10, 3) := by decide +kernel
theorem dL_same_1164 : decode cL_same 1164 = .ok (.iadd, 1) := by decide +kernel
theorem dL_same_1165 : decode cL_same 1165 = .ok (.istore 29, 2) := by decide +kernel
theorem dL_same_1167 : decode cL_same 1167 = .ok (.iinc 25 1, 3) := by decide +kernel
theorem dL_same_1170 : decode cL_same 1170 = .ok (.iload 29, 2) := by decide +kernel
theorem dL_same_1172 : decode cL_same 1172 = .ok (.iload 27, 2) := by decide +kernel
theorem dL_same_1174 : decode cL_same 1174 = .ok (.imul, 1) := by decide +kernel
theorem dL_same_1175 : decode cL_same 1175 = .ok (.iload 26, 2) := by decide +kernel
theorem dL_same_1177 : decode cL_same 1177 = .ok (.iconst 3, 1) := by decide +kernel
theorem dL_same_1178 : decode cL_same 1178 = .ok (.imul, 1) := by decide +kernel
theorem dL_same_1179 : decode cL_same 1179 = .ok (.if_icmp .lt 6, 3) := by decide +kernel
theorem dL_same_1182 : decode cL_same 1182 = .ok (.goto 10, 3) := by decide +kernel
theorem dL_same_1185 : decode cL_same 1185 = .ok (.iload 29, 2) := by decide +kernel
theorem dL_same_1187 : decode cL_same 1187 = .ok (.istore 26, 2) := by decide +kernel
theorem dL_same_1189 : decode cL_same 1189 = .ok (.iconst 3, 1) := by decide +kernel
theorem dL_same_1190 : decode cL_same 1190 = .ok (.istore 27, 2) := by decide +kernel
theorem dL_same_1192 : decode cL_same 1192 = .ok (.iinc 28 1, 3) := by decide +kernel
theorem dL_same_1195 : decode cL_same 1195 = .ok (.goto (-75), 3) := by decide +kernel
theorem dL_same_1198 : decode cL_same 1198 = .ok (.aload_n 0, 1) := by decide +kernel
theorem dL_same_1199 : decode cL_same 1199 = .ok (.iload_n 1, 1) := by decide +kernel
theorem dL_same_1200 : decode cL_same 1200 = .ok (.iconst 0, 1) := by decide +kernel
theorem dL_same_1201 : decode cL_same 1201 = .ok (.invokevirtual 94, 3) := by decide +kernel
theorem dL_same_1204 : decode cL_same 1204 = .ok (.iload 25, 2) := by decide +kernel
theorem dL_same_1206 : decode cL_same 1206 = .ok (.if_icmp .ne 29, 3) := by decide +kernel
theorem dL_same_1209 : decode cL_same 1209 = .ok (.aload_n 0, 1) := by decide +kernel
theorem dL_same_1210 : decode cL_same 1210 = .ok (.iload_n 1, 1) := by decide +kernel
theorem dL_same_1211 : decode cL_same 1211 = .ok (.iconst 1, 1) := by decide +kernel
theorem dL_same_1212 : decode cL_same 1212 = .ok (.invokevirtual 94, 3) := by decide +kernel
theorem dL_same_1215 : decode cL_same 1215 = .ok (.iload 26, 2) := by decide +kernel
theorem dL_same_1217 : decode cL_same 1217 = .ok (.if_icmp .ne 18, 3) := by decide +kernel
theorem dL_same_1220 : decode cL_same 1220 = .ok (.aload_n 0, 1) := by decide +kernel
theorem dL_same_1221 : decode cL_same 1221 = .ok (.iload_n 1, 1) := by decide +kernel
theorem dL_same_1222 : decode cL_same 1222 = .ok (.iconst 2, 1) := by decide +kernel
theorem dL_same_1223 : decode cL_same 1223 = .ok (.invokevirtual 94, 3) := by decide +kernel
theorem dL_same_1226 : decode cL_same 1226 = .ok (.iload 27, 2) := by decide +kernel
theorem dL_same_1228 : decode cL_same 1228 = .ok (.if_icmp .ne 7, 3) := by decide +kernel
theorem dL_same_1231 : decode cL_same 1231 = .ok (.iconst 1, 1) := by decide +kernel
theorem dL_same_1232 : decode cL_same 1232 = .ok (.goto 4, 3) := by decide +kernel
theorem dL_same_1235 : decode cL_same 1235 = .ok (.iconst 0, 1) := by decide +kernel
theorem dL_same_1236 : decode cL_same 1236 = .ok (.ireturn, 1) := by decide +kernel
theorem dL_law_0 : decode cL_law 0 = .ok (.new 36, 3) := by decide +kernel
theorem dL_law_3 : decode cL_law 3 = .ok (.dup, 1) := by decide +kernel
theorem dL_law_4 : decode cL_law 4 = .ok (.invokespecial 97, 3) := by decide +kernel
theorem dL_law_7 : decode cL_law 7 = .ok (.astore_n 1, 1) := by decide +kernel
theorem dL_law_8 : decode cL_law 8 = .ok (.bipush 36, 2) := by decide +kernel
theorem dL_law_10 : decode cL_law 10 = .ok (.newarray .int, 2) := by decide +kernel
theorem dL_law_12 : decode cL_law 12 = .ok (.astore_n 2, 1) := by decide +kernel
theorem dL_law_13 : decode cL_law 13 = .ok (.iconst 4, 1) := by decide +kernel
theorem dL_law_14 : decode cL_law 14 = .ok (.newarray .int, 2) := by decide +kernel
theorem dL_law_16 : decode cL_law 16 = .ok (.astore_n 3, 1) := by decide +kernel
theorem dL_law_17 : decode cL_law 17 = .ok (.bipush 9, 2) := by decide +kernel
theorem dL_law_19 : decode cL_law 19 = .ok (.newarray .int, 2) := by decide +kernel
theorem dL_law_21 : decode cL_law 21 = .ok (.astore 4, 2) := by decide +kernel
theorem dL_law_23 : decode cL_law 23 = .ok (.bipush 8, 2) := by decide +kernel
theorem dL_law_25 : decode cL_law 25 = .ok (.newarray .long, 2) := by decide +kernel
theorem dL_law_27 : decode cL_law 27 = .ok (.astore 5, 2) := by decide +kernel
theorem dL_law_29 : decode cL_law 29 = .ok (.iconst 0, 1) := by decide +kernel
theorem dL_law_30 : decode cL_law 30 = .ok (.istore 6, 2) := by decide +kernel
theorem dL_law_32 : decode cL_law 32 = .ok (.iload 6, 2) := by decide +kernel
theorem dL_law_34 : decode cL_law 34 = .ok (.iconst 3, 1) := by decide +kernel
theorem dL_law_35 : decode cL_law 35 = .ok (.if_icmp .ge 27, 3) := by decide +kernel
theorem dL_law_38 : decode cL_law 38 = .ok (.aload_n 2, 1) := by decide +kernel
theorem dL_law_39 : decode cL_law 39 = .ok (.bipush 12, 2) := by decide +kernel
theorem dL_law_41 : decode cL_law 41 = .ok (.iload 6, 2) := by decide +kernel
theorem dL_law_43 : decode cL_law 43 = .ok (.imul, 1) := by decide +kernel
theorem dL_law_44 : decode cL_law 44 = .ok (.iconst 1, 1) := by decide +kernel
theorem dL_law_45 : decode cL_law 45 = .ok (.iastore, 1) := by decide +kernel
theorem dL_law_46 : decode cL_law 46 = .ok (.aload_n 2, 1) := by decide +kernel
theorem dL_law_47 : decode cL_law 47 = .ok (.bipush 12, 2) := by decide +kernel
theorem dL_law_49 : decode cL_law 49 = .ok (.iload 6, 2) := by decide +kernel
theorem dL_law_51 : decode cL_law 51 = .ok (.imul, 1) := by decide +kernel
theorem dL_law_52 : decode cL_law 52 = .ok (.iconst 1, 1) := by decide +kernel
theorem dL_law_53 : decode cL_law 53 = .ok (.iadd, 1) := by decide +kernel
theorem dL_law_54 : decode cL_law 54 = .ok (.iconst 1, 1) := by decide +kernel
theorem dL_law_55 : decode cL_law 55 = .ok (.iastore, 1) := by decide +kernel
theorem dL_law_56 : decode cL_law 56 = .ok (.iinc 6 1, 3) := by decide +kernel
theorem dL_law_59 : decode cL_law 59 = .ok (.goto (-27), 3) := by decide +kernel
theorem dL_law_62 : decode cL_law 62 = .ok (.iconst 0, 1) := by decide +kernel
theorem dL_law_63 : decode cL_law 63 = .ok (.istore 6, 2) := by decide +kernel
theorem dL_law_65 : decode cL_law 65 = .ok (.iload 6, 2) := by decide +kernel
theorem dL_law_67 : decode cL_law 67 = .ok (.bipush 18, 2) := by decide +kernel
theorem dL_law_69 : decode cL_law 69 = .ok (.if_icmp .ge 2055, 3) := by decide +kernel
theorem dL_law_72 : decode cL_law 72 = .ok (.aload_n 0, 1) := by decide +kernel
theorem dL_law_73 : decode cL_law 73 = .ok (.iconst 2, 1) := by decide +kernel
theorem dL_law_74 : decode cL_law 74 = .ok (.iload 6, 2) := by decide +kernel
theorem dL_law_76 : decode cL_law 76 = .ok (.imul, 1) := by decide +kernel
theorem dL_law_77 : decode cL_law 77 = .ok (.invokestatic 98, 3) := by decide +kernel
theorem dL_law_80 : decode cL_law 80 = .ok (.istore 7, 2) := by decide +kernel
theorem dL_law_82 : decode cL_law 82 = .ok (.aload_n 0, 1) := by decide +kernel
theorem dL_law_83 : decode cL_law 83 = .ok (.iconst 2, 1) := by decide +kernel
theorem dL_law_84 : decode cL_law 84 = .ok (.iload 6, 2) := by decide +kernel
theorem dL_law_86 : decode cL_law 86 = .ok (.imul, 1) := by decide +kernel
theorem dL_law_87 : decode cL_law 87 = .ok (.iconst 1, 1) := by decide +kernel
theorem dL_law_88 : decode cL_law 88 = .ok (.iadd, 1) := by decide +kernel
theorem dL_law_89 : decode cL_law 89 = .ok (.invokestatic 98, 3) := by decide +kernel
theorem dL_law_92 : decode cL_law 92 = .ok (.istore 8, 2) := by decide +kernel
theorem dL_law_94 : decode cL_law 94 = .ok (.iload 6, 2) := by decide +kernel
theorem dL_law_96 : decode cL_law 96 = .ok (.iconst 3, 1) := by decide +kernel
theorem dL_law_97 : decode cL_law 97 = .ok (.if_icmp .ge 7, 3) := by decide +kernel
theorem dL_law_100 : decode cL_law 100 = .ok (.iconst 0, 1) := by decide +kernel
theorem dL_law_101 : decode cL_law 101 = .ok (.goto 10, 3) := by decide +kernel
theorem dL_law_104 : decode cL_law 104 = .ok (.iload 7, 2) := by decide +kernel
theorem dL_law_106 : decode cL_law 106 = .ok (.bipush 11, 2) := by decide +kernel
theorem dL_law_108 : decode cL_law 108 = .ok (.invokestatic 51, 3) := by decide +kernel
theorem dL_law_111 : decode cL_law 111 = .ok (.istore 9, 2) := by decide +kernel
theorem dL_law_113 : decode cL_law 113 = .ok (.iload 6, 2) := by decide +kernel
theorem dL_law_115 : decode cL_law 115 = .ok (.iconst 3, 1) := by decide +kernel
theorem dL_law_116 : decode cL_law 116 = .ok (.if_icmp .ge 8, 3) := by decide +kernel
theorem dL_law_119 : decode cL_law 119 = .ok (.iload 6, 2) := by decide +kernel
theorem dL_law_121 : decode cL_law 121 = .ok (.goto 11, 3) := by decide +kernel
theorem dL_law_124 : decode cL_law 124 = .ok (.iload 7, 2) := by decide +kernel
theorem dL_law_126 : decode cL_law 126 = .ok (.iconst 4, 1) := by decide +kernel
theorem dL_law_127 : decode cL_law 127 = .ok (.ishr, 1) := by decide +kernel
theorem dL_law_128 : decode cL_law 128 = .ok (.iconst 3, 1) := by decide +kernel
theorem dL_law_129 : decode cL_law 129 = .ok (.invokestatic 51, 3) := by decide +kernel
theorem dL_law_132 : decode cL_law 132 = .ok (.istore 10, 2) := by decide +kernel
theorem dL_law_134 : decode cL_law 134 = .ok (.bipush 12, 2) := by decide +kernel
theorem dL_law_136 : decode cL_law 136 = .ok (.iload 10, 2) := by decide +kernel
theorem dL_law_138 : decode cL_law 138 = .ok (.imul, 1) := by decide +kernel
theorem dL_law_139 : decode cL_law 139 = .ok (.istore 11, 2) := by decide +kernel
theorem dL_law_141 : decode cL_law 141 = .ok (.iload 7, 2) := by decide +kernel
theorem dL_law_143 : decode cL_law 143 = .ok (.iconst 5, 1) := by decide +kernel
theorem dL_law_144 : decode cL_law 144 = .ok (.ishr, 1) := by decide +kernel
theorem dL_law_145 : decode cL_law 145 = .ok (.iload 10, 2) := by decide +kernel
theorem dL_law_147 : decode cL_law 147 = .ok (.aload_n 2, 1) := by decide +kernel
theorem dL_law_148 : decode cL_law 148 = .ok (.invokestatic 16, 3) := by decide +kernel
theorem dL_law_151 : decode cL_law 151 = .ok (.invokestatic 51, 3) := by decide +kernel
theorem dL_law_154 : decode cL_law 154 = .ok (.istore 12, 2) := by decide +kernel
theorem dL_law_156 : decode cL_law 156 = .ok (.iload 7, 2) := by decide +kernel
theorem dL_law_158 : decode cL_law 158 = .ok (.bipush 6, 2) := by decide +kernel
theorem dL_law_160 : decode cL_law 160 = .ok (.ishr, 1) := by decide +kernel
theorem dL_law_161 : decode cL_law 161 = .ok (.iconst 2, 1) := by decide +kernel
theorem dL_law_162 : decode cL_law 162 = .ok (.invokestatic 51, 3) := by decide +kernel
theorem dL_law_165 : decode cL_law 165 = .ok (.ifCond .ne 7, 3) := by decide +kernel
theorem dL_law_168 : decode cL_law 168 = .ok (.iconst 1, 1) := by decide +kernel
theorem dL_law_169 : decode cL_law 169 = .ok (.goto 4, 3) := by decide +kernel
theorem dL_law_172 : decode cL_law 172 = .ok (.iconst 0, 1) := by decide +kernel
theorem dL_law_173 : decode cL_law 173 = .ok (.istore 13, 2) := by decide +kernel
theorem dL_law_175 : decode cL_law 175 = .ok (.iload 13, 2) := by decide +kernel
theorem dL_law_177 : decode cL_law 177 = .ok (.ifCond .eq 10, 3) := by decide +kernel
theorem dL_law_180 : decode cL_law 180 = .ok (.aload_n 2, 1) := by decide +kernel
theorem dL_law_181 : decode cL_law 181 = .ok (.iload 11, 2) := by decide +kernel
theorem dL_law_183 : decode cL_law 183 = .ok (.iaload, 1) := by decide +kernel
theorem dL_law_184 : decode cL_law 184 = .ok (.goto 9, 3) := by decide +kernel
theorem dL_law_187 : decode cL_law 187 = .ok (.aload_n 2, 1) := by decide +kernel
theorem dL_law_188 : decode cL_law 188 = .ok (.iload 11, 2) := by decide +kernel
theorem dL_law_190 : decode cL_law 190 = .ok (.iconst 1, 1) := by decide +kernel
theorem dL_law_191 : decode cL_law 191 = .ok (.iadd, 1) := by decide +kernel
theorem dL_law_192 : decode cL_law 192 = .ok (.iaload, 1) := by decide +kernel
theorem dL_law_193 : decode cL_law 193 = .ok (.istore 14, 2) := by decide +kernel
theorem dL_law_195 : decode cL_law 195 = .ok (.iload 7, 2) := by decide +kernel
theorem dL_law_197 : decode cL_law 197 = .ok (.bipush 7, 2) := by decide +kernel
theorem dL_law_199 : decode cL_law 199 = .ok (.ishr, 1) := by decide +kernel
theorem dL_law_200 : decode cL_law 200 = .ok (.iload 14, 2) := by decide +kernel
theorem dL_law_202 : decode cL_law 202 = .ok (.invokestatic 51, 3) := by decide +kernel
theorem dL_law_205 : decode cL_law 205 = .ok (.istore 15, 2) := by decide +kernel
theorem dL_law_207 : decode cL_law 207 = .ok (.iload 9, 2) := by decide +kernel
theorem dL_law_209 : decode cL_law 209 = .ok (.iconst 2, 1) := by decide +kernel
theorem dL_law_210 : decode cL_law 210 = .ok (.if_icmp .ge 241, 3) := by decide +kernel
theorem dL_law_213 : decode cL_law 213 = .ok (.iconst 1, 1) := by decide +kernel
theorem dL_law_214 : decode cL_law 214 = .ok (.iload 8, 2) := by decide +kernel
theorem dL_law_216 : decode cL_law 216 = .ok (.iconst 3, 1) := by decide +kernel
theorem dL_law_217 : decode cL_law 217 = .ok (.invokestatic 51, 3) := by decide +kernel
theorem dL_law_220 : decode cL_law 220 = .ok (.iadd, 1) := by decide +kernel
theorem dL_law_221 : decode cL_law 221 = .ok (.istore 16, 2) := by decide +kernel
theorem dL_law_223 : decode cL_law 223 = .ok (.iconst 1, 1) := by decide +kernel
theorem dL_law_224 : decode cL_law 224 = .ok (.iload 8, 2) := by decide +kernel
theorem dL_law_226 : decode cL_law 226 = .ok (.iconst 2, 1) := by decide +kernel
theorem dL_law_227 : decode cL_law 227 = .ok (.ishr, 1) := by decide +kernel
theorem dL_law_228 : decode cL_law 228 = .ok (.iload 16, 2) := by decide +kernel
theorem dL_law_230 : decode cL_law 230 = .ok (.iconst 2, 1) := by decide +kernel
theorem dL_law_231 : decode cL_law 231 = .ok (.if_icmp .le 7, 3) := by decide +kernel
theorem dL_law_234 : decode cL_law 234 = .ok (.iconst 3, 1) := by decide +kernel
theorem dL_law_235 : decode cL_law 235 = .ok (.goto 4, 3) := by decide +kernel
theorem dL_law_238 : decode cL_law 238 = .ok (.iconst 4, 1) := by decide +kernel
theorem dL_law_239 : decode cL_law 239 = .ok (.invokestatic 51, 3) := by decide +kernel
theorem dL_law_242 : decode cL_law 242 = .ok (.iadd, 1) := by decide +kernel
theorem dL_law_243 : decode cL_law 243 = .ok (.istore 17, 2) := by decide +kernel
theorem dL_law_245 : decode cL_law 245 = .ok (.iload 7, 2) := by decide +kernel
theorem dL_law_247 : decode cL_law 247 = .ok (.bipush 8, 2) := by decide +kernel
theorem dL_law_249 : decode cL_law 249 = .ok (.ishr, 1) := by decide +kernel
theorem dL_law_250 : decode cL_law 250 = .ok (.iconst 3, 1) := by decide +kernel
theorem dL_law_251 : decode cL_law 251 = .ok (.invokestatic 51, 3) := by decide +kernel
theorem dL_law_254 : decode cL_law 254 = .ok (.ifCond .ne 9, 3) := by decide +kernel
theorem dL_law_257 : decode cL_law 257 = .ok (.sipush 1000, 3) := by decide +kernel
theorem dL_law_260 : decode cL_law 260 = .ok (.goto 5, 3) := by decide +kernel
theorem dL_law_263 : decode cL_law 263 = .ok (.bipush 7, 2) := by decide +kernel
theorem dL_law_265 : decode cL_law 265 = .ok (.istore 18, 2) := by decide +kernel
theorem dL_law_267 : decode cL_law 267 = .ok (.aload_n 1, 1) := by decide +kernel
theorem dL_law_268 : decode cL_law 268 = .ok (.invokevirtual 102, 3) := by decide +kernel
theorem dL_law_271 : decode cL_law 271 = .ok (.pop, 1) := by decide +kernel
theorem dL_law_272 : decode cL_law 272 = .ok (.aload_n 2, 1) := by decide +kernel
theorem dL_law_273 : decode cL_law 273 = .ok (.iload 11, 2) := by decide +kernel
theorem dL_law_275 : decode cL_law 275 = .ok (.iload 16, 2) := by decide +kernel
theorem dL_law_277 : decode cL_law 277 = .ok (.iastore, 1) := by decide +kernel
theorem dL_law_278 : decode cL_law 278 = .ok (.aload_n 2, 1) := by decide +kernel
theorem dL_law_279 : decode cL_law 279 = .ok (.iload 11, 2) := by decide +kernel
theorem dL_law_281 : decode cL_law 281 = .ok (.iconst 1, 1) := by decide +kernel
theorem dL_law_282 : decode cL_law 282 = .ok (.iadd, 1) := by decide +kernel
theorem dL_law_283 : decode cL_law 283 = .ok (.iload 17, 2) := by decide +kernel
theorem dL_law_285 : decode cL_law 285 = .ok (.iastore, 1) := by decide +kernel
theorem dL_law_286 : decode cL_law 286 = .ok (.iconst 0, 1) := by decide +kernel
theorem dL_law_287 : decode cL_law 287 = .ok (.istore 19, 2) := by decide +kernel
theorem dL_law_289 : decode cL_law 289 = .ok (.iload 19, 2) := by decide +kernel
theorem dL_law_291 : decode cL_law 291 = .ok (.iload 16, 2) := by decide +kernel
theorem dL_law_293 : decode cL_law 293 = .ok (.iload 17, 2) := by decide +kernel
theorem dL_law_295 : decode cL_law 295 = .ok (.imul, 1) := by decide +kernel
theorem dL_law_296 : decode cL_law 296 = .ok (.if_icmp .ge 136, 3) := by decide +kernel
theorem dL_law_299 : decode cL_law 299 = .ok (.iload 8, 2) := by decide +kernel
theorem dL_law_301 : decode cL_law 301 = .ok (.iconst 2, 1) := by decide +kernel
theorem dL_law_302 : decode cL_law 302 = .ok (.iload 19, 2) := by decide +kernel
theorem dL_law_304 : decode cL_law 304 = .ok (.imul, 1) := by decide +kernel
theorem dL_law_305 : decode cL_law 305 = .ok (.iconst 3, 1) := by decide +kernel
theorem dL_law_306 : decode cL_law 306 = .ok (.iadd, 1) := by decide +kernel
theorem dL_law_307 : decode cL_law 307 = .ok (.ishr, 1) := by decide +kernel
theorem dL_law_308 : decode cL_law 308 = .ok (.iload 18, 2) := by decide +kernel
theorem dL_law_310 : decode cL_law 310 = .ok (.invokestatic 51, 3) := by decide +kernel
theorem dL_law_313 : decode cL_law 313 = .ok (.istore 20, 2) := by decide +kernel
theorem dL_law_315 : decode cL_law 315 = .ok (.aload_n 2, 1) := by decide +kernel
theorem dL_law_316 : decode cL_law 316 = .ok (.iload 11, 2) := by decide +kernel
theorem dL_law_318 : decode cL_law 318 = .ok (.iconst 2, 1) := by decide +kernel
theorem dL_law_319 : decode cL_law 319 = .ok (.iadd, 1) := by decide +kernel
theorem dL_law_320 : decode cL_law 320 = .ok (.iload 19, 2) := by decide +kernel
theorem dL_law_322 : decode cL_law 322 = .ok (.iadd, 1) := by decide +kernel
theorem dL_law_323 : decode cL_law 323 = .ok (.iload 20, 2) := by decide +kernel
theorem dL_law_325 : decode cL_law 325 = .ok (.iastore, 1) := by decide +kernel
theorem dL_law_326 : decode cL_law 326 = .ok (.iload 19, 2) := by decide +kernel
theorem dL_law_328 : decode cL_law 328 = .ok (.ifCond .le 28, 3) := by decide +kernel
theorem dL_law_331 : decode cL_law 331 = .ok (.aload_n 1, 1) := by decide +kernel
theorem dL_law_332 : decode cL_law 332 = .ok (.iload 19, 2) := by decide +kernel
theorem dL_law_334 : decode cL_law 334 = .ok (.iload 17, 2) := by decide +kernel
theorem dL_law_336 : decode cL_law 336 = .ok (.irem, 1) := by decide +kernel
theorem dL_law_337 : decode cL_law 337 = .ok (.ifCond .ne 9, 3) := by decide +kernel
theorem dL_law_340 : decode cL_law 340 = .ok (.ldc2_w 106, 3) := by decide +kernel
theorem dL_law_343 : decode cL_law 343 = .ok (.goto 6, 3) := by decide +kernel
theorem dL_law_346 : decode cL_law 346 = .ok (.ldc2_w 108, 3) := by decide +kernel
theorem dL_law_349 : decode cL_law 349 = .ok (.invokevirtual 110, 3) := by decide +kernel
theorem dL_law_352 : decode cL_law 352 = .ok (.iconst 1, 1) := by decide +kernel
theorem dL_law_353 : decode cL_law 353 = .ok (.if_icmp .lt 71, 3) := by decide +kernel
theorem dL_law_356 : decode cL_law 356 = .ok (.iload 20, 2) := by decide +kernel
theorem dL_law_358 : decode cL_law 358 = .ok (.bipush 99, 2) := by decide +kernel
theorem dL_law_360 : decode cL_law 360 = .ok (.if_icmp .le 20, 3) := by decide +kernel
theorem dL_law_363 : decode cL_law 363 = .ok (.aload_n 1, 1) := by decide +kernel
theorem dL_law_364 : decode cL_law 364 = .ok (.bipush 48, 2) := by decide +kernel
theorem dL_law_366 : decode cL_law 366 = .ok (.iload 20, 2) := by decide +kernel
theorem dL_law_368 : decode cL_law 368 = .ok (.bipush 100, 2) := by decide +kernel
theorem dL_law_370 : decode cL_law 370 = .ok (.idiv, 1) := by decide +kernel
theorem dL_law_371 : decode cL_law 371 = .ok (.iadd, 1) := by decide +kernel
theorem dL_law_372 : decode cL_law 372 = .ok (.i2l, 1) := by decide +kernel
theorem dL_law_373 : decode cL_law 373 = .ok (.invokevirtual 110, 3) := by decide +kernel
theorem dL_law_376 : decode cL_law 376 = .ok (.iconst 1, 1) := by decide +kernel
theorem dL_law_377 : decode cL_law 377 = .ok (.if_icmp .lt 47, 3) := by decide +kernel
theorem dL_law_380 : decode cL_law 380 = .ok (.iload 20, 2) := by decide +kernel
theorem dL_law_382 : decode cL_law 382 = .ok (.bipush 9, 2) := by decide +kernel
theorem dL_law_384 : decode cL_law 384 = .ok (.if_icmp .le 23, 3) := by decide +kernel
theorem dL_law_387 : decode cL_law 387 = .ok (.aload_n 1, 1) := by decide +kernel
theorem dL_law_388 : decode cL_law 388 = .ok (.bipush 48, 2) := by decide +kernel
theorem dL_law_390 : decode cL_law 390 = .ok (.iload 20, 2) := by decide +kernel
theorem dL_law_392 : decode cL_law 392 = .ok (.bipush 10, 2) := by decide +kernel
theorem dL_law_394 : decode cL_law 394 = .ok (.idiv, 1) := by decide +kernel
theorem dL_law_395 : decode cL_law 395 = .ok (.bipush 10, 2) := by decide +kernel
theorem dL_law_397 : decode cL_law 397 = .ok (.irem, 1) := by decide +kernel
theorem dL_law_398 : decode cL_law 398 = .ok (.iadd, 1) := by decide +kernel
theorem dL_law_399 : decode cL_law 399 = .ok (.i2l, 1) := by decide +kernel
theorem dL_law_400 : decode cL_law 400 = .ok (.invokevirtual 110, 3) := by decide +kernel
theorem dL_law_403 : decode cL_law 403 = .ok (.iconst 1, 1) := by decide +kernel
theorem dL_law_404 : decode cL_law 404 = .ok (.if_icmp .lt 20, 3) := by decide +kernel
theorem dL_law_407 : decode cL_law 407 = .ok (.aload_n 1, 1) := by decide +kernel
theorem dL_law_408 : decode cL_law 408 = .ok (.bipush 48, 2) := by decide +kernel
theorem dL_law_410 : decode cL_law 410 = .ok (.iload 20, 2) := by decide +kernel
theorem dL_law_412 : decode cL_law 412 = .ok (.bipush 10, 2) := by decide +kernel
theorem dL_law_414 : decode cL_law 414 = .ok (.irem, 1) := by decide +kernel
theorem dL_law_415 : decode cL_law 415 = .ok (.iadd, 1) := by decide +kernel
theorem dL_law_416 : decode cL_law 416 = .ok (.i2l, 1) := by decide +kernel
theorem dL_law_417 : decode cL_law 417 = .ok (.invokevirtual 110, 3) := by decide +kernel
theorem dL_law_420 : decode cL_law 420 = .ok (.iconst 1, 1) := by decide +kernel
theorem dL_law_421 : decode cL_law 421 = .ok (.if_icmp .ge 5, 3) := by decide +kernel
theorem dL_law_424 : decode cL_law 424 = .ok (.iconst 0, 1) := by decide +kernel
theorem dL_law_425 : decode cL_law 425 = .ok (.ireturn, 1) := by decide +kernel
theorem dL_law_426 : decode cL_law 426 = .ok (.iinc 19 1, 3) := by decide +kernel
theorem dL_law_429 : decode cL_law 429 = .ok (.goto (-140), 3) := by decide +kernel
theorem dL_law_432 : decode cL_law 432 = .ok (.aload_n 1, 1) := by decide +kernel
theorem dL_law_433 : decode cL_law 433 = .ok (.iload 10, 2) := by decide +kernel
theorem dL_law_435 : decode cL_law 435 = .ok (.invokevirtual 114, 3) := by decide +kernel
theorem dL_law_438 : decode cL_law 438 = .ok (.iload 16, 2) := by decide +kernel
theorem dL_law_440 : decode cL_law 440 = .ok (.iload 17, 2) := by decide +kernel
theorem dL_law_442 : decode cL_law 442 = .ok (.imul, 1) := by decide +kernel
theorem dL_law_443 : decode cL_law 443 = .ok (.if_icmp .eq 5, 3) := by decide +kernel
theorem dL_law_446 : decode cL_law 446 = .ok (.iconst 0, 1) := by decide +kernel
theorem dL_law_447 : decode cL_law 447 = .ok (.ireturn, 1) := by decide +kernel
theorem dL_law_448 : decode cL_law 448 = .ok (.goto 1327, 3) := by decide +kernel
theorem dL_law_451 : decode cL_law 451 = .ok (.iload 9, 2) := by decide +kernel
theorem dL_law_453 : decode cL_law 453 = .ok (.iconst 5, 1) := by decide +kernel
theorem dL_law_454 : decode cL_law 454 = .ok (.if_icmp .ge 84, 3) := by decide +kernel
theorem dL_law_457 : decode cL_law 457 = .ok (.iload 8, 2) := by decide +kernel
theorem dL_law_459 : decode cL_law 459 = .ok (.iload 7, 2) := by decide +kernel
theorem dL_law_461 : decode cL_law 461 = .ok (.bipush 8, 2) := by decide +kernel
theorem dL_law_463 : decode cL_law 463 = .ok (.ishr, 1) := by decide +kernel
theorem dL_law_464 : decode cL_law 464 = .ok (.iconst 3, 1) := by decide +kernel
theorem dL_law_465 : decode cL_law 465 = .ok (.invokestatic 51, 3) := by decide +kernel
theorem dL_law_468 : decode cL_law 468 = .ok (.ifCond .ne 9, 3) := by decide +kernel
theorem dL_law_471 : decode cL_law 471 = .ok (.sipush 1000, 3) := by decide +kernel
theorem dL_law_474 : decode cL_law 474 = .ok (.goto 5, 3) := by decide +kernel
theorem dL_law_477 : decode cL_law 477 = .ok (.bipush 8, 2) := by decide +kernel
theorem dL_law_479 : decode cL_law 479 = .ok (.invokestatic 51, 3) := by decide +kernel
theorem dL_law_482 : decode cL_law 482 = .ok (.istore 16, 2) := by decide +kernel
theorem dL_law_484 : decode cL_law 484 = .ok (.aload_n 1, 1) := by decide +kernel
theorem dL_law_485 : decode cL_law 485 = .ok (.iload 10, 2) := by decide +kernel
theorem dL_law_487 : decode cL_law 487 = .ok (.iload 12, 2) := by decide +kernel
theorem dL_law_489 : decode cL_law 489 = .ok (.aload_n 2, 1) := by decide +kernel
theorem dL_law_490 : decode cL_law 490 = .ok (.iload 11, 2) := by decide +kernel
theorem dL_law_492 : decode cL_law 492 = .ok (.iconst 1, 1) := by decide +kernel
theorem dL_law_493 : decode cL_law 493 = .ok (.iadd, 1) := by decide +kernel
theorem dL_law_494 : decode cL_law 494 = .ok (.iaload, 1) := by decide +kernel
theorem dL_law_495 : decode cL_law 495 = .ok (.idiv, 1) := by decide +kernel
theorem dL_law_496 : decode cL_law 496 = .ok (.iload 12, 2) := by decide +kernel
theorem dL_law_498 : decode cL_law 498 = .ok (.aload_n 2, 1) := by decide +kernel
theorem dL_law_499 : decode cL_law 499 = .ok (.iload 11, 2) := by decide +kernel
theorem dL_law_501 : decode cL_law 501 = .ok (.iconst 1, 1) := by decide +kernel
theorem dL_law_502 : decode cL_law 502 = .ok (.iadd, 1) := by decide +kernel
theorem dL_law_503 : decode cL_law 503 = .ok (.iaload, 1) := by decide +kernel
theorem dL_law_504 : decode cL_law 504 = .ok (.irem, 1) := by decide +kernel
theorem dL_law_505 : decode cL_law 505 = .ok (.iload 16, 2) := by decide +kernel
theorem dL_law_507 : decode cL_law 507 = .ok (.invokevirtual 117, 3) := by decide +kernel
theorem dL_law_510 : decode cL_law 510 = .ok (.aload_n 2, 1) := by decide +kernel
theorem dL_law_511 : decode cL_law 511 = .ok (.iload 11, 2) := by decide +kernel
theorem dL_law_513 : decode cL_law 513 = .ok (.iconst 2, 1) := by decide +kernel
theorem dL_law_514 : decode cL_law 514 = .ok (.iadd, 1) := by decide +kernel
theorem dL_law_515 : decode cL_law 515 = .ok (.iload 12, 2) := by decide +kernel
theorem dL_law_517 : decode cL_law 517 = .ok (.iadd, 1) := by decide +kernel
theorem dL_law_518 : decode cL_law 518 = .ok (.iaload, 1) := by decide +kernel
theorem dL_law_519 : decode cL_law 519 = .ok (.if_icmp .eq 5, 3) := by decide +kernel
theorem dL_law_522 : decode cL_law 522 = .ok (.iconst 0, 1) := by decide +kernel
theorem dL_law_523 : decode cL_law 523 = .ok (.ireturn, 1) := by decide +kernel
theorem dL_law_524 : decode cL_law 524 = .ok (.aload_n 2, 1) := by decide +kernel
theorem dL_law_525 : decode cL_law 525 = .ok (.iload 11, 2) := by decide +kernel
theorem dL_law_527 : decode cL_law 527 = .ok (.iconst 2, 1) := by decide +kernel
theorem dL_law_528 : decode cL_law 528 = .ok (.iadd, 1) := by decide +kernel
theorem dL_law_529 : decode cL_law 529 = .ok (.iload 12, 2) := by decide +kernel
theorem dL_law_531 : decode cL_law 531 = .ok (.iadd, 1) := by decide +kernel
theorem dL_law_532 : decode cL_law 532 = .ok (.iload 16, 2) := by decide +kernel
theorem dL_law_534 : decode cL_law 534 = .ok (.iastore, 1) := by decide +kernel
theorem dL_law_535 : decode cL_law 535 = .ok (.goto 1240, 3) := by decide +kernel
theorem dL_law_538 : decode cL_law 538 = .ok (.iload 9, 2) := by decide +kernel
theorem dL_law_540 : decode cL_law 540 = .ok (.iconst 5, 1) := by decide +kernel
theorem dL_law_541 : decode cL_law 541 = .ok (.if_icmp .ne 249, 3) := by decide +kernel
theorem dL_law_544 : decode cL_law 544 = .ok (.iload 8, 2) := by decide +kernel
theorem dL_law_546 : decode cL_law 546 = .ok (.bipush 19, 2) := by decide +kernel
theorem dL_law_548 : decode cL_law 548 = .ok (.invokestatic 51, 3) := by decide +kernel
theorem dL_law_551 : decode cL_law 551 = .ok (.bipush 9, 2) := by decide +kernel
theorem dL_law_553 : decode cL_law 553 = .ok (.isub, 1) := by decide +kernel
theorem dL_law_554 : decode cL_law 554 = .ok (.istore 16, 2) := by decide +kernel
theorem dL_law_556 : decode cL_law 556 = .ok (.iconst 1, 1) := by decide +kernel
theorem dL_law_557 : decode cL_law 557 = .ok (.istore 17, 2) := by decide +kernel
theorem dL_law_559 : decode cL_law 559 = .ok (.iconst 0, 1) := by decide +kernel
theorem dL_law_560 : decode cL_law 560 = .ok (.istore 18, 2) := by decide +kernel
theorem dL_law_562 : decode cL_law 562 = .ok (.iconst 0, 1) := by decide +kernel
theorem dL_law_563 : decode cL_law 563 = .ok (.istore 19, 2) := by decide +kernel
theorem dL_law_565 : decode cL_law 565 = .ok (.iload 19, 2) := by decide +kernel
theorem dL_law_567 : decode cL_law 567 = .ok (.iload 10, 2) := by decide +kernel
theorem dL_law_569 : decode cL_law 569 = .ok (.aload_n 2, 1) := by decide +kernel
theorem dL_law_570 : decode cL_law 570 = .ok (.invokestatic 16, 3) := by decide +kernel
theorem dL_law_573 : decode cL_law 573 = .ok (.if_icmp .ge 85, 3) := by decide +kernel
theorem dL_law_576 : decode cL_law 576 = .ok (.iload 13, 2) := by decide +kernel
theorem dL_law_578 : decode cL_law 578 = .ok (.ifCond .eq 15, 3) := by decide +kernel
theorem dL_law_581 : decode cL_law 581 = .ok (.iload 19, 2) := by decide +kernel
theorem dL_law_583 : decode cL_law 583 = .ok (.aload_n 2, 1) := by decide +kernel
theorem dL_law_584 : decode cL_law 584 = .ok (.iload 11, 2) := by decide +kernel
theorem dL_law_586 : decode cL_law 586 = .ok (.iconst 1, 1) := by decide +kernel
theorem dL_law_587 : decode cL_law 587 = .ok (.iadd, 1) := by decide +kernel
theorem dL_law_588 : decode cL_law 588 = .ok (.iaload, 1) := by decide +kernel
theorem dL_law_589 : decode cL_law 589 = .ok (.idiv, 1) := by decide +kernel
theorem dL_law_590 : decode cL_law 590 = .ok (.goto 12, 3) := by decide +kernel
theorem dL_law_593 : decode cL_law 593 = .ok (.iload 19, 2) := by decide +kernel
theorem dL_law_595 : decode cL_law 595 = .ok (.aload_n 2, 1) := by decide +kernel
theorem dL_law_596 : decode cL_law 596 = .ok (.iload 11, 2) := by decide +kernel
theorem dL_law_598 : decode cL_law 598 = .ok (.iconst 1, 1) := by decide +kernel
theorem dL_law_599 : decode cL_law 599 = .ok (.iadd, 1) := by decide +kernel
theorem dL_law_600 : decode cL_law 600 = .ok (.iaload, 1) := by decide +kernel
theorem dL_law_601 : decode cL_law 601 = .ok (.irem, 1) := by decide +kernel
theorem dL_law_602 : decode cL_law 602 = .ok (.iload 15, 2) := by decide +kernel
theorem dL_law_604 : decode cL_law 604 = .ok (.if_icmp .ne 48, 3) := by decide +kernel
theorem dL_law_607 : decode cL_law 607 = .ok (.iload 17, 2) := by decide +kernel
theorem dL_law_609 : decode cL_law 609 = .ok (.ifCond .eq 40, 3) := by decide +kernel
theorem dL_law_612 : decode cL_law 612 = .ok (.aload_n 2, 1) := by decide +kernel
theorem dL_law_613 : decode cL_law 613 = .ok (.iload 11, 2) := by decide +kernel
theorem dL_law_615 : decode cL_law 615 = .ok (.iconst 2, 1) := by decide +kernel
theorem dL_law_616 : decode cL_law 616 = .ok (.iadd, 1) := by decide +kernel
theorem dL_law_617 : decode cL_law 617 = .ok (.iload 19, 2) := by decide +kernel
theorem dL_law_619 : decode cL_law 619 = .ok (.iadd, 1) := by decide +kernel
theorem dL_law_620 : decode cL_law 620 = .ok (.iaload, 1) := by decide +kernel
theorem dL_law_621 : decode cL_law 621 = .ok (.iload 16, 2) := by decide +kernel
theorem dL_law_623 : decode cL_law 623 = .ok (.iadd, 1) := by decide +kernel
theorem dL_law_624 : decode cL_law 624 = .ok (.ifCond .lt 25, 3) := by decide +kernel
theorem dL_law_627 : decode cL_law 627 = .ok (.aload_n 2, 1) := by decide +kernel
theorem dL_law_628 : decode cL_law 628 = .ok (.iload 11, 2) := by decide +kernel
theorem dL_law_630 : decode cL_law 630 = .ok (.iconst 2, 1) := by decide +kernel
theorem dL_law_631 : decode cL_law 631 = .ok (.iadd, 1) := by decide +kernel
theorem dL_law_632 : decode cL_law 632 = .ok (.iload 19, 2) := by decide +kernel
theorem dL_law_634 : decode cL_law 634 = .ok (.iadd, 1) := by decide +kernel
theorem dL_law_635 : decode cL_law 635 = .ok (.iaload, 1) := by decide +kernel
theorem dL_law_636 : decode cL_law 636 = .ok (.iload 16, 2) := by decide +kernel
theorem dL_law_638 : decode cL_law 638 = .ok (.iadd, 1) := by decide +kernel
theorem dL_law_639 : decode cL_law 639 = .ok (.sipush 1000, 3) := by decide +kernel
theorem dL_law_642 : decode cL_law 642 = .ok (.if_icmp .ge 7, 3) := by decide +kernel
theorem dL_law_645 : decode cL_law 645 = .ok (.iconst 1, 1) := by decide +kernel
theorem dL_law_646 : decode cL_law 646 = .ok (.goto 4, 3) := by decide +kernel
theorem dL_law_649 : decode cL_law 649 = .ok (.iconst 0, 1) := by decide +kernel
theorem dL_law_650 : decode cL_law 650 = .ok (.istore 17, 2) := by decide +kernel
theorem dL_law_652 : decode cL_law 652 = .ok (.iinc 19 1, 3) := by decide +kernel
theorem dL_law_655 : decode cL_law 655 = .ok (.goto (-90), 3) := by decide +kernel
theorem dL_law_658 : decode cL_law 658 = .ok (.iconst 0, 1) := by decide +kernel
theorem dL_law_659 : decode cL_law 659 = .ok (.istore 19, 2) := by decide +kernel
theorem dL_law_661 : decode cL_law 661 = .ok (.iload 19, 2) := by decide +kernel
theorem dL_law_663 : decode cL_law 663 = .ok (.iload 10, 2) := by decide +kernel
theorem dL_law_665 : decode cL_law 665 = .ok (.aload_n 2, 1) := by decide +kernel
theorem dL_law_666 : decode cL_law 666 = .ok (.invokestatic 16, 3) := by decide +kernel
theorem dL_law_669 : decode cL_law 669 = .ok (.if_icmp .ge 89, 3) := by decide +kernel
theorem dL_law_672 : decode cL_law 672 = .ok (.iload 17, 2) := by decide +kernel
theorem dL_law_674 : decode cL_law 674 = .ok (.ifCond .eq 48, 3) := by decide +kernel
theorem dL_law_677 : decode cL_law 677 = .ok (.iload 13, 2) := by decide +kernel
theorem dL_law_679 : decode cL_law 679 = .ok (.ifCond .eq 15, 3) := by decide +kernel
theorem dL_law_682 : decode cL_law 682 = .ok (.iload 19, 2) := by decide +kernel
theorem dL_law_684 : decode cL_law 684 = .ok (.aload_n 2, 1) := by decide +kernel
theorem dL_law_685 : decode cL_law 685 = .ok (.iload 11, 2) := by decide +kernel
theorem dL_law_687 : decode cL_law 687 = .ok (.iconst 1, 1) := by decide +kernel
theorem dL_law_688 : decode cL_law 688 = .ok (.iadd, 1) := by decide +kernel
theorem dL_law_689 : decode cL_law 689 = .ok (.iaload, 1) := by decide +kernel
theorem dL_law_690 : decode cL_law 690 = .ok (.idiv, 1) := by decide +kernel
theorem dL_law_691 : decode cL_law 691 = .ok (.goto 12, 3) := by decide +kernel
theorem dL_law_694 : decode cL_law 694 = .ok (.iload 19, 2) := by decide +kernel
theorem dL_law_696 : decode cL_law 696 = .ok (.aload_n 2, 1) := by decide +kernel
theorem dL_law_697 : decode cL_law 697 = .ok (.iload 11, 2) := by decide +kernel
theorem dL_law_699 : decode cL_law 699 = .ok (.iconst 1, 1) := by decide +kernel
theorem dL_law_700 : decode cL_law 700 = .ok (.iadd, 1) := by decide +kernel
theorem dL_law_701 : decode cL_law 701 = .ok (.iaload, 1) := by decide +kernel
theorem dL_law_702 : decode cL_law 702 = .ok (.irem, 1) := by decide +kernel
theorem dL_law_703 : decode cL_law 703 = .ok (.iload 15, 2) := by decide +kernel
theorem dL_law_705 : decode cL_law 705 = .ok (.if_icmp .ne 17, 3) := by decide +kernel
theorem dL_law_708 : decode cL_law 708 = .ok (.aload_n 2, 1) := by decide +kernel
theorem dL_law_709 : decode cL_law 709 = .ok (.iload 11, 2) := by decide +kernel
theorem dL_law_711 : decode cL_law 711 = .ok (.iconst 2, 1) := by decide +kernel
theorem dL_law_712 : decode cL_law 712 = .ok (.iadd, 1) := by decide +kernel
theorem dL_law_713 : decode cL_law 713 = .ok (.iload 19, 2) := by decide +kernel
theorem dL_law_715 : decode cL_law 715 = .ok (.iadd, 1) := by decide +kernel
theorem dL_law_716 : decode cL_law 716 = .ok (.dup2, 1) := by decide +kernel
theorem dL_law_717 : decode cL_law 717 = .ok (.iaload, 1) := by decide +kernel
theorem dL_law_718 : decode cL_law 718 = .ok (.iload 16, 2) := by decide +kernel
theorem dL_law_720 : decode cL_law 720 = .ok (.iadd, 1) := by decide +kernel
theorem dL_law_721 : decode cL_law 721 = .ok (.iastore, 1) := by decide +kernel
theorem dL_law_722 : decode cL_law 722 = .ok (.aload_n 2, 1) := by decide +kernel
theorem dL_law_723 : decode cL_law 723 = .ok (.iload 11, 2) := by decide +kernel
theorem dL_law_725 : decode cL_law 725 = .ok (.iconst 2, 1) := by decide +kernel
theorem dL_law_726 : decode cL_law 726 = .ok (.iadd, 1) := by decide +kernel
theorem dL_law_727 : decode cL_law 727 = .ok (.iload 19, 2) := by decide +kernel
theorem dL_law_729 : decode cL_law 729 = .ok (.iadd, 1) := by decide +kernel
theorem dL_law_730 : decode cL_law 730 = .ok (.iaload, 1) := by decide +kernel
theorem dL_law_731 : decode cL_law 731 = .ok (.iload 18, 2) := by decide +kernel
theorem dL_law_733 : decode cL_law 733 = .ok (.if_icmp .le 15, 3) := by decide +kernel
theorem dL_law_736 : decode cL_law 736 = .ok (.aload_n 2, 1) := by decide +kernel
theorem dL_law_737 : decode cL_law 737 = .ok (.iload 11, 2) := by decide +kernel
theorem dL_law_739 : decode cL_law 739 = .ok (.iconst 2, 1) := by decide +kernel
theorem dL_law_740 : decode cL_law 740 = .ok (.iadd, 1) := by decide +kernel
theorem dL_law_741 : decode cL_law 741 = .ok (.iload 19, 2) := by decide +kernel
theorem dL_law_743 : decode cL_law 743 = .ok (.iadd, 1) := by decide +kernel
theorem dL_law_744 : decode cL_law 744 = .ok (.iaload, 1) := by decide +kernel
theorem dL_law_745 : decode cL_law 745 = .ok (.goto 5, 3) := by decide +kernel
theorem dL_law_748 : decode cL_law 748 = .ok (.iload 18, 2) := by decide +kernel
theorem dL_law_750 : decode cL_law 750 = .ok (.istore 18, 2) := by decide +kernel
theorem dL_law_752 : decode cL_law 752 = .ok (.iinc 19 1, 3) := by decide +kernel
theorem dL_law_755 : decode cL_law 755 = .ok (.goto (-94), 3) := by decide +kernel
theorem dL_law_758 : decode cL_law 758 = .ok (.aload_n 1, 1) := by decide +kernel
theorem dL_law_759 : decode cL_law 759 = .ok (.iload 10, 2) := by decide +kernel
theorem dL_law_761 : decode cL_law 761 = .ok (.iload 13, 2) := by decide +kernel
theorem dL_law_763 : decode cL_law 763 = .ok (.iload 15, 2) := by decide +kernel
theorem dL_law_765 : decode cL_law 765 = .ok (.iload 16, 2) := by decide +kernel
theorem dL_law_767 : decode cL_law 767 = .ok (.invokevirtual 120, 3) := by decide +kernel
theorem dL_law_770 : decode cL_law 770 = .ok (.iload 17, 2) := by decide +kernel
theorem dL_law_772 : decode cL_law 772 = .ok (.ifCond .eq 8, 3) := by decide +kernel
theorem dL_law_775 : decode cL_law 775 = .ok (.iload 18, 2) := by decide +kernel
theorem dL_law_777 : decode cL_law 777 = .ok (.goto 5, 3) := by decide +kernel
theorem dL_law_780 : decode cL_law 780 = .ok (.bipush (-5), 2) := by decide +kernel
theorem dL_law_782 : decode cL_law 782 = .ok (.if_icmp .eq 5, 3) := by decide +kernel
theorem dL_law_785 : decode cL_law 785 = .ok (.iconst 0, 1) := by decide +kernel
theorem dL_law_786 : decode cL_law 786 = .ok (.ireturn, 1) := by decide +kernel
theorem dL_law_787 : decode cL_law 787 = .ok (.goto 988, 3) := by decide +kernel
theorem dL_law_790 : decode cL_law 790 = .ok (.iload 9, 2) := by decide +kernel
theorem dL_law_792 : decode cL_law 792 = .ok (.bipush 6, 2) := by decide +kernel
theorem dL_law_794 : decode cL_law 794 = .ok (.if_icmp .ne 203, 3) := by decide +kernel
theorem dL_law_797 : decode cL_law 797 = .ok (.iload 8, 2) := by decide +kernel
theorem dL_law_799 : decode cL_law 799 = .ok (.iload 14, 2) := by decide +kernel
theorem dL_law_801 : decode cL_law 801 = .ok (.invokestatic 51, 3) := by decide +kernel
theorem dL_law_804 : decode cL_law 804 = .ok (.istore 16, 2) := by decide +kernel
theorem dL_law_806 : decode cL_law 806 = .ok (.iconst 0, 1) := by decide +kernel
theorem dL_law_807 : decode cL_law 807 = .ok (.istore 17, 2) := by decide +kernel
theorem dL_law_809 : decode cL_law 809 = .ok (.aload_n 2, 1) := by decide +kernel
theorem dL_law_810 : decode cL_law 810 = .ok (.iload 11, 2) := by decide +kernel
theorem dL_law_812 : decode cL_law 812 = .ok (.iconst 1, 1) := by decide +kernel
theorem dL_law_813 : decode cL_law 813 = .ok (.iadd, 1) := by decide +kernel
theorem dL_law_814 : decode cL_law 814 = .ok (.iaload, 1) := by decide +kernel
theorem dL_law_815 : decode cL_law 815 = .ok (.istore 18, 2) := by decide +kernel
theorem dL_law_817 : decode cL_law 817 = .ok (.iconst 0, 1) := by decide +kernel
theorem dL_law_818 : decode cL_law 818 = .ok (.istore 19, 2) := by decide +kernel
theorem dL_law_820 : decode cL_law 820 = .ok (.iload 19, 2) := by decide +kernel
theorem dL_law_822 : decode cL_law 822 = .ok (.iload 13, 2) := by decide +kernel
theorem dL_law_824 : decode cL_law 824 = .ok (.ifCond .eq 8, 3) := by decide +kernel
theorem dL_law_827 : decode cL_law 827 = .ok (.iload 18, 2) := by decide +kernel
theorem dL_law_829 : decode cL_law 829 = .ok (.goto 7, 3) := by decide +kernel
theorem dL_law_832 : decode cL_law 832 = .ok (.aload_n 2, 1) := by decide +kernel
theorem dL_law_833 : decode cL_law 833 = .ok (.iload 11, 2) := by decide +kernel
theorem dL_law_835 : decode cL_law 835 = .ok (.iaload, 1) := by decide +kernel
theorem dL_law_836 : decode cL_law 836 = .ok (.if_icmp .ge 119, 3) := by decide +kernel
theorem dL_law_839 : decode cL_law 839 = .ok (.iload 16, 2) := by decide +kernel
theorem dL_law_841 : decode cL_law 841 = .ok (.iload 15, 2) := by decide +kernel
theorem dL_law_843 : decode cL_law 843 = .ok (.if_icmp .eq 112, 3) := by decide +kernel
theorem dL_law_846 : decode cL_law 846 = .ok (.iload 11, 2) := by decide +kernel
theorem dL_law_848 : decode cL_law 848 = .ok (.iconst 2, 1) := by decide +kernel
theorem dL_law_849 : decode cL_law 849 = .ok (.iadd, 1) := by decide +kernel
theorem dL_law_850 : decode cL_law 850 = .ok (.iload 13, 2) := by decide +kernel
theorem dL_law_852 : decode cL_law 852 = .ok (.ifCond .eq 14, 3) := by decide +kernel
theorem dL_law_855 : decode cL_law 855 = .ok (.iload 15, 2) := by decide +kernel
theorem dL_law_857 : decode cL_law 857 = .ok (.iload 18, 2) := by decide +kernel
theorem dL_law_859 : decode cL_law 859 = .ok (.imul, 1) := by decide +kernel
theorem dL_law_860 : decode cL_law 860 = .ok (.iload 19, 2) := by decide +kernel
theorem dL_law_862 : decode cL_law 862 = .ok (.iadd, 1) := by decide +kernel
theorem dL_law_863 : decode cL_law 863 = .ok (.goto 11, 3) := by decide +kernel
theorem dL_law_866 : decode cL_law 866 = .ok (.iload 19, 2) := by decide +kernel
theorem dL_law_868 : decode cL_law 868 = .ok (.iload 18, 2) := by decide +kernel
theorem dL_law_870 : decode cL_law 870 = .ok (.imul, 1) := by decide +kernel
theorem dL_law_871 : decode cL_law 871 = .ok (.iload 15, 2) := by decide +kernel
theorem dL_law_873 : decode cL_law 873 = .ok (.iadd, 1) := by decide +kernel
theorem dL_law_874 : decode cL_law 874 = .ok (.iadd, 1) := by decide +kernel
theorem dL_law_875 : decode cL_law 875 = .ok (.istore 20, 2) := by decide +kernel
theorem dL_law_877 : decode cL_law 877 = .ok (.iload 11, 2) := by decide +kernel
theorem dL_law_879 : decode cL_law 879 = .ok (.iconst 2, 1) := by decide +kernel
theorem dL_law_880 : decode cL_law 880 = .ok (.iadd, 1) := by decide +kernel
theorem dL_law_881 : decode cL_law 881 = .ok (.iload 13, 2) := by decide +kernel
theorem dL_law_883 : decode cL_law 883 = .ok (.ifCond .eq 14, 3) := by decide +kernel
theorem dL_law_886 : decode cL_law 886 = .ok (.iload 16, 2) := by decide +kernel
theorem dL_law_888 : decode cL_law 888 = .ok (.iload 18, 2) := by decide +kernel
theorem dL_law_890 : decode cL_law 890 = .ok (.imul, 1) := by decide +kernel
theorem dL_law_891 : decode cL_law 891 = .ok (.iload 19, 2) := by decide +kernel
theorem dL_law_893 : decode cL_law 893 = .ok (.iadd, 1) := by decide +kernel
theorem dL_law_894 : decode cL_law 894 = .ok (.goto 11, 3) := by decide +kernel
theorem dL_law_897 : decode cL_law 897 = .ok (.iload 19, 2) := by decide +kernel
theorem dL_law_899 : decode cL_law 899 = .ok (.iload 18, 2) := by decide +kernel
theorem dL_law_901 : decode cL_law 901 = .ok (.imul, 1) := by decide +kernel
theorem dL_law_902 : decode cL_law 902 = .ok (.iload 16, 2) := by decide +kernel
theorem dL_law_904 : decode cL_law 904 = .ok (.iadd, 1) := by decide +kernel
theorem dL_law_905 : decode cL_law 905 = .ok (.iadd, 1) := by decide +kernel
theorem dL_law_906 : decode cL_law 906 = .ok (.istore 21, 2) := by decide +kernel
theorem dL_law_908 : decode cL_law 908 = .ok (.aload_n 2, 1) := by decide +kernel
theorem dL_law_909 : decode cL_law 909 = .ok (.iload 20, 2) := by decide +kernel
theorem dL_law_911 : decode cL_law 911 = .ok (.iaload, 1) := by decide +kernel
theorem dL_law_912 : decode cL_law 912 = .ok (.istore 22, 2) := by decide +kernel
theorem dL_law_914 : decode cL_law 914 = .ok (.iload 17, 2) := by decide +kernel
theorem dL_law_916 : decode cL_law 916 = .ok (.ifCond .ne 12, 3) := by decide +kernel
theorem dL_law_919 : decode cL_law 919 = .ok (.iload 22, 2) := by decide +kernel
theorem dL_law_921 : decode cL_law 921 = .ok (.aload_n 2, 1) := by decide +kernel
theorem dL_law_922 : decode cL_law 922 = .ok (.iload 21, 2) := by decide +kernel
theorem dL_law_924 : decode cL_law 924 = .ok (.iaload, 1) := by decide +kernel
theorem dL_law_925 : decode cL_law 925 = .ok (.if_icmp .eq 7, 3) := by decide +kernel
theorem dL_law_928 : decode cL_law 928 = .ok (.iconst 1, 1) := by decide +kernel
theorem dL_law_929 : decode cL_law 929 = .ok (.goto 4, 3) := by decide +kernel
theorem dL_law_932 : decode cL_law 932 = .ok (.iconst 0, 1) := by decide +kernel
theorem dL_law_933 : decode cL_law 933 = .ok (.istore 17, 2) := by decide +kernel
theorem dL_law_935 : decode cL_law 935 = .ok (.aload_n 2, 1) := by decide +kernel
theorem dL_law_936 : decode cL_law 936 = .ok (.iload 20, 2) := by decide +kernel
theorem dL_law_938 : decode cL_law 938 = .ok (.aload_n 2, 1) := by decide +kernel
theorem dL_law_939 : decode cL_law 939 = .ok (.iload 21, 2) := by decide +kernel
theorem dL_law_941 : decode cL_law 941 = .ok (.iaload, 1) := by decide +kernel
theorem dL_law_942 : decode cL_law 942 = .ok (.iastore, 1) := by decide +kernel
theorem dL_law_943 : decode cL_law 943 = .ok (.aload_n 2, 1) := by decide +kernel
theorem dL_law_944 : decode cL_law 944 = .ok (.iload 21, 2) := by decide +kernel
theorem dL_law_946 : decode cL_law 946 = .ok (.iload 22, 2) := by decide +kernel
theorem dL_law_948 : decode cL_law 948 = .ok (.iastore, 1) := by decide +kernel
theorem dL_law_949 : decode cL_law 949 = .ok (.iinc 19 1, 3) := by decide +kernel
theorem dL_law_952 : decode cL_law 952 = .ok (.goto (-132), 3) := by decide +kernel
theorem dL_law_955 : decode cL_law 955 = .ok (.aload_n 1, 1) := by decide +kernel
theorem dL_law_956 : decode cL_law 956 = .ok (.iload 10, 2) := by decide +kernel
theorem dL_law_958 : decode cL_law 958 = .ok (.iload 13, 2) := by decide +kernel
theorem dL_law_960 : decode cL_law 960 = .ok (.iload 15, 2) := by decide +kernel
theorem dL_law_962 : decode cL_law 962 = .ok (.iload 16, 2) := by decide +kernel
theorem dL_law_964 : decode cL_law 964 = .ok (.invokevirtual 124, 3) := by decide +kernel
theorem dL_law_967 : decode cL_law 967 = .ok (.iload 16, 2) := by decide +kernel
theorem dL_law_969 : decode cL_law 969 = .ok (.iload 15, 2) := by decide +kernel
theorem dL_law_971 : decode cL_law 971 = .ok (.if_icmp .ne 8, 3) := by decide +kernel
theorem dL_law_974 : decode cL_law 974 = .ok (.bipush (-2), 2) := by decide +kernel
theorem dL_law_976 : decode cL_law 976 = .ok (.goto 13, 3) := by decide +kernel
theorem dL_law_979 : decode cL_law 979 = .ok (.iload 17, 2) := by decide +kernel
theorem dL_law_981 : decode cL_law 981 = .ok (.ifCond .eq 7, 3) := by decide +kernel
theorem dL_law_984 : decode cL_law 984 = .ok (.iconst 1, 1) := by decide +kernel
theorem dL_law_985 : decode cL_law 985 = .ok (.goto 4, 3) := by decide +kernel
theorem dL_law_988 : decode cL_law 988 = .ok (.iconst 0, 1) := by decide +kernel
theorem dL_law_989 : decode cL_law 989 = .ok (.if_icmp .eq 5, 3) := by decide +kernel
theorem dL_law_992 : decode cL_law 992 = .ok (.iconst 0, 1) := by decide +kernel
theorem dL_law_993 : decode cL_law 993 = .ok (.ireturn, 1) := by decide +kernel
theorem dL_law_994 : decode cL_law 994 = .ok (.goto 781, 3) := by decide +kernel
theorem dL_law_997 : decode cL_law 997 = .ok (.iload 9, 2) := by decide +kernel
theorem dL_law_999 : decode cL_law 999 = .ok (.bipush 7, 2) := by decide +kernel
theorem dL_law_1001 : decode cL_law 1001 = .ok (.if_icmp .ne 139, 3) := by decide +kernel
theorem dL_law_1004 : decode cL_law 1004 = .ok (.aload_n 2, 1) := by decide +kernel
theorem dL_law_1005 : decode cL_law 1005 = .ok (.iload 11, 2) := by decide +kernel
theorem dL_law_1007 : decode cL_law 1007 = .ok (.iconst 1, 1) := by decide +kernel
theorem dL_law_1008 : decode cL_law 1008 = .ok (.iadd, 1) := by decide +kernel
theorem dL_law_1009 : decode cL_law 1009 = .ok (.iaload, 1) := by decide +kernel
theorem dL_law_1010 : decode cL_law 1010 = .ok (.istore 16, 2) := by decide +kernel
theorem dL_law_1012 : decode cL_law 1012 = .ok (.iload 10, 2) := by decide +kernel
theorem dL_law_1014 : decode cL_law 1014 = .ok (.aload_n 2, 1) := by decide +kernel
theorem dL_law_1015 : decode cL_law 1015 = .ok (.invokestatic 16, 3) := by decide +kernel
theorem dL_law_1018 : decode cL_law 1018 = .ok (.istore 17, 2) := by decide +kernel
theorem dL_law_1020 : decode cL_law 1020 = .ok (.iconst 0, 1) := by decide +kernel
theorem dL_law_1021 : decode cL_law 1021 = .ok (.istore 18, 2) := by decide +kernel
theorem dL_law_1023 : decode cL_law 1023 = .ok (.iload 14, 2) := by decide +kernel
theorem dL_law_1025 : decode cL_law 1025 = .ok (.iconst 1, 1) := by decide +kernel
theorem dL_law_1026 : decode cL_law 1026 = .ok (.if_icmp .le 83, 3) := by decide +kernel
theorem dL_law_1029 : decode cL_law 1029 = .ok (.iconst 0, 1) := by decide +kernel
theorem dL_law_1030 : decode cL_law 1030 = .ok (.istore 19, 2) := by decide +kernel
theorem dL_law_1032 : decode cL_law 1032 = .ok (.iload 19, 2) := by decide +kernel
theorem dL_law_1034 : decode cL_law 1034 = .ok (.iload 17, 2) := by decide +kernel
theorem dL_law_1036 : decode cL_law 1036 = .ok (.if_icmp .ge 53, 3) := by decide +kernel
theorem dL_law_1039 : decode cL_law 1039 = .ok (.iload 13, 2) := by decide +kernel
theorem dL_law_1041 : decode cL_law 1041 = .ok (.ifCond .eq 11, 3) := by decide +kernel
theorem dL_law_1044 : decode cL_law 1044 = .ok (.iload 19, 2) := by decide +kernel
theorem dL_law_1046 : decode cL_law 1046 = .ok (.iload 16, 2) := by decide +kernel
theorem dL_law_1048 : decode cL_law 1048 = .ok (.idiv, 1) := by decide +kernel
theorem dL_law_1049 : decode cL_law 1049 = .ok (.goto 8, 3) := by decide +kernel
theorem dL_law_1052 : decode cL_law 1052 = .ok (.iload 19, 2) := by decide +kernel
theorem dL_law_1054 : decode cL_law 1054 = .ok (.iload 16, 2) := by decide +kernel
theorem dL_law_1056 : decode cL_law 1056 = .ok (.irem, 1) := by decide +kernel
theorem dL_law_1057 : decode cL_law 1057 = .ok (.iload 15, 2) := by decide +kernel
theorem dL_law_1059 : decode cL_law 1059 = .ok (.if_icmp .eq 24, 3) := by decide +kernel
theorem dL_law_1062 : decode cL_law 1062 = .ok (.aload_n 2, 1) := by decide +kernel
theorem dL_law_1063 : decode cL_law 1063 = .ok (.iload 11, 2) := by decide +kernel
theorem dL_law_1065 : decode cL_law 1065 = .ok (.iconst 2, 1) := by decide +kernel
theorem dL_law_1066 : decode cL_law 1066 = .ok (.iadd, 1) := by decide +kernel
theorem dL_law_1067 : decode cL_law 1067 = .ok (.iload 18, 2) := by decide +kernel
theorem dL_law_1069 : decode cL_law 1069 = .ok (.iinc 18 1, 3) := by decide +kernel
theorem dL_law_1072 : decode cL_law 1072 = .ok (.iadd, 1) := by decide +kernel
theorem dL_law_1073 : decode cL_law 1073 = .ok (.aload_n 2, 1) := by decide +kernel
theorem dL_law_1074 : decode cL_law 1074 = .ok (.iload 11, 2) := by decide +kernel
theorem dL_law_1076 : decode cL_law 1076 = .ok (.iconst 2, 1) := by decide +kernel
theorem dL_law_1077 : decode cL_law 1077 = .ok (.iadd, 1) := by decide +kernel
theorem dL_law_1078 : decode cL_law 1078 = .ok (.iload 19, 2) := by decide +kernel
theorem dL_law_1080 : decode cL_law 1080 = .ok (.iadd, 1) := by decide +kernel
theorem dL_law_1081 : decode cL_law 1081 = .ok (.iaload, 1) := by decide +kernel
theorem dL_law_1082 : decode cL_law 1082 = .ok (.iastore, 1) := by decide +kernel
theorem dL_law_1083 : decode cL_law 1083 = .ok (.iinc 19 1, 3) := by decide +kernel
theorem dL_law_1086 : decode cL_law 1086 = .ok (.goto (-54), 3) := by decide +kernel
theorem dL_law_1089 : decode cL_law 1089 = .ok (.aload_n 2, 1) := by decide +kernel
theorem dL_law_1090 : decode cL_law 1090 = .ok (.iload 13, 2) := by decide +kernel
theorem dL_law_1092 : decode cL_law 1092 = .ok (.ifCond .eq 8, 3) := by decide +kernel
theorem dL_law_1095 : decode cL_law 1095 = .ok (.iload 11, 2) := by decide +kernel
theorem dL_law_1097 : decode cL_law 1097 = .ok (.goto 7, 3) := by decide +kernel
theorem dL_law_1100 : decode cL_law 1100 = .ok (.iload 11, 2) := by decide +kernel
theorem dL_law_1102 : decode cL_law 1102 = .ok (.iconst 1, 1) := by decide +kernel
theorem dL_law_1103 : decode cL_law 1103 = .ok (.iadd, 1) := by decide +kernel
theorem dL_law_1104 : decode cL_law 1104 = .ok (.dup2, 1) := by decide +kernel
theorem dL_law_1105 : decode cL_law 1105 = .ok (.iaload, 1) := by decide +kernel
theorem dL_law_1106 : decode cL_law 1106 = .ok (.iconst 1, 1) := by decide +kernel
theorem dL_law_1107 : decode cL_law 1107 = .ok (.isub, 1) := by decide +kernel
theorem dL_law_1108 : decode cL_law 1108 = .ok (.iastore, 1) := by decide +kernel
theorem dL_law_1109 : decode cL_law 1109 = .ok (.aload_n 1, 1) := by decide +kernel
theorem dL_law_1110 : decode cL_law 1110 = .ok (.iload 10, 2) := by decide +kernel
theorem dL_law_1112 : decode cL_law 1112 = .ok (.iload 13, 2) := by decide +kernel
theorem dL_law_1114 : decode cL_law 1114 = .ok (.iload 15, 2) := by decide +kernel
theorem dL_law_1116 : decode cL_law 1116 = .ok (.invokevirtual 127, 3) := by decide +kernel
theorem dL_law_1119 : decode cL_law 1119 = .ok (.iload 14, 2) := by decide +kernel
theorem dL_law_1121 : decode cL_law 1121 = .ok (.iconst 1, 1) := by decide +kernel
theorem dL_law_1122 : decode cL_law 1122 = .ok (.if_icmp .le 8, 3) := by decide +kernel
theorem dL_law_1125 : decode cL_law 1125 = .ok (.iload 18, 2) := by decide +kernel
theorem dL_law_1127 : decode cL_law 1127 = .ok (.goto 5, 3) := by decide +kernel
theorem dL_law_1130 : decode cL_law 1130 = .ok (.bipush (-5), 2) := by decide +kernel
theorem dL_law_1132 : decode cL_law 1132 = .ok (.if_icmp .eq 5, 3) := by decide +kernel
theorem dL_law_1135 : decode cL_law 1135 = .ok (.iconst 0, 1) := by decide +kernel
theorem dL_law_1136 : decode cL_law 1136 = .ok (.ireturn, 1) := by decide +kernel
theorem dL_law_1137 : decode cL_law 1137 = .ok (.goto 638, 3) := by decide +kernel
theorem dL_law_1140 : decode cL_law 1140 = .ok (.iload 9, 2) := by decide +kernel
theorem dL_law_1142 : decode cL_law 1142 = .ok (.bipush 8, 2) := by decide +kernel
theorem dL_law_1144 : decode cL_law 1144 = .ok (.if_icmp .ne 34, 3) := by decide +kernel
theorem dL_law_1147 : decode cL_law 1147 = .ok (.aload_n 2, 1) := by decide +kernel
theorem dL_law_1148 : decode cL_law 1148 = .ok (.iload 11, 2) := by decide +kernel
theorem dL_law_1150 : decode cL_law 1150 = .ok (.iconst 1, 1) := by decide +kernel
theorem dL_law_1151 : decode cL_law 1151 = .ok (.iadd, 1) := by decide +kernel
theorem dL_law_1152 : decode cL_law 1152 = .ok (.iaload, 1) := by decide +kernel
theorem dL_law_1153 : decode cL_law 1153 = .ok (.iconst 4, 1) := by decide +kernel
theorem dL_law_1154 : decode cL_law 1154 = .ok (.if_icmp .ge 621, 3) := by decide +kernel
theorem dL_law_1157 : decode cL_law 1157 = .ok (.iload 10, 2) := by decide +kernel
theorem dL_law_1159 : decode cL_law 1159 = .ok (.aload_n 2, 1) := by decide +kernel
theorem dL_law_1160 : decode cL_law 1160 = .ok (.invokestatic 90, 3) := by decide +kernel
theorem dL_law_1163 : decode cL_law 1163 = .ok (.aload_n 1, 1) := by decide +kernel
theorem dL_law_1164 : decode cL_law 1164 = .ok (.iload 10, 2) := by decide +kernel
theorem dL_law_1166 : decode cL_law 1166 = .ok (.invokevirtual 130, 3) := by decide +kernel
theorem dL_law_1169 : decode cL_law 1169 = .ok (.aload_n 2, 1) := by decide +kernel
theorem dL_law_1170 : decode cL_law 1170 = .ok (.iload 11, 2) := by decide +kernel
theorem dL_law_1172 : decode cL_law 1172 = .ok (.iaload, 1) := by decide +kernel
theorem dL_law_1173 : decode cL_law 1173 = .ok (.if_icmp .eq 602, 3) := by decide +kernel
theorem dL_law_1176 : decode cL_law 1176 = .ok (.iconst 0, 1) := by decide +kernel
theorem dL_law_1177 : decode cL_law 1177 = .ok (.ireturn, 1) := by decide +kernel
theorem dL_law_1178 : decode cL_law 1178 = .ok (.iload 9, 2) := by decide +kernel
theorem dL_law_1180 : decode cL_law 1180 = .ok (.bipush 9, 2) := by decide +kernel
theorem dL_law_1182 : decode cL_law 1182 = .ok (.if_icmp .ne 326, 3) := by decide +kernel
theorem dL_law_1185 : decode cL_law 1185 = .ok (.iload 8, 2) := by decide +kernel
theorem dL_law_1187 : decode cL_law 1187 = .ok (.iconst 3, 1) := by decide +kernel
theorem dL_law_1188 : decode cL_law 1188 = .ok (.invokestatic 51, 3) := by decide +kernel
theorem dL_law_1191 : decode cL_law 1191 = .ok (.istore 16, 2) := by decide +kernel
theorem dL_law_1193 : decode cL_law 1193 = .ok (.iload 8, 2) := by decide +kernel
theorem dL_law_1195 : decode cL_law 1195 = .ok (.iconst 2, 1) := by decide +kernel
theorem dL_law_1196 : decode cL_law 1196 = .ok (.ishr, 1) := by decide +kernel
theorem dL_law_1197 : decode cL_law 1197 = .ok (.iconst 3, 1) := by decide +kernel
theorem dL_law_1198 : decode cL_law 1198 = .ok (.invokestatic 51, 3) := by decide +kernel
theorem dL_law_1201 : decode cL_law 1201 = .ok (.istore 17, 2) := by decide +kernel
theorem dL_law_1203 : decode cL_law 1203 = .ok (.bipush 9, 2) := by decide +kernel
theorem dL_law_1205 : decode cL_law 1205 = .ok (.newarray .int, 2) := by decide +kernel
theorem dL_law_1207 : decode cL_law 1207 = .ok (.astore 18, 2) := by decide +kernel
theorem dL_law_1209 : decode cL_law 1209 = .ok (.aload_n 2, 1) := by decide +kernel
theorem dL_law_1210 : decode cL_law 1210 = .ok (.iload 11, 2) := by decide +kernel
theorem dL_law_1212 : decode cL_law 1212 = .ok (.iaload, 1) := by decide +kernel
theorem dL_law_1213 : decode cL_law 1213 = .ok (.istore 19, 2) := by decide +kernel
theorem dL_law_1215 : decode cL_law 1215 = .ok (.aload_n 2, 1) := by decide +kernel
theorem dL_law_1216 : decode cL_law 1216 = .ok (.bipush 12, 2) := by decide +kernel
theorem dL_law_1218 : decode cL_law 1218 = .ok (.iload 16, 2) := by decide +kernel
theorem dL_law_1220 : decode cL_law 1220 = .ok (.imul, 1) := by decide +kernel
theorem dL_law_1221 : decode cL_law 1221 = .ok (.iconst 1, 1) := by decide +kernel
theorem dL_law_1222 : decode cL_law 1222 = .ok (.iadd, 1) := by decide +kernel
theorem dL_law_1223 : decode cL_law 1223 = .ok (.iaload, 1) := by decide +kernel
theorem dL_law_1224 : decode cL_law 1224 = .ok (.istore 20, 2) := by decide +kernel
theorem dL_law_1226 : decode cL_law 1226 = .ok (.aload_n 2, 1) := by decide +kernel
theorem dL_law_1227 : decode cL_law 1227 = .ok (.iload 11, 2) := by decide +kernel
theorem dL_law_1229 : decode cL_law 1229 = .ok (.iconst 1, 1) := by decide +kernel
theorem dL_law_1230 : decode cL_law 1230 = .ok (.iadd, 1) := by decide +kernel
theorem dL_law_1231 : decode cL_law 1231 = .ok (.iaload, 1) := by decide +kernel
theorem dL_law_1232 : decode cL_law 1232 = .ok (.aload_n 2, 1) := by decide +kernel
theorem dL_law_1233 : decode cL_law 1233 = .ok (.bipush 12, 2) := by decide +kernel
theorem dL_law_1235 : decode cL_law 1235 = .ok (.iload 16, 2) := by decide +kernel
theorem dL_law_1237 : decode cL_law 1237 = .ok (.imul, 1) := by decide +kernel
theorem dL_law_1238 : decode cL_law 1238 = .ok (.iaload, 1) := by decide +kernel
theorem dL_law_1239 : decode cL_law 1239 = .ok (.if_icmp .ne 7, 3) := by decide +kernel
theorem dL_law_1242 : decode cL_law 1242 = .ok (.iconst 1, 1) := by decide +kernel
theorem dL_law_1243 : decode cL_law 1243 = .ok (.goto 4, 3) := by decide +kernel
theorem dL_law_1246 : decode cL_law 1246 = .ok (.iconst 0, 1) := by decide +kernel
theorem dL_law_1247 : decode cL_law 1247 = .ok (.istore 21, 2) := by decide +kernel
theorem dL_law_1249 : decode cL_law 1249 = .ok (.iload 19, 2) := by decide +kernel
theorem dL_law_1251 : decode cL_law 1251 = .ok (.iload 20, 2) := by decide +kernel
theorem dL_law_1253 : decode cL_law 1253 = .ok (.imul, 1) := by decide +kernel
theorem dL_law_1254 : decode cL_law 1254 = .ok (.bipush 9, 2) := by decide +kernel
theorem dL_law_1256 : decode cL_law 1256 = .ok (.if_icmp .le 6, 3) := by decide +kernel
theorem dL_law_1259 : decode cL_law 1259 = .ok (.goto 859, 3) := by decide +kernel
theorem dL_law_1262 : decode cL_law 1262 = .ok (.iconst 0, 1) := by decide +kernel
theorem dL_law_1263 : decode cL_law 1263 = .ok (.istore 22, 2) := by decide +kernel
theorem dL_law_1265 : decode cL_law 1265 = .ok (.iconst 0, 1) := by decide +kernel
theorem dL_law_1266 : decode cL_law 1266 = .ok (.istore 23, 2) := by decide +kernel
theorem dL_law_1268 : decode cL_law 1268 = .ok (.iload 23, 2) := by decide +kernel
theorem dL_law_1270 : decode cL_law 1270 = .ok (.iload 19, 2) := by decide +kernel
theorem dL_law_1272 : decode cL_law 1272 = .ok (.iload 20, 2) := by decide +kernel
theorem dL_law_1274 : decode cL_law 1274 = .ok (.imul, 1) := by decide +kernel
theorem dL_law_1275 : decode cL_law 1275 = .ok (.if_icmp .ge 118, 3) := by decide +kernel
theorem dL_law_1278 : decode cL_law 1278 = .ok (.iload 21, 2) := by decide +kernel
theorem dL_law_1280 : decode cL_law 1280 = .ok (.ifCond .eq 113, 3) := by decide +kernel
theorem dL_law_1283 : decode cL_law 1283 = .ok (.aload 18, 2) := by decide +kernel
theorem dL_law_1285 : decode cL_law 1285 = .ok (.iload 23, 2) := by decide +kernel
theorem dL_law_1287 : decode cL_law 1287 = .ok (.sipush 9999, 3) := by decide +kernel
theorem dL_law_1290 : decode cL_law 1290 = .ok (.iastore, 1) := by decide +kernel
theorem dL_law_1291 : decode cL_law 1291 = .ok (.iconst 0, 1) := by decide +kernel
theorem dL_law_1292 : decode cL_law 1292 = .ok (.istore 24, 2) := by decide +kernel
theorem dL_law_1294 : decode cL_law 1294 = .ok (.iload 24, 2) := by decide +kernel
theorem dL_law_1296 : decode cL_law 1296 = .ok (.aload_n 2, 1) := by decide +kernel
theorem dL_law_1297 : decode cL_law 1297 = .ok (.iload 11, 2) := by decide +kernel
theorem dL_law_1299 : decode cL_law 1299 = .ok (.iconst 1, 1) := by decide +kernel
theorem dL_law_1300 : decode cL_law 1300 = .ok (.iadd, 1) := by decide +kernel
theorem dL_law_1301 : decode cL_law 1301 = .ok (.iaload, 1) := by decide +kernel
theorem dL_law_1302 : decode cL_law 1302 = .ok (.if_icmp .ge 63, 3) := by decide +kernel
theorem dL_law_1305 : decode cL_law 1305 = .ok (.iload 10, 2) := by decide +kernel
theorem dL_law_1307 : decode cL_law 1307 = .ok (.iload 23, 2) := by decide +kernel
theorem dL_law_1309 : decode cL_law 1309 = .ok (.iload 20, 2) := by decide +kernel
theorem dL_law_1311 : decode cL_law 1311 = .ok (.idiv, 1) := by decide +kernel
theorem dL_law_1312 : decode cL_law 1312 = .ok (.iload 24, 2) := by decide +kernel
theorem dL_law_1314 : decode cL_law 1314 = .ok (.aload_n 2, 1) := by decide +kernel
theorem dL_law_1315 : decode cL_law 1315 = .ok (.invokestatic 10, 3) := by decide +kernel
theorem dL_law_1318 : decode cL_law 1318 = .ok (.iload 16, 2) := by decide +kernel
theorem dL_law_1320 : decode cL_law 1320 = .ok (.iload 24, 2) := by decide +kernel
theorem dL_law_1322 : decode cL_law 1322 = .ok (.iload 23, 2) := by decide +kernel
theorem dL_law_1324 : decode cL_law 1324 = .ok (.iload 20, 2) := by decide +kernel
theorem dL_law_1326 : decode cL_law 1326 = .ok (.irem, 1) := by decide +kernel
theorem dL_law_1327 : decode cL_law 1327 = .ok (.aload_n 2, 1) := by decide +kernel
theorem dL_law_1328 : decode cL_law 1328 = .ok (.invokestatic 10, 3) := by decide +kernel
theorem dL_law_1331 : decode cL_law 1331 = .ok (.iadd, 1) := by decide +kernel
theorem dL_law_1332 : decode cL_law 1332 = .ok (.istore 25, 2) := by decide +kernel
theorem dL_law_1334 : decode cL_law 1334 = .ok (.aload 18, 2) := by decide +kernel
theorem dL_law_1336 : decode cL_law 1336 = .ok (.iload 23, 2) := by decide +kernel
theorem dL_law_1338 : decode cL_law 1338 = .ok (.iload 25, 2) := by decide +kernel
theorem dL_law_1340 : decode cL_law 1340 = .ok (.aload 18, 2) := by decide +kernel
theorem dL_law_1342 : decode cL_law 1342 = .ok (.iload 23, 2) := by decide +kernel
theorem dL_law_1344 : decode cL_law 1344 = .ok (.iaload, 1) := by decide +kernel
theorem dL_law_1345 : decode cL_law 1345 = .ok (.if_icmp .ge 8, 3) := by decide +kernel
theorem dL_law_1348 : decode cL_law 1348 = .ok (.iload 25, 2) := by decide +kernel
theorem dL_law_1350 : decode cL_law 1350 = .ok (.goto 8, 3) := by decide +kernel
theorem dL_law_1353 : decode cL_law 1353 = .ok (.aload 18, 2) := by decide +kernel
theorem dL_law_1355 : decode cL_law 1355 = .ok (.iload 23, 2) := by decide +kernel
theorem dL_law_1357 : decode cL_law 1357 = .ok (.iaload, 1) := by decide +kernel
theorem dL_law_1358 : decode cL_law 1358 = .ok (.iastore, 1) := by decide +kernel
theorem dL_law_1359 : decode cL_law 1359 = .ok (.iinc 24 1, 3) := by decide +kernel
theorem dL_law_1362 : decode cL_law 1362 = .ok (.goto (-68), 3) := by decide +kernel
theorem dL_law_1365 : decode cL_law 1365 = .ok (.aload 18, 2) := by decide +kernel
theorem dL_law_1367 : decode cL_law 1367 = .ok (.iload 23, 2) := by decide +kernel
theorem dL_law_1369 : decode cL_law 1369 = .ok (.iaload, 1) := by decide +kernel
theorem dL_law_1370 : decode cL_law 1370 = .ok (.iload 22, 2) := by decide +kernel
theorem dL_law_1372 : decode cL_law 1372 = .ok (.if_icmp .le 11, 3) := by decide +kernel
theorem dL_law_1375 : decode cL_law 1375 = .ok (.aload 18, 2) := by decide +kernel
theorem dL_law_1377 : decode cL_law 1377 = .ok (.iload 23, 2) := by decide +kernel
theorem dL_law_1379 : decode cL_law 1379 = .ok (.iaload, 1) := by decide +kernel
theorem dL_law_1380 : decode cL_law 1380 = .ok (.goto 5, 3) := by decide +kernel
theorem dL_law_1383 : decode cL_law 1383 = .ok (.iload 22, 2) := by decide +kernel
theorem dL_law_1385 : decode cL_law 1385 = .ok (.istore 22, 2) := by decide +kernel
theorem dL_law_1387 : decode cL_law 1387 = .ok (.iinc 23 1, 3) := by decide +kernel
theorem dL_law_1390 : decode cL_law 1390 = .ok (.goto (-122), 3) := by decide +kernel
theorem dL_law_1393 : decode cL_law 1393 = .ok (.aload_n 1, 1) := by decide +kernel
theorem dL_law_1394 : decode cL_law 1394 = .ok (.iload 10, 2) := by decide +kernel
theorem dL_law_1396 : decode cL_law 1396 = .ok (.iload 16, 2) := by decide +kernel
theorem dL_law_1398 : decode cL_law 1398 = .ok (.iload 17, 2) := by decide +kernel
theorem dL_law_1400 : decode cL_law 1400 = .ok (.invokevirtual 132, 3) := by decide +kernel
theorem dL_law_1403 : decode cL_law 1403 = .ok (.iload 21, 2) := by decide +kernel
theorem dL_law_1405 : decode cL_law 1405 = .ok (.ifCond .ne 8, 3) := by decide +kernel
theorem dL_law_1408 : decode cL_law 1408 = .ok (.bipush (-5), 2) := by decide +kernel
theorem dL_law_1410 : decode cL_law 1410 = .ok (.goto 21, 3) := by decide +kernel
theorem dL_law_1413 : decode cL_law 1413 = .ok (.iload 22, 2) := by decide +kernel
theorem dL_law_1415 : decode cL_law 1415 = .ok (.sipush 999, 3) := by decide +kernel
theorem dL_law_1418 : decode cL_law 1418 = .ok (.if_icmp .le 8, 3) := by decide +kernel
theorem dL_law_1421 : decode cL_law 1421 = .ok (.bipush (-4), 2) := by decide +kernel
theorem dL_law_1423 : decode cL_law 1423 = .ok (.goto 8, 3) := by decide +kernel
theorem dL_law_1426 : decode cL_law 1426 = .ok (.iload 19, 2) := by decide +kernel
theorem dL_law_1428 : decode cL_law 1428 = .ok (.iload 20, 2) := by decide +kernel
theorem dL_law_1430 : decode cL_law 1430 = .ok (.imul, 1) := by decide +kernel
theorem dL_law_1431 : decode cL_law 1431 = .ok (.if_icmp .eq 5, 3) := by decide +kernel
theorem dL_law_1434 : decode cL_law 1434 = .ok (.iconst 0, 1) := by decide +kernel
theorem dL_law_1435 : decode cL_law 1435 = .ok (.ireturn, 1) := by decide +kernel
theorem dL_law_1436 : decode cL_law 1436 = .ok (.iload 21, 2) := by decide +kernel
theorem dL_law_1438 : decode cL_law 1438 = .ok (.ifCond .eq 67, 3) := by decide +kernel
theorem dL_law_1441 : decode cL_law 1441 = .ok (.iload 22, 2) := by decide +kernel
theorem dL_law_1443 : decode cL_law 1443 = .ok (.sipush 1000, 3) := by decide +kernel
theorem dL_law_1446 : decode cL_law 1446 = .ok (.if_icmp .ge 59, 3) := by decide +kernel
theorem dL_law_1449 : decode cL_law 1449 = .ok (.aload_n 2, 1) := by decide +kernel
theorem dL_law_1450 : decode cL_law 1450 = .ok (.bipush 12, 2) := by decide +kernel
theorem dL_law_1452 : decode cL_law 1452 = .ok (.iload 17, 2) := by decide +kernel
theorem dL_law_1454 : decode cL_law 1454 = .ok (.imul, 1) := by decide +kernel
theorem dL_law_1455 : decode cL_law 1455 = .ok (.iload 19, 2) := by decide +kernel
theorem dL_law_1457 : decode cL_law 1457 = .ok (.iastore, 1) := by decide +kernel
theorem dL_law_1458 : decode cL_law 1458 = .ok (.aload_n 2, 1) := by decide +kernel
theorem dL_law_1459 : decode cL_law 1459 = .ok (.bipush 12, 2) := by decide +kernel
theorem dL_law_1461 : decode cL_law 1461 = .ok (.iload 17, 2) := by decide +kernel
theorem dL_law_1463 : decode cL_law 1463 = .ok (.imul, 1) := by decide +kernel
theorem dL_law_1464 : decode cL_law 1464 = .ok (.iconst 1, 1) := by decide +kernel
theorem dL_law_1465 : decode cL_law 1465 = .ok (.iadd, 1) := by decide +kernel
theorem dL_law_1466 : decode cL_law 1466 = .ok (.iload 20, 2) := by decide +kernel
theorem dL_law_1468 : decode cL_law 1468 = .ok (.iastore, 1) := by decide +kernel
theorem dL_law_1469 : decode cL_law 1469 = .ok (.iconst 0, 1) := by decide +kernel
theorem dL_law_1470 : decode cL_law 1470 = .ok (.istore 23, 2) := by decide +kernel
theorem dL_law_1472 : decode cL_law 1472 = .ok (.iload 23, 2) := by decide +kernel
theorem dL_law_1474 : decode cL_law 1474 = .ok (.iload 19, 2) := by decide +kernel
theorem dL_law_1476 : decode cL_law 1476 = .ok (.iload 20, 2) := by decide +kernel
theorem dL_law_1478 : decode cL_law 1478 = .ok (.imul, 1) := by decide +kernel
theorem dL_law_1479 : decode cL_law 1479 = .ok (.if_icmp .ge 26, 3) := by decide +kernel
theorem dL_law_1482 : decode cL_law 1482 = .ok (.aload_n 2, 1) := by decide +kernel
theorem dL_law_1483 : decode cL_law 1483 = .ok (.bipush 12, 2) := by decide +kernel
theorem dL_law_1485 : decode cL_law 1485 = .ok (.iload 17, 2) := by decide +kernel
theorem dL_law_1487 : decode cL_law 1487 = .ok (.imul, 1) := by decide +kernel
theorem dL_law_1488 : decode cL_law 1488 = .ok (.iconst 2, 1) := by decide +kernel
theorem dL_law_1489 : decode cL_law 1489 = .ok (.iadd, 1) := by decide +kernel
theorem dL_law_1490 : decode cL_law 1490 = .ok (.iload 23, 2) := by decide +kernel
theorem dL_law_1492 : decode cL_law 1492 = .ok (.iadd, 1) := by decide +kernel
theorem dL_law_1493 : decode cL_law 1493 = .ok (.aload 18, 2) := by decide +kernel
theorem dL_law_1495 : decode cL_law 1495 = .ok (.iload 23, 2) := by decide +kernel
theorem dL_law_1497 : decode cL_law 1497 = .ok (.iaload, 1) := by decide +kernel
theorem dL_law_1498 : decode cL_law 1498 = .ok (.iastore, 1) := by decide +kernel
theorem dL_law_1499 : decode cL_law 1499 = .ok (.iinc 23 1, 3) := by decide +kernel
theorem dL_law_1502 : decode cL_law 1502 = .ok (.goto (-30), 3) := by decide +kernel
theorem dL_law_1505 : decode cL_law 1505 = .ok (.goto 270, 3) := by decide +kernel
theorem dL_law_1508 : decode cL_law 1508 = .ok (.aload_n 2, 1) := by decide +kernel
theorem dL_law_1509 : decode cL_law 1509 = .ok (.iload 11, 2) := by decide +kernel
theorem dL_law_1511 : decode cL_law 1511 = .ok (.iaload, 1) := by decide +kernel
theorem dL_law_1512 : decode cL_law 1512 = .ok (.aload_n 2, 1) := by decide +kernel
theorem dL_law_1513 : decode cL_law 1513 = .ok (.iload 11, 2) := by decide +kernel
theorem dL_law_1515 : decode cL_law 1515 = .ok (.iconst 1, 1) := by decide +kernel
theorem dL_law_1516 : decode cL_law 1516 = .ok (.iadd, 1) := by decide +kernel
theorem dL_law_1517 : decode cL_law 1517 = .ok (.iaload, 1) := by decide +kernel
theorem dL_law_1518 : decode cL_law 1518 = .ok (.if_icmp .ne 7, 3) := by decide +kernel
theorem dL_law_1521 : decode cL_law 1521 = .ok (.iconst 1, 1) := by decide +kernel
theorem dL_law_1522 : decode cL_law 1522 = .ok (.goto 4, 3) := by decide +kernel
theorem dL_law_1525 : decode cL_law 1525 = .ok (.iconst 0, 1) := by decide +kernel
theorem dL_law_1526 : decode cL_law 1526 = .ok (.istore 16, 2) := by decide +kernel
theorem dL_law_1528 : decode cL_law 1528 = .ok (.iconst 0, 1) := by decide +kernel
theorem dL_law_1529 : decode cL_law 1529 = .ok (.istore 17, 2) := by decide +kernel
theorem dL_law_1531 : decode cL_law 1531 = .ok (.aload_n 2, 1) := by decide +kernel
theorem dL_law_1532 : decode cL_law 1532 = .ok (.iload 11, 2) := by decide +kernel
theorem dL_law_1534 : decode cL_law 1534 = .ok (.iaload, 1) := by decide +kernel
theorem dL_law_1535 : decode cL_law 1535 = .ok (.istore 18, 2) := by decide +kernel
theorem dL_law_1537 : decode cL_law 1537 = .ok (.bipush 9, 2) := by decide +kernel
theorem dL_law_1539 : decode cL_law 1539 = .ok (.newarray .int, 2) := by decide +kernel
theorem dL_law_1541 : decode cL_law 1541 = .ok (.astore 19, 2) := by decide +kernel
theorem dL_law_1543 : decode cL_law 1543 = .ok (.iconst 0, 1) := by decide +kernel
theorem dL_law_1544 : decode cL_law 1544 = .ok (.istore 20, 2) := by decide +kernel
theorem dL_law_1546 : decode cL_law 1546 = .ok (.iload 20, 2) := by decide +kernel
theorem dL_law_1548 : decode cL_law 1548 = .ok (.iload 18, 2) := by decide +kernel
theorem dL_law_1550 : decode cL_law 1550 = .ok (.iload 18, 2) := by decide +kernel
theorem dL_law_1552 : decode cL_law 1552 = .ok (.imul, 1) := by decide +kernel
theorem dL_law_1553 : decode cL_law 1553 = .ok (.if_icmp .ge 28, 3) := by decide +kernel
theorem dL_law_1556 : decode cL_law 1556 = .ok (.iload 16, 2) := by decide +kernel
theorem dL_law_1558 : decode cL_law 1558 = .ok (.ifCond .eq 23, 3) := by decide +kernel
theorem dL_law_1561 : decode cL_law 1561 = .ok (.aload 19, 2) := by decide +kernel
theorem dL_law_1563 : decode cL_law 1563 = .ok (.iload 20, 2) := by decide +kernel
theorem dL_law_1565 : decode cL_law 1565 = .ok (.aload_n 2, 1) := by decide +kernel
theorem dL_law_1566 : decode cL_law 1566 = .ok (.iload 11, 2) := by decide +kernel
theorem dL_law_1568 : decode cL_law 1568 = .ok (.iconst 2, 1) := by decide +kernel
theorem dL_law_1569 : decode cL_law 1569 = .ok (.iadd, 1) := by decide +kernel
theorem dL_law_1570 : decode cL_law 1570 = .ok (.iload 20, 2) := by decide +kernel
theorem dL_law_1572 : decode cL_law 1572 = .ok (.iadd, 1) := by decide +kernel
theorem dL_law_1573 : decode cL_law 1573 = .ok (.iaload, 1) := by decide +kernel
theorem dL_law_1574 : decode cL_law 1574 = .ok (.iastore, 1) := by decide +kernel
theorem dL_law_1575 : decode cL_law 1575 = .ok (.iinc 20 1, 3) := by decide +kernel
theorem dL_law_1578 : decode cL_law 1578 = .ok (.goto (-32), 3) := by decide +kernel
theorem dL_law_1581 : decode cL_law 1581 = .ok (.iconst 0, 1) := by decide +kernel
theorem dL_law_1582 : decode cL_law 1582 = .ok (.istore 20, 2) := by decide +kernel
theorem dL_law_1584 : decode cL_law 1584 = .ok (.iload 20, 2) := by decide +kernel
theorem dL_law_1586 : decode cL_law 1586 = .ok (.iload 18, 2) := by decide +kernel
theorem dL_law_1588 : decode cL_law 1588 = .ok (.if_icmp .ge 113, 3) := by decide +kernel
theorem dL_law_1591 : decode cL_law 1591 = .ok (.iload 16, 2) := by decide +kernel
theorem dL_law_1593 : decode cL_law 1593 = .ok (.ifCond .eq 108, 3) := by decide +kernel
theorem dL_law_1596 : decode cL_law 1596 = .ok (.iconst 0, 1) := by decide +kernel
theorem dL_law_1597 : decode cL_law 1597 = .ok (.istore 21, 2) := by decide +kernel
theorem dL_law_1599 : decode cL_law 1599 = .ok (.iload 21, 2) := by decide +kernel
theorem dL_law_1601 : decode cL_law 1601 = .ok (.iload 18, 2) := by decide +kernel
theorem dL_law_1603 : decode cL_law 1603 = .ok (.iload 18, 2) := by decide +kernel
theorem dL_law_1605 : decode cL_law 1605 = .ok (.imul, 1) := by decide +kernel
theorem dL_law_1606 : decode cL_law 1606 = .ok (.if_icmp .ge 89, 3) := by decide +kernel
theorem dL_law_1609 : decode cL_law 1609 = .ok (.iconst 0, 1) := by decide +kernel
theorem dL_law_1610 : decode cL_law 1610 = .ok (.istore 22, 2) := by decide +kernel
theorem dL_law_1612 : decode cL_law 1612 = .ok (.iload 22, 2) := by decide +kernel
theorem dL_law_1614 : decode cL_law 1614 = .ok (.iload 18, 2) := by decide +kernel
theorem dL_law_1616 : decode cL_law 1616 = .ok (.if_icmp .ge 73, 3) := by decide +kernel
theorem dL_law_1619 : decode cL_law 1619 = .ok (.aload_n 2, 1) := by decide +kernel
theorem dL_law_1620 : decode cL_law 1620 = .ok (.iload 11, 2) := by decide +kernel
theorem dL_law_1622 : decode cL_law 1622 = .ok (.iconst 2, 1) := by decide +kernel
theorem dL_law_1623 : decode cL_law 1623 = .ok (.iadd, 1) := by decide +kernel
theorem dL_law_1624 : decode cL_law 1624 = .ok (.iload 21, 2) := by decide +kernel
theorem dL_law_1626 : decode cL_law 1626 = .ok (.iload 18, 2) := by decide +kernel
theorem dL_law_1628 : decode cL_law 1628 = .ok (.idiv, 1) := by decide +kernel
theorem dL_law_1629 : decode cL_law 1629 = .ok (.iload 18, 2) := by decide +kernel
theorem dL_law_1631 : decode cL_law 1631 = .ok (.imul, 1) := by decide +kernel
theorem dL_law_1632 : decode cL_law 1632 = .ok (.iadd, 1) := by decide +kernel
theorem dL_law_1633 : decode cL_law 1633 = .ok (.iload 22, 2) := by decide +kernel
theorem dL_law_1635 : decode cL_law 1635 = .ok (.iadd, 1) := by decide +kernel
theorem dL_law_1636 : decode cL_law 1636 = .ok (.iaload, 1) := by decide +kernel
theorem dL_law_1637 : decode cL_law 1637 = .ok (.aload_n 2, 1) := by decide +kernel
theorem dL_law_1638 : decode cL_law 1638 = .ok (.iload 11, 2) := by decide +kernel
theorem dL_law_1640 : decode cL_law 1640 = .ok (.iconst 2, 1) := by decide +kernel
theorem dL_law_1641 : decode cL_law 1641 = .ok (.iadd, 1) := by decide +kernel
theorem dL_law_1642 : decode cL_law 1642 = .ok (.iload 22, 2) := by decide +kernel
theorem dL_law_1644 : decode cL_law 1644 = .ok (.iload 18, 2) := by decide +kernel
theorem dL_law_1646 : decode cL_law 1646 = .ok (.imul, 1) := by decide +kernel
theorem dL_law_1647 : decode cL_law 1647 = .ok (.iadd, 1) := by decide +kernel
theorem dL_law_1648 : decode cL_law 1648 = .ok (.iload 21, 2) := by decide +kernel
theorem dL_law_1650 : decode cL_law 1650 = .ok (.iload 18, 2) := by decide +kernel
theorem dL_law_1652 : decode cL_law 1652 = .ok (.irem, 1) := by decide +kernel
theorem dL_law_1653 : decode cL_law 1653 = .ok (.iadd, 1) := by decide +kernel
theorem dL_law_1654 : decode cL_law 1654 = .ok (.iaload, 1) := by decide +kernel
theorem dL_law_1655 : decode cL_law 1655 = .ok (.iadd, 1) := by decide +kernel
theorem dL_law_1656 : decode cL_law 1656 = .ok (.istore 23, 2) := by decide +kernel
theorem dL_law_1658 : decode cL_law 1658 = .ok (.iload 23, 2) := by decide +kernel
theorem dL_law_1660 : decode cL_law 1660 = .ok (.aload_n 2, 1) := by decide +kernel
theorem dL_law_1661 : decode cL_law 1661 = .ok (.iload 11, 2) := by decide +kernel
theorem dL_law_1663 : decode cL_law 1663 = .ok (.iconst 2, 1) := by decide +kernel
theorem dL_law_1664 : decode cL_law 1664 = .ok (.iadd, 1) := by decide +kernel
theorem dL_law_1665 : decode cL_law 1665 = .ok (.iload 21, 2) := by decide +kernel
theorem dL_law_1667 : decode cL_law 1667 = .ok (.iadd, 1) := by decide +kernel
theorem dL_law_1668 : decode cL_law 1668 = .ok (.iaload, 1) := by decide +kernel
theorem dL_law_1669 : decode cL_law 1669 = .ok (.if_icmp .ge 14, 3) := by decide +kernel
theorem dL_law_1672 : decode cL_law 1672 = .ok (.aload_n 2, 1) := by decide +kernel
theorem dL_law_1673 : decode cL_law 1673 = .ok (.iload 11, 2) := by decide +kernel
theorem dL_law_1675 : decode cL_law 1675 = .ok (.iconst 2, 1) := by decide +kernel
theorem dL_law_1676 : decode cL_law 1676 = .ok (.iadd, 1) := by decide +kernel
theorem dL_law_1677 : decode cL_law 1677 = .ok (.iload 21, 2) := by decide +kernel
theorem dL_law_1679 : decode cL_law 1679 = .ok (.iadd, 1) := by decide +kernel
theorem dL_law_1680 : decode cL_law 1680 = .ok (.iload 23, 2) := by decide +kernel
theorem dL_law_1682 : decode cL_law 1682 = .ok (.iastore, 1) := by decide +kernel
theorem dL_law_1683 : decode cL_law 1683 = .ok (.iinc 22 1, 3) := by decide +kernel
theorem dL_law_1686 : decode cL_law 1686 = .ok (.goto (-74), 3) := by decide +kernel
theorem dL_law_1689 : decode cL_law 1689 = .ok (.iinc 21 1, 3) := by decide +kernel
theorem dL_law_1692 : decode cL_law 1692 = .ok (.goto (-93), 3) := by decide +kernel
theorem dL_law_1695 : decode cL_law 1695 = .ok (.iinc 20 1, 3) := by decide +kernel
theorem dL_law_1698 : decode cL_law 1698 = .ok (.goto (-114), 3) := by decide +kernel
theorem dL_law_1701 : decode cL_law 1701 = .ok (.iconst 0, 1) := by decide +kernel
theorem dL_law_1702 : decode cL_law 1702 = .ok (.istore 20, 2) := by decide +kernel
theorem dL_law_1704 : decode cL_law 1704 = .ok (.iload 20, 2) := by decide +kernel
theorem dL_law_1706 : decode cL_law 1706 = .ok (.iload 18, 2) := by decide +kernel
theorem dL_law_1708 : decode cL_law 1708 = .ok (.iload 18, 2) := by decide +kernel
theorem dL_law_1710 : decode cL_law 1710 = .ok (.imul, 1) := by decide +kernel
theorem dL_law_1711 : decode cL_law 1711 = .ok (.if_icmp .ge 41, 3) := by decide +kernel
theorem dL_law_1714 : decode cL_law 1714 = .ok (.iload 16, 2) := by decide +kernel
theorem dL_law_1716 : decode cL_law 1716 = .ok (.ifCond .eq 36, 3) := by decide +kernel
theorem dL_law_1719 : decode cL_law 1719 = .ok (.iload 17, 2) := by decide +kernel
theorem dL_law_1721 : decode cL_law 1721 = .ok (.aload_n 2, 1) := by decide +kernel
theorem dL_law_1722 : decode cL_law 1722 = .ok (.iload 11, 2) := by decide +kernel
theorem dL_law_1724 : decode cL_law 1724 = .ok (.iconst 2, 1) := by decide +kernel
theorem dL_law_1725 : decode cL_law 1725 = .ok (.iadd, 1) := by decide +kernel
theorem dL_law_1726 : decode cL_law 1726 = .ok (.iload 20, 2) := by decide +kernel
theorem dL_law_1728 : decode cL_law 1728 = .ok (.iadd, 1) := by decide +kernel
theorem dL_law_1729 : decode cL_law 1729 = .ok (.iaload, 1) := by decide +kernel
theorem dL_law_1730 : decode cL_law 1730 = .ok (.aload 19, 2) := by decide +kernel
theorem dL_law_1732 : decode cL_law 1732 = .ok (.iload 20, 2) := by decide +kernel
theorem dL_law_1734 : decode cL_law 1734 = .ok (.iaload, 1) := by decide +kernel
theorem dL_law_1735 : decode cL_law 1735 = .ok (.if_icmp .ge 7, 3) := by decide +kernel
theorem dL_law_1738 : decode cL_law 1738 = .ok (.iconst 1, 1) := by decide +kernel
theorem dL_law_1739 : decode cL_law 1739 = .ok (.goto 4, 3) := by decide +kernel
theorem dL_law_1742 : decode cL_law 1742 = .ok (.iconst 0, 1) := by decide +kernel
theorem dL_law_1743 : decode cL_law 1743 = .ok (.iadd, 1) := by decide +kernel
theorem dL_law_1744 : decode cL_law 1744 = .ok (.istore 17, 2) := by decide +kernel
theorem dL_law_1746 : decode cL_law 1746 = .ok (.iinc 20 1, 3) := by decide +kernel
theorem dL_law_1749 : decode cL_law 1749 = .ok (.goto (-45), 3) := by decide +kernel
theorem dL_law_1752 : decode cL_law 1752 = .ok (.aload_n 1, 1) := by decide +kernel
theorem dL_law_1753 : decode cL_law 1753 = .ok (.iload 10, 2) := by decide +kernel
theorem dL_law_1755 : decode cL_law 1755 = .ok (.invokevirtual 135, 3) := by decide +kernel
theorem dL_law_1758 : decode cL_law 1758 = .ok (.iload 16, 2) := by decide +kernel
theorem dL_law_1760 : decode cL_law 1760 = .ok (.ifCond .eq 8, 3) := by decide +kernel
theorem dL_law_1763 : decode cL_law 1763 = .ok (.iload 17, 2) := by decide +kernel
theorem dL_law_1765 : decode cL_law 1765 = .ok (.goto 5, 3) := by decide +kernel
theorem dL_law_1768 : decode cL_law 1768 = .ok (.bipush (-5), 2) := by decide +kernel
theorem dL_law_1770 : decode cL_law 1770 = .ok (.if_icmp .eq 5, 3) := by decide +kernel
theorem dL_law_1773 : decode cL_law 1773 = .ok (.iconst 0, 1) := by decide +kernel
theorem dL_law_1774 : decode cL_law 1774 = .ok (.ireturn, 1) := by decide +kernel
theorem dL_law_1775 : decode cL_law 1775 = .ok (.iconst 0, 1) := by decide +kernel
theorem dL_law_1776 : decode cL_law 1776 = .ok (.istore 16, 2) := by decide +kernel
theorem dL_law_1778 : decode cL_law 1778 = .ok (.iload 16, 2) := by decide +kernel
theorem dL_law_1780 : decode cL_law 1780 = .ok (.iconst 3, 1) := by decide +kernel
theorem dL_law_1781 : decode cL_law 1781 = .ok (.if_icmp .ge 53, 3) := by decide +kernel
theorem dL_law_1784 : decode cL_law 1784 = .ok (.iload 16, 2) := by decide +kernel
theorem dL_law_1786 : decode cL_law 1786 = .ok (.iload 10, 2) := by decide +kernel
theorem dL_law_1788 : decode cL_law 1788 = .ok (.if_icmp .eq 16, 3) := by decide +kernel
theorem dL_law_1791 : decode cL_law 1791 = .ok (.iload 6, 2) := by decide +kernel
theorem dL_law_1793 : decode cL_law 1793 = .ok (.iconst 3, 1) := by decide +kernel
theorem dL_law_1794 : decode cL_law 1794 = .ok (.if_icmp .lt 10, 3) := by decide +kernel
theorem dL_law_1797 : decode cL_law 1797 = .ok (.iload 9, 2) := by decide +kernel
theorem dL_law_1799 : decode cL_law 1799 = .ok (.bipush 9, 2) := by decide +kernel
theorem dL_law_1801 : decode cL_law 1801 = .ok (.if_icmp .ne 27, 3) := by decide +kernel
theorem dL_law_1804 : decode cL_law 1804 = .ok (.aload_n 1, 1) := by decide +kernel
theorem dL_law_1805 : decode cL_law 1805 = .ok (.iload 16, 2) := by decide +kernel
theorem dL_law_1807 : decode cL_law 1807 = .ok (.iload 8, 2) := by decide +kernel
theorem dL_law_1809 : decode cL_law 1809 = .ok (.iload 16, 2) := by decide +kernel
theorem dL_law_1811 : decode cL_law 1811 = .ok (.iconst 1, 1) := by decide +kernel
theorem dL_law_1812 : decode cL_law 1812 = .ok (.iadd, 1) := by decide +kernel
theorem dL_law_1813 : decode cL_law 1813 = .ok (.ishr, 1) := by decide +kernel
theorem dL_law_1814 : decode cL_law 1814 = .ok (.aload_n 2, 1) := by decide +kernel
theorem dL_law_1815 : decode cL_law 1815 = .ok (.aload_n 3, 1) := by decide +kernel
theorem dL_law_1816 : decode cL_law 1816 = .ok (.aload 4, 2) := by decide +kernel
theorem dL_law_1818 : decode cL_law 1818 = .ok (.aload 5, 2) := by decide +kernel
theorem dL_law_1820 : decode cL_law 1820 = .ok (.invokestatic 138, 3) := by decide +kernel
theorem dL_law_1823 : decode cL_law 1823 = .ok (.ifCond .ne 5, 3) := by decide +kernel
theorem dL_law_1826 : decode cL_law 1826 = .ok (.iconst 0, 1) := by decide +kernel
theorem dL_law_1827 : decode cL_law 1827 = .ok (.ireturn, 1) := by decide +kernel
theorem dL_law_1828 : decode cL_law 1828 = .ok (.iinc 16 1, 3) := by decide +kernel
theorem dL_law_1831 : decode cL_law 1831 = .ok (.goto (-53), 3) := by decide +kernel
theorem dL_law_1834 : decode cL_law 1834 = .ok (.iload 8, 2) := by decide +kernel
theorem dL_law_1836 : decode cL_law 1836 = .ok (.bipush 11, 2) := by decide +kernel
theorem dL_law_1838 : decode cL_law 1838 = .ok (.ishr, 1) := by decide +kernel
theorem dL_law_1839 : decode cL_law 1839 = .ok (.iconst 4, 1) := by decide +kernel
theorem dL_law_1840 : decode cL_law 1840 = .ok (.invokestatic 51, 3) := by decide +kernel
theorem dL_law_1843 : decode cL_law 1843 = .ok (.ifCond .ne 275, 3) := by decide +kernel
theorem dL_law_1846 : decode cL_law 1846 = .ok (.iload 10, 2) := by decide +kernel
theorem dL_law_1848 : decode cL_law 1848 = .ok (.aload_n 2, 1) := by decide +kernel
theorem dL_law_1849 : decode cL_law 1849 = .ok (.invokestatic 16, 3) := by decide +kernel
theorem dL_law_1852 : decode cL_law 1852 = .ok (.istore 16, 2) := by decide +kernel
theorem dL_law_1854 : decode cL_law 1854 = .ok (.iload 8, 2) := by decide +kernel
theorem dL_law_1856 : decode cL_law 1856 = .ok (.iconst 4, 1) := by decide +kernel
theorem dL_law_1857 : decode cL_law 1857 = .ok (.ishr, 1) := by decide +kernel
theorem dL_law_1858 : decode cL_law 1858 = .ok (.iload 16, 2) := by decide +kernel
theorem dL_law_1860 : decode cL_law 1860 = .ok (.invokestatic 51, 3) := by decide +kernel
theorem dL_law_1863 : decode cL_law 1863 = .ok (.istore 17, 2) := by decide +kernel
theorem dL_law_1865 : decode cL_law 1865 = .ok (.iload 8, 2) := by decide +kernel
theorem dL_law_1867 : decode cL_law 1867 = .ok (.bipush 7, 2) := by decide +kernel
theorem dL_law_1869 : decode cL_law 1869 = .ok (.ishr, 1) := by decide +kernel
theorem dL_law_1870 : decode cL_law 1870 = .ok (.bipush 9, 2) := by decide +kernel
theorem dL_law_1872 : decode cL_law 1872 = .ok (.invokestatic 51, 3) := by decide +kernel
theorem dL_law_1875 : decode cL_law 1875 = .ok (.istore 18, 2) := by decide +kernel
theorem dL_law_1877 : decode cL_law 1877 = .ok (.aload_n 2, 1) := by decide +kernel
theorem dL_law_1878 : decode cL_law 1878 = .ok (.iload 11, 2) := by decide +kernel
theorem dL_law_1880 : decode cL_law 1880 = .ok (.iconst 2, 1) := by decide +kernel
theorem dL_law_1881 : decode cL_law 1881 = .ok (.iadd, 1) := by decide +kernel
theorem dL_law_1882 : decode cL_law 1882 = .ok (.iload 17, 2) := by decide +kernel
theorem dL_law_1884 : decode cL_law 1884 = .ok (.iadd, 1) := by decide +kernel
theorem dL_law_1885 : decode cL_law 1885 = .ok (.iaload, 1) := by decide +kernel
theorem dL_law_1886 : decode cL_law 1886 = .ok (.istore 19, 2) := by decide +kernel
theorem dL_law_1888 : decode cL_law 1888 = .ok (.bipush 99, 2) := by decide +kernel
theorem dL_law_1890 : decode cL_law 1890 = .ok (.istore 20, 2) := by decide +kernel
theorem dL_law_1892 : decode cL_law 1892 = .ok (.iconst 0, 1) := by decide +kernel
theorem dL_law_1893 : decode cL_law 1893 = .ok (.istore 21, 2) := by decide +kernel
theorem dL_law_1895 : decode cL_law 1895 = .ok (.aload_n 2, 1) := by decide +kernel
theorem dL_law_1896 : decode cL_law 1896 = .ok (.iload 11, 2) := by decide +kernel
theorem dL_law_1898 : decode cL_law 1898 = .ok (.iconst 2, 1) := by decide +kernel
theorem dL_law_1899 : decode cL_law 1899 = .ok (.iadd, 1) := by decide +kernel
theorem dL_law_1900 : decode cL_law 1900 = .ok (.iload 17, 2) := by decide +kernel
theorem dL_law_1902 : decode cL_law 1902 = .ok (.iadd, 1) := by decide +kernel
theorem dL_law_1903 : decode cL_law 1903 = .ok (.iload 18, 2) := by decide +kernel
theorem dL_law_1905 : decode cL_law 1905 = .ok (.iastore, 1) := by decide +kernel
theorem dL_law_1906 : decode cL_law 1906 = .ok (.iload 10, 2) := by decide +kernel
theorem dL_law_1908 : decode cL_law 1908 = .ok (.aload_n 2, 1) := by decide +kernel
theorem dL_law_1909 : decode cL_law 1909 = .ok (.aload_n 3, 1) := by decide +kernel
theorem dL_law_1910 : decode cL_law 1910 = .ok (.aload 5, 2) := by decide +kernel
theorem dL_law_1912 : decode cL_law 1912 = .ok (.invokestatic 61, 3) := by decide +kernel
theorem dL_law_1915 : decode cL_law 1915 = .ok (.pop, 1) := by decide +kernel
theorem dL_law_1916 : decode cL_law 1916 = .ok (.iload 10, 2) := by decide +kernel
theorem dL_law_1918 : decode cL_law 1918 = .ok (.aload_n 2, 1) := by decide +kernel
theorem dL_law_1919 : decode cL_law 1919 = .ok (.aload 5, 2) := by decide +kernel
theorem dL_law_1921 : decode cL_law 1921 = .ok (.aload 4, 2) := by decide +kernel
theorem dL_law_1923 : decode cL_law 1923 = .ok (.invokestatic 65, 3) := by decide +kernel
theorem dL_law_1926 : decode cL_law 1926 = .ok (.istore 22, 2) := by decide +kernel
theorem dL_law_1928 : decode cL_law 1928 = .ok (.iload 10, 2) := by decide +kernel
theorem dL_law_1930 : decode cL_law 1930 = .ok (.aload_n 2, 1) := by decide +kernel
theorem dL_law_1931 : decode cL_law 1931 = .ok (.invokestatic 78, 3) := by decide +kernel
theorem dL_law_1934 : decode cL_law 1934 = .ok (.invokestatic 25, 3) := by decide +kernel
theorem dL_law_1937 : decode cL_law 1937 = .ok (.istore 23, 2) := by decide +kernel
theorem dL_law_1939 : decode cL_law 1939 = .ok (.aload_n 2, 1) := by decide +kernel
theorem dL_law_1940 : decode cL_law 1940 = .ok (.iload 11, 2) := by decide +kernel
theorem dL_law_1942 : decode cL_law 1942 = .ok (.iconst 2, 1) := by decide +kernel
theorem dL_law_1943 : decode cL_law 1943 = .ok (.iadd, 1) := by decide +kernel
theorem dL_law_1944 : decode cL_law 1944 = .ok (.iload 17, 2) := by decide +kernel
theorem dL_law_1946 : decode cL_law 1946 = .ok (.iadd, 1) := by decide +kernel
theorem dL_law_1947 : decode cL_law 1947 = .ok (.iload 19, 2) := by decide +kernel
theorem dL_law_1949 : decode cL_law 1949 = .ok (.iastore, 1) := by decide +kernel
theorem dL_law_1950 : decode cL_law 1950 = .ok (.aload_n 1, 1) := by decide +kernel
theorem dL_law_1951 : decode cL_law 1951 = .ok (.iload 10, 2) := by decide +kernel
theorem dL_law_1953 : decode cL_law 1953 = .ok (.iload 17, 2) := by decide +kernel
theorem dL_law_1955 : decode cL_law 1955 = .ok (.aload_n 2, 1) := by decide +kernel
theorem dL_law_1956 : decode cL_law 1956 = .ok (.iload 11, 2) := by decide +kernel
theorem dL_law_1958 : decode cL_law 1958 = .ok (.iconst 1, 1) := by decide +kernel
theorem dL_law_1959 : decode cL_law 1959 = .ok (.iadd, 1) := by decide +kernel
theorem dL_law_1960 : decode cL_law 1960 = .ok (.iaload, 1) := by decide +kernel
theorem dL_law_1961 : decode cL_law 1961 = .ok (.idiv, 1) := by decide +kernel
theorem dL_law_1962 : decode cL_law 1962 = .ok (.iload 17, 2) := by decide +kernel
theorem dL_law_1964 : decode cL_law 1964 = .ok (.aload_n 2, 1) := by decide +kernel
theorem dL_law_1965 : decode cL_law 1965 = .ok (.iload 11, 2) := by decide +kernel
theorem dL_law_1967 : decode cL_law 1967 = .ok (.iconst 1, 1) := by decide +kernel
theorem dL_law_1968 : decode cL_law 1968 = .ok (.iadd, 1) := by decide +kernel
theorem dL_law_1969 : decode cL_law 1969 = .ok (.iaload, 1) := by decide +kernel
theorem dL_law_1970 : decode cL_law 1970 = .ok (.irem, 1) := by decide +kernel
theorem dL_law_1971 : decode cL_law 1971 = .ok (.iload 18, 2) := by decide +kernel
theorem dL_law_1973 : decode cL_law 1973 = .ok (.iconst 1, 1) := by decide +kernel
theorem dL_law_1974 : decode cL_law 1974 = .ok (.invokevirtual 142, 3) := by decide +kernel
theorem dL_law_1977 : decode cL_law 1977 = .ok (.iload 22, 2) := by decide +kernel
theorem dL_law_1979 : decode cL_law 1979 = .ok (.if_icmp .ne 35, 3) := by decide +kernel
theorem dL_law_1982 : decode cL_law 1982 = .ok (.aload_n 1, 1) := by decide +kernel
theorem dL_law_1983 : decode cL_law 1983 = .ok (.iload 10, 2) := by decide +kernel
theorem dL_law_1985 : decode cL_law 1985 = .ok (.iload 17, 2) := by decide +kernel
theorem dL_law_1987 : decode cL_law 1987 = .ok (.aload_n 2, 1) := by decide +kernel
theorem dL_law_1988 : decode cL_law 1988 = .ok (.iload 11, 2) := by decide +kernel
theorem dL_law_1990 : decode cL_law 1990 = .ok (.iconst 1, 1) := by decide +kernel
theorem dL_law_1991 : decode cL_law 1991 = .ok (.iadd, 1) := by decide +kernel
theorem dL_law_1992 : decode cL_law 1992 = .ok (.iaload, 1) := by decide +kernel
theorem dL_law_1993 : decode cL_law 1993 = .ok (.idiv, 1) := by decide +kernel
theorem dL_law_1994 : decode cL_law 1994 = .ok (.iload 17, 2) := by decide +kernel
theorem dL_law_1996 : decode cL_law 1996 = .ok (.aload_n 2, 1) := by decide +kernel
theorem dL_law_1997 : decode cL_law 1997 = .ok (.iload 11, 2) := by decide +kernel
theorem dL_law_1999 : decode cL_law 1999 = .ok (.iconst 1, 1) := by decide +kernel
theorem dL_law_2000 : decode cL_law 2000 = .ok (.iadd, 1) := by decide +kernel
theorem dL_law_2001 : decode cL_law 2001 = .ok (.iaload, 1) := by decide +kernel
theorem dL_law_2002 : decode cL_law 2002 = .ok (.irem, 1) := by decide +kernel
theorem dL_law_2003 : decode cL_law 2003 = .ok (.iload 18, 2) := by decide +kernel
theorem dL_law_2005 : decode cL_law 2005 = .ok (.iconst 2, 1) := by decide +kernel
theorem dL_law_2006 : decode cL_law 2006 = .ok (.invokevirtual 142, 3) := by decide +kernel
theorem dL_law_2009 : decode cL_law 2009 = .ok (.iload 23, 2) := by decide +kernel
theorem dL_law_2011 : decode cL_law 2011 = .ok (.if_icmp .eq 5, 3) := by decide +kernel
theorem dL_law_2014 : decode cL_law 2014 = .ok (.iconst 0, 1) := by decide +kernel
theorem dL_law_2015 : decode cL_law 2015 = .ok (.ireturn, 1) := by decide +kernel
theorem dL_law_2016 : decode cL_law 2016 = .ok (.iload 16, 2) := by decide +kernel
theorem dL_law_2018 : decode cL_law 2018 = .ok (.iconst 1, 1) := by decide +kernel
theorem dL_law_2019 : decode cL_law 2019 = .ok (.isub, 1) := by decide +kernel
theorem dL_law_2020 : decode cL_law 2020 = .ok (.istore 24, 2) := by decide +kernel
theorem dL_law_2022 : decode cL_law 2022 = .ok (.iload 24, 2) := by decide +kernel
theorem dL_law_2024 : decode cL_law 2024 = .ok (.ifCond .lt 81, 3) := by decide +kernel
theorem dL_law_2027 : decode cL_law 2027 = .ok (.aload_n 2, 1) := by decide +kernel
theorem dL_law_2028 : decode cL_law 2028 = .ok (.iload 11, 2) := by decide +kernel
theorem dL_law_2030 : decode cL_law 2030 = .ok (.iconst 2, 1) := by decide +kernel
theorem dL_law_2031 : decode cL_law 2031 = .ok (.iadd, 1) := by decide +kernel
theorem dL_law_2032 : decode cL_law 2032 = .ok (.iload 24, 2) := by decide +kernel
theorem dL_law_2034 : decode cL_law 2034 = .ok (.iadd, 1) := by decide +kernel
theorem dL_law_2035 : decode cL_law 2035 = .ok (.iaload, 1) := by decide +kernel
theorem dL_law_2036 : decode cL_law 2036 = .ok (.istore 19, 2) := by decide +kernel
theorem dL_law_2038 : decode cL_law 2038 = .ok (.aload_n 2, 1) := by decide +kernel
theorem dL_law_2039 : decode cL_law 2039 = .ok (.iload 11, 2) := by decide +kernel
theorem dL_law_2041 : decode cL_law 2041 = .ok (.iconst 2, 1) := by decide +kernel
theorem dL_law_2042 : decode cL_law 2042 = .ok (.iadd, 1) := by decide +kernel
theorem dL_law_2043 : decode cL_law 2043 = .ok (.iload 24, 2) := by decide +kernel
theorem dL_law_2045 : decode cL_law 2045 = .ok (.iadd, 1) := by decide +kernel
theorem dL_law_2046 : decode cL_law 2046 = .ok (.iconst 0, 1) := by decide +kernel
theorem dL_law_2047 : decode cL_law 2047 = .ok (.iastore, 1) := by decide +kernel
theorem dL_law_2048 : decode cL_law 2048 = .ok (.iload 10, 2) := by decide +kernel
theorem dL_law_2050 : decode cL_law 2050 = .ok (.aload_n 2, 1) := by decide +kernel
theorem dL_law_2051 : decode cL_law 2051 = .ok (.aload_n 3, 1) := by decide +kernel
theorem dL_law_2052 : decode cL_law 2052 = .ok (.aload 5, 2) := by decide +kernel
theorem dL_law_2054 : decode cL_law 2054 = .ok (.invokestatic 61, 3) := by decide +kernel
theorem dL_law_2057 : decode cL_law 2057 = .ok (.pop, 1) := by decide +kernel
theorem dL_law_2058 : decode cL_law 2058 = .ok (.iload 10, 2) := by decide +kernel
theorem dL_law_2060 : decode cL_law 2060 = .ok (.aload_n 2, 1) := by decide +kernel
theorem dL_law_2061 : decode cL_law 2061 = .ok (.aload 5, 2) := by decide +kernel
theorem dL_law_2063 : decode cL_law 2063 = .ok (.aload 4, 2) := by decide +kernel
theorem dL_law_2065 : decode cL_law 2065 = .ok (.invokestatic 65, 3) := by decide +kernel
theorem dL_law_2068 : decode cL_law 2068 = .ok (.istore 22, 2) := by decide +kernel
theorem dL_law_2070 : decode cL_law 2070 = .ok (.aload_n 2, 1) := by decide +kernel
theorem dL_law_2071 : decode cL_law 2071 = .ok (.iload 11, 2) := by decide +kernel
theorem dL_law_2073 : decode cL_law 2073 = .ok (.iconst 2, 1) := by decide +kernel
theorem dL_law_2074 : decode cL_law 2074 = .ok (.iadd, 1) := by decide +kernel
theorem dL_law_2075 : decode cL_law 2075 = .ok (.iload 24, 2) := by decide +kernel
theorem dL_law_2077 : decode cL_law 2077 = .ok (.iadd, 1) := by decide +kernel
theorem dL_law_2078 : decode cL_law 2078 = .ok (.iload 19, 2) := by decide +kernel
theorem dL_law_2080 : decode cL_law 2080 = .ok (.iastore, 1) := by decide +kernel
theorem dL_law_2081 : decode cL_law 2081 = .ok (.iload 22, 2) := by decide +kernel
theorem dL_law_2083 : decode cL_law 2083 = .ok (.iload 20, 2) := by decide +kernel
theorem dL_law_2085 : decode cL_law 2085 = .ok (.if_icmp .le 6, 3) := by decide +kernel
theorem dL_law_2088 : decode cL_law 2088 = .ok (.goto 11, 3) := by decide +kernel
theorem dL_law_2091 : decode cL_law 2091 = .ok (.iload 22, 2) := by decide +kernel
theorem dL_law_2093 : decode cL_law 2093 = .ok (.istore 20, 2) := by decide +kernel
theorem dL_law_2095 : decode cL_law 2095 = .ok (.iload 24, 2) := by decide +kernel
theorem dL_law_2097 : decode cL_law 2097 = .ok (.istore 21, 2) := by decide +kernel
theorem dL_law_2099 : decode cL_law 2099 = .ok (.iinc 24 (-1), 3) := by decide +kernel
theorem dL_law_2102 : decode cL_law 2102 = .ok (.goto (-80), 3) := by decide +kernel
theorem dL_law_2105 : decode cL_law 2105 = .ok (.aload_n 1, 1) := by decide +kernel
theorem dL_law_2106 : decode cL_law 2106 = .ok (.iload 10, 2) := by decide +kernel
theorem dL_law_2108 : decode cL_law 2108 = .ok (.invokevirtual 146, 3) := by decide +kernel
theorem dL_law_2111 : decode cL_law 2111 = .ok (.iload 21, 2) := by decide +kernel
theorem dL_law_2113 : decode cL_law 2113 = .ok (.if_icmp .eq 5, 3) := by decide +kernel
theorem dL_law_2116 : decode cL_law 2116 = .ok (.iconst 0, 1) := by decide +kernel
theorem dL_law_2117 : decode cL_law 2117 = .ok (.ireturn, 1) := by decide +kernel
theorem dL_law_2118 : decode cL_law 2118 = .ok (.iinc 6 1, 3) := by decide +kernel
theorem dL_law_2121 : decode cL_law 2121 = .ok (.goto (-2056), 3) := by decide +kernel
theorem dL_law_2124 : decode cL_law 2124 = .ok (.iconst 1, 1) := by decide +kernel
theorem dL_law_2125 : decode cL_law 2125 = .ok (.ireturn, 1) := by decide +kernel
