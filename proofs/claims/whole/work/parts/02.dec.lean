theorem dX0_greatestDifference_0 : decode cX0_greatestDifference 0 = .ok (.aload_n 0, 1) := by decide +kernel
theorem dX0_greatestDifference_1 : decode cX0_greatestDifference 1 = .ok (.iconst 0, 1) := by decide +kernel
theorem dX0_greatestDifference_2 : decode cX0_greatestDifference 2 = .ok (.iload_n 1, 1) := by decide +kernel
theorem dX0_greatestDifference_3 : decode cX0_greatestDifference 3 = .ok (.invokevirtual 7, 3) := by decide +kernel
theorem dX0_greatestDifference_6 : decode cX0_greatestDifference 6 = .ok (.aload_n 0, 1) := by decide +kernel
theorem dX0_greatestDifference_7 : decode cX0_greatestDifference 7 = .ok (.iconst 0, 1) := by decide +kernel
theorem dX0_greatestDifference_8 : decode cX0_greatestDifference 8 = .ok (.iload_n 2, 1) := by decide +kernel
theorem dX0_greatestDifference_9 : decode cX0_greatestDifference 9 = .ok (.invokevirtual 7, 3) := by decide +kernel
theorem dX0_greatestDifference_12 : decode cX0_greatestDifference 12 = .ok (.isub, 1) := by decide +kernel
theorem dX0_greatestDifference_13 : decode cX0_greatestDifference 13 = .ok (.istore_n 3, 1) := by decide +kernel
theorem dX0_greatestDifference_14 : decode cX0_greatestDifference 14 = .ok (.iconst 1, 1) := by decide +kernel
theorem dX0_greatestDifference_15 : decode cX0_greatestDifference 15 = .ok (.istore 4, 2) := by decide +kernel
theorem dX0_greatestDifference_17 : decode cX0_greatestDifference 17 = .ok (.iload 4, 2) := by decide +kernel
theorem dX0_greatestDifference_19 : decode cX0_greatestDifference 19 = .ok (.aload_n 0, 1) := by decide +kernel
theorem dX0_greatestDifference_20 : decode cX0_greatestDifference 20 = .ok (.getfield 13, 3) := by decide +kernel
theorem dX0_greatestDifference_23 : decode cX0_greatestDifference 23 = .ok (.if_icmp .ge 29, 3) := by decide +kernel
theorem dX0_greatestDifference_26 : decode cX0_greatestDifference 26 = .ok (.iload_n 3, 1) := by decide +kernel
theorem dX0_greatestDifference_27 : decode cX0_greatestDifference 27 = .ok (.aload_n 0, 1) := by decide +kernel
theorem dX0_greatestDifference_28 : decode cX0_greatestDifference 28 = .ok (.iload 4, 2) := by decide +kernel
theorem dX0_greatestDifference_30 : decode cX0_greatestDifference 30 = .ok (.iload_n 1, 1) := by decide +kernel
theorem dX0_greatestDifference_31 : decode cX0_greatestDifference 31 = .ok (.invokevirtual 7, 3) := by decide +kernel
theorem dX0_greatestDifference_34 : decode cX0_greatestDifference 34 = .ok (.aload_n 0, 1) := by decide +kernel
theorem dX0_greatestDifference_35 : decode cX0_greatestDifference 35 = .ok (.iload 4, 2) := by decide +kernel
theorem dX0_greatestDifference_37 : decode cX0_greatestDifference 37 = .ok (.iload_n 2, 1) := by decide +kernel
theorem dX0_greatestDifference_38 : decode cX0_greatestDifference 38 = .ok (.invokevirtual 7, 3) := by decide +kernel
theorem dX0_greatestDifference_41 : decode cX0_greatestDifference 41 = .ok (.isub, 1) := by decide +kernel
theorem dX0_greatestDifference_42 : decode cX0_greatestDifference 42 = .ok (.invokestatic 17, 3) := by decide +kernel
theorem dX0_greatestDifference_45 : decode cX0_greatestDifference 45 = .ok (.istore_n 3, 1) := by decide +kernel
theorem dX0_greatestDifference_46 : decode cX0_greatestDifference 46 = .ok (.iinc 4 1, 3) := by decide +kernel
theorem dX0_greatestDifference_49 : decode cX0_greatestDifference 49 = .ok (.goto (-32), 3) := by decide +kernel
theorem dX0_greatestDifference_52 : decode cX0_greatestDifference 52 = .ok (.iload_n 3, 1) := by decide +kernel
theorem dX0_greatestDifference_53 : decode cX0_greatestDifference 53 = .ok (.ireturn, 1) := by decide +kernel
theorem dX0_missedRows_0 : decode cX0_missedRows 0 = .ok (.iconst 1, 1) := by decide +kernel
theorem dX0_missedRows_1 : decode cX0_missedRows 1 = .ok (.aload_n 0, 1) := by decide +kernel
theorem dX0_missedRows_2 : decode cX0_missedRows 2 = .ok (.getfield 13, 3) := by decide +kernel
theorem dX0_missedRows_5 : decode cX0_missedRows 5 = .ok (.ishl, 1) := by decide +kernel
theorem dX0_missedRows_6 : decode cX0_missedRows 6 = .ok (.iconst 1, 1) := by decide +kernel
theorem dX0_missedRows_7 : decode cX0_missedRows 7 = .ok (.isub, 1) := by decide +kernel
theorem dX0_missedRows_8 : decode cX0_missedRows 8 = .ok (.istore_n 3, 1) := by decide +kernel
theorem dX0_missedRows_9 : decode cX0_missedRows 9 = .ok (.iconst 0, 1) := by decide +kernel
theorem dX0_missedRows_10 : decode cX0_missedRows 10 = .ok (.istore 4, 2) := by decide +kernel
theorem dX0_missedRows_12 : decode cX0_missedRows 12 = .ok (.iload 4, 2) := by decide +kernel
theorem dX0_missedRows_14 : decode cX0_missedRows 14 = .ok (.aload_n 0, 1) := by decide +kernel
theorem dX0_missedRows_15 : decode cX0_missedRows 15 = .ok (.getfield 22, 3) := by decide +kernel
theorem dX0_missedRows_18 : decode cX0_missedRows 18 = .ok (.if_icmp .ge 75, 3) := by decide +kernel
theorem dX0_missedRows_21 : decode cX0_missedRows 21 = .ok (.iload_n 2, 1) := by decide +kernel
theorem dX0_missedRows_22 : decode cX0_missedRows 22 = .ok (.iconst 1, 1) := by decide +kernel
theorem dX0_missedRows_23 : decode cX0_missedRows 23 = .ok (.iload 4, 2) := by decide +kernel
theorem dX0_missedRows_25 : decode cX0_missedRows 25 = .ok (.ishl, 1) := by decide +kernel
theorem dX0_missedRows_26 : decode cX0_missedRows 26 = .ok (.iand, 1) := by decide +kernel
theorem dX0_missedRows_27 : decode cX0_missedRows 27 = .ok (.ifCond .eq 60, 3) := by decide +kernel
theorem dX0_missedRows_30 : decode cX0_missedRows 30 = .ok (.aload_n 0, 1) := by decide +kernel
theorem dX0_missedRows_31 : decode cX0_missedRows 31 = .ok (.iload_n 1, 1) := by decide +kernel
theorem dX0_missedRows_32 : decode cX0_missedRows 32 = .ok (.iload 4, 2) := by decide +kernel
theorem dX0_missedRows_34 : decode cX0_missedRows 34 = .ok (.invokestatic 25, 3) := by decide +kernel
theorem dX0_missedRows_37 : decode cX0_missedRows 37 = .ok (.istore 5, 2) := by decide +kernel
theorem dX0_missedRows_39 : decode cX0_missedRows 39 = .ok (.iconst 0, 1) := by decide +kernel
theorem dX0_missedRows_40 : decode cX0_missedRows 40 = .ok (.istore 6, 2) := by decide +kernel
theorem dX0_missedRows_42 : decode cX0_missedRows 42 = .ok (.iload 6, 2) := by decide +kernel
theorem dX0_missedRows_44 : decode cX0_missedRows 44 = .ok (.aload_n 0, 1) := by decide +kernel
theorem dX0_missedRows_45 : decode cX0_missedRows 45 = .ok (.getfield 13, 3) := by decide +kernel
theorem dX0_missedRows_48 : decode cX0_missedRows 48 = .ok (.if_icmp .ge 39, 3) := by decide +kernel
theorem dX0_missedRows_51 : decode cX0_missedRows 51 = .ok (.iload 5, 2) := by decide +kernel
theorem dX0_missedRows_53 : decode cX0_missedRows 53 = .ok (.aload_n 0, 1) := by decide +kernel
theorem dX0_missedRows_54 : decode cX0_missedRows 54 = .ok (.iload 6, 2) := by decide +kernel
theorem dX0_missedRows_56 : decode cX0_missedRows 56 = .ok (.iload 4, 2) := by decide +kernel
theorem dX0_missedRows_58 : decode cX0_missedRows 58 = .ok (.invokevirtual 7, 3) := by decide +kernel
theorem dX0_missedRows_61 : decode cX0_missedRows 61 = .ok (.iadd, 1) := by decide +kernel
theorem dX0_missedRows_62 : decode cX0_missedRows 62 = .ok (.aload_n 0, 1) := by decide +kernel
theorem dX0_missedRows_63 : decode cX0_missedRows 63 = .ok (.iload 6, 2) := by decide +kernel
theorem dX0_missedRows_65 : decode cX0_missedRows 65 = .ok (.iload_n 1, 1) := by decide +kernel
theorem dX0_missedRows_66 : decode cX0_missedRows 66 = .ok (.invokevirtual 7, 3) := by decide +kernel
theorem dX0_missedRows_69 : decode cX0_missedRows 69 = .ok (.if_icmp .ne 12, 3) := by decide +kernel
theorem dX0_missedRows_72 : decode cX0_missedRows 72 = .ok (.iload_n 3, 1) := by decide +kernel
theorem dX0_missedRows_73 : decode cX0_missedRows 73 = .ok (.iconst 1, 1) := by decide +kernel
theorem dX0_missedRows_74 : decode cX0_missedRows 74 = .ok (.iload 6, 2) := by decide +kernel
theorem dX0_missedRows_76 : decode cX0_missedRows 76 = .ok (.ishl, 1) := by decide +kernel
theorem dX0_missedRows_77 : decode cX0_missedRows 77 = .ok (.iconst (-1), 1) := by decide +kernel
theorem dX0_missedRows_78 : decode cX0_missedRows 78 = .ok (.ixor, 1) := by decide +kernel
theorem dX0_missedRows_79 : decode cX0_missedRows 79 = .ok (.iand, 1) := by decide +kernel
theorem dX0_missedRows_80 : decode cX0_missedRows 80 = .ok (.istore_n 3, 1) := by decide +kernel
theorem dX0_missedRows_81 : decode cX0_missedRows 81 = .ok (.iinc 6 1, 3) := by decide +kernel
theorem dX0_missedRows_84 : decode cX0_missedRows 84 = .ok (.goto (-42), 3) := by decide +kernel
theorem dX0_missedRows_87 : decode cX0_missedRows 87 = .ok (.iinc 4 1, 3) := by decide +kernel
theorem dX0_missedRows_90 : decode cX0_missedRows 90 = .ok (.goto (-78), 3) := by decide +kernel
theorem dX0_missedRows_93 : decode cX0_missedRows 93 = .ok (.iload_n 3, 1) := by decide +kernel
theorem dX0_missedRows_94 : decode cX0_missedRows 94 = .ok (.ireturn, 1) := by decide +kernel
theorem dX0_neededColumns_0 : decode cX0_neededColumns 0 = .ok (.iconst 1, 1) := by decide +kernel
theorem dX0_neededColumns_1 : decode cX0_neededColumns 1 = .ok (.aload_n 0, 1) := by decide +kernel
theorem dX0_neededColumns_2 : decode cX0_neededColumns 2 = .ok (.getfield 22, 3) := by decide +kernel
theorem dX0_neededColumns_5 : decode cX0_neededColumns 5 = .ok (.ishl, 1) := by decide +kernel
theorem dX0_neededColumns_6 : decode cX0_neededColumns 6 = .ok (.iconst 1, 1) := by decide +kernel
theorem dX0_neededColumns_7 : decode cX0_neededColumns 7 = .ok (.isub, 1) := by decide +kernel
theorem dX0_neededColumns_8 : decode cX0_neededColumns 8 = .ok (.istore_n 1, 1) := by decide +kernel
theorem dX0_neededColumns_9 : decode cX0_neededColumns 9 = .ok (.iconst 0, 1) := by decide +kernel
theorem dX0_neededColumns_10 : decode cX0_neededColumns 10 = .ok (.istore_n 2, 1) := by decide +kernel
theorem dX0_neededColumns_11 : decode cX0_neededColumns 11 = .ok (.iload_n 2, 1) := by decide +kernel
theorem dX0_neededColumns_12 : decode cX0_neededColumns 12 = .ok (.aload_n 0, 1) := by decide +kernel
theorem dX0_neededColumns_13 : decode cX0_neededColumns 13 = .ok (.getfield 22, 3) := by decide +kernel
theorem dX0_neededColumns_16 : decode cX0_neededColumns 16 = .ok (.if_icmp .ge 28, 3) := by decide +kernel
theorem dX0_neededColumns_19 : decode cX0_neededColumns 19 = .ok (.iload_n 1, 1) := by decide +kernel
theorem dX0_neededColumns_20 : decode cX0_neededColumns 20 = .ok (.iconst 1, 1) := by decide +kernel
theorem dX0_neededColumns_21 : decode cX0_neededColumns 21 = .ok (.iload_n 2, 1) := by decide +kernel
theorem dX0_neededColumns_22 : decode cX0_neededColumns 22 = .ok (.ishl, 1) := by decide +kernel
theorem dX0_neededColumns_23 : decode cX0_neededColumns 23 = .ok (.iconst (-1), 1) := by decide +kernel
theorem dX0_neededColumns_24 : decode cX0_neededColumns 24 = .ok (.ixor, 1) := by decide +kernel
theorem dX0_neededColumns_25 : decode cX0_neededColumns 25 = .ok (.iand, 1) := by decide +kernel
theorem dX0_neededColumns_26 : decode cX0_neededColumns 26 = .ok (.istore_n 3, 1) := by decide +kernel
theorem dX0_neededColumns_27 : decode cX0_neededColumns 27 = .ok (.aload_n 0, 1) := by decide +kernel
theorem dX0_neededColumns_28 : decode cX0_neededColumns 28 = .ok (.iload_n 2, 1) := by decide +kernel
theorem dX0_neededColumns_29 : decode cX0_neededColumns 29 = .ok (.iload_n 3, 1) := by decide +kernel
theorem dX0_neededColumns_30 : decode cX0_neededColumns 30 = .ok (.invokestatic 31, 3) := by decide +kernel
theorem dX0_neededColumns_33 : decode cX0_neededColumns 33 = .ok (.ifCond .ne 5, 3) := by decide +kernel
theorem dX0_neededColumns_36 : decode cX0_neededColumns 36 = .ok (.iload_n 3, 1) := by decide +kernel
theorem dX0_neededColumns_37 : decode cX0_neededColumns 37 = .ok (.istore_n 1, 1) := by decide +kernel
theorem dX0_neededColumns_38 : decode cX0_neededColumns 38 = .ok (.iinc 2 1, 3) := by decide +kernel
theorem dX0_neededColumns_41 : decode cX0_neededColumns 41 = .ok (.goto (-30), 3) := by decide +kernel
theorem dX0_neededColumns_44 : decode cX0_neededColumns 44 = .ok (.iload_n 1, 1) := by decide +kernel
theorem dX0_neededColumns_45 : decode cX0_neededColumns 45 = .ok (.ireturn, 1) := by decide +kernel
theorem dX1_init_0 : decode cX1_init 0 = .ok (.aload_n 0, 1) := by decide +kernel
theorem dX1_init_1 : decode cX1_init 1 = .ok (.invokespecial 5, 3) := by decide +kernel
theorem dX1_init_4 : decode cX1_init 4 = .ok (.aload_n 0, 1) := by decide +kernel
theorem dX1_init_5 : decode cX1_init 5 = .ok (.bipush 64, 2) := by decide +kernel
theorem dX1_init_7 : decode cX1_init 7 = .ok (.newarray .long, 2) := by decide +kernel
theorem dX1_init_9 : decode cX1_init 9 = .ok (.putfield 11, 3) := by decide +kernel
theorem dX1_init_12 : decode cX1_init 12 = .ok (.aload_n 0, 1) := by decide +kernel
theorem dX1_init_13 : decode cX1_init 13 = .ok (.bipush 12, 2) := by decide +kernel
theorem dX1_init_15 : decode cX1_init 15 = .ok (.newarray .int, 2) := by decide +kernel
theorem dX1_init_17 : decode cX1_init 17 = .ok (.putfield 15, 3) := by decide +kernel
theorem dX1_init_20 : decode cX1_init 20 = .ok (.aload_n 0, 1) := by decide +kernel
theorem dX1_init_21 : decode cX1_init 21 = .ok (.bipush 12, 2) := by decide +kernel
theorem dX1_init_23 : decode cX1_init 23 = .ok (.newarray .int, 2) := by decide +kernel
theorem dX1_init_25 : decode cX1_init 25 = .ok (.putfield 19, 3) := by decide +kernel
theorem dX1_init_28 : decode cX1_init 28 = .ok (.return_, 1) := by decide +kernel
theorem dX1_study_0 : decode cX1_study 0 = .ok (.aload_n 0, 1) := by decide +kernel
theorem dX1_study_1 : decode cX1_study 1 = .ok (.aload_n 1, 1) := by decide +kernel
theorem dX1_study_2 : decode cX1_study 2 = .ok (.invokevirtual 22, 3) := by decide +kernel
theorem dX1_study_5 : decode cX1_study 5 = .ok (.putfield 28, 3) := by decide +kernel
theorem dX1_study_8 : decode cX1_study 8 = .ok (.iconst 0, 1) := by decide +kernel
theorem dX1_study_9 : decode cX1_study 9 = .ok (.istore_n 3, 1) := by decide +kernel
theorem dX1_study_10 : decode cX1_study 10 = .ok (.iload_n 3, 1) := by decide +kernel
theorem dX1_study_11 : decode cX1_study 11 = .ok (.bipush 64, 2) := by decide +kernel
theorem dX1_study_13 : decode cX1_study 13 = .ok (.if_icmp .ge 16, 3) := by decide +kernel
theorem dX1_study_16 : decode cX1_study 16 = .ok (.aload_n 0, 1) := by decide +kernel
theorem dX1_study_17 : decode cX1_study 17 = .ok (.getfield 11, 3) := by decide +kernel
theorem dX1_study_20 : decode cX1_study 20 = .ok (.iload_n 3, 1) := by decide +kernel
theorem dX1_study_21 : decode cX1_study 21 = .ok (.lconst 0, 1) := by decide +kernel
theorem dX1_study_22 : decode cX1_study 22 = .ok (.lastore, 1) := by decide +kernel
theorem dX1_study_23 : decode cX1_study 23 = .ok (.iinc 3 1, 3) := by decide +kernel
theorem dX1_study_26 : decode cX1_study 26 = .ok (.goto (-16), 3) := by decide +kernel
theorem dX1_study_29 : decode cX1_study 29 = .ok (.iconst 1, 1) := by decide +kernel
theorem dX1_study_30 : decode cX1_study 30 = .ok (.istore_n 3, 1) := by decide +kernel
theorem dX1_study_31 : decode cX1_study 31 = .ok (.iload_n 3, 1) := by decide +kernel
theorem dX1_study_32 : decode cX1_study 32 = .ok (.iconst 1, 1) := by decide +kernel
theorem dX1_study_33 : decode cX1_study 33 = .ok (.aload_n 1, 1) := by decide +kernel
theorem dX1_study_34 : decode cX1_study 34 = .ok (.getfield 32, 3) := by decide +kernel
theorem dX1_study_37 : decode cX1_study 37 = .ok (.ishl, 1) := by decide +kernel
theorem dX1_study_38 : decode cX1_study 38 = .ok (.if_icmp .ge 52, 3) := by decide +kernel
theorem dX1_study_41 : decode cX1_study 41 = .ok (.iconst 1, 1) := by decide +kernel
theorem dX1_study_42 : decode cX1_study 42 = .ok (.istore 4, 2) := by decide +kernel
theorem dX1_study_44 : decode cX1_study 44 = .ok (.iload 4, 2) := by decide +kernel
theorem dX1_study_46 : decode cX1_study 46 = .ok (.iconst 1, 1) := by decide +kernel
theorem dX1_study_47 : decode cX1_study 47 = .ok (.aload_n 1, 1) := by decide +kernel
theorem dX1_study_48 : decode cX1_study 48 = .ok (.getfield 35, 3) := by decide +kernel
theorem dX1_study_51 : decode cX1_study 51 = .ok (.ishl, 1) := by decide +kernel
theorem dX1_study_52 : decode cX1_study 52 = .ok (.if_icmp .ge 32, 3) := by decide +kernel
theorem dX1_study_55 : decode cX1_study 55 = .ok (.aload_n 1, 1) := by decide +kernel
theorem dX1_study_56 : decode cX1_study 56 = .ok (.iload_n 3, 1) := by decide +kernel
theorem dX1_study_57 : decode cX1_study 57 = .ok (.iload 4, 2) := by decide +kernel
theorem dX1_study_59 : decode cX1_study 59 = .ok (.invokestatic 38, 3) := by decide +kernel
theorem dX1_study_62 : decode cX1_study 62 = .ok (.ifCond .eq 16, 3) := by decide +kernel
theorem dX1_study_65 : decode cX1_study 65 = .ok (.aload_n 2, 1) := by decide +kernel
theorem dX1_study_66 : decode cX1_study 66 = .ok (.aload_n 1, 1) := by decide +kernel
theorem dX1_study_67 : decode cX1_study 67 = .ok (.iload_n 3, 1) := by decide +kernel
theorem dX1_study_68 : decode cX1_study 68 = .ok (.iload 4, 2) := by decide +kernel
theorem dX1_study_70 : decode cX1_study 70 = .ok (.invokevirtual 42, 3) := by decide +kernel
theorem dX1_study_73 : decode cX1_study 73 = .ok (.aload_n 0, 1) := by decide +kernel
theorem dX1_study_74 : decode cX1_study 74 = .ok (.aload_n 2, 1) := by decide +kernel
theorem dX1_study_75 : decode cX1_study 75 = .ok (.invokevirtual 48, 3) := by decide +kernel
theorem dX1_study_78 : decode cX1_study 78 = .ok (.iinc 4 1, 3) := by decide +kernel
theorem dX1_study_81 : decode cX1_study 81 = .ok (.goto (-37), 3) := by decide +kernel
theorem dX1_study_84 : decode cX1_study 84 = .ok (.iinc 3 1, 3) := by decide +kernel
theorem dX1_study_87 : decode cX1_study 87 = .ok (.goto (-56), 3) := by decide +kernel
theorem dX1_study_90 : decode cX1_study 90 = .ok (.aload_n 0, 1) := by decide +kernel
theorem dX1_study_91 : decode cX1_study 91 = .ok (.invokevirtual 52, 3) := by decide +kernel
theorem dX1_study_94 : decode cX1_study 94 = .ok (.return_, 1) := by decide +kernel
theorem dX1_markLesser_0 : decode cX1_markLesser 0 = .ok (.aload_n 1, 1) := by decide +kernel
theorem dX1_markLesser_1 : decode cX1_markLesser 1 = .ok (.invokevirtual 55, 3) := by decide +kernel
theorem dX1_markLesser_4 : decode cX1_markLesser 4 = .ok (.istore_n 2, 1) := by decide +kernel
theorem dX1_markLesser_5 : decode cX1_markLesser 5 = .ok (.iconst 0, 1) := by decide +kernel
theorem dX1_markLesser_6 : decode cX1_markLesser 6 = .ok (.istore_n 3, 1) := by decide +kernel
theorem dX1_markLesser_7 : decode cX1_markLesser 7 = .ok (.iload_n 3, 1) := by decide +kernel
theorem dX1_markLesser_8 : decode cX1_markLesser 8 = .ok (.aload_n 1, 1) := by decide +kernel
theorem dX1_markLesser_9 : decode cX1_markLesser 9 = .ok (.getfield 58, 3) := by decide +kernel
theorem dX1_markLesser_12 : decode cX1_markLesser 12 = .ok (.if_icmp .ge 47, 3) := by decide +kernel
theorem dX1_markLesser_15 : decode cX1_markLesser 15 = .ok (.aload_n 1, 1) := by decide +kernel
theorem dX1_markLesser_16 : decode cX1_markLesser 16 = .ok (.getfield 61, 3) := by decide +kernel
theorem dX1_markLesser_19 : decode cX1_markLesser 19 = .ok (.iload_n 3, 1) := by decide +kernel
theorem dX1_markLesser_20 : decode cX1_markLesser 20 = .ok (.iaload, 1) := by decide +kernel
theorem dX1_markLesser_21 : decode cX1_markLesser 21 = .ok (.iload_n 2, 1) := by decide +kernel
theorem dX1_markLesser_22 : decode cX1_markLesser 22 = .ok (.if_icmp .ge 31, 3) := by decide +kernel
theorem dX1_markLesser_25 : decode cX1_markLesser 25 = .ok (.aload_n 1, 1) := by decide +kernel
theorem dX1_markLesser_26 : decode cX1_markLesser 26 = .ok (.getfield 64, 3) := by decide +kernel
theorem dX1_markLesser_29 : decode cX1_markLesser 29 = .ok (.iload_n 3, 1) := by decide +kernel
theorem dX1_markLesser_30 : decode cX1_markLesser 30 = .ok (.iaload, 1) := by decide +kernel
theorem dX1_markLesser_31 : decode cX1_markLesser 31 = .ok (.istore 4, 2) := by decide +kernel
theorem dX1_markLesser_33 : decode cX1_markLesser 33 = .ok (.aload_n 0, 1) := by decide +kernel
theorem dX1_markLesser_34 : decode cX1_markLesser 34 = .ok (.getfield 11, 3) := by decide +kernel
theorem dX1_markLesser_37 : decode cX1_markLesser 37 = .ok (.iload 4, 2) := by decide +kernel
theorem dX1_markLesser_39 : decode cX1_markLesser 39 = .ok (.bipush 6, 2) := by decide +kernel
theorem dX1_markLesser_41 : decode cX1_markLesser 41 = .ok (.ishr, 1) := by decide +kernel
theorem dX1_markLesser_42 : decode cX1_markLesser 42 = .ok (.dup2, 1) := by decide +kernel
theorem dX1_markLesser_43 : decode cX1_markLesser 43 = .ok (.laload, 1) := by decide +kernel
theorem dX1_markLesser_44 : decode cX1_markLesser 44 = .ok (.lconst 1, 1) := by decide +kernel
theorem dX1_markLesser_45 : decode cX1_markLesser 45 = .ok (.iload 4, 2) := by decide +kernel
theorem dX1_markLesser_47 : decode cX1_markLesser 47 = .ok (.bipush 63, 2) := by decide +kernel
theorem dX1_markLesser_49 : decode cX1_markLesser 49 = .ok (.iand, 1) := by decide +kernel
theorem dX1_markLesser_50 : decode cX1_markLesser 50 = .ok (.lshl, 1) := by decide +kernel
theorem dX1_markLesser_51 : decode cX1_markLesser 51 = .ok (.lor, 1) := by decide +kernel
theorem dX1_markLesser_52 : decode cX1_markLesser 52 = .ok (.lastore, 1) := by decide +kernel
theorem dX1_markLesser_53 : decode cX1_markLesser 53 = .ok (.iinc 3 1, 3) := by decide +kernel
theorem dX1_markLesser_56 : decode cX1_markLesser 56 = .ok (.goto (-49), 3) := by decide +kernel
theorem dX1_markLesser_59 : decode cX1_markLesser 59 = .ok (.return_, 1) := by decide +kernel
theorem dX1_markSupersets_0 : decode cX1_markSupersets 0 = .ok (.aload_n 0, 1) := by decide +kernel
theorem dX1_markSupersets_1 : decode cX1_markSupersets 1 = .ok (.getfield 28, 3) := by decide +kernel
theorem dX1_markSupersets_4 : decode cX1_markSupersets 4 = .ok (.bipush 6, 2) := by decide +kernel
theorem dX1_markSupersets_6 : decode cX1_markSupersets 6 = .ok (.invokestatic 66, 3) := by decide +kernel
theorem dX1_markSupersets_9 : decode cX1_markSupersets 9 = .ok (.istore_n 1, 1) := by decide +kernel
theorem dX1_markSupersets_10 : decode cX1_markSupersets 10 = .ok (.iconst 0, 1) := by decide +kernel
theorem dX1_markSupersets_11 : decode cX1_markSupersets 11 = .ok (.istore_n 2, 1) := by decide +kernel
theorem dX1_markSupersets_12 : decode cX1_markSupersets 12 = .ok (.iload_n 2, 1) := by decide +kernel
theorem dX1_markSupersets_13 : decode cX1_markSupersets 13 = .ok (.bipush 64, 2) := by decide +kernel
theorem dX1_markSupersets_15 : decode cX1_markSupersets 15 = .ok (.if_icmp .ge 47, 3) := by decide +kernel
theorem dX1_markSupersets_18 : decode cX1_markSupersets 18 = .ok (.iconst 0, 1) := by decide +kernel
theorem dX1_markSupersets_19 : decode cX1_markSupersets 19 = .ok (.istore_n 3, 1) := by decide +kernel
theorem dX1_markSupersets_20 : decode cX1_markSupersets 20 = .ok (.iload_n 3, 1) := by decide +kernel
theorem dX1_markSupersets_21 : decode cX1_markSupersets 21 = .ok (.iload_n 1, 1) := by decide +kernel
theorem dX1_markSupersets_22 : decode cX1_markSupersets 22 = .ok (.if_icmp .ge 34, 3) := by decide +kernel
theorem dX1_markSupersets_25 : decode cX1_markSupersets 25 = .ok (.aload_n 0, 1) := by decide +kernel
theorem dX1_markSupersets_26 : decode cX1_markSupersets 26 = .ok (.getfield 11, 3) := by decide +kernel
theorem dX1_markSupersets_29 : decode cX1_markSupersets 29 = .ok (.iload_n 2, 1) := by decide +kernel
theorem dX1_markSupersets_30 : decode cX1_markSupersets 30 = .ok (.dup2, 1) := by decide +kernel
theorem dX1_markSupersets_31 : decode cX1_markSupersets 31 = .ok (.laload, 1) := by decide +kernel
theorem dX1_markSupersets_32 : decode cX1_markSupersets 32 = .ok (.aload_n 0, 1) := by decide +kernel
theorem dX1_markSupersets_33 : decode cX1_markSupersets 33 = .ok (.getfield 11, 3) := by decide +kernel
theorem dX1_markSupersets_36 : decode cX1_markSupersets 36 = .ok (.iload_n 2, 1) := by decide +kernel
theorem dX1_markSupersets_37 : decode cX1_markSupersets 37 = .ok (.laload, 1) := by decide +kernel
theorem dX1_markSupersets_38 : decode cX1_markSupersets 38 = .ok (.getstatic 72, 3) := by decide +kernel
theorem dX1_markSupersets_41 : decode cX1_markSupersets 41 = .ok (.iload_n 3, 1) := by decide +kernel
theorem dX1_markSupersets_42 : decode cX1_markSupersets 42 = .ok (.laload, 1) := by decide +kernel
theorem dX1_markSupersets_43 : decode cX1_markSupersets 43 = .ok (.land, 1) := by decide +kernel
theorem dX1_markSupersets_44 : decode cX1_markSupersets 44 = .ok (.iconst 1, 1) := by decide +kernel
theorem dX1_markSupersets_45 : decode cX1_markSupersets 45 = .ok (.iload_n 3, 1) := by decide +kernel
theorem dX1_markSupersets_46 : decode cX1_markSupersets 46 = .ok (.ishl, 1) := by decide +kernel
theorem dX1_markSupersets_47 : decode cX1_markSupersets 47 = .ok (.lshl, 1) := by decide +kernel
theorem dX1_markSupersets_48 : decode cX1_markSupersets 48 = .ok (.lor, 1) := by decide +kernel
theorem dX1_markSupersets_49 : decode cX1_markSupersets 49 = .ok (.lastore, 1) := by decide +kernel
theorem dX1_markSupersets_50 : decode cX1_markSupersets 50 = .ok (.iinc 3 1, 3) := by decide +kernel
theorem dX1_markSupersets_53 : decode cX1_markSupersets 53 = .ok (.goto (-33), 3) := by decide +kernel
theorem dX1_markSupersets_56 : decode cX1_markSupersets 56 = .ok (.iinc 2 1, 3) := by decide +kernel
theorem dX1_markSupersets_59 : decode cX1_markSupersets 59 = .ok (.goto (-47), 3) := by decide +kernel
theorem dX1_markSupersets_62 : decode cX1_markSupersets 62 = .ok (.bipush 6, 2) := by decide +kernel
theorem dX1_markSupersets_64 : decode cX1_markSupersets 64 = .ok (.istore_n 2, 1) := by decide +kernel
theorem dX1_markSupersets_65 : decode cX1_markSupersets 65 = .ok (.iload_n 2, 1) := by decide +kernel
theorem dX1_markSupersets_66 : decode cX1_markSupersets 66 = .ok (.aload_n 0, 1) := by decide +kernel
theorem dX1_markSupersets_67 : decode cX1_markSupersets 67 = .ok (.getfield 28, 3) := by decide +kernel
theorem dX1_markSupersets_70 : decode cX1_markSupersets 70 = .ok (.if_icmp .ge 58, 3) := by decide +kernel
theorem dX1_markSupersets_73 : decode cX1_markSupersets 73 = .ok (.iconst 1, 1) := by decide +kernel
theorem dX1_markSupersets_74 : decode cX1_markSupersets 74 = .ok (.iload_n 2, 1) := by decide +kernel
theorem dX1_markSupersets_75 : decode cX1_markSupersets 75 = .ok (.bipush 6, 2) := by decide +kernel
theorem dX1_markSupersets_77 : decode cX1_markSupersets 77 = .ok (.isub, 1) := by decide +kernel
theorem dX1_markSupersets_78 : decode cX1_markSupersets 78 = .ok (.ishl, 1) := by decide +kernel
theorem dX1_markSupersets_79 : decode cX1_markSupersets 79 = .ok (.istore_n 3, 1) := by decide +kernel
theorem dX1_markSupersets_80 : decode cX1_markSupersets 80 = .ok (.iconst 0, 1) := by decide +kernel
theorem dX1_markSupersets_81 : decode cX1_markSupersets 81 = .ok (.istore 4, 2) := by decide +kernel
theorem dX1_markSupersets_83 : decode cX1_markSupersets 83 = .ok (.iload 4, 2) := by decide +kernel
theorem dX1_markSupersets_85 : decode cX1_markSupersets 85 = .ok (.bipush 64, 2) := by decide +kernel
theorem dX1_markSupersets_87 : decode cX1_markSupersets 87 = .ok (.if_icmp .ge 35, 3) := by decide +kernel
theorem dX1_markSupersets_90 : decode cX1_markSupersets 90 = .ok (.iload 4, 2) := by decide +kernel
theorem dX1_markSupersets_92 : decode cX1_markSupersets 92 = .ok (.iload_n 3, 1) := by decide +kernel
theorem dX1_markSupersets_93 : decode cX1_markSupersets 93 = .ok (.iand, 1) := by decide +kernel
theorem dX1_markSupersets_94 : decode cX1_markSupersets 94 = .ok (.ifCond .eq 22, 3) := by decide +kernel
theorem dX1_markSupersets_97 : decode cX1_markSupersets 97 = .ok (.aload_n 0, 1) := by decide +kernel
theorem dX1_markSupersets_98 : decode cX1_markSupersets 98 = .ok (.getfield 11, 3) := by decide +kernel
theorem dX1_markSupersets_101 : decode cX1_markSupersets 101 = .ok (.iload 4, 2) := by decide +kernel
theorem dX1_markSupersets_103 : decode cX1_markSupersets 103 = .ok (.dup2, 1) := by decide +kernel
theorem dX1_markSupersets_104 : decode cX1_markSupersets 104 = .ok (.laload, 1) := by decide +kernel
theorem dX1_markSupersets_105 : decode cX1_markSupersets 105 = .ok (.aload_n 0, 1) := by decide +kernel
theorem dX1_markSupersets_106 : decode cX1_markSupersets 106 = .ok (.getfield 11, 3) := by decide +kernel
theorem dX1_markSupersets_109 : decode cX1_markSupersets 109 = .ok (.iload 4, 2) := by decide +kernel
theorem dX1_markSupersets_111 : decode cX1_markSupersets 111 = .ok (.iload_n 3, 1) := by decide +kernel
theorem dX1_markSupersets_112 : decode cX1_markSupersets 112 = .ok (.isub, 1) := by decide +kernel
theorem dX1_markSupersets_113 : decode cX1_markSupersets 113 = .ok (.laload, 1) := by decide +kernel
theorem dX1_markSupersets_114 : decode cX1_markSupersets 114 = .ok (.lor, 1) := by decide +kernel
theorem dX1_markSupersets_115 : decode cX1_markSupersets 115 = .ok (.lastore, 1) := by decide +kernel
theorem dX1_markSupersets_116 : decode cX1_markSupersets 116 = .ok (.iinc 4 1, 3) := by decide +kernel
theorem dX1_markSupersets_119 : decode cX1_markSupersets 119 = .ok (.goto (-36), 3) := by decide +kernel
theorem dX1_markSupersets_122 : decode cX1_markSupersets 122 = .ok (.iinc 2 1, 3) := by decide +kernel
theorem dX1_markSupersets_125 : decode cX1_markSupersets 125 = .ok (.goto (-60), 3) := by decide +kernel
theorem dX1_markSupersets_128 : decode cX1_markSupersets 128 = .ok (.return_, 1) := by decide +kernel
theorem dX1_canTouchAll_0 : decode cX1_canTouchAll 0 = .ok (.aload_n 0, 1) := by decide +kernel
theorem dX1_canTouchAll_1 : decode cX1_canTouchAll 1 = .ok (.getfield 11, 3) := by decide +kernel
theorem dX1_canTouchAll_4 : decode cX1_canTouchAll 4 = .ok (.iload_n 1, 1) := by decide +kernel
theorem dX1_canTouchAll_5 : decode cX1_canTouchAll 5 = .ok (.bipush 6, 2) := by decide +kernel
theorem dX1_canTouchAll_7 : decode cX1_canTouchAll 7 = .ok (.ishr, 1) := by decide +kernel
theorem dX1_canTouchAll_8 : decode cX1_canTouchAll 8 = .ok (.laload, 1) := by decide +kernel
theorem dX1_canTouchAll_9 : decode cX1_canTouchAll 9 = .ok (.iload_n 1, 1) := by decide +kernel
theorem dX1_canTouchAll_10 : decode cX1_canTouchAll 10 = .ok (.bipush 63, 2) := by decide +kernel
theorem dX1_canTouchAll_12 : decode cX1_canTouchAll 12 = .ok (.iand, 1) := by decide +kernel
theorem dX1_canTouchAll_13 : decode cX1_canTouchAll 13 = .ok (.lushr, 1) := by decide +kernel
theorem dX1_canTouchAll_14 : decode cX1_canTouchAll 14 = .ok (.lconst 1, 1) := by decide +kernel
theorem dX1_canTouchAll_15 : decode cX1_canTouchAll 15 = .ok (.land, 1) := by decide +kernel
theorem dX1_canTouchAll_16 : decode cX1_canTouchAll 16 = .ok (.lconst 0, 1) := by decide +kernel
theorem dX1_canTouchAll_17 : decode cX1_canTouchAll 17 = .ok (.lcmp, 1) := by decide +kernel
theorem dX1_canTouchAll_18 : decode cX1_canTouchAll 18 = .ok (.ifCond .ne 7, 3) := by decide +kernel
theorem dX1_canTouchAll_21 : decode cX1_canTouchAll 21 = .ok (.iconst 1, 1) := by decide +kernel
theorem dX1_canTouchAll_22 : decode cX1_canTouchAll 22 = .ok (.goto 4, 3) := by decide +kernel
theorem dX1_canTouchAll_25 : decode cX1_canTouchAll 25 = .ok (.iconst 0, 1) := by decide +kernel
theorem dX1_canTouchAll_26 : decode cX1_canTouchAll 26 = .ok (.ireturn, 1) := by decide +kernel
theorem dX1_touchableSets_0 : decode cX1_touchableSets 0 = .ok (.iconst 1, 1) := by decide +kernel
theorem dX1_touchableSets_1 : decode cX1_touchableSets 1 = .ok (.aload_n 0, 1) := by decide +kernel
theorem dX1_touchableSets_2 : decode cX1_touchableSets 2 = .ok (.getfield 28, 3) := by decide +kernel
theorem dX1_touchableSets_5 : decode cX1_touchableSets 5 = .ok (.ishl, 1) := by decide +kernel
theorem dX1_touchableSets_6 : decode cX1_touchableSets 6 = .ok (.istore_n 1, 1) := by decide +kernel
theorem dX1_touchableSets_7 : decode cX1_touchableSets 7 = .ok (.iconst 0, 1) := by decide +kernel
theorem dX1_touchableSets_8 : decode cX1_touchableSets 8 = .ok (.istore_n 2, 1) := by decide +kernel
theorem dX1_touchableSets_9 : decode cX1_touchableSets 9 = .ok (.iload_n 2, 1) := by decide +kernel
theorem dX1_touchableSets_10 : decode cX1_touchableSets 10 = .ok (.bipush 64, 2) := by decide +kernel
theorem dX1_touchableSets_12 : decode cX1_touchableSets 12 = .ok (.if_icmp .ge 21, 3) := by decide +kernel
theorem dX1_touchableSets_15 : decode cX1_touchableSets 15 = .ok (.iload_n 1, 1) := by decide +kernel
theorem dX1_touchableSets_16 : decode cX1_touchableSets 16 = .ok (.aload_n 0, 1) := by decide +kernel
theorem dX1_touchableSets_17 : decode cX1_touchableSets 17 = .ok (.getfield 11, 3) := by decide +kernel
theorem dX1_touchableSets_20 : decode cX1_touchableSets 20 = .ok (.iload_n 2, 1) := by decide +kernel
theorem dX1_touchableSets_21 : decode cX1_touchableSets 21 = .ok (.laload, 1) := by decide +kernel
theorem dX1_touchableSets_22 : decode cX1_touchableSets 22 = .ok (.invokestatic 75, 3) := by decide +kernel
theorem dX1_touchableSets_25 : decode cX1_touchableSets 25 = .ok (.isub, 1) := by decide +kernel
theorem dX1_touchableSets_26 : decode cX1_touchableSets 26 = .ok (.istore_n 1, 1) := by decide +kernel
theorem dX1_touchableSets_27 : decode cX1_touchableSets 27 = .ok (.iinc 2 1, 3) := by decide +kernel
theorem dX1_touchableSets_30 : decode cX1_touchableSets 30 = .ok (.goto (-21), 3) := by decide +kernel
theorem dX1_touchableSets_33 : decode cX1_touchableSets 33 = .ok (.iload_n 1, 1) := by decide +kernel
theorem dX1_touchableSets_34 : decode cX1_touchableSets 34 = .ok (.ireturn, 1) := by decide +kernel
theorem dX1_greatestSet_0 : decode cX1_greatestSet 0 = .ok (.iconst 0, 1) := by decide +kernel
theorem dX1_greatestSet_1 : decode cX1_greatestSet 1 = .ok (.istore_n 1, 1) := by decide +kernel
theorem dX1_greatestSet_2 : decode cX1_greatestSet 2 = .ok (.iconst 0, 1) := by decide +kernel
theorem dX1_greatestSet_3 : decode cX1_greatestSet 3 = .ok (.istore_n 2, 1) := by decide +kernel
theorem dX1_greatestSet_4 : decode cX1_greatestSet 4 = .ok (.iload_n 2, 1) := by decide +kernel
theorem dX1_greatestSet_5 : decode cX1_greatestSet 5 = .ok (.iconst 1, 1) := by decide +kernel
theorem dX1_greatestSet_6 : decode cX1_greatestSet 6 = .ok (.aload_n 0, 1) := by decide +kernel
theorem dX1_greatestSet_7 : decode cX1_greatestSet 7 = .ok (.getfield 28, 3) := by decide +kernel
theorem dX1_greatestSet_10 : decode cX1_greatestSet 10 = .ok (.ishl, 1) := by decide +kernel
theorem dX1_greatestSet_11 : decode cX1_greatestSet 11 = .ok (.if_icmp .ge 30, 3) := by decide +kernel
theorem dX1_greatestSet_14 : decode cX1_greatestSet 14 = .ok (.iload_n 2, 1) := by decide +kernel
theorem dX1_greatestSet_15 : decode cX1_greatestSet 15 = .ok (.invokestatic 81, 3) := by decide +kernel
theorem dX1_greatestSet_18 : decode cX1_greatestSet 18 = .ok (.iload_n 1, 1) := by decide +kernel
theorem dX1_greatestSet_19 : decode cX1_greatestSet 19 = .ok (.if_icmp .le 16, 3) := by decide +kernel
theorem dX1_greatestSet_22 : decode cX1_greatestSet 22 = .ok (.aload_n 0, 1) := by decide +kernel
theorem dX1_greatestSet_23 : decode cX1_greatestSet 23 = .ok (.iload_n 2, 1) := by decide +kernel
theorem dX1_greatestSet_24 : decode cX1_greatestSet 24 = .ok (.invokevirtual 86, 3) := by decide +kernel
theorem dX1_greatestSet_27 : decode cX1_greatestSet 27 = .ok (.ifCond .eq 8, 3) := by decide +kernel
theorem dX1_greatestSet_30 : decode cX1_greatestSet 30 = .ok (.iload_n 2, 1) := by decide +kernel
theorem dX1_greatestSet_31 : decode cX1_greatestSet 31 = .ok (.invokestatic 81, 3) := by decide +kernel
theorem dX1_greatestSet_34 : decode cX1_greatestSet 34 = .ok (.istore_n 1, 1) := by decide +kernel
theorem dX1_greatestSet_35 : decode cX1_greatestSet 35 = .ok (.iinc 2 1, 3) := by decide +kernel
theorem dX1_greatestSet_38 : decode cX1_greatestSet 38 = .ok (.goto (-34), 3) := by decide +kernel
theorem dX1_greatestSet_41 : decode cX1_greatestSet 41 = .ok (.iload_n 1, 1) := by decide +kernel
theorem dX1_greatestSet_42 : decode cX1_greatestSet 42 = .ok (.ireturn, 1) := by decide +kernel
theorem dX1_findFirstRow_0 : decode cX1_findFirstRow 0 = .ok (.iconst 0, 1) := by decide +kernel
theorem dX1_findFirstRow_1 : decode cX1_findFirstRow 1 = .ok (.istore_n 1, 1) := by decide +kernel
theorem dX1_findFirstRow_2 : decode cX1_findFirstRow 2 = .ok (.iconst 0, 1) := by decide +kernel
theorem dX1_findFirstRow_3 : decode cX1_findFirstRow 3 = .ok (.istore_n 2, 1) := by decide +kernel
theorem dX1_findFirstRow_4 : decode cX1_findFirstRow 4 = .ok (.iload_n 2, 1) := by decide +kernel
theorem dX1_findFirstRow_5 : decode cX1_findFirstRow 5 = .ok (.ifCond .ne 44, 3) := by decide +kernel
theorem dX1_findFirstRow_8 : decode cX1_findFirstRow 8 = .ok (.iload_n 1, 1) := by decide +kernel
theorem dX1_findFirstRow_9 : decode cX1_findFirstRow 9 = .ok (.aload_n 0, 1) := by decide +kernel
theorem dX1_findFirstRow_10 : decode cX1_findFirstRow 10 = .ok (.getfield 28, 3) := by decide +kernel
theorem dX1_findFirstRow_13 : decode cX1_findFirstRow 13 = .ok (.if_icmp .ge 36, 3) := by decide +kernel
theorem dX1_findFirstRow_16 : decode cX1_findFirstRow 16 = .ok (.iinc 1 1, 3) := by decide +kernel
theorem dX1_findFirstRow_19 : decode cX1_findFirstRow 19 = .ok (.iconst 0, 1) := by decide +kernel
theorem dX1_findFirstRow_20 : decode cX1_findFirstRow 20 = .ok (.istore_n 3, 1) := by decide +kernel
theorem dX1_findFirstRow_21 : decode cX1_findFirstRow 21 = .ok (.iload_n 3, 1) := by decide +kernel
theorem dX1_findFirstRow_22 : decode cX1_findFirstRow 22 = .ok (.iload_n 1, 1) := by decide +kernel
theorem dX1_findFirstRow_23 : decode cX1_findFirstRow 23 = .ok (.if_icmp .ge 16, 3) := by decide +kernel
theorem dX1_findFirstRow_26 : decode cX1_findFirstRow 26 = .ok (.aload_n 0, 1) := by decide +kernel
theorem dX1_findFirstRow_27 : decode cX1_findFirstRow 27 = .ok (.getfield 19, 3) := by decide +kernel
theorem dX1_findFirstRow_30 : decode cX1_findFirstRow 30 = .ok (.iload_n 3, 1) := by decide +kernel
theorem dX1_findFirstRow_31 : decode cX1_findFirstRow 31 = .ok (.iconst 0, 1) := by decide +kernel
theorem dX1_findFirstRow_32 : decode cX1_findFirstRow 32 = .ok (.iastore, 1) := by decide +kernel
theorem dX1_findFirstRow_33 : decode cX1_findFirstRow 33 = .ok (.iinc 3 1, 3) := by decide +kernel
theorem dX1_findFirstRow_36 : decode cX1_findFirstRow 36 = .ok (.goto (-15), 3) := by decide +kernel
theorem dX1_findFirstRow_39 : decode cX1_findFirstRow 39 = .ok (.aload_n 0, 1) := by decide +kernel
theorem dX1_findFirstRow_40 : decode cX1_findFirstRow 40 = .ok (.iconst 0, 1) := by decide +kernel
theorem dX1_findFirstRow_41 : decode cX1_findFirstRow 41 = .ok (.iload_n 1, 1) := by decide +kernel
theorem dX1_findFirstRow_42 : decode cX1_findFirstRow 42 = .ok (.invokestatic 90, 3) := by decide +kernel
theorem dX1_findFirstRow_45 : decode cX1_findFirstRow 45 = .ok (.istore_n 2, 1) := by decide +kernel
theorem dX1_findFirstRow_46 : decode cX1_findFirstRow 46 = .ok (.goto (-42), 3) := by decide +kernel
theorem dX1_findFirstRow_49 : decode cX1_findFirstRow 49 = .ok (.iload_n 1, 1) := by decide +kernel
theorem dX1_findFirstRow_50 : decode cX1_findFirstRow 50 = .ok (.ireturn, 1) := by decide +kernel
theorem dX1_fill_0 : decode cX1_fill 0 = .ok (.iload_n 1, 1) := by decide +kernel
theorem dX1_fill_1 : decode cX1_fill 1 = .ok (.aload_n 0, 1) := by decide +kernel
theorem dX1_fill_2 : decode cX1_fill 2 = .ok (.getfield 28, 3) := by decide +kernel
theorem dX1_fill_5 : decode cX1_fill 5 = .ok (.if_icmp .lt 5, 3) := by decide +kernel
theorem dX1_fill_8 : decode cX1_fill 8 = .ok (.iconst 1, 1) := by decide +kernel
theorem dX1_fill_9 : decode cX1_fill 9 = .ok (.ireturn, 1) := by decide +kernel
theorem dX1_fill_10 : decode cX1_fill 10 = .ok (.iconst 0, 1) := by decide +kernel
theorem dX1_fill_11 : decode cX1_fill 11 = .ok (.istore_n 3, 1) := by decide +kernel
theorem dX1_fill_12 : decode cX1_fill 12 = .ok (.iload_n 3, 1) := by decide +kernel
theorem dX1_fill_13 : decode cX1_fill 13 = .ok (.iload_n 2, 1) := by decide +kernel
theorem dX1_fill_14 : decode cX1_fill 14 = .ok (.if_icmp .ge 77, 3) := by decide +kernel
theorem dX1_fill_17 : decode cX1_fill 17 = .ok (.aload_n 0, 1) := by decide +kernel
theorem dX1_fill_18 : decode cX1_fill 18 = .ok (.getfield 19, 3) := by decide +kernel
theorem dX1_fill_21 : decode cX1_fill 21 = .ok (.iload_n 3, 1) := by decide +kernel
theorem dX1_fill_22 : decode cX1_fill 22 = .ok (.iaload, 1) := by decide +kernel
theorem dX1_fill_23 : decode cX1_fill 23 = .ok (.istore 4, 2) := by decide +kernel
theorem dX1_fill_25 : decode cX1_fill 25 = .ok (.aload_n 0, 1) := by decide +kernel
theorem dX1_fill_26 : decode cX1_fill 26 = .ok (.iload 4, 2) := by decide +kernel
theorem dX1_fill_28 : decode cX1_fill 28 = .ok (.iconst 1, 1) := by decide +kernel
theorem dX1_fill_29 : decode cX1_fill 29 = .ok (.iload_n 1, 1) := by decide +kernel
theorem dX1_fill_30 : decode cX1_fill 30 = .ok (.ishl, 1) := by decide +kernel
theorem dX1_fill_31 : decode cX1_fill 31 = .ok (.ior, 1) := by decide +kernel
theorem dX1_fill_32 : decode cX1_fill 32 = .ok (.invokevirtual 86, 3) := by decide +kernel
theorem dX1_fill_35 : decode cX1_fill 35 = .ok (.ifCond .eq 43, 3) := by decide +kernel
theorem dX1_fill_38 : decode cX1_fill 38 = .ok (.aload_n 0, 1) := by decide +kernel
theorem dX1_fill_39 : decode cX1_fill 39 = .ok (.getfield 19, 3) := by decide +kernel
theorem dX1_fill_42 : decode cX1_fill 42 = .ok (.iload_n 3, 1) := by decide +kernel
theorem dX1_fill_43 : decode cX1_fill 43 = .ok (.iload 4, 2) := by decide +kernel
theorem dX1_fill_45 : decode cX1_fill 45 = .ok (.iconst 1, 1) := by decide +kernel
theorem dX1_fill_46 : decode cX1_fill 46 = .ok (.iload_n 1, 1) := by decide +kernel
theorem dX1_fill_47 : decode cX1_fill 47 = .ok (.ishl, 1) := by decide +kernel
theorem dX1_fill_48 : decode cX1_fill 48 = .ok (.ior, 1) := by decide +kernel
theorem dX1_fill_49 : decode cX1_fill 49 = .ok (.iastore, 1) := by decide +kernel
theorem dX1_fill_50 : decode cX1_fill 50 = .ok (.aload_n 0, 1) := by decide +kernel
theorem dX1_fill_51 : decode cX1_fill 51 = .ok (.getfield 15, 3) := by decide +kernel
theorem dX1_fill_54 : decode cX1_fill 54 = .ok (.iload_n 1, 1) := by decide +kernel
theorem dX1_fill_55 : decode cX1_fill 55 = .ok (.iload_n 3, 1) := by decide +kernel
theorem dX1_fill_56 : decode cX1_fill 56 = .ok (.iastore, 1) := by decide +kernel
theorem dX1_fill_57 : decode cX1_fill 57 = .ok (.aload_n 0, 1) := by decide +kernel
theorem dX1_fill_58 : decode cX1_fill 58 = .ok (.iload_n 1, 1) := by decide +kernel
theorem dX1_fill_59 : decode cX1_fill 59 = .ok (.iconst 1, 1) := by decide +kernel
theorem dX1_fill_60 : decode cX1_fill 60 = .ok (.iadd, 1) := by decide +kernel
theorem dX1_fill_61 : decode cX1_fill 61 = .ok (.iload_n 2, 1) := by decide +kernel
theorem dX1_fill_62 : decode cX1_fill 62 = .ok (.invokestatic 90, 3) := by decide +kernel
theorem dX1_fill_65 : decode cX1_fill 65 = .ok (.ifCond .eq 5, 3) := by decide +kernel
theorem dX1_fill_68 : decode cX1_fill 68 = .ok (.iconst 1, 1) := by decide +kernel
theorem dX1_fill_69 : decode cX1_fill 69 = .ok (.ireturn, 1) := by decide +kernel
theorem dX1_fill_70 : decode cX1_fill 70 = .ok (.aload_n 0, 1) := by decide +kernel
theorem dX1_fill_71 : decode cX1_fill 71 = .ok (.getfield 19, 3) := by decide +kernel
theorem dX1_fill_74 : decode cX1_fill 74 = .ok (.iload_n 3, 1) := by decide +kernel
theorem dX1_fill_75 : decode cX1_fill 75 = .ok (.iload 4, 2) := by decide +kernel
theorem dX1_fill_77 : decode cX1_fill 77 = .ok (.iastore, 1) := by decide +kernel
theorem dX1_fill_78 : decode cX1_fill 78 = .ok (.iload 4, 2) := by decide +kernel
theorem dX1_fill_80 : decode cX1_fill 80 = .ok (.ifCond .ne 5, 3) := by decide +kernel
theorem dX1_fill_83 : decode cX1_fill 83 = .ok (.iconst 0, 1) := by decide +kernel
theorem dX1_fill_84 : decode cX1_fill 84 = .ok (.ireturn, 1) := by decide +kernel
theorem dX1_fill_85 : decode cX1_fill 85 = .ok (.iinc 3 1, 3) := by decide +kernel
theorem dX1_fill_88 : decode cX1_fill 88 = .ok (.goto (-76), 3) := by decide +kernel
theorem dX1_fill_91 : decode cX1_fill 91 = .ok (.iconst 0, 1) := by decide +kernel
theorem dX1_fill_92 : decode cX1_fill 92 = .ok (.ireturn, 1) := by decide +kernel
theorem dX2_init_0 : decode cX2_init 0 = .ok (.aload_n 0, 1) := by decide +kernel
theorem dX2_init_1 : decode cX2_init 1 = .ok (.invokespecial 3, 3) := by decide +kernel
theorem dX2_init_4 : decode cX2_init 4 = .ok (.aload_n 0, 1) := by decide +kernel
theorem dX2_init_5 : decode cX2_init 5 = .ok (.bipush 12, 2) := by decide +kernel
theorem dX2_init_7 : decode cX2_init 7 = .ok (.newarray .int, 2) := by decide +kernel
theorem dX2_init_9 : decode cX2_init 9 = .ok (.putfield 9, 3) := by decide +kernel
theorem dX2_init_12 : decode cX2_init 12 = .ok (.aload_n 0, 1) := by decide +kernel
theorem dX2_init_13 : decode cX2_init 13 = .ok (.iconst 1, 1) := by decide +kernel
theorem dX2_init_14 : decode cX2_init 14 = .ok (.putfield 15, 3) := by decide +kernel
theorem dX2_init_17 : decode cX2_init 17 = .ok (.aload_n 0, 1) := by decide +kernel
theorem dX2_init_18 : decode cX2_init 18 = .ok (.iconst 1, 1) := by decide +kernel
theorem dX2_init_19 : decode cX2_init 19 = .ok (.putfield 19, 3) := by decide +kernel
theorem dX2_init_22 : decode cX2_init 22 = .ok (.return_, 1) := by decide +kernel
theorem dX2_size_0 : decode cX2_size 0 = .ok (.aload_n 0, 1) := by decide +kernel
theorem dX2_size_1 : decode cX2_size 1 = .ok (.getfield 15, 3) := by decide +kernel
theorem dX2_size_4 : decode cX2_size 4 = .ok (.aload_n 0, 1) := by decide +kernel
theorem dX2_size_5 : decode cX2_size 5 = .ok (.getfield 19, 3) := by decide +kernel
theorem dX2_size_8 : decode cX2_size 8 = .ok (.imul, 1) := by decide +kernel
theorem dX2_size_9 : decode cX2_size 9 = .ok (.ireturn, 1) := by decide +kernel
theorem dX2_has_0 : decode cX2_has 0 = .ok (.iload_n 1, 1) := by decide +kernel
theorem dX2_has_1 : decode cX2_has 1 = .ok (.ifCond .lt 27, 3) := by decide +kernel
theorem dX2_has_4 : decode cX2_has 4 = .ok (.iload_n 1, 1) := by decide +kernel
theorem dX2_has_5 : decode cX2_has 5 = .ok (.aload_n 0, 1) := by decide +kernel
theorem dX2_has_6 : decode cX2_has 6 = .ok (.getfield 15, 3) := by decide +kernel
theorem dX2_has_9 : decode cX2_has 9 = .ok (.if_icmp .ge 19, 3) := by decide +kernel
theorem dX2_has_12 : decode cX2_has 12 = .ok (.iload_n 2, 1) := by decide +kernel
theorem dX2_has_13 : decode cX2_has 13 = .ok (.ifCond .lt 15, 3) := by decide +kernel
theorem dX2_has_16 : decode cX2_has 16 = .ok (.iload_n 2, 1) := by decide +kernel
theorem dX2_has_17 : decode cX2_has 17 = .ok (.aload_n 0, 1) := by decide +kernel
theorem dX2_has_18 : decode cX2_has 18 = .ok (.getfield 19, 3) := by decide +kernel
theorem dX2_has_21 : decode cX2_has 21 = .ok (.if_icmp .ge 7, 3) := by decide +kernel
theorem dX2_has_24 : decode cX2_has 24 = .ok (.iconst 1, 1) := by decide +kernel
theorem dX2_has_25 : decode cX2_has 25 = .ok (.goto 4, 3) := by decide +kernel
theorem dX2_has_28 : decode cX2_has 28 = .ok (.iconst 0, 1) := by decide +kernel
theorem dX2_has_29 : decode cX2_has 29 = .ok (.ireturn, 1) := by decide +kernel
theorem dX2_place_0 : decode cX2_place 0 = .ok (.iload_n 1, 1) := by decide +kernel
theorem dX2_place_1 : decode cX2_place 1 = .ok (.aload_n 0, 1) := by decide +kernel
theorem dX2_place_2 : decode cX2_place 2 = .ok (.getfield 19, 3) := by decide +kernel
theorem dX2_place_5 : decode cX2_place 5 = .ok (.imul, 1) := by decide +kernel
theorem dX2_place_6 : decode cX2_place 6 = .ok (.iload_n 2, 1) := by decide +kernel
theorem dX2_place_7 : decode cX2_place 7 = .ok (.iadd, 1) := by decide +kernel
theorem dX2_place_8 : decode cX2_place 8 = .ok (.ireturn, 1) := by decide +kernel
theorem dX2_at_0 : decode cX2_at 0 = .ok (.aload_n 0, 1) := by decide +kernel
theorem dX2_at_1 : decode cX2_at 1 = .ok (.getfield 9, 3) := by decide +kernel
theorem dX2_at_4 : decode cX2_at 4 = .ok (.aload_n 0, 1) := by decide +kernel
theorem dX2_at_5 : decode cX2_at 5 = .ok (.iload_n 1, 1) := by decide +kernel
theorem dX2_at_6 : decode cX2_at 6 = .ok (.iload_n 2, 1) := by decide +kernel
theorem dX2_at_7 : decode cX2_at 7 = .ok (.invokevirtual 22, 3) := by decide +kernel
theorem dX2_at_10 : decode cX2_at 10 = .ok (.iaload, 1) := by decide +kernel
theorem dX2_at_11 : decode cX2_at 11 = .ok (.ireturn, 1) := by decide +kernel
theorem dX2_assign_0 : decode cX2_assign 0 = .ok (.aload_n 0, 1) := by decide +kernel
theorem dX2_assign_1 : decode cX2_assign 1 = .ok (.getfield 9, 3) := by decide +kernel
theorem dX2_assign_4 : decode cX2_assign 4 = .ok (.aload_n 0, 1) := by decide +kernel
theorem dX2_assign_5 : decode cX2_assign 5 = .ok (.iload_n 1, 1) := by decide +kernel
theorem dX2_assign_6 : decode cX2_assign 6 = .ok (.iload_n 2, 1) := by decide +kernel
theorem dX2_assign_7 : decode cX2_assign 7 = .ok (.invokevirtual 22, 3) := by decide +kernel
theorem dX2_assign_10 : decode cX2_assign 10 = .ok (.iload_n 3, 1) := by decide +kernel
theorem dX2_assign_11 : decode cX2_assign 11 = .ok (.iastore, 1) := by decide +kernel
theorem dX2_assign_12 : decode cX2_assign 12 = .ok (.return_, 1) := by decide +kernel
theorem dX2_reshape_0 : decode cX2_reshape 0 = .ok (.aload_n 0, 1) := by decide +kernel
theorem dX2_reshape_1 : decode cX2_reshape 1 = .ok (.iload_n 1, 1) := by decide +kernel
theorem dX2_reshape_2 : decode cX2_reshape 2 = .ok (.putfield 15, 3) := by decide +kernel
theorem dX2_reshape_5 : decode cX2_reshape 5 = .ok (.aload_n 0, 1) := by decide +kernel
theorem dX2_reshape_6 : decode cX2_reshape 6 = .ok (.iload_n 2, 1) := by decide +kernel
theorem dX2_reshape_7 : decode cX2_reshape 7 = .ok (.putfield 19, 3) := by decide +kernel
theorem dX2_reshape_10 : decode cX2_reshape 10 = .ok (.return_, 1) := by decide +kernel
theorem dX2_become_0 : decode cX2_become 0 = .ok (.aload_n 0, 1) := by decide +kernel
theorem dX2_become_1 : decode cX2_become 1 = .ok (.aload_n 1, 1) := by decide +kernel
theorem dX2_become_2 : decode cX2_become 2 = .ok (.getfield 15, 3) := by decide +kernel
theorem dX2_become_5 : decode cX2_become 5 = .ok (.aload_n 1, 1) := by decide +kernel
theorem dX2_become_6 : decode cX2_become 6 = .ok (.getfield 19, 3) := by decide +kernel
theorem dX2_become_9 : decode cX2_become 9 = .ok (.invokevirtual 26, 3) := by decide +kernel
theorem dX2_become_12 : decode cX2_become 12 = .ok (.aload_n 1, 1) := by decide +kernel
theorem dX2_become_13 : decode cX2_become 13 = .ok (.getfield 9, 3) := by decide +kernel
theorem dX2_become_16 : decode cX2_become 16 = .ok (.iconst 0, 1) := by decide +kernel
theorem dX2_become_17 : decode cX2_become 17 = .ok (.aload_n 0, 1) := by decide +kernel
theorem dX2_become_18 : decode cX2_become 18 = .ok (.getfield 9, 3) := by decide +kernel
theorem dX2_become_21 : decode cX2_become 21 = .ok (.iconst 0, 1) := by decide +kernel
theorem dX2_become_22 : decode cX2_become 22 = .ok (.bipush 12, 2) := by decide +kernel
theorem dX2_become_24 : decode cX2_become 24 = .ok (.invokestatic 30, 3) := by decide +kernel
theorem dX2_become_27 : decode cX2_become 27 = .ok (.return_, 1) := by decide +kernel
theorem dX2_becomeTurned_0 : decode cX2_becomeTurned 0 = .ok (.aload_n 0, 1) := by decide +kernel
theorem dX2_becomeTurned_1 : decode cX2_becomeTurned 1 = .ok (.aload_n 1, 1) := by decide +kernel
theorem dX2_becomeTurned_2 : decode cX2_becomeTurned 2 = .ok (.getfield 19, 3) := by decide +kernel
theorem dX2_becomeTurned_5 : decode cX2_becomeTurned 5 = .ok (.aload_n 1, 1) := by decide +kernel
theorem dX2_becomeTurned_6 : decode cX2_becomeTurned 6 = .ok (.getfield 15, 3) := by decide +kernel
theorem dX2_becomeTurned_9 : decode cX2_becomeTurned 9 = .ok (.invokevirtual 26, 3) := by decide +kernel
theorem dX2_becomeTurned_12 : decode cX2_becomeTurned 12 = .ok (.iconst 0, 1) := by decide +kernel
theorem dX2_becomeTurned_13 : decode cX2_becomeTurned 13 = .ok (.istore_n 2, 1) := by decide +kernel
theorem dX2_becomeTurned_14 : decode cX2_becomeTurned 14 = .ok (.iload_n 2, 1) := by decide +kernel
theorem dX2_becomeTurned_15 : decode cX2_becomeTurned 15 = .ok (.aload_n 0, 1) := by decide +kernel
theorem dX2_becomeTurned_16 : decode cX2_becomeTurned 16 = .ok (.getfield 15, 3) := by decide +kernel
theorem dX2_becomeTurned_19 : decode cX2_becomeTurned 19 = .ok (.if_icmp .ge 37, 3) := by decide +kernel
theorem dX2_becomeTurned_22 : decode cX2_becomeTurned 22 = .ok (.iconst 0, 1) := by decide +kernel
theorem dX2_becomeTurned_23 : decode cX2_becomeTurned 23 = .ok (.istore_n 3, 1) := by decide +kernel
theorem dX2_becomeTurned_24 : decode cX2_becomeTurned 24 = .ok (.iload_n 3, 1) := by decide +kernel
theorem dX2_becomeTurned_25 : decode cX2_becomeTurned 25 = .ok (.aload_n 0, 1) := by decide +kernel
theorem dX2_becomeTurned_26 : decode cX2_becomeTurned 26 = .ok (.getfield 19, 3) := by decide +kernel
theorem dX2_becomeTurned_29 : decode cX2_becomeTurned 29 = .ok (.if_icmp .ge 21, 3) := by decide +kernel
theorem dX2_becomeTurned_32 : decode cX2_becomeTurned 32 = .ok (.aload_n 0, 1) := by decide +kernel
theorem dX2_becomeTurned_33 : decode cX2_becomeTurned 33 = .ok (.iload_n 2, 1) := by decide +kernel
theorem dX2_becomeTurned_34 : decode cX2_becomeTurned 34 = .ok (.iload_n 3, 1) := by decide +kernel
theorem dX2_becomeTurned_35 : decode cX2_becomeTurned 35 = .ok (.aload_n 1, 1) := by decide +kernel
theorem dX2_becomeTurned_36 : decode cX2_becomeTurned 36 = .ok (.iload_n 3, 1) := by decide +kernel
theorem dX2_becomeTurned_37 : decode cX2_becomeTurned 37 = .ok (.iload_n 2, 1) := by decide +kernel
theorem dX2_becomeTurned_38 : decode cX2_becomeTurned 38 = .ok (.invokevirtual 36, 3) := by decide +kernel
theorem dX2_becomeTurned_41 : decode cX2_becomeTurned 41 = .ok (.invokevirtual 39, 3) := by decide +kernel
theorem dX2_becomeTurned_44 : decode cX2_becomeTurned 44 = .ok (.iinc 3 1, 3) := by decide +kernel
theorem dX2_becomeTurned_47 : decode cX2_becomeTurned 47 = .ok (.goto (-23), 3) := by decide +kernel
theorem dX2_becomeTurned_50 : decode cX2_becomeTurned 50 = .ok (.iinc 2 1, 3) := by decide +kernel
theorem dX2_becomeTurned_53 : decode cX2_becomeTurned 53 = .ok (.goto (-39), 3) := by decide +kernel
theorem dX2_becomeTurned_56 : decode cX2_becomeTurned 56 = .ok (.return_, 1) := by decide +kernel
theorem dX2_becomeProduct_0 : decode cX2_becomeProduct 0 = .ok (.aload_n 0, 1) := by decide +kernel
theorem dX2_becomeProduct_1 : decode cX2_becomeProduct 1 = .ok (.aload_n 1, 1) := by decide +kernel
theorem dX2_becomeProduct_2 : decode cX2_becomeProduct 2 = .ok (.getfield 15, 3) := by decide +kernel
theorem dX2_becomeProduct_5 : decode cX2_becomeProduct 5 = .ok (.aload_n 2, 1) := by decide +kernel
theorem dX2_becomeProduct_6 : decode cX2_becomeProduct 6 = .ok (.getfield 19, 3) := by decide +kernel
theorem dX2_becomeProduct_9 : decode cX2_becomeProduct 9 = .ok (.invokevirtual 26, 3) := by decide +kernel
theorem dX2_becomeProduct_12 : decode cX2_becomeProduct 12 = .ok (.iconst 0, 1) := by decide +kernel
theorem dX2_becomeProduct_13 : decode cX2_becomeProduct 13 = .ok (.istore_n 3, 1) := by decide +kernel
theorem dX2_becomeProduct_14 : decode cX2_becomeProduct 14 = .ok (.iload_n 3, 1) := by decide +kernel
theorem dX2_becomeProduct_15 : decode cX2_becomeProduct 15 = .ok (.aload_n 0, 1) := by decide +kernel
theorem dX2_becomeProduct_16 : decode cX2_becomeProduct 16 = .ok (.getfield 15, 3) := by decide +kernel
theorem dX2_becomeProduct_19 : decode cX2_becomeProduct 19 = .ok (.if_icmp .ge 93, 3) := by decide +kernel
theorem dX2_becomeProduct_22 : decode cX2_becomeProduct 22 = .ok (.iconst 0, 1) := by decide +kernel
theorem dX2_becomeProduct_23 : decode cX2_becomeProduct 23 = .ok (.istore 4, 2) := by decide +kernel
theorem dX2_becomeProduct_25 : decode cX2_becomeProduct 25 = .ok (.iload 4, 2) := by decide +kernel
theorem dX2_becomeProduct_27 : decode cX2_becomeProduct 27 = .ok (.aload_n 0, 1) := by decide +kernel
theorem dX2_becomeProduct_28 : decode cX2_becomeProduct 28 = .ok (.getfield 19, 3) := by decide +kernel
theorem dX2_becomeProduct_31 : decode cX2_becomeProduct 31 = .ok (.if_icmp .ge 75, 3) := by decide +kernel
theorem dX2_becomeProduct_34 : decode cX2_becomeProduct 34 = .ok (.aload_n 1, 1) := by decide +kernel
theorem dX2_becomeProduct_35 : decode cX2_becomeProduct 35 = .ok (.iload_n 3, 1) := by decide +kernel
theorem dX2_becomeProduct_36 : decode cX2_becomeProduct 36 = .ok (.iconst 0, 1) := by decide +kernel
theorem dX2_becomeProduct_37 : decode cX2_becomeProduct 37 = .ok (.invokevirtual 36, 3) := by decide +kernel
theorem dX2_becomeProduct_40 : decode cX2_becomeProduct 40 = .ok (.aload_n 2, 1) := by decide +kernel
theorem dX2_becomeProduct_41 : decode cX2_becomeProduct 41 = .ok (.iconst 0, 1) := by decide +kernel
theorem dX2_becomeProduct_42 : decode cX2_becomeProduct 42 = .ok (.iload 4, 2) := by decide +kernel
theorem dX2_becomeProduct_44 : decode cX2_becomeProduct 44 = .ok (.invokevirtual 36, 3) := by decide +kernel
theorem dX2_becomeProduct_47 : decode cX2_becomeProduct 47 = .ok (.iadd, 1) := by decide +kernel
theorem dX2_becomeProduct_48 : decode cX2_becomeProduct 48 = .ok (.istore 5, 2) := by decide +kernel
theorem dX2_becomeProduct_50 : decode cX2_becomeProduct 50 = .ok (.iconst 1, 1) := by decide +kernel
theorem dX2_becomeProduct_51 : decode cX2_becomeProduct 51 = .ok (.istore 6, 2) := by decide +kernel
theorem dX2_becomeProduct_53 : decode cX2_becomeProduct 53 = .ok (.iload 6, 2) := by decide +kernel
theorem dX2_becomeProduct_55 : decode cX2_becomeProduct 55 = .ok (.aload_n 1, 1) := by decide +kernel
theorem dX2_becomeProduct_56 : decode cX2_becomeProduct 56 = .ok (.getfield 19, 3) := by decide +kernel
theorem dX2_becomeProduct_59 : decode cX2_becomeProduct 59 = .ok (.if_icmp .ge 32, 3) := by decide +kernel
theorem dX2_becomeProduct_62 : decode cX2_becomeProduct 62 = .ok (.iload 5, 2) := by decide +kernel
theorem dX2_becomeProduct_64 : decode cX2_becomeProduct 64 = .ok (.aload_n 1, 1) := by decide +kernel
theorem dX2_becomeProduct_65 : decode cX2_becomeProduct 65 = .ok (.iload_n 3, 1) := by decide +kernel
theorem dX2_becomeProduct_66 : decode cX2_becomeProduct 66 = .ok (.iload 6, 2) := by decide +kernel
theorem dX2_becomeProduct_68 : decode cX2_becomeProduct 68 = .ok (.invokevirtual 36, 3) := by decide +kernel
theorem dX2_becomeProduct_71 : decode cX2_becomeProduct 71 = .ok (.aload_n 2, 1) := by decide +kernel
theorem dX2_becomeProduct_72 : decode cX2_becomeProduct 72 = .ok (.iload 6, 2) := by decide +kernel
theorem dX2_becomeProduct_74 : decode cX2_becomeProduct 74 = .ok (.iload 4, 2) := by decide +kernel
theorem dX2_becomeProduct_76 : decode cX2_becomeProduct 76 = .ok (.invokevirtual 36, 3) := by decide +kernel
theorem dX2_becomeProduct_79 : decode cX2_becomeProduct 79 = .ok (.iadd, 1) := by decide +kernel
theorem dX2_becomeProduct_80 : decode cX2_becomeProduct 80 = .ok (.invokestatic 43, 3) := by decide +kernel
theorem dX2_becomeProduct_83 : decode cX2_becomeProduct 83 = .ok (.istore 5, 2) := by decide +kernel
theorem dX2_becomeProduct_85 : decode cX2_becomeProduct 85 = .ok (.iinc 6 1, 3) := by decide +kernel
theorem dX2_becomeProduct_88 : decode cX2_becomeProduct 88 = .ok (.goto (-35), 3) := by decide +kernel
theorem dX2_becomeProduct_91 : decode cX2_becomeProduct 91 = .ok (.aload_n 0, 1) := by decide +kernel
theorem dX2_becomeProduct_92 : decode cX2_becomeProduct 92 = .ok (.iload_n 3, 1) := by decide +kernel
theorem dX2_becomeProduct_93 : decode cX2_becomeProduct 93 = .ok (.iload 4, 2) := by decide +kernel
theorem dX2_becomeProduct_95 : decode cX2_becomeProduct 95 = .ok (.iload 5, 2) := by decide +kernel
theorem dX2_becomeProduct_97 : decode cX2_becomeProduct 97 = .ok (.invokevirtual 39, 3) := by decide +kernel
theorem dX2_becomeProduct_100 : decode cX2_becomeProduct 100 = .ok (.iinc 4 1, 3) := by decide +kernel
theorem dX2_becomeProduct_103 : decode cX2_becomeProduct 103 = .ok (.goto (-78), 3) := by decide +kernel
theorem dX2_becomeProduct_106 : decode cX2_becomeProduct 106 = .ok (.iinc 3 1, 3) := by decide +kernel
theorem dX2_becomeProduct_109 : decode cX2_becomeProduct 109 = .ok (.goto (-95), 3) := by decide +kernel
theorem dX2_becomeProduct_112 : decode cX2_becomeProduct 112 = .ok (.return_, 1) := by decide +kernel
theorem dX2_shortenWays_0 : decode cX2_shortenWays 0 = .ok (.iconst 0, 1) := by decide +kernel
theorem dX2_shortenWays_1 : decode cX2_shortenWays 1 = .ok (.istore_n 1, 1) := by decide +kernel
theorem dX2_shortenWays_2 : decode cX2_shortenWays 2 = .ok (.iload_n 1, 1) := by decide +kernel
theorem dX2_shortenWays_3 : decode cX2_shortenWays 3 = .ok (.aload_n 0, 1) := by decide +kernel
theorem dX2_shortenWays_4 : decode cX2_shortenWays 4 = .ok (.getfield 15, 3) := by decide +kernel
theorem dX2_shortenWays_7 : decode cX2_shortenWays 7 = .ok (.if_icmp .ge 69, 3) := by decide +kernel
theorem dX2_shortenWays_10 : decode cX2_shortenWays 10 = .ok (.iconst 0, 1) := by decide +kernel
theorem dX2_shortenWays_11 : decode cX2_shortenWays 11 = .ok (.istore_n 2, 1) := by decide +kernel
theorem dX2_shortenWays_12 : decode cX2_shortenWays 12 = .ok (.iload_n 2, 1) := by decide +kernel
theorem dX2_shortenWays_13 : decode cX2_shortenWays 13 = .ok (.aload_n 0, 1) := by decide +kernel
theorem dX2_shortenWays_14 : decode cX2_shortenWays 14 = .ok (.getfield 15, 3) := by decide +kernel
theorem dX2_shortenWays_17 : decode cX2_shortenWays 17 = .ok (.if_icmp .ge 53, 3) := by decide +kernel
theorem dX2_shortenWays_20 : decode cX2_shortenWays 20 = .ok (.iconst 0, 1) := by decide +kernel
theorem dX2_shortenWays_21 : decode cX2_shortenWays 21 = .ok (.istore_n 3, 1) := by decide +kernel
theorem dX2_shortenWays_22 : decode cX2_shortenWays 22 = .ok (.iload_n 3, 1) := by decide +kernel
theorem dX2_shortenWays_23 : decode cX2_shortenWays 23 = .ok (.aload_n 0, 1) := by decide +kernel
theorem dX2_shortenWays_24 : decode cX2_shortenWays 24 = .ok (.getfield 15, 3) := by decide +kernel
theorem dX2_shortenWays_27 : decode cX2_shortenWays 27 = .ok (.if_icmp .ge 37, 3) := by decide +kernel
theorem dX2_shortenWays_30 : decode cX2_shortenWays 30 = .ok (.aload_n 0, 1) := by decide +kernel
theorem dX2_shortenWays_31 : decode cX2_shortenWays 31 = .ok (.iload_n 2, 1) := by decide +kernel
theorem dX2_shortenWays_32 : decode cX2_shortenWays 32 = .ok (.iload_n 3, 1) := by decide +kernel
theorem dX2_shortenWays_33 : decode cX2_shortenWays 33 = .ok (.aload_n 0, 1) := by decide +kernel
theorem dX2_shortenWays_34 : decode cX2_shortenWays 34 = .ok (.iload_n 2, 1) := by decide +kernel
theorem dX2_shortenWays_35 : decode cX2_shortenWays 35 = .ok (.iload_n 3, 1) := by decide +kernel
theorem dX2_shortenWays_36 : decode cX2_shortenWays 36 = .ok (.invokevirtual 36, 3) := by decide +kernel
theorem dX2_shortenWays_39 : decode cX2_shortenWays 39 = .ok (.aload_n 0, 1) := by decide +kernel
theorem dX2_shortenWays_40 : decode cX2_shortenWays 40 = .ok (.iload_n 2, 1) := by decide +kernel
theorem dX2_shortenWays_41 : decode cX2_shortenWays 41 = .ok (.iload_n 1, 1) := by decide +kernel
theorem dX2_shortenWays_42 : decode cX2_shortenWays 42 = .ok (.invokevirtual 36, 3) := by decide +kernel
theorem dX2_shortenWays_45 : decode cX2_shortenWays 45 = .ok (.aload_n 0, 1) := by decide +kernel
theorem dX2_shortenWays_46 : decode cX2_shortenWays 46 = .ok (.iload_n 1, 1) := by decide +kernel
theorem dX2_shortenWays_47 : decode cX2_shortenWays 47 = .ok (.iload_n 3, 1) := by decide +kernel
theorem dX2_shortenWays_48 : decode cX2_shortenWays 48 = .ok (.invokevirtual 36, 3) := by decide +kernel
theorem dX2_shortenWays_51 : decode cX2_shortenWays 51 = .ok (.iadd, 1) := by decide +kernel
theorem dX2_shortenWays_52 : decode cX2_shortenWays 52 = .ok (.invokestatic 43, 3) := by decide +kernel
theorem dX2_shortenWays_55 : decode cX2_shortenWays 55 = .ok (.invokevirtual 39, 3) := by decide +kernel
theorem dX2_shortenWays_58 : decode cX2_shortenWays 58 = .ok (.iinc 3 1, 3) := by decide +kernel
theorem dX2_shortenWays_61 : decode cX2_shortenWays 61 = .ok (.goto (-39), 3) := by decide +kernel
theorem dX2_shortenWays_64 : decode cX2_shortenWays 64 = .ok (.iinc 2 1, 3) := by decide +kernel
theorem dX2_shortenWays_67 : decode cX2_shortenWays 67 = .ok (.goto (-55), 3) := by decide +kernel
theorem dX2_shortenWays_70 : decode cX2_shortenWays 70 = .ok (.iinc 1 1, 3) := by decide +kernel
theorem dX2_shortenWays_73 : decode cX2_shortenWays 73 = .ok (.goto (-71), 3) := by decide +kernel
theorem dX2_shortenWays_76 : decode cX2_shortenWays 76 = .ok (.return_, 1) := by decide +kernel
theorem dX2_greatest_0 : decode cX2_greatest 0 = .ok (.aload_n 0, 1) := by decide +kernel
theorem dX2_greatest_1 : decode cX2_greatest 1 = .ok (.getfield 9, 3) := by decide +kernel
theorem dX2_greatest_4 : decode cX2_greatest 4 = .ok (.iconst 0, 1) := by decide +kernel
theorem dX2_greatest_5 : decode cX2_greatest 5 = .ok (.iaload, 1) := by decide +kernel
theorem dX2_greatest_6 : decode cX2_greatest 6 = .ok (.istore_n 1, 1) := by decide +kernel
theorem dX2_greatest_7 : decode cX2_greatest 7 = .ok (.iconst 1, 1) := by decide +kernel
theorem dX2_greatest_8 : decode cX2_greatest 8 = .ok (.istore_n 2, 1) := by decide +kernel
theorem dX2_greatest_9 : decode cX2_greatest 9 = .ok (.iload_n 2, 1) := by decide +kernel
theorem dX2_greatest_10 : decode cX2_greatest 10 = .ok (.aload_n 0, 1) := by decide +kernel
theorem dX2_greatest_11 : decode cX2_greatest 11 = .ok (.invokevirtual 48, 3) := by decide +kernel
theorem dX2_greatest_14 : decode cX2_greatest 14 = .ok (.if_icmp .ge 20, 3) := by decide +kernel
theorem dX2_greatest_17 : decode cX2_greatest 17 = .ok (.iload_n 1, 1) := by decide +kernel
theorem dX2_greatest_18 : decode cX2_greatest 18 = .ok (.aload_n 0, 1) := by decide +kernel
theorem dX2_greatest_19 : decode cX2_greatest 19 = .ok (.getfield 9, 3) := by decide +kernel
theorem dX2_greatest_22 : decode cX2_greatest 22 = .ok (.iload_n 2, 1) := by decide +kernel
theorem dX2_greatest_23 : decode cX2_greatest 23 = .ok (.iaload, 1) := by decide +kernel
theorem dX2_greatest_24 : decode cX2_greatest 24 = .ok (.invokestatic 52, 3) := by decide +kernel
theorem dX2_greatest_27 : decode cX2_greatest 27 = .ok (.istore_n 1, 1) := by decide +kernel
theorem dX2_greatest_28 : decode cX2_greatest 28 = .ok (.iinc 2 1, 3) := by decide +kernel
theorem dX2_greatest_31 : decode cX2_greatest 31 = .ok (.goto (-22), 3) := by decide +kernel
theorem dX2_greatest_34 : decode cX2_greatest 34 = .ok (.iload_n 1, 1) := by decide +kernel
theorem dX2_greatest_35 : decode cX2_greatest 35 = .ok (.ireturn, 1) := by decide +kernel
theorem dX2_least_0 : decode cX2_least 0 = .ok (.aload_n 0, 1) := by decide +kernel
theorem dX2_least_1 : decode cX2_least 1 = .ok (.getfield 9, 3) := by decide +kernel
theorem dX2_least_4 : decode cX2_least 4 = .ok (.iconst 0, 1) := by decide +kernel
theorem dX2_least_5 : decode cX2_least 5 = .ok (.iaload, 1) := by decide +kernel
theorem dX2_least_6 : decode cX2_least 6 = .ok (.istore_n 1, 1) := by decide +kernel
theorem dX2_least_7 : decode cX2_least 7 = .ok (.iconst 1, 1) := by decide +kernel
theorem dX2_least_8 : decode cX2_least 8 = .ok (.istore_n 2, 1) := by decide +kernel
theorem dX2_least_9 : decode cX2_least 9 = .ok (.iload_n 2, 1) := by decide +kernel
theorem dX2_least_10 : decode cX2_least 10 = .ok (.aload_n 0, 1) := by decide +kernel
theorem dX2_least_11 : decode cX2_least 11 = .ok (.invokevirtual 48, 3) := by decide +kernel
theorem dX2_least_14 : decode cX2_least 14 = .ok (.if_icmp .ge 20, 3) := by decide +kernel
theorem dX2_least_17 : decode cX2_least 17 = .ok (.iload_n 1, 1) := by decide +kernel
theorem dX2_least_18 : decode cX2_least 18 = .ok (.aload_n 0, 1) := by decide +kernel
theorem dX2_least_19 : decode cX2_least 19 = .ok (.getfield 9, 3) := by decide +kernel
theorem dX2_least_22 : decode cX2_least 22 = .ok (.iload_n 2, 1) := by decide +kernel
theorem dX2_least_23 : decode cX2_least 23 = .ok (.iaload, 1) := by decide +kernel
theorem dX2_least_24 : decode cX2_least 24 = .ok (.invokestatic 43, 3) := by decide +kernel
theorem dX2_least_27 : decode cX2_least 27 = .ok (.istore_n 1, 1) := by decide +kernel
theorem dX2_least_28 : decode cX2_least 28 = .ok (.iinc 2 1, 3) := by decide +kernel
theorem dX2_least_31 : decode cX2_least 31 = .ok (.goto (-22), 3) := by decide +kernel
theorem dX2_least_34 : decode cX2_least 34 = .ok (.iload_n 1, 1) := by decide +kernel
theorem dX2_least_35 : decode cX2_least 35 = .ok (.ireturn, 1) := by decide +kernel
theorem dX2_unlikeEntries_0 : decode cX2_unlikeEntries 0 = .ok (.iconst 0, 1) := by decide +kernel
theorem dX2_unlikeEntries_1 : decode cX2_unlikeEntries 1 = .ok (.istore_n 1, 1) := by decide +kernel
theorem dX2_unlikeEntries_2 : decode cX2_unlikeEntries 2 = .ok (.iconst 0, 1) := by decide +kernel
theorem dX2_unlikeEntries_3 : decode cX2_unlikeEntries 3 = .ok (.istore_n 2, 1) := by decide +kernel
theorem dX2_unlikeEntries_4 : decode cX2_unlikeEntries 4 = .ok (.iload_n 2, 1) := by decide +kernel
theorem dX2_unlikeEntries_5 : decode cX2_unlikeEntries 5 = .ok (.aload_n 0, 1) := by decide +kernel
theorem dX2_unlikeEntries_6 : decode cX2_unlikeEntries 6 = .ok (.invokevirtual 48, 3) := by decide +kernel
theorem dX2_unlikeEntries_9 : decode cX2_unlikeEntries 9 = .ok (.if_icmp .ge 45, 3) := by decide +kernel
theorem dX2_unlikeEntries_12 : decode cX2_unlikeEntries 12 = .ok (.iconst 0, 1) := by decide +kernel
theorem dX2_unlikeEntries_13 : decode cX2_unlikeEntries 13 = .ok (.istore_n 3, 1) := by decide +kernel
theorem dX2_unlikeEntries_14 : decode cX2_unlikeEntries 14 = .ok (.iload_n 3, 1) := by decide +kernel
theorem dX2_unlikeEntries_15 : decode cX2_unlikeEntries 15 = .ok (.iload_n 2, 1) := by decide +kernel
theorem dX2_unlikeEntries_16 : decode cX2_unlikeEntries 16 = .ok (.if_icmp .ge 24, 3) := by decide +kernel
theorem dX2_unlikeEntries_19 : decode cX2_unlikeEntries 19 = .ok (.aload_n 0, 1) := by decide +kernel
theorem dX2_unlikeEntries_20 : decode cX2_unlikeEntries 20 = .ok (.getfield 9, 3) := by decide +kernel
theorem dX2_unlikeEntries_23 : decode cX2_unlikeEntries 23 = .ok (.iload_n 3, 1) := by decide +kernel
theorem dX2_unlikeEntries_24 : decode cX2_unlikeEntries 24 = .ok (.iaload, 1) := by decide +kernel
theorem dX2_unlikeEntries_25 : decode cX2_unlikeEntries 25 = .ok (.aload_n 0, 1) := by decide +kernel
theorem dX2_unlikeEntries_26 : decode cX2_unlikeEntries 26 = .ok (.getfield 9, 3) := by decide +kernel
theorem dX2_unlikeEntries_29 : decode cX2_unlikeEntries 29 = .ok (.iload_n 2, 1) := by decide +kernel
theorem dX2_unlikeEntries_30 : decode cX2_unlikeEntries 30 = .ok (.iaload, 1) := by decide +kernel
theorem dX2_unlikeEntries_31 : decode cX2_unlikeEntries 31 = .ok (.if_icmp .eq 9, 3) := by decide +kernel
theorem dX2_unlikeEntries_34 : decode cX2_unlikeEntries 34 = .ok (.iinc 3 1, 3) := by decide +kernel
theorem dX2_unlikeEntries_37 : decode cX2_unlikeEntries 37 = .ok (.goto (-23), 3) := by decide +kernel
theorem dX2_unlikeEntries_40 : decode cX2_unlikeEntries 40 = .ok (.iload_n 3, 1) := by decide +kernel
theorem dX2_unlikeEntries_41 : decode cX2_unlikeEntries 41 = .ok (.iload_n 2, 1) := by decide +kernel
theorem dX2_unlikeEntries_42 : decode cX2_unlikeEntries 42 = .ok (.if_icmp .ne 6, 3) := by decide +kernel
theorem dX2_unlikeEntries_45 : decode cX2_unlikeEntries 45 = .ok (.iinc 1 1, 3) := by decide +kernel
theorem dX2_unlikeEntries_48 : decode cX2_unlikeEntries 48 = .ok (.iinc 2 1, 3) := by decide +kernel
theorem dX2_unlikeEntries_51 : decode cX2_unlikeEntries 51 = .ok (.goto (-47), 3) := by decide +kernel
theorem dX2_unlikeEntries_54 : decode cX2_unlikeEntries 54 = .ok (.iload_n 1, 1) := by decide +kernel
theorem dX2_unlikeEntries_55 : decode cX2_unlikeEntries 55 = .ok (.ireturn, 1) := by decide +kernel
theorem dX2_unlikeIn_0 : decode cX2_unlikeIn 0 = .ok (.iconst 0, 1) := by decide +kernel
theorem dX2_unlikeIn_1 : decode cX2_unlikeIn 1 = .ok (.istore_n 2, 1) := by decide +kernel
theorem dX2_unlikeIn_2 : decode cX2_unlikeIn 2 = .ok (.iconst 0, 1) := by decide +kernel
theorem dX2_unlikeIn_3 : decode cX2_unlikeIn 3 = .ok (.istore_n 3, 1) := by decide +kernel
theorem dX2_unlikeIn_4 : decode cX2_unlikeIn 4 = .ok (.iload_n 3, 1) := by decide +kernel
theorem dX2_unlikeIn_5 : decode cX2_unlikeIn 5 = .ok (.aload_n 0, 1) := by decide +kernel
theorem dX2_unlikeIn_6 : decode cX2_unlikeIn 6 = .ok (.invokevirtual 48, 3) := by decide +kernel
theorem dX2_unlikeIn_9 : decode cX2_unlikeIn 9 = .ok (.if_icmp .ge 27, 3) := by decide +kernel
theorem dX2_unlikeIn_12 : decode cX2_unlikeIn 12 = .ok (.aload_n 0, 1) := by decide +kernel
theorem dX2_unlikeIn_13 : decode cX2_unlikeIn 13 = .ok (.getfield 9, 3) := by decide +kernel
theorem dX2_unlikeIn_16 : decode cX2_unlikeIn 16 = .ok (.iload_n 3, 1) := by decide +kernel
theorem dX2_unlikeIn_17 : decode cX2_unlikeIn 17 = .ok (.iaload, 1) := by decide +kernel
theorem dX2_unlikeIn_18 : decode cX2_unlikeIn 18 = .ok (.aload_n 1, 1) := by decide +kernel
theorem dX2_unlikeIn_19 : decode cX2_unlikeIn 19 = .ok (.getfield 9, 3) := by decide +kernel
theorem dX2_unlikeIn_22 : decode cX2_unlikeIn 22 = .ok (.iload_n 3, 1) := by decide +kernel
theorem dX2_unlikeIn_23 : decode cX2_unlikeIn 23 = .ok (.iaload, 1) := by decide +kernel
theorem dX2_unlikeIn_24 : decode cX2_unlikeIn 24 = .ok (.if_icmp .eq 6, 3) := by decide +kernel
theorem dX2_unlikeIn_27 : decode cX2_unlikeIn 27 = .ok (.iinc 2 1, 3) := by decide +kernel
theorem dX2_unlikeIn_30 : decode cX2_unlikeIn 30 = .ok (.iinc 3 1, 3) := by decide +kernel
theorem dX2_unlikeIn_33 : decode cX2_unlikeIn 33 = .ok (.goto (-29), 3) := by decide +kernel
theorem dX2_unlikeIn_36 : decode cX2_unlikeIn 36 = .ok (.iload_n 2, 1) := by decide +kernel
theorem dX2_unlikeIn_37 : decode cX2_unlikeIn 37 = .ok (.ireturn, 1) := by decide +kernel
theorem dX2_lines_0 : decode cX2_lines 0 = .ok (.iload_n 1, 1) := by decide +kernel
theorem dX2_lines_1 : decode cX2_lines 1 = .ok (.ifCond .eq 10, 3) := by decide +kernel
theorem dX2_lines_4 : decode cX2_lines 4 = .ok (.aload_n 0, 1) := by decide +kernel
theorem dX2_lines_5 : decode cX2_lines 5 = .ok (.getfield 15, 3) := by decide +kernel
theorem dX2_lines_8 : decode cX2_lines 8 = .ok (.goto 7, 3) := by decide +kernel
theorem dX2_lines_11 : decode cX2_lines 11 = .ok (.aload_n 0, 1) := by decide +kernel
theorem dX2_lines_12 : decode cX2_lines 12 = .ok (.getfield 19, 3) := by decide +kernel
theorem dX2_lines_15 : decode cX2_lines 15 = .ok (.ireturn, 1) := by decide +kernel
theorem dX2_hasLine_0 : decode cX2_hasLine 0 = .ok (.iload_n 2, 1) := by decide +kernel
theorem dX2_hasLine_1 : decode cX2_hasLine 1 = .ok (.ifCond .lt 16, 3) := by decide +kernel
theorem dX2_hasLine_4 : decode cX2_hasLine 4 = .ok (.iload_n 2, 1) := by decide +kernel
theorem dX2_hasLine_5 : decode cX2_hasLine 5 = .ok (.aload_n 0, 1) := by decide +kernel
theorem dX2_hasLine_6 : decode cX2_hasLine 6 = .ok (.iload_n 1, 1) := by decide +kernel
theorem dX2_hasLine_7 : decode cX2_hasLine 7 = .ok (.invokevirtual 55, 3) := by decide +kernel
theorem dX2_hasLine_10 : decode cX2_hasLine 10 = .ok (.if_icmp .ge 7, 3) := by decide +kernel
theorem dX2_hasLine_13 : decode cX2_hasLine 13 = .ok (.iconst 1, 1) := by decide +kernel
theorem dX2_hasLine_14 : decode cX2_hasLine 14 = .ok (.goto 4, 3) := by decide +kernel
theorem dX2_hasLine_17 : decode cX2_hasLine 17 = .ok (.iconst 0, 1) := by decide +kernel
theorem dX2_hasLine_18 : decode cX2_hasLine 18 = .ok (.ireturn, 1) := by decide +kernel
theorem dX2_placeInLine_0 : decode cX2_placeInLine 0 = .ok (.iload_n 1, 1) := by decide +kernel
theorem dX2_placeInLine_1 : decode cX2_placeInLine 1 = .ok (.ifCond .eq 12, 3) := by decide +kernel
theorem dX2_placeInLine_4 : decode cX2_placeInLine 4 = .ok (.aload_n 0, 1) := by decide +kernel
theorem dX2_placeInLine_5 : decode cX2_placeInLine 5 = .ok (.iload_n 2, 1) := by decide +kernel
theorem dX2_placeInLine_6 : decode cX2_placeInLine 6 = .ok (.iload_n 3, 1) := by decide +kernel
theorem dX2_placeInLine_7 : decode cX2_placeInLine 7 = .ok (.invokevirtual 22, 3) := by decide +kernel
theorem dX2_placeInLine_10 : decode cX2_placeInLine 10 = .ok (.goto 9, 3) := by decide +kernel
theorem dX2_placeInLine_13 : decode cX2_placeInLine 13 = .ok (.aload_n 0, 1) := by decide +kernel
theorem dX2_placeInLine_14 : decode cX2_placeInLine 14 = .ok (.iload_n 3, 1) := by decide +kernel
theorem dX2_placeInLine_15 : decode cX2_placeInLine 15 = .ok (.iload_n 2, 1) := by decide +kernel
theorem dX2_placeInLine_16 : decode cX2_placeInLine 16 = .ok (.invokevirtual 22, 3) := by decide +kernel
theorem dX2_placeInLine_19 : decode cX2_placeInLine 19 = .ok (.ireturn, 1) := by decide +kernel
theorem dX2_canAdd_0 : decode cX2_canAdd 0 = .ok (.iconst 0, 1) := by decide +kernel
theorem dX2_canAdd_1 : decode cX2_canAdd 1 = .ok (.istore 4, 2) := by decide +kernel
theorem dX2_canAdd_3 : decode cX2_canAdd 3 = .ok (.iload 4, 2) := by decide +kernel
theorem dX2_canAdd_5 : decode cX2_canAdd 5 = .ok (.aload_n 0, 1) := by decide +kernel
theorem dX2_canAdd_6 : decode cX2_canAdd 6 = .ok (.iload_n 1, 1) := by decide +kernel
theorem dX2_canAdd_7 : decode cX2_canAdd 7 = .ok (.ifCond .ne 7, 3) := by decide +kernel
theorem dX2_canAdd_10 : decode cX2_canAdd 10 = .ok (.iconst 1, 1) := by decide +kernel
theorem dX2_canAdd_11 : decode cX2_canAdd 11 = .ok (.goto 4, 3) := by decide +kernel
theorem dX2_canAdd_14 : decode cX2_canAdd 14 = .ok (.iconst 0, 1) := by decide +kernel
theorem dX2_canAdd_15 : decode cX2_canAdd 15 = .ok (.invokevirtual 55, 3) := by decide +kernel
theorem dX2_canAdd_18 : decode cX2_canAdd 18 = .ok (.if_icmp .ge 32, 3) := by decide +kernel
theorem dX2_canAdd_21 : decode cX2_canAdd 21 = .ok (.aload_n 0, 1) := by decide +kernel
theorem dX2_canAdd_22 : decode cX2_canAdd 22 = .ok (.getfield 9, 3) := by decide +kernel
theorem dX2_canAdd_25 : decode cX2_canAdd 25 = .ok (.aload_n 0, 1) := by decide +kernel
theorem dX2_canAdd_26 : decode cX2_canAdd 26 = .ok (.iload_n 1, 1) := by decide +kernel
theorem dX2_canAdd_27 : decode cX2_canAdd 27 = .ok (.iload_n 2, 1) := by decide +kernel
theorem dX2_canAdd_28 : decode cX2_canAdd 28 = .ok (.iload 4, 2) := by decide +kernel
theorem dX2_canAdd_30 : decode cX2_canAdd 30 = .ok (.invokevirtual 59, 3) := by decide +kernel
theorem dX2_canAdd_33 : decode cX2_canAdd 33 = .ok (.iaload, 1) := by decide +kernel
theorem dX2_canAdd_34 : decode cX2_canAdd 34 = .ok (.iload_n 3, 1) := by decide +kernel
theorem dX2_canAdd_35 : decode cX2_canAdd 35 = .ok (.iadd, 1) := by decide +kernel
theorem dX2_canAdd_36 : decode cX2_canAdd 36 = .ok (.invokestatic 63, 3) := by decide +kernel
theorem dX2_canAdd_39 : decode cX2_canAdd 39 = .ok (.ifCond .ne 5, 3) := by decide +kernel
theorem dX2_canAdd_42 : decode cX2_canAdd 42 = .ok (.iconst 0, 1) := by decide +kernel
theorem dX2_canAdd_43 : decode cX2_canAdd 43 = .ok (.ireturn, 1) := by decide +kernel
theorem dX2_canAdd_44 : decode cX2_canAdd 44 = .ok (.iinc 4 1, 3) := by decide +kernel
theorem dX2_canAdd_47 : decode cX2_canAdd 47 = .ok (.goto (-44), 3) := by decide +kernel
theorem dX2_canAdd_50 : decode cX2_canAdd 50 = .ok (.iconst 1, 1) := by decide +kernel
theorem dX2_canAdd_51 : decode cX2_canAdd 51 = .ok (.ireturn, 1) := by decide +kernel
theorem dX2_add_0 : decode cX2_add 0 = .ok (.iconst 0, 1) := by decide +kernel
theorem dX2_add_1 : decode cX2_add 1 = .ok (.istore 4, 2) := by decide +kernel
theorem dX2_add_3 : decode cX2_add 3 = .ok (.iload 4, 2) := by decide +kernel
theorem dX2_add_5 : decode cX2_add 5 = .ok (.aload_n 0, 1) := by decide +kernel
theorem dX2_add_6 : decode cX2_add 6 = .ok (.iload_n 1, 1) := by decide +kernel
theorem dX2_add_7 : decode cX2_add 7 = .ok (.ifCond .ne 7, 3) := by decide +kernel
theorem dX2_add_10 : decode cX2_add 10 = .ok (.iconst 1, 1) := by decide +kernel
theorem dX2_add_11 : decode cX2_add 11 = .ok (.goto 4, 3) := by decide +kernel
theorem dX2_add_14 : decode cX2_add 14 = .ok (.iconst 0, 1) := by decide +kernel
theorem dX2_add_15 : decode cX2_add 15 = .ok (.invokevirtual 55, 3) := by decide +kernel
theorem dX2_add_18 : decode cX2_add 18 = .ok (.if_icmp .ge 26, 3) := by decide +kernel
theorem dX2_add_21 : decode cX2_add 21 = .ok (.aload_n 0, 1) := by decide +kernel
theorem dX2_add_22 : decode cX2_add 22 = .ok (.getfield 9, 3) := by decide +kernel
theorem dX2_add_25 : decode cX2_add 25 = .ok (.aload_n 0, 1) := by decide +kernel
theorem dX2_add_26 : decode cX2_add 26 = .ok (.iload_n 1, 1) := by decide +kernel
theorem dX2_add_27 : decode cX2_add 27 = .ok (.iload_n 2, 1) := by decide +kernel
theorem dX2_add_28 : decode cX2_add 28 = .ok (.iload 4, 2) := by decide +kernel
theorem dX2_add_30 : decode cX2_add 30 = .ok (.invokevirtual 59, 3) := by decide +kernel
theorem dX2_add_33 : decode cX2_add 33 = .ok (.dup2, 1) := by decide +kernel
theorem dX2_add_34 : decode cX2_add 34 = .ok (.iaload, 1) := by decide +kernel
theorem dX2_add_35 : decode cX2_add 35 = .ok (.iload_n 3, 1) := by decide +kernel
theorem dX2_add_36 : decode cX2_add 36 = .ok (.iadd, 1) := by decide +kernel
theorem dX2_add_37 : decode cX2_add 37 = .ok (.iastore, 1) := by decide +kernel
theorem dX2_add_38 : decode cX2_add 38 = .ok (.iinc 4 1, 3) := by decide +kernel
theorem dX2_add_41 : decode cX2_add 41 = .ok (.goto (-38), 3) := by decide +kernel
theorem dX2_add_44 : decode cX2_add 44 = .ok (.return_, 1) := by decide +kernel
theorem dX2_swapLines_0 : decode cX2_swapLines 0 = .ok (.iconst 0, 1) := by decide +kernel
theorem dX2_swapLines_1 : decode cX2_swapLines 1 = .ok (.istore 4, 2) := by decide +kernel
theorem dX2_swapLines_3 : decode cX2_swapLines 3 = .ok (.iconst 0, 1) := by decide +kernel
theorem dX2_swapLines_4 : decode cX2_swapLines 4 = .ok (.istore 5, 2) := by decide +kernel
theorem dX2_swapLines_6 : decode cX2_swapLines 6 = .ok (.iload 5, 2) := by decide +kernel
theorem dX2_swapLines_8 : decode cX2_swapLines 8 = .ok (.aload_n 0, 1) := by decide +kernel
theorem dX2_swapLines_9 : decode cX2_swapLines 9 = .ok (.iload_n 1, 1) := by decide +kernel
theorem dX2_swapLines_10 : decode cX2_swapLines 10 = .ok (.ifCond .ne 7, 3) := by decide +kernel
theorem dX2_swapLines_13 : decode cX2_swapLines 13 = .ok (.iconst 1, 1) := by decide +kernel
theorem dX2_swapLines_14 : decode cX2_swapLines 14 = .ok (.goto 4, 3) := by decide +kernel
theorem dX2_swapLines_17 : decode cX2_swapLines 17 = .ok (.iconst 0, 1) := by decide +kernel
theorem dX2_swapLines_18 : decode cX2_swapLines 18 = .ok (.invokevirtual 55, 3) := by decide +kernel
theorem dX2_swapLines_21 : decode cX2_swapLines 21 = .ok (.if_icmp .ge 85, 3) := by decide +kernel
theorem dX2_swapLines_24 : decode cX2_swapLines 24 = .ok (.aload_n 0, 1) := by decide +kernel
theorem dX2_swapLines_25 : decode cX2_swapLines 25 = .ok (.iload_n 1, 1) := by decide +kernel
theorem dX2_swapLines_26 : decode cX2_swapLines 26 = .ok (.iload_n 2, 1) := by decide +kernel
theorem dX2_swapLines_27 : decode cX2_swapLines 27 = .ok (.iload 5, 2) := by decide +kernel
theorem dX2_swapLines_29 : decode cX2_swapLines 29 = .ok (.invokevirtual 59, 3) := by decide +kernel
theorem dX2_swapLines_32 : decode cX2_swapLines 32 = .ok (.istore 6, 2) := by decide +kernel
theorem dX2_swapLines_34 : decode cX2_swapLines 34 = .ok (.aload_n 0, 1) := by decide +kernel
theorem dX2_swapLines_35 : decode cX2_swapLines 35 = .ok (.iload_n 1, 1) := by decide +kernel
theorem dX2_swapLines_36 : decode cX2_swapLines 36 = .ok (.iload_n 3, 1) := by decide +kernel
theorem dX2_swapLines_37 : decode cX2_swapLines 37 = .ok (.iload 5, 2) := by decide +kernel
theorem dX2_swapLines_39 : decode cX2_swapLines 39 = .ok (.invokevirtual 59, 3) := by decide +kernel
theorem dX2_swapLines_42 : decode cX2_swapLines 42 = .ok (.istore 7, 2) := by decide +kernel
theorem dX2_swapLines_44 : decode cX2_swapLines 44 = .ok (.aload_n 0, 1) := by decide +kernel
theorem dX2_swapLines_45 : decode cX2_swapLines 45 = .ok (.getfield 9, 3) := by decide +kernel
theorem dX2_swapLines_48 : decode cX2_swapLines 48 = .ok (.iload 6, 2) := by decide +kernel
theorem dX2_swapLines_50 : decode cX2_swapLines 50 = .ok (.iaload, 1) := by decide +kernel
theorem dX2_swapLines_51 : decode cX2_swapLines 51 = .ok (.istore 8, 2) := by decide +kernel
theorem dX2_swapLines_53 : decode cX2_swapLines 53 = .ok (.iload 4, 2) := by decide +kernel
theorem dX2_swapLines_55 : decode cX2_swapLines 55 = .ok (.ifCond .ne 15, 3) := by decide +kernel
theorem dX2_swapLines_58 : decode cX2_swapLines 58 = .ok (.iload 8, 2) := by decide +kernel
theorem dX2_swapLines_60 : decode cX2_swapLines 60 = .ok (.aload_n 0, 1) := by decide +kernel
theorem dX2_swapLines_61 : decode cX2_swapLines 61 = .ok (.getfield 9, 3) := by decide +kernel
theorem dX2_swapLines_64 : decode cX2_swapLines 64 = .ok (.iload 7, 2) := by decide +kernel
theorem dX2_swapLines_66 : decode cX2_swapLines 66 = .ok (.iaload, 1) := by decide +kernel
theorem dX2_swapLines_67 : decode cX2_swapLines 67 = .ok (.if_icmp .eq 7, 3) := by decide +kernel
theorem dX2_swapLines_70 : decode cX2_swapLines 70 = .ok (.iconst 1, 1) := by decide +kernel
theorem dX2_swapLines_71 : decode cX2_swapLines 71 = .ok (.goto 4, 3) := by decide +kernel
theorem dX2_swapLines_74 : decode cX2_swapLines 74 = .ok (.iconst 0, 1) := by decide +kernel
theorem dX2_swapLines_75 : decode cX2_swapLines 75 = .ok (.istore 4, 2) := by decide +kernel
theorem dX2_swapLines_77 : decode cX2_swapLines 77 = .ok (.aload_n 0, 1) := by decide +kernel
theorem dX2_swapLines_78 : decode cX2_swapLines 78 = .ok (.getfield 9, 3) := by decide +kernel
theorem dX2_swapLines_81 : decode cX2_swapLines 81 = .ok (.iload 6, 2) := by decide +kernel
theorem dX2_swapLines_83 : decode cX2_swapLines 83 = .ok (.aload_n 0, 1) := by decide +kernel
theorem dX2_swapLines_84 : decode cX2_swapLines 84 = .ok (.getfield 9, 3) := by decide +kernel
theorem dX2_swapLines_87 : decode cX2_swapLines 87 = .ok (.iload 7, 2) := by decide +kernel
theorem dX2_swapLines_89 : decode cX2_swapLines 89 = .ok (.iaload, 1) := by decide +kernel
theorem dX2_swapLines_90 : decode cX2_swapLines 90 = .ok (.iastore, 1) := by decide +kernel
theorem dX2_swapLines_91 : decode cX2_swapLines 91 = .ok (.aload_n 0, 1) := by decide +kernel
theorem dX2_swapLines_92 : decode cX2_swapLines 92 = .ok (.getfield 9, 3) := by decide +kernel
theorem dX2_swapLines_95 : decode cX2_swapLines 95 = .ok (.iload 7, 2) := by decide +kernel
theorem dX2_swapLines_97 : decode cX2_swapLines 97 = .ok (.iload 8, 2) := by decide +kernel
theorem dX2_swapLines_99 : decode cX2_swapLines 99 = .ok (.iastore, 1) := by decide +kernel
theorem dX2_swapLines_100 : decode cX2_swapLines 100 = .ok (.iinc 5 1, 3) := by decide +kernel
theorem dX2_swapLines_103 : decode cX2_swapLines 103 = .ok (.goto (-97), 3) := by decide +kernel
theorem dX2_swapLines_106 : decode cX2_swapLines 106 = .ok (.iload 4, 2) := by decide +kernel
theorem dX2_swapLines_108 : decode cX2_swapLines 108 = .ok (.ireturn, 1) := by decide +kernel
theorem dX2_removeLine_0 : decode cX2_removeLine 0 = .ok (.iconst 0, 1) := by decide +kernel
theorem dX2_removeLine_1 : decode cX2_removeLine 1 = .ok (.istore_n 3, 1) := by decide +kernel
theorem dX2_removeLine_2 : decode cX2_removeLine 2 = .ok (.iconst 0, 1) := by decide +kernel
theorem dX2_removeLine_3 : decode cX2_removeLine 3 = .ok (.istore 4, 2) := by decide +kernel
theorem dX2_removeLine_5 : decode cX2_removeLine 5 = .ok (.iload 4, 2) := by decide +kernel
theorem dX2_removeLine_7 : decode cX2_removeLine 7 = .ok (.aload_n 0, 1) := by decide +kernel
theorem dX2_removeLine_8 : decode cX2_removeLine 8 = .ok (.getfield 15, 3) := by decide +kernel
theorem dX2_removeLine_11 : decode cX2_removeLine 11 = .ok (.if_icmp .ge 59, 3) := by decide +kernel
theorem dX2_removeLine_14 : decode cX2_removeLine 14 = .ok (.iconst 0, 1) := by decide +kernel
theorem dX2_removeLine_15 : decode cX2_removeLine 15 = .ok (.istore 5, 2) := by decide +kernel
theorem dX2_removeLine_17 : decode cX2_removeLine 17 = .ok (.iload 5, 2) := by decide +kernel
theorem dX2_removeLine_19 : decode cX2_removeLine 19 = .ok (.aload_n 0, 1) := by decide +kernel
theorem dX2_removeLine_20 : decode cX2_removeLine 20 = .ok (.getfield 19, 3) := by decide +kernel
theorem dX2_removeLine_23 : decode cX2_removeLine 23 = .ok (.if_icmp .ge 41, 3) := by decide +kernel
theorem dX2_removeLine_26 : decode cX2_removeLine 26 = .ok (.iload_n 1, 1) := by decide +kernel
theorem dX2_removeLine_27 : decode cX2_removeLine 27 = .ok (.ifCond .eq 8, 3) := by decide +kernel
theorem dX2_removeLine_30 : decode cX2_removeLine 30 = .ok (.iload 4, 2) := by decide +kernel
theorem dX2_removeLine_32 : decode cX2_removeLine 32 = .ok (.goto 5, 3) := by decide +kernel
theorem dX2_removeLine_35 : decode cX2_removeLine 35 = .ok (.iload 5, 2) := by decide +kernel
theorem dX2_removeLine_37 : decode cX2_removeLine 37 = .ok (.iload_n 2, 1) := by decide +kernel
theorem dX2_removeLine_38 : decode cX2_removeLine 38 = .ok (.if_icmp .eq 20, 3) := by decide +kernel
theorem dX2_removeLine_41 : decode cX2_removeLine 41 = .ok (.aload_n 0, 1) := by decide +kernel
theorem dX2_removeLine_42 : decode cX2_removeLine 42 = .ok (.getfield 9, 3) := by decide +kernel
theorem dX2_removeLine_45 : decode cX2_removeLine 45 = .ok (.iload_n 3, 1) := by decide +kernel
theorem dX2_removeLine_46 : decode cX2_removeLine 46 = .ok (.aload_n 0, 1) := by decide +kernel
theorem dX2_removeLine_47 : decode cX2_removeLine 47 = .ok (.iload 4, 2) := by decide +kernel
theorem dX2_removeLine_49 : decode cX2_removeLine 49 = .ok (.iload 5, 2) := by decide +kernel
theorem dX2_removeLine_51 : decode cX2_removeLine 51 = .ok (.invokevirtual 36, 3) := by decide +kernel
theorem dX2_removeLine_54 : decode cX2_removeLine 54 = .ok (.iastore, 1) := by decide +kernel
theorem dX2_removeLine_55 : decode cX2_removeLine 55 = .ok (.iinc 3 1, 3) := by decide +kernel
theorem dX2_removeLine_58 : decode cX2_removeLine 58 = .ok (.iinc 5 1, 3) := by decide +kernel
theorem dX2_removeLine_61 : decode cX2_removeLine 61 = .ok (.goto (-44), 3) := by decide +kernel
theorem dX2_removeLine_64 : decode cX2_removeLine 64 = .ok (.iinc 4 1, 3) := by decide +kernel
theorem dX2_removeLine_67 : decode cX2_removeLine 67 = .ok (.goto (-62), 3) := by decide +kernel
theorem dX2_removeLine_70 : decode cX2_removeLine 70 = .ok (.aload_n 0, 1) := by decide +kernel
theorem dX2_removeLine_71 : decode cX2_removeLine 71 = .ok (.iload_n 1, 1) := by decide +kernel
theorem dX2_removeLine_72 : decode cX2_removeLine 72 = .ok (.ifCond .eq 12, 3) := by decide +kernel
theorem dX2_removeLine_75 : decode cX2_removeLine 75 = .ok (.aload_n 0, 1) := by decide +kernel
theorem dX2_removeLine_76 : decode cX2_removeLine 76 = .ok (.getfield 15, 3) := by decide +kernel
theorem dX2_removeLine_79 : decode cX2_removeLine 79 = .ok (.iconst 1, 1) := by decide +kernel
theorem dX2_removeLine_80 : decode cX2_removeLine 80 = .ok (.isub, 1) := by decide +kernel
theorem dX2_removeLine_81 : decode cX2_removeLine 81 = .ok (.goto 7, 3) := by decide +kernel
theorem dX2_removeLine_84 : decode cX2_removeLine 84 = .ok (.aload_n 0, 1) := by decide +kernel
theorem dX2_removeLine_85 : decode cX2_removeLine 85 = .ok (.getfield 15, 3) := by decide +kernel
theorem dX2_removeLine_88 : decode cX2_removeLine 88 = .ok (.iload_n 1, 1) := by decide +kernel
theorem dX2_removeLine_89 : decode cX2_removeLine 89 = .ok (.ifCond .eq 10, 3) := by decide +kernel
theorem dX2_removeLine_92 : decode cX2_removeLine 92 = .ok (.aload_n 0, 1) := by decide +kernel
theorem dX2_removeLine_93 : decode cX2_removeLine 93 = .ok (.getfield 19, 3) := by decide +kernel
theorem dX2_removeLine_96 : decode cX2_removeLine 96 = .ok (.goto 9, 3) := by decide +kernel
theorem dX2_removeLine_99 : decode cX2_removeLine 99 = .ok (.aload_n 0, 1) := by decide +kernel
theorem dX2_removeLine_100 : decode cX2_removeLine 100 = .ok (.getfield 19, 3) := by decide +kernel
theorem dX2_removeLine_103 : decode cX2_removeLine 103 = .ok (.iconst 1, 1) := by decide +kernel
theorem dX2_removeLine_104 : decode cX2_removeLine 104 = .ok (.isub, 1) := by decide +kernel
theorem dX2_removeLine_105 : decode cX2_removeLine 105 = .ok (.invokevirtual 26, 3) := by decide +kernel
theorem dX2_removeLine_108 : decode cX2_removeLine 108 = .ok (.return_, 1) := by decide +kernel
theorem dX3_init_0 : decode cX3_init 0 = .ok (.aload_n 0, 1) := by decide +kernel
theorem dX3_init_1 : decode cX3_init 1 = .ok (.invokespecial 1, 3) := by decide +kernel
theorem dX3_init_4 : decode cX3_init 4 = .ok (.aload_n 0, 1) := by decide +kernel
theorem dX3_init_5 : decode cX3_init 5 = .ok (.bipush 6, 2) := by decide +kernel
theorem dX3_init_7 : decode cX3_init 7 = .ok (.anewarray 9, 3) := by decide +kernel
theorem dX3_init_10 : decode cX3_init 10 = .ok (.putfield 11, 3) := by decide +kernel
theorem dX3_init_13 : decode cX3_init 13 = .ok (.aload_n 0, 1) := by decide +kernel
theorem dX3_init_14 : decode cX3_init 14 = .ok (.iconst 0, 1) := by decide +kernel
theorem dX3_init_15 : decode cX3_init 15 = .ok (.putfield 15, 3) := by decide +kernel
theorem dX3_init_18 : decode cX3_init 18 = .ok (.aload_n 0, 1) := by decide +kernel
theorem dX3_init_19 : decode cX3_init 19 = .ok (.iconst 0, 1) := by decide +kernel
theorem dX3_init_20 : decode cX3_init 20 = .ok (.putfield 19, 3) := by decide +kernel
theorem dX3_init_23 : decode cX3_init 23 = .ok (.iconst 0, 1) := by decide +kernel
theorem dX3_init_24 : decode cX3_init 24 = .ok (.istore_n 1, 1) := by decide +kernel
theorem dX3_init_25 : decode cX3_init 25 = .ok (.iload_n 1, 1) := by decide +kernel
theorem dX3_init_26 : decode cX3_init 26 = .ok (.bipush 6, 2) := by decide +kernel
theorem dX3_init_28 : decode cX3_init 28 = .ok (.if_icmp .ge 22, 3) := by decide +kernel
theorem dX3_init_31 : decode cX3_init 31 = .ok (.aload_n 0, 1) := by decide +kernel
theorem dX3_init_32 : decode cX3_init 32 = .ok (.getfield 11, 3) := by decide +kernel
theorem dX3_init_35 : decode cX3_init 35 = .ok (.iload_n 1, 1) := by decide +kernel
theorem dX3_init_36 : decode cX3_init 36 = .ok (.new 9, 3) := by decide +kernel
theorem dX3_init_39 : decode cX3_init 39 = .ok (.dup, 1) := by decide +kernel
theorem dX3_init_40 : decode cX3_init 40 = .ok (.invokespecial 22, 3) := by decide +kernel
theorem dX3_init_43 : decode cX3_init 43 = .ok (.aastore, 1) := by decide +kernel
theorem dX3_init_44 : decode cX3_init 44 = .ok (.iinc 1 1, 3) := by decide +kernel
theorem dX3_init_47 : decode cX3_init 47 = .ok (.goto (-22), 3) := by decide +kernel
theorem dX3_init_50 : decode cX3_init 50 = .ok (.return_, 1) := by decide +kernel
theorem dX3_remember_0 : decode cX3_remember 0 = .ok (.aload_n 0, 1) := by decide +kernel
theorem dX3_remember_1 : decode cX3_remember 1 = .ok (.getfield 11, 3) := by decide +kernel
theorem dX3_remember_4 : decode cX3_remember 4 = .ok (.aload_n 0, 1) := by decide +kernel
theorem dX3_remember_5 : decode cX3_remember 5 = .ok (.getfield 15, 3) := by decide +kernel
theorem dX3_remember_8 : decode cX3_remember 8 = .ok (.aaload, 1) := by decide +kernel
theorem dX3_remember_9 : decode cX3_remember 9 = .ok (.aload_n 1, 1) := by decide +kernel
theorem dX3_remember_10 : decode cX3_remember 10 = .ok (.invokevirtual 23, 3) := by decide +kernel
theorem dX3_remember_13 : decode cX3_remember 13 = .ok (.aload_n 0, 1) := by decide +kernel
theorem dX3_remember_14 : decode cX3_remember 14 = .ok (.aload_n 0, 1) := by decide +kernel
theorem dX3_remember_15 : decode cX3_remember 15 = .ok (.getfield 15, 3) := by decide +kernel
theorem dX3_remember_18 : decode cX3_remember 18 = .ok (.iconst 1, 1) := by decide +kernel
theorem dX3_remember_19 : decode cX3_remember 19 = .ok (.iadd, 1) := by decide +kernel
theorem dX3_remember_20 : decode cX3_remember 20 = .ok (.bipush 6, 2) := by decide +kernel
theorem dX3_remember_22 : decode cX3_remember 22 = .ok (.irem, 1) := by decide +kernel
theorem dX3_remember_23 : decode cX3_remember 23 = .ok (.putfield 15, 3) := by decide +kernel
theorem dX3_remember_26 : decode cX3_remember 26 = .ok (.aload_n 0, 1) := by decide +kernel
theorem dX3_remember_27 : decode cX3_remember 27 = .ok (.aload_n 0, 1) := by decide +kernel
theorem dX3_remember_28 : decode cX3_remember 28 = .ok (.getfield 19, 3) := by decide +kernel
theorem dX3_remember_31 : decode cX3_remember 31 = .ok (.iconst 1, 1) := by decide +kernel
theorem dX3_remember_32 : decode cX3_remember 32 = .ok (.iadd, 1) := by decide +kernel
theorem dX3_remember_33 : decode cX3_remember 33 = .ok (.bipush 6, 2) := by decide +kernel
theorem dX3_remember_35 : decode cX3_remember 35 = .ok (.invokestatic 27, 3) := by decide +kernel
theorem dX3_remember_38 : decode cX3_remember 38 = .ok (.putfield 19, 3) := by decide +kernel
theorem dX3_remember_41 : decode cX3_remember 41 = .ok (.return_, 1) := by decide +kernel
theorem dX3_takeBack_0 : decode cX3_takeBack 0 = .ok (.aload_n 0, 1) := by decide +kernel
theorem dX3_takeBack_1 : decode cX3_takeBack 1 = .ok (.getfield 19, 3) := by decide +kernel
theorem dX3_takeBack_4 : decode cX3_takeBack 4 = .ok (.ifCond .le 42, 3) := by decide +kernel
theorem dX3_takeBack_7 : decode cX3_takeBack 7 = .ok (.aload_n 0, 1) := by decide +kernel
theorem dX3_takeBack_8 : decode cX3_takeBack 8 = .ok (.aload_n 0, 1) := by decide +kernel
theorem dX3_takeBack_9 : decode cX3_takeBack 9 = .ok (.getfield 15, 3) := by decide +kernel
theorem dX3_takeBack_12 : decode cX3_takeBack 12 = .ok (.bipush 6, 2) := by decide +kernel
theorem dX3_takeBack_14 : decode cX3_takeBack 14 = .ok (.iadd, 1) := by decide +kernel
theorem dX3_takeBack_15 : decode cX3_takeBack 15 = .ok (.iconst 1, 1) := by decide +kernel
theorem dX3_takeBack_16 : decode cX3_takeBack 16 = .ok (.isub, 1) := by decide +kernel
theorem dX3_takeBack_17 : decode cX3_takeBack 17 = .ok (.bipush 6, 2) := by decide +kernel
theorem dX3_takeBack_19 : decode cX3_takeBack 19 = .ok (.irem, 1) := by decide +kernel
theorem dX3_takeBack_20 : decode cX3_takeBack 20 = .ok (.putfield 15, 3) := by decide +kernel
theorem dX3_takeBack_23 : decode cX3_takeBack 23 = .ok (.aload_n 0, 1) := by decide +kernel
theorem dX3_takeBack_24 : decode cX3_takeBack 24 = .ok (.dup, 1) := by decide +kernel
theorem dX3_takeBack_25 : decode cX3_takeBack 25 = .ok (.getfield 19, 3) := by decide +kernel
theorem dX3_takeBack_28 : decode cX3_takeBack 28 = .ok (.iconst 1, 1) := by decide +kernel
theorem dX3_takeBack_29 : decode cX3_takeBack 29 = .ok (.isub, 1) := by decide +kernel
theorem dX3_takeBack_30 : decode cX3_takeBack 30 = .ok (.putfield 19, 3) := by decide +kernel
theorem dX3_takeBack_33 : decode cX3_takeBack 33 = .ok (.aload_n 1, 1) := by decide +kernel
theorem dX3_takeBack_34 : decode cX3_takeBack 34 = .ok (.aload_n 0, 1) := by decide +kernel
theorem dX3_takeBack_35 : decode cX3_takeBack 35 = .ok (.getfield 11, 3) := by decide +kernel
theorem dX3_takeBack_38 : decode cX3_takeBack 38 = .ok (.aload_n 0, 1) := by decide +kernel
theorem dX3_takeBack_39 : decode cX3_takeBack 39 = .ok (.getfield 15, 3) := by decide +kernel
theorem dX3_takeBack_42 : decode cX3_takeBack 42 = .ok (.aaload, 1) := by decide +kernel
theorem dX3_takeBack_43 : decode cX3_takeBack 43 = .ok (.invokevirtual 23, 3) := by decide +kernel
theorem dX3_takeBack_46 : decode cX3_takeBack 46 = .ok (.return_, 1) := by decide +kernel
theorem dX4_init_0 : decode cX4_init 0 = .ok (.aload_n 0, 1) := by decide +kernel
theorem dX4_init_1 : decode cX4_init 1 = .ok (.invokespecial 3, 3) := by decide +kernel
theorem dX4_init_4 : decode cX4_init 4 = .ok (.aload_n 0, 1) := by decide +kernel
theorem dX4_init_5 : decode cX4_init 5 = .ok (.bipush 80, 2) := by decide +kernel
theorem dX4_init_7 : decode cX4_init 7 = .ok (.newarray .char, 2) := by decide +kernel
theorem dX4_init_9 : decode cX4_init 9 = .ok (.putfield 11, 3) := by decide +kernel
theorem dX4_init_12 : decode cX4_init 12 = .ok (.aload_n 0, 1) := by decide +kernel
theorem dX4_init_13 : decode cX4_init 13 = .ok (.iconst 0, 1) := by decide +kernel
theorem dX4_init_14 : decode cX4_init 14 = .ok (.putfield 15, 3) := by decide +kernel
theorem dX4_init_17 : decode cX4_init 17 = .ok (.return_, 1) := by decide +kernel
theorem dX4_charactersIn_0 : decode cX4_charactersIn 0 = .ok (.iconst 0, 1) := by decide +kernel
theorem dX4_charactersIn_1 : decode cX4_charactersIn 1 = .ok (.istore_n 2, 1) := by decide +kernel
theorem dX4_charactersIn_2 : decode cX4_charactersIn 2 = .ok (.lload_n 0, 1) := by decide +kernel
theorem dX4_charactersIn_3 : decode cX4_charactersIn 3 = .ok (.lstore_n 3, 1) := by decide +kernel
theorem dX4_charactersIn_4 : decode cX4_charactersIn 4 = .ok (.lload_n 3, 1) := by decide +kernel
theorem dX4_charactersIn_5 : decode cX4_charactersIn 5 = .ok (.lconst 0, 1) := by decide +kernel
theorem dX4_charactersIn_6 : decode cX4_charactersIn 6 = .ok (.lcmp, 1) := by decide +kernel
theorem dX4_charactersIn_7 : decode cX4_charactersIn 7 = .ok (.ifCond .eq 44, 3) := by decide +kernel
theorem dX4_charactersIn_10 : decode cX4_charactersIn 10 = .ok (.iload_n 2, 1) := by decide +kernel
theorem dX4_charactersIn_11 : decode cX4_charactersIn 11 = .ok (.bipush 8, 2) := by decide +kernel
theorem dX4_charactersIn_13 : decode cX4_charactersIn 13 = .ok (.if_icmp .ge 38, 3) := by decide +kernel
theorem dX4_charactersIn_16 : decode cX4_charactersIn 16 = .ok (.lload_n 3, 1) := by decide +kernel
theorem dX4_charactersIn_17 : decode cX4_charactersIn 17 = .ok (.ldc2_w 19, 3) := by decide +kernel
theorem dX4_charactersIn_20 : decode cX4_charactersIn 20 = .ok (.land, 1) := by decide +kernel
theorem dX4_charactersIn_21 : decode cX4_charactersIn 21 = .ok (.l2i, 1) := by decide +kernel
theorem dX4_charactersIn_22 : decode cX4_charactersIn 22 = .ok (.istore 5, 2) := by decide +kernel
theorem dX4_charactersIn_24 : decode cX4_charactersIn 24 = .ok (.iload 5, 2) := by decide +kernel
theorem dX4_charactersIn_26 : decode cX4_charactersIn 26 = .ok (.bipush 33, 2) := by decide +kernel
theorem dX4_charactersIn_28 : decode cX4_charactersIn 28 = .ok (.if_icmp .lt 10, 3) := by decide +kernel
theorem dX4_charactersIn_31 : decode cX4_charactersIn 31 = .ok (.iload 5, 2) := by decide +kernel
theorem dX4_charactersIn_33 : decode cX4_charactersIn 33 = .ok (.bipush 126, 2) := by decide +kernel
theorem dX4_charactersIn_35 : decode cX4_charactersIn 35 = .ok (.if_icmp .le 5, 3) := by decide +kernel
theorem dX4_charactersIn_38 : decode cX4_charactersIn 38 = .ok (.iconst 0, 1) := by decide +kernel
theorem dX4_charactersIn_39 : decode cX4_charactersIn 39 = .ok (.ireturn, 1) := by decide +kernel
theorem dX4_charactersIn_40 : decode cX4_charactersIn 40 = .ok (.iinc 2 1, 3) := by decide +kernel
theorem dX4_charactersIn_43 : decode cX4_charactersIn 43 = .ok (.lload_n 3, 1) := by decide +kernel
theorem dX4_charactersIn_44 : decode cX4_charactersIn 44 = .ok (.bipush 8, 2) := by decide +kernel
theorem dX4_charactersIn_46 : decode cX4_charactersIn 46 = .ok (.lushr, 1) := by decide +kernel
theorem dX4_charactersIn_47 : decode cX4_charactersIn 47 = .ok (.lstore_n 3, 1) := by decide +kernel
theorem dX4_charactersIn_48 : decode cX4_charactersIn 48 = .ok (.goto (-44), 3) := by decide +kernel
theorem dX4_charactersIn_51 : decode cX4_charactersIn 51 = .ok (.iload_n 2, 1) := by decide +kernel
theorem dX4_charactersIn_52 : decode cX4_charactersIn 52 = .ok (.ireturn, 1) := by decide +kernel
theorem dX4_append_0 : decode cX4_append 0 = .ok (.iconst 0, 1) := by decide +kernel
theorem dX4_append_1 : decode cX4_append 1 = .ok (.istore 4, 2) := by decide +kernel
theorem dX4_append_3 : decode cX4_append 3 = .ok (.iload 4, 2) := by decide +kernel
theorem dX4_append_5 : decode cX4_append 5 = .ok (.iload_n 3, 1) := by decide +kernel
theorem dX4_append_6 : decode cX4_append 6 = .ok (.if_icmp .ge 38, 3) := by decide +kernel
theorem dX4_append_9 : decode cX4_append 9 = .ok (.aload_n 0, 1) := by decide +kernel
theorem dX4_append_10 : decode cX4_append 10 = .ok (.getfield 11, 3) := by decide +kernel
theorem dX4_append_13 : decode cX4_append 13 = .ok (.aload_n 0, 1) := by decide +kernel
theorem dX4_append_14 : decode cX4_append 14 = .ok (.getfield 15, 3) := by decide +kernel
theorem dX4_append_17 : decode cX4_append 17 = .ok (.iload 4, 2) := by decide +kernel
theorem dX4_append_19 : decode cX4_append 19 = .ok (.iadd, 1) := by decide +kernel
theorem dX4_append_20 : decode cX4_append 20 = .ok (.lload_n 1, 1) := by decide +kernel
theorem dX4_append_21 : decode cX4_append 21 = .ok (.bipush 8, 2) := by decide +kernel
theorem dX4_append_23 : decode cX4_append 23 = .ok (.iload_n 3, 1) := by decide +kernel
theorem dX4_append_24 : decode cX4_append 24 = .ok (.iconst 1, 1) := by decide +kernel
theorem dX4_append_25 : decode cX4_append 25 = .ok (.isub, 1) := by decide +kernel
theorem dX4_append_26 : decode cX4_append 26 = .ok (.iload 4, 2) := by decide +kernel
theorem dX4_append_28 : decode cX4_append 28 = .ok (.isub, 1) := by decide +kernel
theorem dX4_append_29 : decode cX4_append 29 = .ok (.imul, 1) := by decide +kernel
theorem dX4_append_30 : decode cX4_append 30 = .ok (.lushr, 1) := by decide +kernel
theorem dX4_append_31 : decode cX4_append 31 = .ok (.ldc2_w 19, 3) := by decide +kernel
theorem dX4_append_34 : decode cX4_append 34 = .ok (.land, 1) := by decide +kernel
theorem dX4_append_35 : decode cX4_append 35 = .ok (.l2i, 1) := by decide +kernel
theorem dX4_append_36 : decode cX4_append 36 = .ok (.i2c, 1) := by decide +kernel
theorem dX4_append_37 : decode cX4_append 37 = .ok (.castore, 1) := by decide +kernel
theorem dX4_append_38 : decode cX4_append 38 = .ok (.iinc 4 1, 3) := by decide +kernel
theorem dX4_append_41 : decode cX4_append 41 = .ok (.goto (-38), 3) := by decide +kernel
theorem dX4_append_44 : decode cX4_append 44 = .ok (.aload_n 0, 1) := by decide +kernel
theorem dX4_append_45 : decode cX4_append 45 = .ok (.dup, 1) := by decide +kernel
theorem dX4_append_46 : decode cX4_append 46 = .ok (.getfield 15, 3) := by decide +kernel
theorem dX4_append_49 : decode cX4_append 49 = .ok (.iload_n 3, 1) := by decide +kernel
theorem dX4_append_50 : decode cX4_append 50 = .ok (.iadd, 1) := by decide +kernel
theorem dX4_append_51 : decode cX4_append 51 = .ok (.putfield 15, 3) := by decide +kernel
theorem dX4_append_54 : decode cX4_append 54 = .ok (.return_, 1) := by decide +kernel
theorem dX4_isDigit_0 : decode cX4_isDigit 0 = .ok (.iload_n 0, 1) := by decide +kernel
theorem dX4_isDigit_1 : decode cX4_isDigit 1 = .ok (.bipush 48, 2) := by decide +kernel
theorem dX4_isDigit_3 : decode cX4_isDigit 3 = .ok (.if_icmp .lt 13, 3) := by decide +kernel
theorem dX4_isDigit_6 : decode cX4_isDigit 6 = .ok (.iload_n 0, 1) := by decide +kernel
theorem dX4_isDigit_7 : decode cX4_isDigit 7 = .ok (.bipush 57, 2) := by decide +kernel
theorem dX4_isDigit_9 : decode cX4_isDigit 9 = .ok (.if_icmp .gt 7, 3) := by decide +kernel
theorem dX4_isDigit_12 : decode cX4_isDigit 12 = .ok (.iconst 1, 1) := by decide +kernel
theorem dX4_isDigit_13 : decode cX4_isDigit 13 = .ok (.goto 4, 3) := by decide +kernel
theorem dX4_isDigit_16 : decode cX4_isDigit 16 = .ok (.iconst 0, 1) := by decide +kernel
theorem dX4_isDigit_17 : decode cX4_isDigit 17 = .ok (.ireturn, 1) := by decide +kernel
theorem dX4_firstFault_0 : decode cX4_firstFault 0 = .ok (.iconst (-1), 1) := by decide +kernel
theorem dX4_firstFault_1 : decode cX4_firstFault 1 = .ok (.istore_n 1, 1) := by decide +kernel
theorem dX4_firstFault_2 : decode cX4_firstFault 2 = .ok (.iconst 0, 1) := by decide +kernel
theorem dX4_firstFault_3 : decode cX4_firstFault 3 = .ok (.istore_n 2, 1) := by decide +kernel
theorem dX4_firstFault_4 : decode cX4_firstFault 4 = .ok (.iload_n 2, 1) := by decide +kernel
theorem dX4_firstFault_5 : decode cX4_firstFault 5 = .ok (.aload_n 0, 1) := by decide +kernel
theorem dX4_firstFault_6 : decode cX4_firstFault 6 = .ok (.getfield 15, 3) := by decide +kernel
theorem dX4_firstFault_9 : decode cX4_firstFault 9 = .ok (.if_icmp .ge 62, 3) := by decide +kernel
theorem dX4_firstFault_12 : decode cX4_firstFault 12 = .ok (.aload_n 0, 1) := by decide +kernel
theorem dX4_firstFault_13 : decode cX4_firstFault 13 = .ok (.getfield 11, 3) := by decide +kernel
theorem dX4_firstFault_16 : decode cX4_firstFault 16 = .ok (.iload_n 2, 1) := by decide +kernel
theorem dX4_firstFault_17 : decode cX4_firstFault 17 = .ok (.caload, 1) := by decide +kernel
theorem dX4_firstFault_18 : decode cX4_firstFault 18 = .ok (.istore_n 3, 1) := by decide +kernel
theorem dX4_firstFault_19 : decode cX4_firstFault 19 = .ok (.iload_n 3, 1) := by decide +kernel
theorem dX4_firstFault_20 : decode cX4_firstFault 20 = .ok (.invokestatic 21, 3) := by decide +kernel
theorem dX4_firstFault_23 : decode cX4_firstFault 23 = .ok (.ifCond .eq 18, 3) := by decide +kernel
theorem dX4_firstFault_26 : decode cX4_firstFault 26 = .ok (.iload_n 1, 1) := by decide +kernel
theorem dX4_firstFault_27 : decode cX4_firstFault 27 = .ok (.iload_n 3, 1) := by decide +kernel
theorem dX4_firstFault_28 : decode cX4_firstFault 28 = .ok (.invokestatic 25, 3) := by decide +kernel
theorem dX4_firstFault_31 : decode cX4_firstFault 31 = .ok (.istore_n 1, 1) := by decide +kernel
theorem dX4_firstFault_32 : decode cX4_firstFault 32 = .ok (.iload_n 1, 1) := by decide +kernel
theorem dX4_firstFault_33 : decode cX4_firstFault 33 = .ok (.sipush 999, 3) := by decide +kernel
theorem dX4_firstFault_36 : decode cX4_firstFault 36 = .ok (.if_icmp .le 29, 3) := by decide +kernel
theorem dX4_firstFault_39 : decode cX4_firstFault 39 = .ok (.iload_n 2, 1) := by decide +kernel
theorem dX4_firstFault_40 : decode cX4_firstFault 40 = .ok (.ireturn, 1) := by decide +kernel
theorem dX4_firstFault_41 : decode cX4_firstFault 41 = .ok (.iload_n 1, 1) := by decide +kernel
theorem dX4_firstFault_42 : decode cX4_firstFault 42 = .ok (.iconst (-1), 1) := by decide +kernel
theorem dX4_firstFault_43 : decode cX4_firstFault 43 = .ok (.if_icmp .eq 20, 3) := by decide +kernel
theorem dX4_firstFault_46 : decode cX4_firstFault 46 = .ok (.iload_n 3, 1) := by decide +kernel
theorem dX4_firstFault_47 : decode cX4_firstFault 47 = .ok (.bipush 44, 2) := by decide +kernel
theorem dX4_firstFault_49 : decode cX4_firstFault 49 = .ok (.if_icmp .eq 9, 3) := by decide +kernel
theorem dX4_firstFault_52 : decode cX4_firstFault 52 = .ok (.iload_n 3, 1) := by decide +kernel
theorem dX4_firstFault_53 : decode cX4_firstFault 53 = .ok (.bipush 59, 2) := by decide +kernel
theorem dX4_firstFault_55 : decode cX4_firstFault 55 = .ok (.if_icmp .ne 8, 3) := by decide +kernel
theorem dX4_firstFault_58 : decode cX4_firstFault 58 = .ok (.iconst (-1), 1) := by decide +kernel
theorem dX4_firstFault_59 : decode cX4_firstFault 59 = .ok (.istore_n 1, 1) := by decide +kernel
theorem dX4_firstFault_60 : decode cX4_firstFault 60 = .ok (.goto 5, 3) := by decide +kernel
theorem dX4_firstFault_63 : decode cX4_firstFault 63 = .ok (.iload_n 2, 1) := by decide +kernel
theorem dX4_firstFault_64 : decode cX4_firstFault 64 = .ok (.ireturn, 1) := by decide +kernel
theorem dX4_firstFault_65 : decode cX4_firstFault 65 = .ok (.iinc 2 1, 3) := by decide +kernel
theorem dX4_firstFault_68 : decode cX4_firstFault 68 = .ok (.goto (-64), 3) := by decide +kernel
theorem dX4_firstFault_71 : decode cX4_firstFault 71 = .ok (.iload_n 1, 1) := by decide +kernel
theorem dX4_firstFault_72 : decode cX4_firstFault 72 = .ok (.iconst (-1), 1) := by decide +kernel
theorem dX4_firstFault_73 : decode cX4_firstFault 73 = .ok (.if_icmp .ne 10, 3) := by decide +kernel
theorem dX4_firstFault_76 : decode cX4_firstFault 76 = .ok (.aload_n 0, 1) := by decide +kernel
theorem dX4_firstFault_77 : decode cX4_firstFault 77 = .ok (.getfield 15, 3) := by decide +kernel
theorem dX4_firstFault_80 : decode cX4_firstFault 80 = .ok (.goto 5, 3) := by decide +kernel
theorem dX4_firstFault_83 : decode cX4_firstFault 83 = .ok (.bipush (-6), 2) := by decide +kernel
theorem dX4_firstFault_85 : decode cX4_firstFault 85 = .ok (.ireturn, 1) := by decide +kernel
theorem dX4_withDigit_0 : decode cX4_withDigit 0 = .ok (.iload_n 0, 1) := by decide +kernel
theorem dX4_withDigit_1 : decode cX4_withDigit 1 = .ok (.ifCond .ne 7, 3) := by decide +kernel
theorem dX4_withDigit_4 : decode cX4_withDigit 4 = .ok (.sipush 1000, 3) := by decide +kernel
theorem dX4_withDigit_7 : decode cX4_withDigit 7 = .ok (.ireturn, 1) := by decide +kernel
theorem dX4_withDigit_8 : decode cX4_withDigit 8 = .ok (.iload_n 0, 1) := by decide +kernel
theorem dX4_withDigit_9 : decode cX4_withDigit 9 = .ok (.iconst 0, 1) := by decide +kernel
theorem dX4_withDigit_10 : decode cX4_withDigit 10 = .ok (.invokestatic 29, 3) := by decide +kernel
theorem dX4_withDigit_13 : decode cX4_withDigit 13 = .ok (.bipush 10, 2) := by decide +kernel
theorem dX4_withDigit_15 : decode cX4_withDigit 15 = .ok (.imul, 1) := by decide +kernel
theorem dX4_withDigit_16 : decode cX4_withDigit 16 = .ok (.iload_n 1, 1) := by decide +kernel
theorem dX4_withDigit_17 : decode cX4_withDigit 17 = .ok (.bipush 48, 2) := by decide +kernel
theorem dX4_withDigit_19 : decode cX4_withDigit 19 = .ok (.isub, 1) := by decide +kernel
theorem dX4_withDigit_20 : decode cX4_withDigit 20 = .ok (.iadd, 1) := by decide +kernel
theorem dX4_withDigit_21 : decode cX4_withDigit 21 = .ok (.ireturn, 1) := by decide +kernel
theorem dX4_measure_0 : decode cX4_measure 0 = .ok (.aload_n 0, 1) := by decide +kernel
theorem dX4_measure_1 : decode cX4_measure 1 = .ok (.iconst 0, 1) := by decide +kernel
theorem dX4_measure_2 : decode cX4_measure 2 = .ok (.putfield 35, 3) := by decide +kernel
theorem dX4_measure_5 : decode cX4_measure 5 = .ok (.aload_n 0, 1) := by decide +kernel
theorem dX4_measure_6 : decode cX4_measure 6 = .ok (.iconst 0, 1) := by decide +kernel
theorem dX4_measure_7 : decode cX4_measure 7 = .ok (.putfield 38, 3) := by decide +kernel
theorem dX4_measure_10 : decode cX4_measure 10 = .ok (.aload_n 0, 1) := by decide +kernel
theorem dX4_measure_11 : decode cX4_measure 11 = .ok (.iconst 0, 1) := by decide +kernel
theorem dX4_measure_12 : decode cX4_measure 12 = .ok (.putfield 41, 3) := by decide +kernel
theorem dX4_measure_15 : decode cX4_measure 15 = .ok (.aload_n 0, 1) := by decide +kernel
theorem dX4_measure_16 : decode cX4_measure 16 = .ok (.bipush 80, 2) := by decide +kernel
theorem dX4_measure_18 : decode cX4_measure 18 = .ok (.putfield 44, 3) := by decide +kernel
theorem dX4_measure_21 : decode cX4_measure 21 = .ok (.iconst 1, 1) := by decide +kernel
theorem dX4_measure_22 : decode cX4_measure 22 = .ok (.istore_n 1, 1) := by decide +kernel
theorem dX4_measure_23 : decode cX4_measure 23 = .ok (.iconst 0, 1) := by decide +kernel
theorem dX4_measure_24 : decode cX4_measure 24 = .ok (.istore_n 2, 1) := by decide +kernel
theorem dX4_measure_25 : decode cX4_measure 25 = .ok (.iload_n 2, 1) := by decide +kernel
theorem dX4_measure_26 : decode cX4_measure 26 = .ok (.aload_n 0, 1) := by decide +kernel
theorem dX4_measure_27 : decode cX4_measure 27 = .ok (.getfield 15, 3) := by decide +kernel
theorem dX4_measure_30 : decode cX4_measure 30 = .ok (.if_icmp .gt 91, 3) := by decide +kernel
theorem dX4_measure_33 : decode cX4_measure 33 = .ok (.iload_n 2, 1) := by decide +kernel
theorem dX4_measure_34 : decode cX4_measure 34 = .ok (.aload_n 0, 1) := by decide +kernel
theorem dX4_measure_35 : decode cX4_measure 35 = .ok (.getfield 15, 3) := by decide +kernel
theorem dX4_measure_38 : decode cX4_measure 38 = .ok (.if_icmp .eq 14, 3) := by decide +kernel
theorem dX4_measure_41 : decode cX4_measure 41 = .ok (.aload_n 0, 1) := by decide +kernel
theorem dX4_measure_42 : decode cX4_measure 42 = .ok (.getfield 11, 3) := by decide +kernel
theorem dX4_measure_45 : decode cX4_measure 45 = .ok (.iload_n 2, 1) := by decide +kernel
theorem dX4_measure_46 : decode cX4_measure 46 = .ok (.caload, 1) := by decide +kernel
theorem dX4_measure_47 : decode cX4_measure 47 = .ok (.bipush 59, 2) := by decide +kernel
theorem dX4_measure_49 : decode cX4_measure 49 = .ok (.if_icmp .ne 52, 3) := by decide +kernel
theorem dX4_measure_52 : decode cX4_measure 52 = .ok (.aload_n 0, 1) := by decide +kernel
theorem dX4_measure_53 : decode cX4_measure 53 = .ok (.dup, 1) := by decide +kernel
theorem dX4_measure_54 : decode cX4_measure 54 = .ok (.getfield 35, 3) := by decide +kernel
theorem dX4_measure_57 : decode cX4_measure 57 = .ok (.iconst 1, 1) := by decide +kernel
theorem dX4_measure_58 : decode cX4_measure 58 = .ok (.iadd, 1) := by decide +kernel
theorem dX4_measure_59 : decode cX4_measure 59 = .ok (.putfield 35, 3) := by decide +kernel
theorem dX4_measure_62 : decode cX4_measure 62 = .ok (.aload_n 0, 1) := by decide +kernel
theorem dX4_measure_63 : decode cX4_measure 63 = .ok (.dup, 1) := by decide +kernel
theorem dX4_measure_64 : decode cX4_measure 64 = .ok (.getfield 38, 3) := by decide +kernel
theorem dX4_measure_67 : decode cX4_measure 67 = .ok (.iload_n 1, 1) := by decide +kernel
theorem dX4_measure_68 : decode cX4_measure 68 = .ok (.iadd, 1) := by decide +kernel
theorem dX4_measure_69 : decode cX4_measure 69 = .ok (.putfield 38, 3) := by decide +kernel
theorem dX4_measure_72 : decode cX4_measure 72 = .ok (.aload_n 0, 1) := by decide +kernel
theorem dX4_measure_73 : decode cX4_measure 73 = .ok (.aload_n 0, 1) := by decide +kernel
theorem dX4_measure_74 : decode cX4_measure 74 = .ok (.getfield 41, 3) := by decide +kernel
theorem dX4_measure_77 : decode cX4_measure 77 = .ok (.iload_n 1, 1) := by decide +kernel
theorem dX4_measure_78 : decode cX4_measure 78 = .ok (.invokestatic 29, 3) := by decide +kernel
theorem dX4_measure_81 : decode cX4_measure 81 = .ok (.putfield 41, 3) := by decide +kernel
theorem dX4_measure_84 : decode cX4_measure 84 = .ok (.aload_n 0, 1) := by decide +kernel
theorem dX4_measure_85 : decode cX4_measure 85 = .ok (.aload_n 0, 1) := by decide +kernel
theorem dX4_measure_86 : decode cX4_measure 86 = .ok (.getfield 44, 3) := by decide +kernel
theorem dX4_measure_89 : decode cX4_measure 89 = .ok (.iload_n 1, 1) := by decide +kernel
theorem dX4_measure_90 : decode cX4_measure 90 = .ok (.invokestatic 47, 3) := by decide +kernel
theorem dX4_measure_93 : decode cX4_measure 93 = .ok (.putfield 44, 3) := by decide +kernel
theorem dX4_measure_96 : decode cX4_measure 96 = .ok (.iconst 1, 1) := by decide +kernel
theorem dX4_measure_97 : decode cX4_measure 97 = .ok (.istore_n 1, 1) := by decide +kernel
theorem dX4_measure_98 : decode cX4_measure 98 = .ok (.goto 17, 3) := by decide +kernel
theorem dX4_measure_101 : decode cX4_measure 101 = .ok (.aload_n 0, 1) := by decide +kernel
theorem dX4_measure_102 : decode cX4_measure 102 = .ok (.getfield 11, 3) := by decide +kernel
theorem dX4_measure_105 : decode cX4_measure 105 = .ok (.iload_n 2, 1) := by decide +kernel
theorem dX4_measure_106 : decode cX4_measure 106 = .ok (.caload, 1) := by decide +kernel
theorem dX4_measure_107 : decode cX4_measure 107 = .ok (.bipush 44, 2) := by decide +kernel
theorem dX4_measure_109 : decode cX4_measure 109 = .ok (.if_icmp .ne 6, 3) := by decide +kernel
theorem dX4_measure_112 : decode cX4_measure 112 = .ok (.iinc 1 1, 3) := by decide +kernel
theorem dX4_measure_115 : decode cX4_measure 115 = .ok (.iinc 2 1, 3) := by decide +kernel
theorem dX4_measure_118 : decode cX4_measure 118 = .ok (.goto (-93), 3) := by decide +kernel
theorem dX4_measure_121 : decode cX4_measure 121 = .ok (.return_, 1) := by decide +kernel
theorem dX4_readInto_0 : decode cX4_readInto 0 = .ok (.aload_n 1, 1) := by decide +kernel
theorem dX4_readInto_1 : decode cX4_readInto 1 = .ok (.aload_n 0, 1) := by decide +kernel
theorem dX4_readInto_2 : decode cX4_readInto 2 = .ok (.getfield 35, 3) := by decide +kernel
theorem dX4_readInto_5 : decode cX4_readInto 5 = .ok (.aload_n 0, 1) := by decide +kernel
theorem dX4_readInto_6 : decode cX4_readInto 6 = .ok (.getfield 41, 3) := by decide +kernel
theorem dX4_readInto_9 : decode cX4_readInto 9 = .ok (.invokevirtual 50, 3) := by decide +kernel
theorem dX4_readInto_12 : decode cX4_readInto 12 = .ok (.iconst 0, 1) := by decide +kernel
theorem dX4_readInto_13 : decode cX4_readInto 13 = .ok (.istore_n 2, 1) := by decide +kernel
theorem dX4_readInto_14 : decode cX4_readInto 14 = .ok (.iconst 0, 1) := by decide +kernel
theorem dX4_readInto_15 : decode cX4_readInto 15 = .ok (.istore_n 3, 1) := by decide +kernel
theorem dX4_readInto_16 : decode cX4_readInto 16 = .ok (.iconst 0, 1) := by decide +kernel
theorem dX4_readInto_17 : decode cX4_readInto 17 = .ok (.istore 4, 2) := by decide +kernel
theorem dX4_readInto_19 : decode cX4_readInto 19 = .ok (.iload 4, 2) := by decide +kernel
theorem dX4_readInto_21 : decode cX4_readInto 21 = .ok (.aload_n 0, 1) := by decide +kernel
theorem dX4_readInto_22 : decode cX4_readInto 22 = .ok (.getfield 15, 3) := by decide +kernel
theorem dX4_readInto_25 : decode cX4_readInto 25 = .ok (.if_icmp .gt 68, 3) := by decide +kernel
theorem dX4_readInto_28 : decode cX4_readInto 28 = .ok (.iload 4, 2) := by decide +kernel
theorem dX4_readInto_30 : decode cX4_readInto 30 = .ok (.aload_n 0, 1) := by decide +kernel
theorem dX4_readInto_31 : decode cX4_readInto 31 = .ok (.getfield 15, 3) := by decide +kernel
theorem dX4_readInto_34 : decode cX4_readInto 34 = .ok (.if_icmp .ge 35, 3) := by decide +kernel
theorem dX4_readInto_37 : decode cX4_readInto 37 = .ok (.aload_n 0, 1) := by decide +kernel
theorem dX4_readInto_38 : decode cX4_readInto 38 = .ok (.getfield 11, 3) := by decide +kernel
theorem dX4_readInto_41 : decode cX4_readInto 41 = .ok (.iload 4, 2) := by decide +kernel
theorem dX4_readInto_43 : decode cX4_readInto 43 = .ok (.caload, 1) := by decide +kernel
theorem dX4_readInto_44 : decode cX4_readInto 44 = .ok (.invokestatic 21, 3) := by decide +kernel
theorem dX4_readInto_47 : decode cX4_readInto 47 = .ok (.ifCond .eq 22, 3) := by decide +kernel
theorem dX4_readInto_50 : decode cX4_readInto 50 = .ok (.iload_n 3, 1) := by decide +kernel
theorem dX4_readInto_51 : decode cX4_readInto 51 = .ok (.bipush 10, 2) := by decide +kernel
theorem dX4_readInto_53 : decode cX4_readInto 53 = .ok (.imul, 1) := by decide +kernel
theorem dX4_readInto_54 : decode cX4_readInto 54 = .ok (.aload_n 0, 1) := by decide +kernel
theorem dX4_readInto_55 : decode cX4_readInto 55 = .ok (.getfield 11, 3) := by decide +kernel
theorem dX4_readInto_58 : decode cX4_readInto 58 = .ok (.iload 4, 2) := by decide +kernel
theorem dX4_readInto_60 : decode cX4_readInto 60 = .ok (.caload, 1) := by decide +kernel
theorem dX4_readInto_61 : decode cX4_readInto 61 = .ok (.bipush 48, 2) := by decide +kernel
theorem dX4_readInto_63 : decode cX4_readInto 63 = .ok (.isub, 1) := by decide +kernel
theorem dX4_readInto_64 : decode cX4_readInto 64 = .ok (.iadd, 1) := by decide +kernel
theorem dX4_readInto_65 : decode cX4_readInto 65 = .ok (.istore_n 3, 1) := by decide +kernel
theorem dX4_readInto_66 : decode cX4_readInto 66 = .ok (.goto 21, 3) := by decide +kernel
theorem dX4_readInto_69 : decode cX4_readInto 69 = .ok (.iload_n 2, 1) := by decide +kernel
theorem dX4_readInto_70 : decode cX4_readInto 70 = .ok (.bipush 12, 2) := by decide +kernel
theorem dX4_readInto_72 : decode cX4_readInto 72 = .ok (.if_icmp .ge 15, 3) := by decide +kernel
theorem dX4_readInto_75 : decode cX4_readInto 75 = .ok (.aload_n 1, 1) := by decide +kernel
theorem dX4_readInto_76 : decode cX4_readInto 76 = .ok (.getfield 56, 3) := by decide +kernel
theorem dX4_readInto_79 : decode cX4_readInto 79 = .ok (.iload_n 2, 1) := by decide +kernel
theorem dX4_readInto_80 : decode cX4_readInto 80 = .ok (.iload_n 3, 1) := by decide +kernel
theorem dX4_readInto_81 : decode cX4_readInto 81 = .ok (.iastore, 1) := by decide +kernel
theorem dX4_readInto_82 : decode cX4_readInto 82 = .ok (.iinc 2 1, 3) := by decide +kernel
theorem dX4_readInto_85 : decode cX4_readInto 85 = .ok (.iconst 0, 1) := by decide +kernel
theorem dX4_readInto_86 : decode cX4_readInto 86 = .ok (.istore_n 3, 1) := by decide +kernel
theorem dX4_readInto_87 : decode cX4_readInto 87 = .ok (.iinc 4 1, 3) := by decide +kernel
theorem dX4_readInto_90 : decode cX4_readInto 90 = .ok (.goto (-71), 3) := by decide +kernel
theorem dX4_readInto_93 : decode cX4_readInto 93 = .ok (.return_, 1) := by decide +kernel
theorem dX5_init_0 : decode cX5_init 0 = .ok (.aload_n 0, 1) := by decide +kernel
theorem dX5_init_1 : decode cX5_init 1 = .ok (.invokespecial 1, 3) := by decide +kernel
theorem dX5_init_4 : decode cX5_init 4 = .ok (.return_, 1) := by decide +kernel
theorem dX5_study_0 : decode cX5_study 0 = .ok (.aload_n 0, 1) := by decide +kernel
theorem dX5_study_1 : decode cX5_study 1 = .ok (.iconst 0, 1) := by decide +kernel
theorem dX5_study_2 : decode cX5_study 2 = .ok (.putfield 7, 3) := by decide +kernel
theorem dX5_study_5 : decode cX5_study 5 = .ok (.aload_n 0, 1) := by decide +kernel
theorem dX5_study_6 : decode cX5_study 6 = .ok (.iconst 0, 1) := by decide +kernel
theorem dX5_study_7 : decode cX5_study 7 = .ok (.putfield 13, 3) := by decide +kernel
theorem dX5_study_10 : decode cX5_study 10 = .ok (.aload_n 0, 1) := by decide +kernel
theorem dX5_study_11 : decode cX5_study 11 = .ok (.iconst 0, 1) := by decide +kernel
theorem dX5_study_12 : decode cX5_study 12 = .ok (.putfield 16, 3) := by decide +kernel
theorem dX5_study_15 : decode cX5_study 15 = .ok (.aload_n 0, 1) := by decide +kernel
theorem dX5_study_16 : decode cX5_study 16 = .ok (.iconst 0, 1) := by decide +kernel
theorem dX5_study_17 : decode cX5_study 17 = .ok (.putfield 19, 3) := by decide +kernel
theorem dX5_study_20 : decode cX5_study 20 = .ok (.iconst 1, 1) := by decide +kernel
theorem dX5_study_21 : decode cX5_study 21 = .ok (.istore_n 3, 1) := by decide +kernel
theorem dX5_study_22 : decode cX5_study 22 = .ok (.iload_n 3, 1) := by decide +kernel
theorem dX5_study_23 : decode cX5_study 23 = .ok (.iconst 1, 1) := by decide +kernel
theorem dX5_study_24 : decode cX5_study 24 = .ok (.aload_n 1, 1) := by decide +kernel
theorem dX5_study_25 : decode cX5_study 25 = .ok (.getfield 22, 3) := by decide +kernel
theorem dX5_study_28 : decode cX5_study 28 = .ok (.ishl, 1) := by decide +kernel
theorem dX5_study_29 : decode cX5_study 29 = .ok (.if_icmp .ge 48, 3) := by decide +kernel
theorem dX5_study_32 : decode cX5_study 32 = .ok (.iconst 1, 1) := by decide +kernel
theorem dX5_study_33 : decode cX5_study 33 = .ok (.istore 4, 2) := by decide +kernel
theorem dX5_study_35 : decode cX5_study 35 = .ok (.iload 4, 2) := by decide +kernel
theorem dX5_study_37 : decode cX5_study 37 = .ok (.iconst 1, 1) := by decide +kernel
theorem dX5_study_38 : decode cX5_study 38 = .ok (.aload_n 1, 1) := by decide +kernel
theorem dX5_study_39 : decode cX5_study 39 = .ok (.getfield 25, 3) := by decide +kernel
theorem dX5_study_42 : decode cX5_study 42 = .ok (.ishl, 1) := by decide +kernel
theorem dX5_study_43 : decode cX5_study 43 = .ok (.if_icmp .ge 28, 3) := by decide +kernel
theorem dX5_study_46 : decode cX5_study 46 = .ok (.aload_n 1, 1) := by decide +kernel
theorem dX5_study_47 : decode cX5_study 47 = .ok (.iload_n 3, 1) := by decide +kernel
theorem dX5_study_48 : decode cX5_study 48 = .ok (.iload 4, 2) := by decide +kernel
theorem dX5_study_50 : decode cX5_study 50 = .ok (.invokestatic 26, 3) := by decide +kernel
theorem dX5_study_53 : decode cX5_study 53 = .ok (.ifCond .eq 12, 3) := by decide +kernel
theorem dX5_study_56 : decode cX5_study 56 = .ok (.aload_n 0, 1) := by decide +kernel
theorem dX5_study_57 : decode cX5_study 57 = .ok (.aload_n 1, 1) := by decide +kernel
theorem dX5_study_58 : decode cX5_study 58 = .ok (.aload_n 2, 1) := by decide +kernel
theorem dX5_study_59 : decode cX5_study 59 = .ok (.iload_n 3, 1) := by decide +kernel
theorem dX5_study_60 : decode cX5_study 60 = .ok (.iload 4, 2) := by decide +kernel
theorem dX5_study_62 : decode cX5_study 62 = .ok (.invokevirtual 32, 3) := by decide +kernel
theorem dX5_study_65 : decode cX5_study 65 = .ok (.iinc 4 1, 3) := by decide +kernel
theorem dX5_study_68 : decode cX5_study 68 = .ok (.goto (-33), 3) := by decide +kernel
theorem dX5_study_71 : decode cX5_study 71 = .ok (.iinc 3 1, 3) := by decide +kernel
theorem dX5_study_74 : decode cX5_study 74 = .ok (.goto (-52), 3) := by decide +kernel
theorem dX5_study_77 : decode cX5_study 77 = .ok (.return_, 1) := by decide +kernel
theorem dX5_look_0 : decode cX5_look 0 = .ok (.aload_n 2, 1) := by decide +kernel
theorem dX5_look_1 : decode cX5_look 1 = .ok (.aload_n 1, 1) := by decide +kernel
theorem dX5_look_2 : decode cX5_look 2 = .ok (.iload_n 3, 1) := by decide +kernel
theorem dX5_look_3 : decode cX5_look 3 = .ok (.iload 4, 2) := by decide +kernel
theorem dX5_look_5 : decode cX5_look 5 = .ok (.invokevirtual 36, 3) := by decide +kernel
theorem dX5_look_8 : decode cX5_look 8 = .ok (.aload_n 2, 1) := by decide +kernel
theorem dX5_look_9 : decode cX5_look 9 = .ok (.invokevirtual 42, 3) := by decide +kernel
theorem dX5_look_12 : decode cX5_look 12 = .ok (.iconst 1, 1) := by decide +kernel
theorem dX5_look_13 : decode cX5_look 13 = .ok (.if_icmp .eq 4, 3) := by decide +kernel
theorem dX5_look_16 : decode cX5_look 16 = .ok (.return_, 1) := by decide +kernel
theorem dX5_look_17 : decode cX5_look 17 = .ok (.aload_n 0, 1) := by decide +kernel
theorem dX5_look_18 : decode cX5_look 18 = .ok (.dup, 1) := by decide +kernel
theorem dX5_look_19 : decode cX5_look 19 = .ok (.getfield 19, 3) := by decide +kernel
theorem dX5_look_22 : decode cX5_look 22 = .ok (.iconst 1, 1) := by decide +kernel
theorem dX5_look_23 : decode cX5_look 23 = .ok (.iadd, 1) := by decide +kernel
theorem dX5_look_24 : decode cX5_look 24 = .ok (.putfield 19, 3) := by decide +kernel
theorem dX5_look_27 : decode cX5_look 27 = .ok (.iload_n 3, 1) := by decide +kernel
theorem dX5_look_28 : decode cX5_look 28 = .ok (.invokestatic 46, 3) := by decide +kernel
theorem dX5_look_31 : decode cX5_look 31 = .ok (.aload_n 0, 1) := by decide +kernel
theorem dX5_look_32 : decode cX5_look 32 = .ok (.getfield 7, 3) := by decide +kernel
theorem dX5_look_35 : decode cX5_look 35 = .ok (.if_icmp .le 22, 3) := by decide +kernel
theorem dX5_look_38 : decode cX5_look 38 = .ok (.aload_n 0, 1) := by decide +kernel
theorem dX5_look_39 : decode cX5_look 39 = .ok (.iload_n 3, 1) := by decide +kernel
theorem dX5_look_40 : decode cX5_look 40 = .ok (.invokestatic 46, 3) := by decide +kernel
theorem dX5_look_43 : decode cX5_look 43 = .ok (.putfield 7, 3) := by decide +kernel
theorem dX5_look_46 : decode cX5_look 46 = .ok (.aload_n 0, 1) := by decide +kernel
theorem dX5_look_47 : decode cX5_look 47 = .ok (.iload_n 3, 1) := by decide +kernel
theorem dX5_look_48 : decode cX5_look 48 = .ok (.putfield 13, 3) := by decide +kernel
theorem dX5_look_51 : decode cX5_look 51 = .ok (.aload_n 0, 1) := by decide +kernel
theorem dX5_look_52 : decode cX5_look 52 = .ok (.iload 4, 2) := by decide +kernel
theorem dX5_look_54 : decode cX5_look 54 = .ok (.putfield 16, 3) := by decide +kernel
theorem dX5_look_57 : decode cX5_look 57 = .ok (.return_, 1) := by decide +kernel
theorem dX6_init_0 : decode cX6_init 0 = .ok (.aload_n 0, 1) := by decide +kernel
theorem dX6_init_1 : decode cX6_init 1 = .ok (.invokespecial 1, 3) := by decide +kernel
theorem dX6_init_4 : decode cX6_init 4 = .ok (.return_, 1) := by decide +kernel
theorem dX6_study_0 : decode cX6_study 0 = .ok (.aload_n 0, 1) := by decide +kernel
theorem dX6_study_1 : decode cX6_study 1 = .ok (.iconst 0, 1) := by decide +kernel
theorem dX6_study_2 : decode cX6_study 2 = .ok (.putfield 7, 3) := by decide +kernel
theorem dX6_study_5 : decode cX6_study 5 = .ok (.aload_n 0, 1) := by decide +kernel
theorem dX6_study_6 : decode cX6_study 6 = .ok (.iconst 0, 1) := by decide +kernel
theorem dX6_study_7 : decode cX6_study 7 = .ok (.putfield 13, 3) := by decide +kernel
theorem dX6_study_10 : decode cX6_study 10 = .ok (.aload_n 0, 1) := by decide +kernel
theorem dX6_study_11 : decode cX6_study 11 = .ok (.iconst 0, 1) := by decide +kernel
theorem dX6_study_12 : decode cX6_study 12 = .ok (.putfield 16, 3) := by decide +kernel
theorem dX6_study_15 : decode cX6_study 15 = .ok (.iconst 0, 1) := by decide +kernel
theorem dX6_study_16 : decode cX6_study 16 = .ok (.istore_n 2, 1) := by decide +kernel
theorem dX6_study_17 : decode cX6_study 17 = .ok (.iload_n 2, 1) := by decide +kernel
theorem dX6_study_18 : decode cX6_study 18 = .ok (.aload_n 1, 1) := by decide +kernel
theorem dX6_study_19 : decode cX6_study 19 = .ok (.getfield 19, 3) := by decide +kernel
theorem dX6_study_22 : decode cX6_study 22 = .ok (.if_icmp .ge 21, 3) := by decide +kernel
theorem dX6_study_25 : decode cX6_study 25 = .ok (.aload_n 0, 1) := by decide +kernel
theorem dX6_study_26 : decode cX6_study 26 = .ok (.aload_n 1, 1) := by decide +kernel
theorem dX6_study_27 : decode cX6_study 27 = .ok (.iload_n 2, 1) := by decide +kernel
theorem dX6_study_28 : decode cX6_study 28 = .ok (.iload_n 2, 1) := by decide +kernel
theorem dX6_study_29 : decode cX6_study 29 = .ok (.iconst 1, 1) := by decide +kernel
theorem dX6_study_30 : decode cX6_study 30 = .ok (.iload_n 2, 1) := by decide +kernel
theorem dX6_study_31 : decode cX6_study 31 = .ok (.ishl, 1) := by decide +kernel
theorem dX6_study_32 : decode cX6_study 32 = .ok (.iconst 0, 1) := by decide +kernel
theorem dX6_study_33 : decode cX6_study 33 = .ok (.iconst 1, 1) := by decide +kernel
theorem dX6_study_34 : decode cX6_study 34 = .ok (.invokestatic 24, 3) := by decide +kernel
theorem dX6_study_37 : decode cX6_study 37 = .ok (.iinc 2 1, 3) := by decide +kernel
theorem dX6_study_40 : decode cX6_study 40 = .ok (.goto (-23), 3) := by decide +kernel
theorem dX6_study_43 : decode cX6_study 43 = .ok (.return_, 1) := by decide +kernel
theorem dX6_goOn_0 : decode cX6_goOn 0 = .ok (.aload_n 0, 1) := by decide +kernel
theorem dX6_goOn_1 : decode cX6_goOn 1 = .ok (.iload 5, 2) := by decide +kernel
theorem dX6_goOn_3 : decode cX6_goOn 3 = .ok (.aload_n 1, 1) := by decide +kernel
theorem dX6_goOn_4 : decode cX6_goOn 4 = .ok (.iload_n 3, 1) := by decide +kernel
theorem dX6_goOn_5 : decode cX6_goOn 5 = .ok (.iload_n 2, 1) := by decide +kernel
theorem dX6_goOn_6 : decode cX6_goOn 6 = .ok (.invokevirtual 28, 3) := by decide +kernel
theorem dX6_goOn_9 : decode cX6_goOn 9 = .ok (.iadd, 1) := by decide +kernel
theorem dX6_goOn_10 : decode cX6_goOn 10 = .ok (.iload 6, 2) := by decide +kernel
theorem dX6_goOn_12 : decode cX6_goOn 12 = .ok (.invokevirtual 32, 3) := by decide +kernel
theorem dX6_goOn_15 : decode cX6_goOn 15 = .ok (.iload_n 2, 1) := by decide +kernel
theorem dX6_goOn_16 : decode cX6_goOn 16 = .ok (.iconst 1, 1) := by decide +kernel
theorem dX6_goOn_17 : decode cX6_goOn 17 = .ok (.iadd, 1) := by decide +kernel
theorem dX6_goOn_18 : decode cX6_goOn 18 = .ok (.istore 7, 2) := by decide +kernel
theorem dX6_goOn_20 : decode cX6_goOn 20 = .ok (.iload 7, 2) := by decide +kernel
theorem dX6_goOn_22 : decode cX6_goOn 22 = .ok (.aload_n 1, 1) := by decide +kernel
theorem dX6_goOn_23 : decode cX6_goOn 23 = .ok (.getfield 19, 3) := by decide +kernel
theorem dX6_goOn_26 : decode cX6_goOn 26 = .ok (.if_icmp .ge 57, 3) := by decide +kernel
theorem dX6_goOn_29 : decode cX6_goOn 29 = .ok (.iload 6, 2) := by decide +kernel
theorem dX6_goOn_31 : decode cX6_goOn 31 = .ok (.aload_n 1, 1) := by decide +kernel
theorem dX6_goOn_32 : decode cX6_goOn 32 = .ok (.getfield 19, 3) := by decide +kernel
theorem dX6_goOn_35 : decode cX6_goOn 35 = .ok (.if_icmp .ge 48, 3) := by decide +kernel
theorem dX6_goOn_38 : decode cX6_goOn 38 = .ok (.iload 4, 2) := by decide +kernel
theorem dX6_goOn_40 : decode cX6_goOn 40 = .ok (.iconst 1, 1) := by decide +kernel
theorem dX6_goOn_41 : decode cX6_goOn 41 = .ok (.iload 7, 2) := by decide +kernel
theorem dX6_goOn_43 : decode cX6_goOn 43 = .ok (.ishl, 1) := by decide +kernel
theorem dX6_goOn_44 : decode cX6_goOn 44 = .ok (.iand, 1) := by decide +kernel
theorem dX6_goOn_45 : decode cX6_goOn 45 = .ok (.ifCond .ne 32, 3) := by decide +kernel
theorem dX6_goOn_48 : decode cX6_goOn 48 = .ok (.aload_n 0, 1) := by decide +kernel
theorem dX6_goOn_49 : decode cX6_goOn 49 = .ok (.aload_n 1, 1) := by decide +kernel
theorem dX6_goOn_50 : decode cX6_goOn 50 = .ok (.iload_n 2, 1) := by decide +kernel
theorem dX6_goOn_51 : decode cX6_goOn 51 = .ok (.iload 7, 2) := by decide +kernel
theorem dX6_goOn_53 : decode cX6_goOn 53 = .ok (.iload 4, 2) := by decide +kernel
theorem dX6_goOn_55 : decode cX6_goOn 55 = .ok (.iconst 1, 1) := by decide +kernel
theorem dX6_goOn_56 : decode cX6_goOn 56 = .ok (.iload 7, 2) := by decide +kernel
theorem dX6_goOn_58 : decode cX6_goOn 58 = .ok (.ishl, 1) := by decide +kernel
theorem dX6_goOn_59 : decode cX6_goOn 59 = .ok (.ior, 1) := by decide +kernel
theorem dX6_goOn_60 : decode cX6_goOn 60 = .ok (.iload 5, 2) := by decide +kernel
theorem dX6_goOn_62 : decode cX6_goOn 62 = .ok (.aload_n 1, 1) := by decide +kernel
theorem dX6_goOn_63 : decode cX6_goOn 63 = .ok (.iload_n 3, 1) := by decide +kernel
theorem dX6_goOn_64 : decode cX6_goOn 64 = .ok (.iload 7, 2) := by decide +kernel
theorem dX6_goOn_66 : decode cX6_goOn 66 = .ok (.invokevirtual 28, 3) := by decide +kernel
theorem dX6_goOn_69 : decode cX6_goOn 69 = .ok (.iadd, 1) := by decide +kernel
theorem dX6_goOn_70 : decode cX6_goOn 70 = .ok (.iload 6, 2) := by decide +kernel
theorem dX6_goOn_72 : decode cX6_goOn 72 = .ok (.iconst 1, 1) := by decide +kernel
theorem dX6_goOn_73 : decode cX6_goOn 73 = .ok (.iadd, 1) := by decide +kernel
theorem dX6_goOn_74 : decode cX6_goOn 74 = .ok (.invokestatic 24, 3) := by decide +kernel
theorem dX6_goOn_77 : decode cX6_goOn 77 = .ok (.iinc 7 1, 3) := by decide +kernel
theorem dX6_goOn_80 : decode cX6_goOn 80 = .ok (.goto (-60), 3) := by decide +kernel
theorem dX6_goOn_83 : decode cX6_goOn 83 = .ok (.return_, 1) := by decide +kernel
theorem dX6_keep_0 : decode cX6_keep 0 = .ok (.aload_n 0, 1) := by decide +kernel
theorem dX6_keep_1 : decode cX6_keep 1 = .ok (.dup, 1) := by decide +kernel
theorem dX6_keep_2 : decode cX6_keep 2 = .ok (.getfield 7, 3) := by decide +kernel
theorem dX6_keep_5 : decode cX6_keep 5 = .ok (.iconst 1, 1) := by decide +kernel
theorem dX6_keep_6 : decode cX6_keep 6 = .ok (.iadd, 1) := by decide +kernel
theorem dX6_keep_7 : decode cX6_keep 7 = .ok (.putfield 7, 3) := by decide +kernel
theorem dX6_keep_10 : decode cX6_keep 10 = .ok (.iload_n 1, 1) := by decide +kernel
theorem dX6_keep_11 : decode cX6_keep 11 = .ok (.aload_n 0, 1) := by decide +kernel
theorem dX6_keep_12 : decode cX6_keep 12 = .ok (.getfield 16, 3) := by decide +kernel
theorem dX6_keep_15 : decode cX6_keep 15 = .ok (.imul, 1) := by decide +kernel
theorem dX6_keep_16 : decode cX6_keep 16 = .ok (.aload_n 0, 1) := by decide +kernel
theorem dX6_keep_17 : decode cX6_keep 17 = .ok (.getfield 13, 3) := by decide +kernel
theorem dX6_keep_20 : decode cX6_keep 20 = .ok (.iload_n 2, 1) := by decide +kernel
theorem dX6_keep_21 : decode cX6_keep 21 = .ok (.imul, 1) := by decide +kernel
theorem dX6_keep_22 : decode cX6_keep 22 = .ok (.isub, 1) := by decide +kernel
theorem dX6_keep_23 : decode cX6_keep 23 = .ok (.istore_n 3, 1) := by decide +kernel
theorem dX6_keep_24 : decode cX6_keep 24 = .ok (.aload_n 0, 1) := by decide +kernel
theorem dX6_keep_25 : decode cX6_keep 25 = .ok (.getfield 16, 3) := by decide +kernel
theorem dX6_keep_28 : decode cX6_keep 28 = .ok (.ifCond .eq 19, 3) := by decide +kernel
theorem dX6_keep_31 : decode cX6_keep 31 = .ok (.iload_n 3, 1) := by decide +kernel
theorem dX6_keep_32 : decode cX6_keep 32 = .ok (.ifCond .lt 15, 3) := by decide +kernel
theorem dX6_keep_35 : decode cX6_keep 35 = .ok (.iload_n 3, 1) := by decide +kernel
theorem dX6_keep_36 : decode cX6_keep 36 = .ok (.ifCond .ne 21, 3) := by decide +kernel
theorem dX6_keep_39 : decode cX6_keep 39 = .ok (.iload_n 2, 1) := by decide +kernel
theorem dX6_keep_40 : decode cX6_keep 40 = .ok (.aload_n 0, 1) := by decide +kernel
theorem dX6_keep_41 : decode cX6_keep 41 = .ok (.getfield 16, 3) := by decide +kernel
theorem dX6_keep_44 : decode cX6_keep 44 = .ok (.if_icmp .ge 13, 3) := by decide +kernel
theorem dX6_keep_47 : decode cX6_keep 47 = .ok (.aload_n 0, 1) := by decide +kernel
theorem dX6_keep_48 : decode cX6_keep 48 = .ok (.iload_n 1, 1) := by decide +kernel
theorem dX6_keep_49 : decode cX6_keep 49 = .ok (.putfield 13, 3) := by decide +kernel
theorem dX6_keep_52 : decode cX6_keep 52 = .ok (.aload_n 0, 1) := by decide +kernel
theorem dX6_keep_53 : decode cX6_keep 53 = .ok (.iload_n 2, 1) := by decide +kernel
theorem dX6_keep_54 : decode cX6_keep 54 = .ok (.putfield 16, 3) := by decide +kernel
theorem dX6_keep_57 : decode cX6_keep 57 = .ok (.return_, 1) := by decide +kernel
theorem dX7_init_0 : decode cX7_init 0 = .ok (.aload_n 0, 1) := by decide +kernel
theorem dX7_init_1 : decode cX7_init 1 = .ok (.invokespecial 3, 3) := by decide +kernel
theorem dX7_init_4 : decode cX7_init 4 = .ok (.aload_n 0, 1) := by decide +kernel
theorem dX7_init_5 : decode cX7_init 5 = .ok (.iconst 3, 1) := by decide +kernel
theorem dX7_init_6 : decode cX7_init 6 = .ok (.anewarray 9, 3) := by decide +kernel
theorem dX7_init_9 : decode cX7_init 9 = .ok (.putfield 11, 3) := by decide +kernel
theorem dX7_init_12 : decode cX7_init 12 = .ok (.iconst 0, 1) := by decide +kernel
theorem dX7_init_13 : decode cX7_init 13 = .ok (.istore_n 1, 1) := by decide +kernel
theorem dX7_init_14 : decode cX7_init 14 = .ok (.iload_n 1, 1) := by decide +kernel
theorem dX7_init_15 : decode cX7_init 15 = .ok (.iconst 3, 1) := by decide +kernel
theorem dX7_init_16 : decode cX7_init 16 = .ok (.if_icmp .ge 22, 3) := by decide +kernel
theorem dX7_init_19 : decode cX7_init 19 = .ok (.aload_n 0, 1) := by decide +kernel
theorem dX7_init_20 : decode cX7_init 20 = .ok (.getfield 11, 3) := by decide +kernel
theorem dX7_init_23 : decode cX7_init 23 = .ok (.iload_n 1, 1) := by decide +kernel
theorem dX7_init_24 : decode cX7_init 24 = .ok (.new 9, 3) := by decide +kernel
theorem dX7_init_27 : decode cX7_init 27 = .ok (.dup, 1) := by decide +kernel
theorem dX7_init_28 : decode cX7_init 28 = .ok (.invokespecial 17, 3) := by decide +kernel
theorem dX7_init_31 : decode cX7_init 31 = .ok (.aastore, 1) := by decide +kernel
theorem dX7_init_32 : decode cX7_init 32 = .ok (.iinc 1 1, 3) := by decide +kernel
theorem dX7_init_35 : decode cX7_init 35 = .ok (.goto (-21), 3) := by decide +kernel
theorem dX7_init_38 : decode cX7_init 38 = .ok (.return_, 1) := by decide +kernel
theorem dX7_become_0 : decode cX7_become 0 = .ok (.iconst 0, 1) := by decide +kernel
theorem dX7_become_1 : decode cX7_become 1 = .ok (.istore_n 2, 1) := by decide +kernel
theorem dX7_become_2 : decode cX7_become 2 = .ok (.iload_n 2, 1) := by decide +kernel
theorem dX7_become_3 : decode cX7_become 3 = .ok (.iconst 3, 1) := by decide +kernel
theorem dX7_become_4 : decode cX7_become 4 = .ok (.if_icmp .ge 24, 3) := by decide +kernel
theorem dX7_become_7 : decode cX7_become 7 = .ok (.aload_n 0, 1) := by decide +kernel
theorem dX7_become_8 : decode cX7_become 8 = .ok (.getfield 11, 3) := by decide +kernel
theorem dX7_become_11 : decode cX7_become 11 = .ok (.iload_n 2, 1) := by decide +kernel
theorem dX7_become_12 : decode cX7_become 12 = .ok (.aaload, 1) := by decide +kernel
theorem dX7_become_13 : decode cX7_become 13 = .ok (.aload_n 1, 1) := by decide +kernel
theorem dX7_become_14 : decode cX7_become 14 = .ok (.getfield 11, 3) := by decide +kernel
theorem dX7_become_17 : decode cX7_become 17 = .ok (.iload_n 2, 1) := by decide +kernel
theorem dX7_become_18 : decode cX7_become 18 = .ok (.aaload, 1) := by decide +kernel
theorem dX7_become_19 : decode cX7_become 19 = .ok (.invokevirtual 18, 3) := by decide +kernel
theorem dX7_become_22 : decode cX7_become 22 = .ok (.iinc 2 1, 3) := by decide +kernel
theorem dX7_become_25 : decode cX7_become 25 = .ok (.goto (-23), 3) := by decide +kernel
theorem dX7_become_28 : decode cX7_become 28 = .ok (.return_, 1) := by decide +kernel
theorem dX7_size_0 : decode cX7_size 0 = .ok (.iconst 0, 1) := by decide +kernel
theorem dX7_size_1 : decode cX7_size 1 = .ok (.istore_n 1, 1) := by decide +kernel
theorem dX7_size_2 : decode cX7_size 2 = .ok (.iconst 0, 1) := by decide +kernel
theorem dX7_size_3 : decode cX7_size 3 = .ok (.istore_n 2, 1) := by decide +kernel
theorem dX7_size_4 : decode cX7_size 4 = .ok (.iload_n 2, 1) := by decide +kernel
theorem dX7_size_5 : decode cX7_size 5 = .ok (.iconst 3, 1) := by decide +kernel
theorem dX7_size_6 : decode cX7_size 6 = .ok (.if_icmp .ge 21, 3) := by decide +kernel
theorem dX7_size_9 : decode cX7_size 9 = .ok (.iload_n 1, 1) := by decide +kernel
theorem dX7_size_10 : decode cX7_size 10 = .ok (.aload_n 0, 1) := by decide +kernel
theorem dX7_size_11 : decode cX7_size 11 = .ok (.getfield 11, 3) := by decide +kernel
theorem dX7_size_14 : decode cX7_size 14 = .ok (.iload_n 2, 1) := by decide +kernel
theorem dX7_size_15 : decode cX7_size 15 = .ok (.aaload, 1) := by decide +kernel
theorem dX7_size_16 : decode cX7_size 16 = .ok (.invokevirtual 22, 3) := by decide +kernel
theorem dX7_size_19 : decode cX7_size 19 = .ok (.iadd, 1) := by decide +kernel
theorem dX7_size_20 : decode cX7_size 20 = .ok (.istore_n 1, 1) := by decide +kernel
theorem dX7_size_21 : decode cX7_size 21 = .ok (.iinc 2 1, 3) := by decide +kernel
theorem dX7_size_24 : decode cX7_size 24 = .ok (.goto (-20), 3) := by decide +kernel
theorem dX7_size_27 : decode cX7_size 27 = .ok (.iload_n 1, 1) := by decide +kernel
theorem dX7_size_28 : decode cX7_size 28 = .ok (.ireturn, 1) := by decide +kernel
theorem dX8_init_0 : decode cX8_init 0 = .ok (.aload_n 0, 1) := by decide +kernel
theorem dX8_init_1 : decode cX8_init 1 = .ok (.invokespecial 1, 3) := by decide +kernel
theorem dX8_init_4 : decode cX8_init 4 = .ok (.aload_n 0, 1) := by decide +kernel
theorem dX8_init_5 : decode cX8_init 5 = .ok (.bipush 24, 2) := by decide +kernel
theorem dX8_init_7 : decode cX8_init 7 = .ok (.newarray .int, 2) := by decide +kernel
theorem dX8_init_9 : decode cX8_init 9 = .ok (.putfield 9, 3) := by decide +kernel
theorem dX8_init_12 : decode cX8_init 12 = .ok (.aload_n 0, 1) := by decide +kernel
theorem dX8_init_13 : decode cX8_init 13 = .ok (.bipush 24, 2) := by decide +kernel
theorem dX8_init_15 : decode cX8_init 15 = .ok (.newarray .int, 2) := by decide +kernel
theorem dX8_init_17 : decode cX8_init 17 = .ok (.putfield 13, 3) := by decide +kernel
theorem dX8_init_20 : decode cX8_init 20 = .ok (.return_, 1) := by decide +kernel
theorem dX8_gather_0 : decode cX8_gather 0 = .ok (.aload_n 0, 1) := by decide +kernel
theorem dX8_gather_1 : decode cX8_gather 1 = .ok (.iconst 0, 1) := by decide +kernel
theorem dX8_gather_2 : decode cX8_gather 2 = .ok (.putfield 16, 3) := by decide +kernel
theorem dX8_gather_5 : decode cX8_gather 5 = .ok (.aload_n 0, 1) := by decide +kernel
theorem dX8_gather_6 : decode cX8_gather 6 = .ok (.aload_n 1, 1) := by decide +kernel
theorem dX8_gather_7 : decode cX8_gather 7 = .ok (.iconst 0, 1) := by decide +kernel
theorem dX8_gather_8 : decode cX8_gather 8 = .ok (.iload_n 2, 1) := by decide +kernel
theorem dX8_gather_9 : decode cX8_gather 9 = .ok (.iload_n 3, 1) := by decide +kernel
theorem dX8_gather_10 : decode cX8_gather 10 = .ok (.iconst 0, 1) := by decide +kernel
theorem dX8_gather_11 : decode cX8_gather 11 = .ok (.iconst 0, 1) := by decide +kernel
theorem dX8_gather_12 : decode cX8_gather 12 = .ok (.invokestatic 20, 3) := by decide +kernel
theorem dX8_gather_15 : decode cX8_gather 15 = .ok (.return_, 1) := by decide +kernel
theorem dX8_goOn_0 : decode cX8_goOn 0 = .ok (.iload_n 2, 1) := by decide +kernel
theorem dX8_goOn_1 : decode cX8_goOn 1 = .ok (.aload_n 1, 1) := by decide +kernel
theorem dX8_goOn_2 : decode cX8_goOn 2 = .ok (.getfield 24, 3) := by decide +kernel
theorem dX8_goOn_5 : decode cX8_goOn 5 = .ok (.if_icmp .lt 14, 3) := by decide +kernel
theorem dX8_goOn_8 : decode cX8_goOn 8 = .ok (.aload_n 0, 1) := by decide +kernel
theorem dX8_goOn_9 : decode cX8_goOn 9 = .ok (.iload 5, 2) := by decide +kernel
theorem dX8_goOn_11 : decode cX8_goOn 11 = .ok (.iload 6, 2) := by decide +kernel
theorem dX8_goOn_13 : decode cX8_goOn 13 = .ok (.invokevirtual 29, 3) := by decide +kernel
theorem dX8_goOn_16 : decode cX8_goOn 16 = .ok (.goto 97, 3) := by decide +kernel
theorem dX8_goOn_19 : decode cX8_goOn 19 = .ok (.iload_n 3, 1) := by decide +kernel
theorem dX8_goOn_20 : decode cX8_goOn 20 = .ok (.iconst 1, 1) := by decide +kernel
theorem dX8_goOn_21 : decode cX8_goOn 21 = .ok (.iload_n 2, 1) := by decide +kernel
theorem dX8_goOn_22 : decode cX8_goOn 22 = .ok (.ishl, 1) := by decide +kernel
theorem dX8_goOn_23 : decode cX8_goOn 23 = .ok (.iand, 1) := by decide +kernel
theorem dX8_goOn_24 : decode cX8_goOn 24 = .ok (.ifCond .ne 21, 3) := by decide +kernel
theorem dX8_goOn_27 : decode cX8_goOn 27 = .ok (.aload_n 0, 1) := by decide +kernel
theorem dX8_goOn_28 : decode cX8_goOn 28 = .ok (.aload_n 1, 1) := by decide +kernel
theorem dX8_goOn_29 : decode cX8_goOn 29 = .ok (.iload_n 2, 1) := by decide +kernel
theorem dX8_goOn_30 : decode cX8_goOn 30 = .ok (.iconst 1, 1) := by decide +kernel
theorem dX8_goOn_31 : decode cX8_goOn 31 = .ok (.iadd, 1) := by decide +kernel
theorem dX8_goOn_32 : decode cX8_goOn 32 = .ok (.iload_n 3, 1) := by decide +kernel
theorem dX8_goOn_33 : decode cX8_goOn 33 = .ok (.iload 4, 2) := by decide +kernel
theorem dX8_goOn_35 : decode cX8_goOn 35 = .ok (.iload 5, 2) := by decide +kernel
theorem dX8_goOn_37 : decode cX8_goOn 37 = .ok (.iload 6, 2) := by decide +kernel
theorem dX8_goOn_39 : decode cX8_goOn 39 = .ok (.invokestatic 20, 3) := by decide +kernel
theorem dX8_goOn_42 : decode cX8_goOn 42 = .ok (.goto 71, 3) := by decide +kernel
theorem dX8_goOn_45 : decode cX8_goOn 45 = .ok (.iconst 0, 1) := by decide +kernel
theorem dX8_goOn_46 : decode cX8_goOn 46 = .ok (.istore 7, 2) := by decide +kernel
theorem dX8_goOn_48 : decode cX8_goOn 48 = .ok (.iload 7, 2) := by decide +kernel
theorem dX8_goOn_50 : decode cX8_goOn 50 = .ok (.aload_n 1, 1) := by decide +kernel
theorem dX8_goOn_51 : decode cX8_goOn 51 = .ok (.getfield 33, 3) := by decide +kernel
theorem dX8_goOn_54 : decode cX8_goOn 54 = .ok (.if_icmp .ge 59, 3) := by decide +kernel
theorem dX8_goOn_57 : decode cX8_goOn 57 = .ok (.iload 4, 2) := by decide +kernel
theorem dX8_goOn_59 : decode cX8_goOn 59 = .ok (.iconst 1, 1) := by decide +kernel
theorem dX8_goOn_60 : decode cX8_goOn 60 = .ok (.iload 7, 2) := by decide +kernel
theorem dX8_goOn_62 : decode cX8_goOn 62 = .ok (.ishl, 1) := by decide +kernel
theorem dX8_goOn_63 : decode cX8_goOn 63 = .ok (.iand, 1) := by decide +kernel
theorem dX8_goOn_64 : decode cX8_goOn 64 = .ok (.ifCond .eq 43, 3) := by decide +kernel
theorem dX8_goOn_67 : decode cX8_goOn 67 = .ok (.aload_n 0, 1) := by decide +kernel
theorem dX8_goOn_68 : decode cX8_goOn 68 = .ok (.aload_n 1, 1) := by decide +kernel
theorem dX8_goOn_69 : decode cX8_goOn 69 = .ok (.iload_n 2, 1) := by decide +kernel
theorem dX8_goOn_70 : decode cX8_goOn 70 = .ok (.iconst 1, 1) := by decide +kernel
theorem dX8_goOn_71 : decode cX8_goOn 71 = .ok (.iadd, 1) := by decide +kernel
theorem dX8_goOn_72 : decode cX8_goOn 72 = .ok (.iload_n 3, 1) := by decide +kernel
theorem dX8_goOn_73 : decode cX8_goOn 73 = .ok (.iload 4, 2) := by decide +kernel
theorem dX8_goOn_75 : decode cX8_goOn 75 = .ok (.iconst 1, 1) := by decide +kernel
theorem dX8_goOn_76 : decode cX8_goOn 76 = .ok (.iload 7, 2) := by decide +kernel
theorem dX8_goOn_78 : decode cX8_goOn 78 = .ok (.ishl, 1) := by decide +kernel
theorem dX8_goOn_79 : decode cX8_goOn 79 = .ok (.iconst (-1), 1) := by decide +kernel
theorem dX8_goOn_80 : decode cX8_goOn 80 = .ok (.ixor, 1) := by decide +kernel
theorem dX8_goOn_81 : decode cX8_goOn 81 = .ok (.iand, 1) := by decide +kernel
theorem dX8_goOn_82 : decode cX8_goOn 82 = .ok (.iload 5, 2) := by decide +kernel
theorem dX8_goOn_84 : decode cX8_goOn 84 = .ok (.aload_n 1, 1) := by decide +kernel
theorem dX8_goOn_85 : decode cX8_goOn 85 = .ok (.iload_n 2, 1) := by decide +kernel
theorem dX8_goOn_86 : decode cX8_goOn 86 = .ok (.iload 7, 2) := by decide +kernel
theorem dX8_goOn_88 : decode cX8_goOn 88 = .ok (.invokevirtual 36, 3) := by decide +kernel
theorem dX8_goOn_91 : decode cX8_goOn 91 = .ok (.iadd, 1) := by decide +kernel
theorem dX8_goOn_92 : decode cX8_goOn 92 = .ok (.iload 6, 2) := by decide +kernel
theorem dX8_goOn_94 : decode cX8_goOn 94 = .ok (.iconst 1, 1) := by decide +kernel
theorem dX8_goOn_95 : decode cX8_goOn 95 = .ok (.aload_n 1, 1) := by decide +kernel
theorem dX8_goOn_96 : decode cX8_goOn 96 = .ok (.iload_n 2, 1) := by decide +kernel
theorem dX8_goOn_97 : decode cX8_goOn 97 = .ok (.iload 7, 2) := by decide +kernel
theorem dX8_goOn_99 : decode cX8_goOn 99 = .ok (.invokevirtual 40, 3) := by decide +kernel
theorem dX8_goOn_102 : decode cX8_goOn 102 = .ok (.ishl, 1) := by decide +kernel
theorem dX8_goOn_103 : decode cX8_goOn 103 = .ok (.ior, 1) := by decide +kernel
theorem dX8_goOn_104 : decode cX8_goOn 104 = .ok (.invokestatic 20, 3) := by decide +kernel
theorem dX8_goOn_107 : decode cX8_goOn 107 = .ok (.iinc 7 1, 3) := by decide +kernel
theorem dX8_goOn_110 : decode cX8_goOn 110 = .ok (.goto (-62), 3) := by decide +kernel
theorem dX8_goOn_113 : decode cX8_goOn 113 = .ok (.return_, 1) := by decide +kernel
theorem dX8_keep_0 : decode cX8_keep 0 = .ok (.aload_n 0, 1) := by decide +kernel
theorem dX8_keep_1 : decode cX8_keep 1 = .ok (.getfield 16, 3) := by decide +kernel
theorem dX8_keep_4 : decode cX8_keep 4 = .ok (.bipush 24, 2) := by decide +kernel
theorem dX8_keep_6 : decode cX8_keep 6 = .ok (.if_icmp .ge 33, 3) := by decide +kernel
theorem dX8_keep_9 : decode cX8_keep 9 = .ok (.aload_n 0, 1) := by decide +kernel
theorem dX8_keep_10 : decode cX8_keep 10 = .ok (.getfield 9, 3) := by decide +kernel
theorem dX8_keep_13 : decode cX8_keep 13 = .ok (.aload_n 0, 1) := by decide +kernel
theorem dX8_keep_14 : decode cX8_keep 14 = .ok (.getfield 16, 3) := by decide +kernel
theorem dX8_keep_17 : decode cX8_keep 17 = .ok (.iload_n 1, 1) := by decide +kernel
theorem dX8_keep_18 : decode cX8_keep 18 = .ok (.iastore, 1) := by decide +kernel
theorem dX8_keep_19 : decode cX8_keep 19 = .ok (.aload_n 0, 1) := by decide +kernel
theorem dX8_keep_20 : decode cX8_keep 20 = .ok (.getfield 13, 3) := by decide +kernel
theorem dX8_keep_23 : decode cX8_keep 23 = .ok (.aload_n 0, 1) := by decide +kernel
theorem dX8_keep_24 : decode cX8_keep 24 = .ok (.getfield 16, 3) := by decide +kernel
theorem dX8_keep_27 : decode cX8_keep 27 = .ok (.iload_n 2, 1) := by decide +kernel
theorem dX8_keep_28 : decode cX8_keep 28 = .ok (.iastore, 1) := by decide +kernel
theorem dX8_keep_29 : decode cX8_keep 29 = .ok (.aload_n 0, 1) := by decide +kernel
theorem dX8_keep_30 : decode cX8_keep 30 = .ok (.dup, 1) := by decide +kernel
theorem dX8_keep_31 : decode cX8_keep 31 = .ok (.getfield 16, 3) := by decide +kernel
theorem dX8_keep_34 : decode cX8_keep 34 = .ok (.iconst 1, 1) := by decide +kernel
theorem dX8_keep_35 : decode cX8_keep 35 = .ok (.iadd, 1) := by decide +kernel
theorem dX8_keep_36 : decode cX8_keep 36 = .ok (.putfield 16, 3) := by decide +kernel
theorem dX8_keep_39 : decode cX8_keep 39 = .ok (.return_, 1) := by decide +kernel
theorem dX8_leastSum_0 : decode cX8_leastSum 0 = .ok (.aload_n 0, 1) := by decide +kernel
theorem dX8_leastSum_1 : decode cX8_leastSum 1 = .ok (.getfield 9, 3) := by decide +kernel
theorem dX8_leastSum_4 : decode cX8_leastSum 4 = .ok (.iconst 0, 1) := by decide +kernel
theorem dX8_leastSum_5 : decode cX8_leastSum 5 = .ok (.iaload, 1) := by decide +kernel
theorem dX8_leastSum_6 : decode cX8_leastSum 6 = .ok (.istore_n 1, 1) := by decide +kernel
theorem dX8_leastSum_7 : decode cX8_leastSum 7 = .ok (.iconst 1, 1) := by decide +kernel
theorem dX8_leastSum_8 : decode cX8_leastSum 8 = .ok (.istore_n 2, 1) := by decide +kernel
theorem dX8_leastSum_9 : decode cX8_leastSum 9 = .ok (.iload_n 2, 1) := by decide +kernel
theorem dX8_leastSum_10 : decode cX8_leastSum 10 = .ok (.aload_n 0, 1) := by decide +kernel
theorem dX8_leastSum_11 : decode cX8_leastSum 11 = .ok (.getfield 16, 3) := by decide +kernel
theorem dX8_leastSum_14 : decode cX8_leastSum 14 = .ok (.if_icmp .ge 20, 3) := by decide +kernel
theorem dX8_leastSum_17 : decode cX8_leastSum 17 = .ok (.iload_n 1, 1) := by decide +kernel
theorem dX8_leastSum_18 : decode cX8_leastSum 18 = .ok (.aload_n 0, 1) := by decide +kernel
theorem dX8_leastSum_19 : decode cX8_leastSum 19 = .ok (.getfield 9, 3) := by decide +kernel
theorem dX8_leastSum_22 : decode cX8_leastSum 22 = .ok (.iload_n 2, 1) := by decide +kernel
theorem dX8_leastSum_23 : decode cX8_leastSum 23 = .ok (.iaload, 1) := by decide +kernel
theorem dX8_leastSum_24 : decode cX8_leastSum 24 = .ok (.invokestatic 43, 3) := by decide +kernel
theorem dX8_leastSum_27 : decode cX8_leastSum 27 = .ok (.istore_n 1, 1) := by decide +kernel
theorem dX8_leastSum_28 : decode cX8_leastSum 28 = .ok (.iinc 2 1, 3) := by decide +kernel
theorem dX8_leastSum_31 : decode cX8_leastSum 31 = .ok (.goto (-22), 3) := by decide +kernel
theorem dX8_leastSum_34 : decode cX8_leastSum 34 = .ok (.iload_n 1, 1) := by decide +kernel
theorem dX8_leastSum_35 : decode cX8_leastSum 35 = .ok (.ireturn, 1) := by decide +kernel
theorem dX8_greatestSum_0 : decode cX8_greatestSum 0 = .ok (.aload_n 0, 1) := by decide +kernel
theorem dX8_greatestSum_1 : decode cX8_greatestSum 1 = .ok (.getfield 9, 3) := by decide +kernel
theorem dX8_greatestSum_4 : decode cX8_greatestSum 4 = .ok (.iconst 0, 1) := by decide +kernel
theorem dX8_greatestSum_5 : decode cX8_greatestSum 5 = .ok (.iaload, 1) := by decide +kernel
theorem dX8_greatestSum_6 : decode cX8_greatestSum 6 = .ok (.istore_n 1, 1) := by decide +kernel
theorem dX8_greatestSum_7 : decode cX8_greatestSum 7 = .ok (.iconst 1, 1) := by decide +kernel
theorem dX8_greatestSum_8 : decode cX8_greatestSum 8 = .ok (.istore_n 2, 1) := by decide +kernel
theorem dX8_greatestSum_9 : decode cX8_greatestSum 9 = .ok (.iload_n 2, 1) := by decide +kernel
theorem dX8_greatestSum_10 : decode cX8_greatestSum 10 = .ok (.aload_n 0, 1) := by decide +kernel
theorem dX8_greatestSum_11 : decode cX8_greatestSum 11 = .ok (.getfield 16, 3) := by decide +kernel
theorem dX8_greatestSum_14 : decode cX8_greatestSum 14 = .ok (.if_icmp .ge 20, 3) := by decide +kernel
theorem dX8_greatestSum_17 : decode cX8_greatestSum 17 = .ok (.iload_n 1, 1) := by decide +kernel
theorem dX8_greatestSum_18 : decode cX8_greatestSum 18 = .ok (.aload_n 0, 1) := by decide +kernel
theorem dX8_greatestSum_19 : decode cX8_greatestSum 19 = .ok (.getfield 9, 3) := by decide +kernel
theorem dX8_greatestSum_22 : decode cX8_greatestSum 22 = .ok (.iload_n 2, 1) := by decide +kernel
theorem dX8_greatestSum_23 : decode cX8_greatestSum 23 = .ok (.iaload, 1) := by decide +kernel
theorem dX8_greatestSum_24 : decode cX8_greatestSum 24 = .ok (.invokestatic 48, 3) := by decide +kernel
theorem dX8_greatestSum_27 : decode cX8_greatestSum 27 = .ok (.istore_n 1, 1) := by decide +kernel
theorem dX8_greatestSum_28 : decode cX8_greatestSum 28 = .ok (.iinc 2 1, 3) := by decide +kernel
theorem dX8_greatestSum_31 : decode cX8_greatestSum 31 = .ok (.goto (-22), 3) := by decide +kernel
theorem dX8_greatestSum_34 : decode cX8_greatestSum 34 = .ok (.iload_n 1, 1) := by decide +kernel
theorem dX8_greatestSum_35 : decode cX8_greatestSum 35 = .ok (.ireturn, 1) := by decide +kernel
theorem dX8_withLeastSum_0 : decode cX8_withLeastSum 0 = .ok (.aload_n 0, 1) := by decide +kernel
theorem dX8_withLeastSum_1 : decode cX8_withLeastSum 1 = .ok (.invokevirtual 51, 3) := by decide +kernel
theorem dX8_withLeastSum_4 : decode cX8_withLeastSum 4 = .ok (.istore_n 1, 1) := by decide +kernel
theorem dX8_withLeastSum_5 : decode cX8_withLeastSum 5 = .ok (.iconst 0, 1) := by decide +kernel
theorem dX8_withLeastSum_6 : decode cX8_withLeastSum 6 = .ok (.istore_n 2, 1) := by decide +kernel
theorem dX8_withLeastSum_7 : decode cX8_withLeastSum 7 = .ok (.iconst 0, 1) := by decide +kernel
theorem dX8_withLeastSum_8 : decode cX8_withLeastSum 8 = .ok (.istore_n 3, 1) := by decide +kernel
theorem dX8_withLeastSum_9 : decode cX8_withLeastSum 9 = .ok (.iload_n 3, 1) := by decide +kernel
theorem dX8_withLeastSum_10 : decode cX8_withLeastSum 10 = .ok (.aload_n 0, 1) := by decide +kernel
theorem dX8_withLeastSum_11 : decode cX8_withLeastSum 11 = .ok (.getfield 16, 3) := by decide +kernel
theorem dX8_withLeastSum_14 : decode cX8_withLeastSum 14 = .ok (.if_icmp .ge 22, 3) := by decide +kernel
theorem dX8_withLeastSum_17 : decode cX8_withLeastSum 17 = .ok (.aload_n 0, 1) := by decide +kernel
theorem dX8_withLeastSum_18 : decode cX8_withLeastSum 18 = .ok (.getfield 9, 3) := by decide +kernel
theorem dX8_withLeastSum_21 : decode cX8_withLeastSum 21 = .ok (.iload_n 3, 1) := by decide +kernel
theorem dX8_withLeastSum_22 : decode cX8_withLeastSum 22 = .ok (.iaload, 1) := by decide +kernel
theorem dX8_withLeastSum_23 : decode cX8_withLeastSum 23 = .ok (.iload_n 1, 1) := by decide +kernel
theorem dX8_withLeastSum_24 : decode cX8_withLeastSum 24 = .ok (.if_icmp .ne 6, 3) := by decide +kernel
theorem dX8_withLeastSum_27 : decode cX8_withLeastSum 27 = .ok (.iinc 2 1, 3) := by decide +kernel
theorem dX8_withLeastSum_30 : decode cX8_withLeastSum 30 = .ok (.iinc 3 1, 3) := by decide +kernel
theorem dX8_withLeastSum_33 : decode cX8_withLeastSum 33 = .ok (.goto (-24), 3) := by decide +kernel
theorem dX8_withLeastSum_36 : decode cX8_withLeastSum 36 = .ok (.iload_n 2, 1) := by decide +kernel
theorem dX8_withLeastSum_37 : decode cX8_withLeastSum 37 = .ok (.ireturn, 1) := by decide +kernel
theorem dX9_init_0 : decode cX9_init 0 = .ok (.aload_n 0, 1) := by decide +kernel
theorem dX9_init_1 : decode cX9_init 1 = .ok (.invokespecial 1, 3) := by decide +kernel
theorem dX9_init_4 : decode cX9_init 4 = .ok (.aload_n 0, 1) := by decide +kernel
theorem dX9_init_5 : decode cX9_init 5 = .ok (.new 7, 3) := by decide +kernel
theorem dX9_init_8 : decode cX9_init 8 = .ok (.dup, 1) := by decide +kernel
theorem dX9_init_9 : decode cX9_init 9 = .ok (.invokespecial 9, 3) := by decide +kernel
theorem dX9_init_12 : decode cX9_init 12 = .ok (.putfield 10, 3) := by decide +kernel
theorem dX9_init_15 : decode cX9_init 15 = .ok (.aload_n 0, 1) := by decide +kernel
theorem dX9_init_16 : decode cX9_init 16 = .ok (.new 16, 3) := by decide +kernel
theorem dX9_init_19 : decode cX9_init 19 = .ok (.dup, 1) := by decide +kernel
theorem dX9_init_20 : decode cX9_init 20 = .ok (.invokespecial 18, 3) := by decide +kernel
theorem dX9_init_23 : decode cX9_init 23 = .ok (.putfield 19, 3) := by decide +kernel
theorem dX9_init_26 : decode cX9_init 26 = .ok (.aload_n 0, 1) := by decide +kernel
theorem dX9_init_27 : decode cX9_init 27 = .ok (.iconst 2, 1) := by decide +kernel
theorem dX9_init_28 : decode cX9_init 28 = .ok (.anewarray 7, 3) := by decide +kernel
theorem dX9_init_31 : decode cX9_init 31 = .ok (.putfield 23, 3) := by decide +kernel
theorem dX9_init_34 : decode cX9_init 34 = .ok (.aload_n 0, 1) := by decide +kernel
theorem dX9_init_35 : decode cX9_init 35 = .ok (.iconst 2, 1) := by decide +kernel
theorem dX9_init_36 : decode cX9_init 36 = .ok (.newarray .boolean, 2) := by decide +kernel
theorem dX9_init_38 : decode cX9_init 38 = .ok (.putfield 27, 3) := by decide +kernel
theorem dX9_init_41 : decode cX9_init 41 = .ok (.aload_n 0, 1) := by decide +kernel
theorem dX9_init_42 : decode cX9_init 42 = .ok (.new 31, 3) := by decide +kernel
theorem dX9_init_45 : decode cX9_init 45 = .ok (.dup, 1) := by decide +kernel
theorem dX9_init_46 : decode cX9_init 46 = .ok (.invokespecial 33, 3) := by decide +kernel
theorem dX9_init_49 : decode cX9_init 49 = .ok (.putfield 34, 3) := by decide +kernel
theorem dX9_init_52 : decode cX9_init 52 = .ok (.aload_n 0, 1) := by decide +kernel
theorem dX9_init_53 : decode cX9_init 53 = .ok (.new 38, 3) := by decide +kernel
theorem dX9_init_56 : decode cX9_init 56 = .ok (.dup, 1) := by decide +kernel
theorem dX9_init_57 : decode cX9_init 57 = .ok (.invokespecial 40, 3) := by decide +kernel
theorem dX9_init_60 : decode cX9_init 60 = .ok (.putfield 41, 3) := by decide +kernel
theorem dX9_init_63 : decode cX9_init 63 = .ok (.aload_n 0, 1) := by decide +kernel
theorem dX9_init_64 : decode cX9_init 64 = .ok (.new 38, 3) := by decide +kernel
theorem dX9_init_67 : decode cX9_init 67 = .ok (.dup, 1) := by decide +kernel
theorem dX9_init_68 : decode cX9_init 68 = .ok (.invokespecial 40, 3) := by decide +kernel
theorem dX9_init_71 : decode cX9_init 71 = .ok (.putfield 45, 3) := by decide +kernel
theorem dX9_init_74 : decode cX9_init 74 = .ok (.aload_n 0, 1) := by decide +kernel
theorem dX9_init_75 : decode cX9_init 75 = .ok (.new 48, 3) := by decide +kernel
theorem dX9_init_78 : decode cX9_init 78 = .ok (.dup, 1) := by decide +kernel
theorem dX9_init_79 : decode cX9_init 79 = .ok (.invokespecial 50, 3) := by decide +kernel
theorem dX9_init_82 : decode cX9_init 82 = .ok (.putfield 51, 3) := by decide +kernel
theorem dX9_init_85 : decode cX9_init 85 = .ok (.aload_n 0, 1) := by decide +kernel
theorem dX9_init_86 : decode cX9_init 86 = .ok (.new 55, 3) := by decide +kernel
theorem dX9_init_89 : decode cX9_init 89 = .ok (.dup, 1) := by decide +kernel
theorem dX9_init_90 : decode cX9_init 90 = .ok (.invokespecial 57, 3) := by decide +kernel
theorem dX9_init_93 : decode cX9_init 93 = .ok (.putfield 58, 3) := by decide +kernel
theorem dX9_init_96 : decode cX9_init 96 = .ok (.aload_n 0, 1) := by decide +kernel
theorem dX9_init_97 : decode cX9_init 97 = .ok (.new 62, 3) := by decide +kernel
theorem dX9_init_100 : decode cX9_init 100 = .ok (.dup, 1) := by decide +kernel
theorem dX9_init_101 : decode cX9_init 101 = .ok (.invokespecial 64, 3) := by decide +kernel
theorem dX9_init_104 : decode cX9_init 104 = .ok (.putfield 65, 3) := by decide +kernel
theorem dX9_init_107 : decode cX9_init 107 = .ok (.aload_n 0, 1) := by decide +kernel
theorem dX9_init_108 : decode cX9_init 108 = .ok (.new 69, 3) := by decide +kernel
theorem dX9_init_111 : decode cX9_init 111 = .ok (.dup, 1) := by decide +kernel
theorem dX9_init_112 : decode cX9_init 112 = .ok (.invokespecial 71, 3) := by decide +kernel
theorem dX9_init_115 : decode cX9_init 115 = .ok (.putfield 72, 3) := by decide +kernel
theorem dX9_init_118 : decode cX9_init 118 = .ok (.iconst 0, 1) := by decide +kernel
theorem dX9_init_119 : decode cX9_init 119 = .ok (.istore_n 1, 1) := by decide +kernel
theorem dX9_init_120 : decode cX9_init 120 = .ok (.iload_n 1, 1) := by decide +kernel
theorem dX9_init_121 : decode cX9_init 121 = .ok (.iconst 2, 1) := by decide +kernel
theorem dX9_init_122 : decode cX9_init 122 = .ok (.if_icmp .ge 22, 3) := by decide +kernel
theorem dX9_init_125 : decode cX9_init 125 = .ok (.aload_n 0, 1) := by decide +kernel
theorem dX9_init_126 : decode cX9_init 126 = .ok (.getfield 23, 3) := by decide +kernel
theorem dX9_init_129 : decode cX9_init 129 = .ok (.iload_n 1, 1) := by decide +kernel
theorem dX9_init_130 : decode cX9_init 130 = .ok (.new 7, 3) := by decide +kernel
theorem dX9_init_133 : decode cX9_init 133 = .ok (.dup, 1) := by decide +kernel
theorem dX9_init_134 : decode cX9_init 134 = .ok (.invokespecial 9, 3) := by decide +kernel
theorem dX9_init_137 : decode cX9_init 137 = .ok (.aastore, 1) := by decide +kernel
theorem dX9_init_138 : decode cX9_init 138 = .ok (.iinc 1 1, 3) := by decide +kernel
theorem dX9_init_141 : decode cX9_init 141 = .ok (.goto (-21), 3) := by decide +kernel
theorem dX9_init_144 : decode cX9_init 144 = .ok (.return_, 1) := by decide +kernel
theorem dX9_load_0 : decode cX9_load 0 = .ok (.iload_n 1, 1) := by decide +kernel
theorem dX9_load_1 : decode cX9_load 1 = .ok (.invokestatic 76, 3) := by decide +kernel
theorem dX9_load_4 : decode cX9_load 4 = .ok (.ifCond .ne 5, 3) := by decide +kernel
theorem dX9_load_7 : decode cX9_load 7 = .ok (.iconst (-1), 1) := by decide +kernel
theorem dX9_load_8 : decode cX9_load 8 = .ok (.ireturn, 1) := by decide +kernel
theorem dX9_load_9 : decode cX9_load 9 = .ok (.aload_n 0, 1) := by decide +kernel
theorem dX9_load_10 : decode cX9_load 10 = .ok (.getfield 34, 3) := by decide +kernel
theorem dX9_load_13 : decode cX9_load 13 = .ok (.invokevirtual 80, 3) := by decide +kernel
theorem dX9_load_16 : decode cX9_load 16 = .ok (.bipush (-6), 2) := by decide +kernel
theorem dX9_load_18 : decode cX9_load 18 = .ok (.if_icmp .eq 6, 3) := by decide +kernel
theorem dX9_load_21 : decode cX9_load 21 = .ok (.bipush (-3), 2) := by decide +kernel
theorem dX9_load_23 : decode cX9_load 23 = .ok (.ireturn, 1) := by decide +kernel
theorem dX9_load_24 : decode cX9_load 24 = .ok (.aload_n 0, 1) := by decide +kernel
theorem dX9_load_25 : decode cX9_load 25 = .ok (.getfield 34, 3) := by decide +kernel
theorem dX9_load_28 : decode cX9_load 28 = .ok (.invokevirtual 84, 3) := by decide +kernel
theorem dX9_load_31 : decode cX9_load 31 = .ok (.aload_n 0, 1) := by decide +kernel
theorem dX9_load_32 : decode cX9_load 32 = .ok (.getfield 34, 3) := by decide +kernel
theorem dX9_load_35 : decode cX9_load 35 = .ok (.getfield 87, 3) := by decide +kernel
theorem dX9_load_38 : decode cX9_load 38 = .ok (.iconst 4, 1) := by decide +kernel
theorem dX9_load_39 : decode cX9_load 39 = .ok (.if_icmp .gt 26, 3) := by decide +kernel
theorem dX9_load_42 : decode cX9_load 42 = .ok (.aload_n 0, 1) := by decide +kernel
theorem dX9_load_43 : decode cX9_load 43 = .ok (.getfield 34, 3) := by decide +kernel
theorem dX9_load_46 : decode cX9_load 46 = .ok (.getfield 91, 3) := by decide +kernel
theorem dX9_load_49 : decode cX9_load 49 = .ok (.iconst 4, 1) := by decide +kernel
theorem dX9_load_50 : decode cX9_load 50 = .ok (.if_icmp .gt 15, 3) := by decide +kernel
theorem dX9_load_53 : decode cX9_load 53 = .ok (.aload_n 0, 1) := by decide +kernel
theorem dX9_load_54 : decode cX9_load 54 = .ok (.getfield 34, 3) := by decide +kernel
theorem dX9_load_57 : decode cX9_load 57 = .ok (.getfield 94, 3) := by decide +kernel
theorem dX9_load_60 : decode cX9_load 60 = .ok (.bipush 12, 2) := by decide +kernel
theorem dX9_load_62 : decode cX9_load 62 = .ok (.if_icmp .le 6, 3) := by decide +kernel
theorem dX9_load_65 : decode cX9_load 65 = .ok (.bipush (-4), 2) := by decide +kernel
theorem dX9_load_67 : decode cX9_load 67 = .ok (.ireturn, 1) := by decide +kernel
theorem dX9_load_68 : decode cX9_load 68 = .ok (.aload_n 0, 1) := by decide +kernel
theorem dX9_load_69 : decode cX9_load 69 = .ok (.getfield 34, 3) := by decide +kernel
theorem dX9_load_72 : decode cX9_load 72 = .ok (.getfield 91, 3) := by decide +kernel
theorem dX9_load_75 : decode cX9_load 75 = .ok (.aload_n 0, 1) := by decide +kernel
theorem dX9_load_76 : decode cX9_load 76 = .ok (.getfield 34, 3) := by decide +kernel
theorem dX9_load_79 : decode cX9_load 79 = .ok (.getfield 97, 3) := by decide +kernel
theorem dX9_load_82 : decode cX9_load 82 = .ok (.if_icmp .eq 6, 3) := by decide +kernel
theorem dX9_load_85 : decode cX9_load 85 = .ok (.bipush (-2), 2) := by decide +kernel
theorem dX9_load_87 : decode cX9_load 87 = .ok (.ireturn, 1) := by decide +kernel
theorem dX9_load_88 : decode cX9_load 88 = .ok (.aload_n 0, 1) := by decide +kernel
theorem dX9_load_89 : decode cX9_load 89 = .ok (.getfield 19, 3) := by decide +kernel
theorem dX9_load_92 : decode cX9_load 92 = .ok (.aload_n 0, 1) := by decide +kernel
theorem dX9_load_93 : decode cX9_load 93 = .ok (.getfield 10, 3) := by decide +kernel
theorem dX9_load_96 : decode cX9_load 96 = .ok (.invokevirtual 100, 3) := by decide +kernel
theorem dX9_load_99 : decode cX9_load 99 = .ok (.aload_n 0, 1) := by decide +kernel
theorem dX9_load_100 : decode cX9_load 100 = .ok (.getfield 10, 3) := by decide +kernel
theorem dX9_load_103 : decode cX9_load 103 = .ok (.getfield 104, 3) := by decide +kernel
theorem dX9_load_106 : decode cX9_load 106 = .ok (.iload_n 1, 1) := by decide +kernel
theorem dX9_load_107 : decode cX9_load 107 = .ok (.aaload, 1) := by decide +kernel
theorem dX9_load_108 : decode cX9_load 108 = .ok (.astore_n 2, 1) := by decide +kernel
theorem dX9_load_109 : decode cX9_load 109 = .ok (.aload_n 0, 1) := by decide +kernel
theorem dX9_load_110 : decode cX9_load 110 = .ok (.getfield 34, 3) := by decide +kernel
theorem dX9_load_113 : decode cX9_load 113 = .ok (.aload_n 2, 1) := by decide +kernel
theorem dX9_load_114 : decode cX9_load 114 = .ok (.invokevirtual 108, 3) := by decide +kernel
theorem dX9_load_117 : decode cX9_load 117 = .ok (.aload_n 0, 1) := by decide +kernel
theorem dX9_load_118 : decode cX9_load 118 = .ok (.getfield 34, 3) := by decide +kernel
theorem dX9_load_121 : decode cX9_load 121 = .ok (.iconst 0, 1) := by decide +kernel
theorem dX9_load_122 : decode cX9_load 122 = .ok (.putfield 112, 3) := by decide +kernel
theorem dX9_load_125 : decode cX9_load 125 = .ok (.aload_n 2, 1) := by decide +kernel
theorem dX9_load_126 : decode cX9_load 126 = .ok (.invokevirtual 115, 3) := by decide +kernel
theorem dX9_load_129 : decode cX9_load 129 = .ok (.ireturn, 1) := by decide +kernel
theorem dX9_set_0 : decode cX9_set 0 = .ok (.iload_n 1, 1) := by decide +kernel
theorem dX9_set_1 : decode cX9_set 1 = .ok (.invokestatic 76, 3) := by decide +kernel
theorem dX9_set_4 : decode cX9_set 4 = .ok (.ifCond .eq 20, 3) := by decide +kernel
theorem dX9_set_7 : decode cX9_set 7 = .ok (.aload_n 0, 1) := by decide +kernel
theorem dX9_set_8 : decode cX9_set 8 = .ok (.getfield 10, 3) := by decide +kernel
theorem dX9_set_11 : decode cX9_set 11 = .ok (.getfield 104, 3) := by decide +kernel
theorem dX9_set_14 : decode cX9_set 14 = .ok (.iload_n 1, 1) := by decide +kernel
theorem dX9_set_15 : decode cX9_set 15 = .ok (.aaload, 1) := by decide +kernel
theorem dX9_set_16 : decode cX9_set 16 = .ok (.iload_n 2, 1) := by decide +kernel
theorem dX9_set_17 : decode cX9_set 17 = .ok (.iload_n 3, 1) := by decide +kernel
theorem dX9_set_18 : decode cX9_set 18 = .ok (.invokevirtual 118, 3) := by decide +kernel
theorem dX9_set_21 : decode cX9_set 21 = .ok (.ifCond .ne 5, 3) := by decide +kernel
theorem dX9_set_24 : decode cX9_set 24 = .ok (.iconst (-1), 1) := by decide +kernel
theorem dX9_set_25 : decode cX9_set 25 = .ok (.ireturn, 1) := by decide +kernel
theorem dX9_set_26 : decode cX9_set 26 = .ok (.iload 4, 2) := by decide +kernel
theorem dX9_set_28 : decode cX9_set 28 = .ok (.invokestatic 122, 3) := by decide +kernel
theorem dX9_set_31 : decode cX9_set 31 = .ok (.ifCond .ne 6, 3) := by decide +kernel
theorem dX9_set_34 : decode cX9_set 34 = .ok (.bipush (-2), 2) := by decide +kernel
theorem dX9_set_36 : decode cX9_set 36 = .ok (.ireturn, 1) := by decide +kernel
theorem dX9_set_37 : decode cX9_set 37 = .ok (.aload_n 0, 1) := by decide +kernel
theorem dX9_set_38 : decode cX9_set 38 = .ok (.getfield 10, 3) := by decide +kernel
theorem dX9_set_41 : decode cX9_set 41 = .ok (.getfield 104, 3) := by decide +kernel
theorem dX9_set_44 : decode cX9_set 44 = .ok (.iload_n 1, 1) := by decide +kernel
theorem dX9_set_45 : decode cX9_set 45 = .ok (.aaload, 1) := by decide +kernel
theorem dX9_set_46 : decode cX9_set 46 = .ok (.astore 5, 2) := by decide +kernel
theorem dX9_set_48 : decode cX9_set 48 = .ok (.aload 5, 2) := by decide +kernel
theorem dX9_set_50 : decode cX9_set 50 = .ok (.iload_n 2, 1) := by decide +kernel
theorem dX9_set_51 : decode cX9_set 51 = .ok (.iload_n 3, 1) := by decide +kernel
theorem dX9_set_52 : decode cX9_set 52 = .ok (.invokevirtual 125, 3) := by decide +kernel
theorem dX9_set_55 : decode cX9_set 55 = .ok (.istore 6, 2) := by decide +kernel
theorem dX9_set_57 : decode cX9_set 57 = .ok (.aload_n 0, 1) := by decide +kernel
theorem dX9_set_58 : decode cX9_set 58 = .ok (.getfield 19, 3) := by decide +kernel
theorem dX9_set_61 : decode cX9_set 61 = .ok (.aload_n 0, 1) := by decide +kernel
theorem dX9_set_62 : decode cX9_set 62 = .ok (.getfield 10, 3) := by decide +kernel
theorem dX9_set_65 : decode cX9_set 65 = .ok (.invokevirtual 100, 3) := by decide +kernel
theorem dX9_set_68 : decode cX9_set 68 = .ok (.aload 5, 2) := by decide +kernel
theorem dX9_set_70 : decode cX9_set 70 = .ok (.iload_n 2, 1) := by decide +kernel
theorem dX9_set_71 : decode cX9_set 71 = .ok (.iload_n 3, 1) := by decide +kernel
theorem dX9_set_72 : decode cX9_set 72 = .ok (.iload 4, 2) := by decide +kernel
theorem dX9_set_74 : decode cX9_set 74 = .ok (.invokevirtual 129, 3) := by decide +kernel
theorem dX9_set_77 : decode cX9_set 77 = .ok (.iload 6, 2) := by decide +kernel
theorem dX9_set_79 : decode cX9_set 79 = .ok (.ireturn, 1) := by decide +kernel
theorem dX9_raise_0 : decode cX9_raise 0 = .ok (.iload_n 1, 1) := by decide +kernel
theorem dX9_raise_1 : decode cX9_raise 1 = .ok (.invokestatic 76, 3) := by decide +kernel
theorem dX9_raise_4 : decode cX9_raise 4 = .ok (.ifCond .eq 20, 3) := by decide +kernel
theorem dX9_raise_7 : decode cX9_raise 7 = .ok (.aload_n 0, 1) := by decide +kernel
theorem dX9_raise_8 : decode cX9_raise 8 = .ok (.getfield 10, 3) := by decide +kernel
theorem dX9_raise_11 : decode cX9_raise 11 = .ok (.getfield 104, 3) := by decide +kernel
theorem dX9_raise_14 : decode cX9_raise 14 = .ok (.iload_n 1, 1) := by decide +kernel
theorem dX9_raise_15 : decode cX9_raise 15 = .ok (.aaload, 1) := by decide +kernel
theorem dX9_raise_16 : decode cX9_raise 16 = .ok (.iload_n 2, 1) := by decide +kernel
theorem dX9_raise_17 : decode cX9_raise 17 = .ok (.iload_n 3, 1) := by decide +kernel
theorem dX9_raise_18 : decode cX9_raise 18 = .ok (.invokevirtual 133, 3) := by decide +kernel
theorem dX9_raise_21 : decode cX9_raise 21 = .ok (.ifCond .ne 5, 3) := by decide +kernel
theorem dX9_raise_24 : decode cX9_raise 24 = .ok (.iconst (-1), 1) := by decide +kernel
theorem dX9_raise_25 : decode cX9_raise 25 = .ok (.ireturn, 1) := by decide +kernel
theorem dX9_raise_26 : decode cX9_raise 26 = .ok (.iload 4, 2) := by decide +kernel
theorem dX9_raise_28 : decode cX9_raise 28 = .ok (.sipush (-999), 3) := by decide +kernel
theorem dX9_raise_31 : decode cX9_raise 31 = .ok (.if_icmp .lt 11, 3) := by decide +kernel
theorem dX9_raise_34 : decode cX9_raise 34 = .ok (.iload 4, 2) := by decide +kernel
theorem dX9_raise_36 : decode cX9_raise 36 = .ok (.sipush 999, 3) := by decide +kernel
theorem dX9_raise_39 : decode cX9_raise 39 = .ok (.if_icmp .le 6, 3) := by decide +kernel
theorem dX9_raise_42 : decode cX9_raise 42 = .ok (.bipush (-2), 2) := by decide +kernel
theorem dX9_raise_44 : decode cX9_raise 44 = .ok (.ireturn, 1) := by decide +kernel
theorem dX9_raise_45 : decode cX9_raise 45 = .ok (.aload_n 0, 1) := by decide +kernel
theorem dX9_raise_46 : decode cX9_raise 46 = .ok (.getfield 10, 3) := by decide +kernel
theorem dX9_raise_49 : decode cX9_raise 49 = .ok (.getfield 104, 3) := by decide +kernel
theorem dX9_raise_52 : decode cX9_raise 52 = .ok (.iload_n 1, 1) := by decide +kernel
theorem dX9_raise_53 : decode cX9_raise 53 = .ok (.aaload, 1) := by decide +kernel
theorem dX9_raise_54 : decode cX9_raise 54 = .ok (.astore 5, 2) := by decide +kernel
theorem dX9_raise_56 : decode cX9_raise 56 = .ok (.aload 5, 2) := by decide +kernel
theorem dX9_raise_58 : decode cX9_raise 58 = .ok (.iload_n 2, 1) := by decide +kernel
theorem dX9_raise_59 : decode cX9_raise 59 = .ok (.iload_n 3, 1) := by decide +kernel
theorem dX9_raise_60 : decode cX9_raise 60 = .ok (.iload 4, 2) := by decide +kernel
theorem dX9_raise_62 : decode cX9_raise 62 = .ok (.invokevirtual 137, 3) := by decide +kernel
theorem dX9_raise_65 : decode cX9_raise 65 = .ok (.ifCond .ne 6, 3) := by decide +kernel
theorem dX9_raise_68 : decode cX9_raise 68 = .ok (.bipush (-5), 2) := by decide +kernel
theorem dX9_raise_70 : decode cX9_raise 70 = .ok (.ireturn, 1) := by decide +kernel
theorem dX9_raise_71 : decode cX9_raise 71 = .ok (.aload_n 0, 1) := by decide +kernel
theorem dX9_raise_72 : decode cX9_raise 72 = .ok (.getfield 19, 3) := by decide +kernel
theorem dX9_raise_75 : decode cX9_raise 75 = .ok (.aload_n 0, 1) := by decide +kernel
theorem dX9_raise_76 : decode cX9_raise 76 = .ok (.getfield 10, 3) := by decide +kernel
theorem dX9_raise_79 : decode cX9_raise 79 = .ok (.invokevirtual 100, 3) := by decide +kernel
theorem dX9_raise_82 : decode cX9_raise 82 = .ok (.aload 5, 2) := by decide +kernel
theorem dX9_raise_84 : decode cX9_raise 84 = .ok (.iload_n 2, 1) := by decide +kernel
theorem dX9_raise_85 : decode cX9_raise 85 = .ok (.iload_n 3, 1) := by decide +kernel
theorem dX9_raise_86 : decode cX9_raise 86 = .ok (.iload 4, 2) := by decide +kernel
theorem dX9_raise_88 : decode cX9_raise 88 = .ok (.invokevirtual 141, 3) := by decide +kernel
theorem dX9_raise_91 : decode cX9_raise 91 = .ok (.aload 5, 2) := by decide +kernel
theorem dX9_raise_93 : decode cX9_raise 93 = .ok (.invokevirtual 145, 3) := by decide +kernel
theorem dX9_raise_96 : decode cX9_raise 96 = .ok (.ireturn, 1) := by decide +kernel
theorem dX9_exchange_0 : decode cX9_exchange 0 = .ok (.iload_n 1, 1) := by decide +kernel
theorem dX9_exchange_1 : decode cX9_exchange 1 = .ok (.invokestatic 76, 3) := by decide +kernel
theorem dX9_exchange_4 : decode cX9_exchange 4 = .ok (.ifCond .eq 38, 3) := by decide +kernel
theorem dX9_exchange_7 : decode cX9_exchange 7 = .ok (.aload_n 0, 1) := by decide +kernel
theorem dX9_exchange_8 : decode cX9_exchange 8 = .ok (.getfield 10, 3) := by decide +kernel
theorem dX9_exchange_11 : decode cX9_exchange 11 = .ok (.getfield 104, 3) := by decide +kernel
theorem dX9_exchange_14 : decode cX9_exchange 14 = .ok (.iload_n 1, 1) := by decide +kernel
theorem dX9_exchange_15 : decode cX9_exchange 15 = .ok (.aaload, 1) := by decide +kernel
theorem dX9_exchange_16 : decode cX9_exchange 16 = .ok (.iload_n 2, 1) := by decide +kernel
theorem dX9_exchange_17 : decode cX9_exchange 17 = .ok (.iload_n 3, 1) := by decide +kernel
theorem dX9_exchange_18 : decode cX9_exchange 18 = .ok (.invokevirtual 133, 3) := by decide +kernel
theorem dX9_exchange_21 : decode cX9_exchange 21 = .ok (.ifCond .eq 21, 3) := by decide +kernel
theorem dX9_exchange_24 : decode cX9_exchange 24 = .ok (.aload_n 0, 1) := by decide +kernel
theorem dX9_exchange_25 : decode cX9_exchange 25 = .ok (.getfield 10, 3) := by decide +kernel
theorem dX9_exchange_28 : decode cX9_exchange 28 = .ok (.getfield 104, 3) := by decide +kernel
theorem dX9_exchange_31 : decode cX9_exchange 31 = .ok (.iload_n 1, 1) := by decide +kernel
theorem dX9_exchange_32 : decode cX9_exchange 32 = .ok (.aaload, 1) := by decide +kernel
theorem dX9_exchange_33 : decode cX9_exchange 33 = .ok (.iload_n 2, 1) := by decide +kernel
theorem dX9_exchange_34 : decode cX9_exchange 34 = .ok (.iload 4, 2) := by decide +kernel
theorem dX9_exchange_36 : decode cX9_exchange 36 = .ok (.invokevirtual 133, 3) := by decide +kernel
theorem dX9_exchange_39 : decode cX9_exchange 39 = .ok (.ifCond .ne 5, 3) := by decide +kernel
theorem dX9_exchange_42 : decode cX9_exchange 42 = .ok (.iconst (-1), 1) := by decide +kernel
theorem dX9_exchange_43 : decode cX9_exchange 43 = .ok (.ireturn, 1) := by decide +kernel
theorem dX9_exchange_44 : decode cX9_exchange 44 = .ok (.iload_n 3, 1) := by decide +kernel
theorem dX9_exchange_45 : decode cX9_exchange 45 = .ok (.iload 4, 2) := by decide +kernel
theorem dX9_exchange_47 : decode cX9_exchange 47 = .ok (.if_icmp .ne 6, 3) := by decide +kernel
theorem dX9_exchange_50 : decode cX9_exchange 50 = .ok (.bipush (-2), 2) := by decide +kernel
theorem dX9_exchange_52 : decode cX9_exchange 52 = .ok (.ireturn, 1) := by decide +kernel
theorem dX9_exchange_53 : decode cX9_exchange 53 = .ok (.aload_n 0, 1) := by decide +kernel
theorem dX9_exchange_54 : decode cX9_exchange 54 = .ok (.getfield 19, 3) := by decide +kernel
theorem dX9_exchange_57 : decode cX9_exchange 57 = .ok (.aload_n 0, 1) := by decide +kernel
theorem dX9_exchange_58 : decode cX9_exchange 58 = .ok (.getfield 10, 3) := by decide +kernel
theorem dX9_exchange_61 : decode cX9_exchange 61 = .ok (.invokevirtual 100, 3) := by decide +kernel
theorem dX9_exchange_64 : decode cX9_exchange 64 = .ok (.aload_n 0, 1) := by decide +kernel
theorem dX9_exchange_65 : decode cX9_exchange 65 = .ok (.getfield 10, 3) := by decide +kernel
theorem dX9_exchange_68 : decode cX9_exchange 68 = .ok (.getfield 104, 3) := by decide +kernel
theorem dX9_exchange_71 : decode cX9_exchange 71 = .ok (.iload_n 1, 1) := by decide +kernel
theorem dX9_exchange_72 : decode cX9_exchange 72 = .ok (.aaload, 1) := by decide +kernel
theorem dX9_exchange_73 : decode cX9_exchange 73 = .ok (.iload_n 2, 1) := by decide +kernel
theorem dX9_exchange_74 : decode cX9_exchange 74 = .ok (.iload_n 3, 1) := by decide +kernel
theorem dX9_exchange_75 : decode cX9_exchange 75 = .ok (.iload 4, 2) := by decide +kernel
theorem dX9_exchange_77 : decode cX9_exchange 77 = .ok (.invokevirtual 148, 3) := by decide +kernel
theorem dX9_exchange_80 : decode cX9_exchange 80 = .ok (.ifCond .eq 7, 3) := by decide +kernel
theorem dX9_exchange_83 : decode cX9_exchange 83 = .ok (.iconst 1, 1) := by decide +kernel
theorem dX9_exchange_84 : decode cX9_exchange 84 = .ok (.goto 4, 3) := by decide +kernel
theorem dX9_exchange_87 : decode cX9_exchange 87 = .ok (.iconst 0, 1) := by decide +kernel
theorem dX9_exchange_88 : decode cX9_exchange 88 = .ok (.ireturn, 1) := by decide +kernel
theorem dX9_drop_0 : decode cX9_drop 0 = .ok (.iload_n 1, 1) := by decide +kernel
theorem dX9_drop_1 : decode cX9_drop 1 = .ok (.invokestatic 76, 3) := by decide +kernel
theorem dX9_drop_4 : decode cX9_drop 4 = .ok (.ifCond .eq 20, 3) := by decide +kernel
theorem dX9_drop_7 : decode cX9_drop 7 = .ok (.aload_n 0, 1) := by decide +kernel
theorem dX9_drop_8 : decode cX9_drop 8 = .ok (.getfield 10, 3) := by decide +kernel
theorem dX9_drop_11 : decode cX9_drop 11 = .ok (.getfield 104, 3) := by decide +kernel
theorem dX9_drop_14 : decode cX9_drop 14 = .ok (.iload_n 1, 1) := by decide +kernel
theorem dX9_drop_15 : decode cX9_drop 15 = .ok (.aaload, 1) := by decide +kernel
theorem dX9_drop_16 : decode cX9_drop 16 = .ok (.iload_n 2, 1) := by decide +kernel
theorem dX9_drop_17 : decode cX9_drop 17 = .ok (.iload_n 3, 1) := by decide +kernel
theorem dX9_drop_18 : decode cX9_drop 18 = .ok (.invokevirtual 133, 3) := by decide +kernel
theorem dX9_drop_21 : decode cX9_drop 21 = .ok (.ifCond .ne 5, 3) := by decide +kernel
theorem dX9_drop_24 : decode cX9_drop 24 = .ok (.iconst (-1), 1) := by decide +kernel
theorem dX9_drop_25 : decode cX9_drop 25 = .ok (.ireturn, 1) := by decide +kernel
theorem dX9_drop_26 : decode cX9_drop 26 = .ok (.aload_n 0, 1) := by decide +kernel
theorem dX9_drop_27 : decode cX9_drop 27 = .ok (.getfield 10, 3) := by decide +kernel
theorem dX9_drop_30 : decode cX9_drop 30 = .ok (.getfield 104, 3) := by decide +kernel
theorem dX9_drop_33 : decode cX9_drop 33 = .ok (.iload_n 1, 1) := by decide +kernel
theorem dX9_drop_34 : decode cX9_drop 34 = .ok (.aaload, 1) := by decide +kernel
theorem dX9_drop_35 : decode cX9_drop 35 = .ok (.astore 4, 2) := by decide +kernel
theorem dX9_drop_37 : decode cX9_drop 37 = .ok (.aload 4, 2) := by decide +kernel
theorem dX9_drop_39 : decode cX9_drop 39 = .ok (.iload_n 2, 1) := by decide +kernel
theorem dX9_drop_40 : decode cX9_drop 40 = .ok (.invokevirtual 151, 3) := by decide +kernel
theorem dX9_drop_43 : decode cX9_drop 43 = .ok (.iconst 1, 1) := by decide +kernel
theorem dX9_drop_44 : decode cX9_drop 44 = .ok (.if_icmp .ne 6, 3) := by decide +kernel
theorem dX9_drop_47 : decode cX9_drop 47 = .ok (.bipush (-5), 2) := by decide +kernel
theorem dX9_drop_49 : decode cX9_drop 49 = .ok (.ireturn, 1) := by decide +kernel
theorem dX9_drop_50 : decode cX9_drop 50 = .ok (.aload_n 0, 1) := by decide +kernel
theorem dX9_drop_51 : decode cX9_drop 51 = .ok (.getfield 19, 3) := by decide +kernel
theorem dX9_drop_54 : decode cX9_drop 54 = .ok (.aload_n 0, 1) := by decide +kernel
theorem dX9_drop_55 : decode cX9_drop 55 = .ok (.getfield 10, 3) := by decide +kernel
theorem dX9_drop_58 : decode cX9_drop 58 = .ok (.invokevirtual 100, 3) := by decide +kernel
theorem dX9_drop_61 : decode cX9_drop 61 = .ok (.aload 4, 2) := by decide +kernel
theorem dX9_drop_63 : decode cX9_drop 63 = .ok (.iload_n 2, 1) := by decide +kernel
theorem dX9_drop_64 : decode cX9_drop 64 = .ok (.iload_n 3, 1) := by decide +kernel
theorem dX9_drop_65 : decode cX9_drop 65 = .ok (.invokevirtual 155, 3) := by decide +kernel
theorem dX9_drop_68 : decode cX9_drop 68 = .ok (.aload 4, 2) := by decide +kernel
theorem dX9_drop_70 : decode cX9_drop 70 = .ok (.invokevirtual 115, 3) := by decide +kernel
theorem dX9_drop_73 : decode cX9_drop 73 = .ok (.ireturn, 1) := by decide +kernel
theorem dX9_turn_0 : decode cX9_turn 0 = .ok (.iload_n 1, 1) := by decide +kernel
theorem dX9_turn_1 : decode cX9_turn 1 = .ok (.invokestatic 76, 3) := by decide +kernel
theorem dX9_turn_4 : decode cX9_turn 4 = .ok (.ifCond .ne 5, 3) := by decide +kernel
theorem dX9_turn_7 : decode cX9_turn 7 = .ok (.iconst (-1), 1) := by decide +kernel
theorem dX9_turn_8 : decode cX9_turn 8 = .ok (.ireturn, 1) := by decide +kernel
theorem dX9_turn_9 : decode cX9_turn 9 = .ok (.aload_n 0, 1) := by decide +kernel
theorem dX9_turn_10 : decode cX9_turn 10 = .ok (.getfield 19, 3) := by decide +kernel
theorem dX9_turn_13 : decode cX9_turn 13 = .ok (.aload_n 0, 1) := by decide +kernel
theorem dX9_turn_14 : decode cX9_turn 14 = .ok (.getfield 10, 3) := by decide +kernel
theorem dX9_turn_17 : decode cX9_turn 17 = .ok (.invokevirtual 100, 3) := by decide +kernel
theorem dX9_turn_20 : decode cX9_turn 20 = .ok (.aload_n 0, 1) := by decide +kernel
theorem dX9_turn_21 : decode cX9_turn 21 = .ok (.getfield 10, 3) := by decide +kernel
theorem dX9_turn_24 : decode cX9_turn 24 = .ok (.getfield 104, 3) := by decide +kernel
theorem dX9_turn_27 : decode cX9_turn 27 = .ok (.iload_n 1, 1) := by decide +kernel
theorem dX9_turn_28 : decode cX9_turn 28 = .ok (.aaload, 1) := by decide +kernel
theorem dX9_turn_29 : decode cX9_turn 29 = .ok (.astore_n 2, 1) := by decide +kernel
theorem dX9_turn_30 : decode cX9_turn 30 = .ok (.aload_n 0, 1) := by decide +kernel
theorem dX9_turn_31 : decode cX9_turn 31 = .ok (.getfield 45, 3) := by decide +kernel
theorem dX9_turn_34 : decode cX9_turn 34 = .ok (.aload_n 2, 1) := by decide +kernel
theorem dX9_turn_35 : decode cX9_turn 35 = .ok (.invokevirtual 159, 3) := by decide +kernel
theorem dX9_turn_38 : decode cX9_turn 38 = .ok (.aload_n 2, 1) := by decide +kernel
theorem dX9_turn_39 : decode cX9_turn 39 = .ok (.aload_n 0, 1) := by decide +kernel
theorem dX9_turn_40 : decode cX9_turn 40 = .ok (.getfield 45, 3) := by decide +kernel
theorem dX9_turn_43 : decode cX9_turn 43 = .ok (.invokevirtual 162, 3) := by decide +kernel
theorem dX9_turn_46 : decode cX9_turn 46 = .ok (.aload_n 2, 1) := by decide +kernel
theorem dX9_turn_47 : decode cX9_turn 47 = .ok (.getfield 165, 3) := by decide +kernel
theorem dX9_turn_50 : decode cX9_turn 50 = .ok (.ireturn, 1) := by decide +kernel
theorem dX9_product_0 : decode cX9_product 0 = .ok (.iload_n 1, 1) := by decide +kernel
theorem dX9_product_1 : decode cX9_product 1 = .ok (.invokestatic 76, 3) := by decide +kernel
theorem dX9_product_4 : decode cX9_product 4 = .ok (.ifCond .eq 17, 3) := by decide +kernel
theorem dX9_product_7 : decode cX9_product 7 = .ok (.iload_n 2, 1) := by decide +kernel
theorem dX9_product_8 : decode cX9_product 8 = .ok (.invokestatic 76, 3) := by decide +kernel
theorem dX9_product_11 : decode cX9_product 11 = .ok (.ifCond .eq 10, 3) := by decide +kernel
theorem dX9_product_14 : decode cX9_product 14 = .ok (.iload_n 3, 1) := by decide +kernel
theorem dX9_product_15 : decode cX9_product 15 = .ok (.invokestatic 76, 3) := by decide +kernel
theorem dX9_product_18 : decode cX9_product 18 = .ok (.ifCond .ne 5, 3) := by decide +kernel
theorem dX9_product_21 : decode cX9_product 21 = .ok (.iconst (-1), 1) := by decide +kernel
theorem dX9_product_22 : decode cX9_product 22 = .ok (.ireturn, 1) := by decide +kernel
theorem dX9_product_23 : decode cX9_product 23 = .ok (.aload_n 0, 1) := by decide +kernel
theorem dX9_product_24 : decode cX9_product 24 = .ok (.getfield 10, 3) := by decide +kernel
theorem dX9_product_27 : decode cX9_product 27 = .ok (.getfield 104, 3) := by decide +kernel
theorem dX9_product_30 : decode cX9_product 30 = .ok (.iload_n 1, 1) := by decide +kernel
theorem dX9_product_31 : decode cX9_product 31 = .ok (.aaload, 1) := by decide +kernel
theorem dX9_product_32 : decode cX9_product 32 = .ok (.astore 4, 2) := by decide +kernel
theorem dX9_product_34 : decode cX9_product 34 = .ok (.aload_n 0, 1) := by decide +kernel
theorem dX9_product_35 : decode cX9_product 35 = .ok (.getfield 10, 3) := by decide +kernel
theorem dX9_product_38 : decode cX9_product 38 = .ok (.getfield 104, 3) := by decide +kernel
theorem dX9_product_41 : decode cX9_product 41 = .ok (.iload_n 2, 1) := by decide +kernel
theorem dX9_product_42 : decode cX9_product 42 = .ok (.aaload, 1) := by decide +kernel
theorem dX9_product_43 : decode cX9_product 43 = .ok (.astore 5, 2) := by decide +kernel
theorem dX9_product_45 : decode cX9_product 45 = .ok (.aload 4, 2) := by decide +kernel
theorem dX9_product_47 : decode cX9_product 47 = .ok (.getfield 166, 3) := by decide +kernel
theorem dX9_product_50 : decode cX9_product 50 = .ok (.aload 5, 2) := by decide +kernel
theorem dX9_product_52 : decode cX9_product 52 = .ok (.getfield 165, 3) := by decide +kernel
theorem dX9_product_55 : decode cX9_product 55 = .ok (.if_icmp .eq 6, 3) := by decide +kernel
theorem dX9_product_58 : decode cX9_product 58 = .ok (.bipush (-5), 2) := by decide +kernel
theorem dX9_product_60 : decode cX9_product 60 = .ok (.ireturn, 1) := by decide +kernel
theorem dX9_product_61 : decode cX9_product 61 = .ok (.aload 4, 2) := by decide +kernel
theorem dX9_product_63 : decode cX9_product 63 = .ok (.getfield 165, 3) := by decide +kernel
theorem dX9_product_66 : decode cX9_product 66 = .ok (.aload 5, 2) := by decide +kernel
theorem dX9_product_68 : decode cX9_product 68 = .ok (.getfield 166, 3) := by decide +kernel
theorem dX9_product_71 : decode cX9_product 71 = .ok (.imul, 1) := by decide +kernel
theorem dX9_product_72 : decode cX9_product 72 = .ok (.bipush 12, 2) := by decide +kernel
theorem dX9_product_74 : decode cX9_product 74 = .ok (.if_icmp .le 6, 3) := by decide +kernel
theorem dX9_product_77 : decode cX9_product 77 = .ok (.bipush (-4), 2) := by decide +kernel
theorem dX9_product_79 : decode cX9_product 79 = .ok (.ireturn, 1) := by decide +kernel
theorem dX9_product_80 : decode cX9_product 80 = .ok (.aload_n 0, 1) := by decide +kernel
theorem dX9_product_81 : decode cX9_product 81 = .ok (.getfield 41, 3) := by decide +kernel
theorem dX9_product_84 : decode cX9_product 84 = .ok (.aload 4, 2) := by decide +kernel
theorem dX9_product_86 : decode cX9_product 86 = .ok (.aload 5, 2) := by decide +kernel
theorem dX9_product_88 : decode cX9_product 88 = .ok (.invokevirtual 169, 3) := by decide +kernel
theorem dX9_product_91 : decode cX9_product 91 = .ok (.aload_n 0, 1) := by decide +kernel
theorem dX9_product_92 : decode cX9_product 92 = .ok (.getfield 41, 3) := by decide +kernel
theorem dX9_product_95 : decode cX9_product 95 = .ok (.invokevirtual 145, 3) := by decide +kernel
theorem dX9_product_98 : decode cX9_product 98 = .ok (.sipush 999, 3) := by decide +kernel
theorem dX9_product_101 : decode cX9_product 101 = .ok (.if_icmp .le 6, 3) := by decide +kernel
theorem dX9_product_104 : decode cX9_product 104 = .ok (.bipush (-4), 2) := by decide +kernel
theorem dX9_product_106 : decode cX9_product 106 = .ok (.ireturn, 1) := by decide +kernel
theorem dX9_product_107 : decode cX9_product 107 = .ok (.aload_n 0, 1) := by decide +kernel
theorem dX9_product_108 : decode cX9_product 108 = .ok (.getfield 19, 3) := by decide +kernel
theorem dX9_product_111 : decode cX9_product 111 = .ok (.aload_n 0, 1) := by decide +kernel
theorem dX9_product_112 : decode cX9_product 112 = .ok (.getfield 10, 3) := by decide +kernel
theorem dX9_product_115 : decode cX9_product 115 = .ok (.invokevirtual 100, 3) := by decide +kernel
theorem dX9_product_118 : decode cX9_product 118 = .ok (.aload_n 0, 1) := by decide +kernel
theorem dX9_product_119 : decode cX9_product 119 = .ok (.getfield 10, 3) := by decide +kernel
theorem dX9_product_122 : decode cX9_product 122 = .ok (.getfield 104, 3) := by decide +kernel
theorem dX9_product_125 : decode cX9_product 125 = .ok (.iload_n 3, 1) := by decide +kernel
theorem dX9_product_126 : decode cX9_product 126 = .ok (.aaload, 1) := by decide +kernel
theorem dX9_product_127 : decode cX9_product 127 = .ok (.aload_n 0, 1) := by decide +kernel
theorem dX9_product_128 : decode cX9_product 128 = .ok (.getfield 41, 3) := by decide +kernel
theorem dX9_product_131 : decode cX9_product 131 = .ok (.invokevirtual 162, 3) := by decide +kernel
theorem dX9_product_134 : decode cX9_product 134 = .ok (.aload_n 0, 1) := by decide +kernel
theorem dX9_product_135 : decode cX9_product 135 = .ok (.getfield 41, 3) := by decide +kernel
theorem dX9_product_138 : decode cX9_product 138 = .ok (.invokevirtual 115, 3) := by decide +kernel
theorem dX9_product_141 : decode cX9_product 141 = .ok (.ireturn, 1) := by decide +kernel
theorem dX9_close_0 : decode cX9_close 0 = .ok (.iload_n 1, 1) := by decide +kernel
theorem dX9_close_1 : decode cX9_close 1 = .ok (.invokestatic 76, 3) := by decide +kernel
theorem dX9_close_4 : decode cX9_close 4 = .ok (.ifCond .ne 5, 3) := by decide +kernel
theorem dX9_close_7 : decode cX9_close 7 = .ok (.iconst (-1), 1) := by decide +kernel
theorem dX9_close_8 : decode cX9_close 8 = .ok (.ireturn, 1) := by decide +kernel
theorem dX9_close_9 : decode cX9_close 9 = .ok (.aload_n 0, 1) := by decide +kernel
theorem dX9_close_10 : decode cX9_close 10 = .ok (.getfield 10, 3) := by decide +kernel
theorem dX9_close_13 : decode cX9_close 13 = .ok (.getfield 104, 3) := by decide +kernel
theorem dX9_close_16 : decode cX9_close 16 = .ok (.iload_n 1, 1) := by decide +kernel
theorem dX9_close_17 : decode cX9_close 17 = .ok (.aaload, 1) := by decide +kernel
theorem dX9_close_18 : decode cX9_close 18 = .ok (.astore_n 2, 1) := by decide +kernel
theorem dX9_close_19 : decode cX9_close 19 = .ok (.aload_n 2, 1) := by decide +kernel
theorem dX9_close_20 : decode cX9_close 20 = .ok (.getfield 165, 3) := by decide +kernel
theorem dX9_close_23 : decode cX9_close 23 = .ok (.aload_n 2, 1) := by decide +kernel
theorem dX9_close_24 : decode cX9_close 24 = .ok (.getfield 166, 3) := by decide +kernel
theorem dX9_close_27 : decode cX9_close 27 = .ok (.if_icmp .eq 6, 3) := by decide +kernel
theorem dX9_close_30 : decode cX9_close 30 = .ok (.bipush (-5), 2) := by decide +kernel
theorem dX9_close_32 : decode cX9_close 32 = .ok (.ireturn, 1) := by decide +kernel
theorem dX9_close_33 : decode cX9_close 33 = .ok (.aload_n 0, 1) := by decide +kernel
theorem dX9_close_34 : decode cX9_close 34 = .ok (.getfield 19, 3) := by decide +kernel
theorem dX9_close_37 : decode cX9_close 37 = .ok (.aload_n 0, 1) := by decide +kernel
theorem dX9_close_38 : decode cX9_close 38 = .ok (.getfield 10, 3) := by decide +kernel
theorem dX9_close_41 : decode cX9_close 41 = .ok (.invokevirtual 100, 3) := by decide +kernel
theorem dX9_close_44 : decode cX9_close 44 = .ok (.aload_n 0, 1) := by decide +kernel
theorem dX9_close_45 : decode cX9_close 45 = .ok (.getfield 41, 3) := by decide +kernel
theorem dX9_close_48 : decode cX9_close 48 = .ok (.aload_n 2, 1) := by decide +kernel
theorem dX9_close_49 : decode cX9_close 49 = .ok (.invokevirtual 162, 3) := by decide +kernel
theorem dX9_close_52 : decode cX9_close 52 = .ok (.aload_n 2, 1) := by decide +kernel
theorem dX9_close_53 : decode cX9_close 53 = .ok (.invokevirtual 173, 3) := by decide +kernel
theorem dX9_close_56 : decode cX9_close 56 = .ok (.aload_n 2, 1) := by decide +kernel
theorem dX9_close_57 : decode cX9_close 57 = .ok (.aload_n 0, 1) := by decide +kernel
theorem dX9_close_58 : decode cX9_close 58 = .ok (.getfield 41, 3) := by decide +kernel
theorem dX9_close_61 : decode cX9_close 61 = .ok (.invokevirtual 176, 3) := by decide +kernel
theorem dX9_close_64 : decode cX9_close 64 = .ok (.ireturn, 1) := by decide +kernel
theorem dX9_entry_0 : decode cX9_entry 0 = .ok (.iload_n 1, 1) := by decide +kernel
theorem dX9_entry_1 : decode cX9_entry 1 = .ok (.invokestatic 76, 3) := by decide +kernel
theorem dX9_entry_4 : decode cX9_entry 4 = .ok (.ifCond .eq 20, 3) := by decide +kernel
theorem dX9_entry_7 : decode cX9_entry 7 = .ok (.aload_n 0, 1) := by decide +kernel
theorem dX9_entry_8 : decode cX9_entry 8 = .ok (.getfield 10, 3) := by decide +kernel
theorem dX9_entry_11 : decode cX9_entry 11 = .ok (.getfield 104, 3) := by decide +kernel
theorem dX9_entry_14 : decode cX9_entry 14 = .ok (.iload_n 1, 1) := by decide +kernel
theorem dX9_entry_15 : decode cX9_entry 15 = .ok (.aaload, 1) := by decide +kernel
theorem dX9_entry_16 : decode cX9_entry 16 = .ok (.iload_n 2, 1) := by decide +kernel
theorem dX9_entry_17 : decode cX9_entry 17 = .ok (.iload_n 3, 1) := by decide +kernel
theorem dX9_entry_18 : decode cX9_entry 18 = .ok (.invokevirtual 118, 3) := by decide +kernel
theorem dX9_entry_21 : decode cX9_entry 21 = .ok (.ifCond .ne 5, 3) := by decide +kernel
theorem dX9_entry_24 : decode cX9_entry 24 = .ok (.iconst (-1), 1) := by decide +kernel
theorem dX9_entry_25 : decode cX9_entry 25 = .ok (.ireturn, 1) := by decide +kernel
theorem dX9_entry_26 : decode cX9_entry 26 = .ok (.aload_n 0, 1) := by decide +kernel
theorem dX9_entry_27 : decode cX9_entry 27 = .ok (.getfield 10, 3) := by decide +kernel
theorem dX9_entry_30 : decode cX9_entry 30 = .ok (.getfield 104, 3) := by decide +kernel
theorem dX9_entry_33 : decode cX9_entry 33 = .ok (.iload_n 1, 1) := by decide +kernel
theorem dX9_entry_34 : decode cX9_entry 34 = .ok (.aaload, 1) := by decide +kernel
theorem dX9_entry_35 : decode cX9_entry 35 = .ok (.iload_n 2, 1) := by decide +kernel
theorem dX9_entry_36 : decode cX9_entry 36 = .ok (.iload_n 3, 1) := by decide +kernel
theorem dX9_entry_37 : decode cX9_entry 37 = .ok (.invokevirtual 125, 3) := by decide +kernel
theorem dX9_entry_40 : decode cX9_entry 40 = .ok (.ireturn, 1) := by decide +kernel
theorem dX9_permanent_0 : decode cX9_permanent 0 = .ok (.iload_n 1, 1) := by decide +kernel
theorem dX9_permanent_1 : decode cX9_permanent 1 = .ok (.invokestatic 76, 3) := by decide +kernel
theorem dX9_permanent_4 : decode cX9_permanent 4 = .ok (.ifCond .ne 5, 3) := by decide +kernel
theorem dX9_permanent_7 : decode cX9_permanent 7 = .ok (.iconst (-1), 1) := by decide +kernel
theorem dX9_permanent_8 : decode cX9_permanent 8 = .ok (.ireturn, 1) := by decide +kernel
theorem dX9_permanent_9 : decode cX9_permanent 9 = .ok (.aload_n 0, 1) := by decide +kernel
theorem dX9_permanent_10 : decode cX9_permanent 10 = .ok (.getfield 10, 3) := by decide +kernel
theorem dX9_permanent_13 : decode cX9_permanent 13 = .ok (.getfield 104, 3) := by decide +kernel
theorem dX9_permanent_16 : decode cX9_permanent 16 = .ok (.iload_n 1, 1) := by decide +kernel
theorem dX9_permanent_17 : decode cX9_permanent 17 = .ok (.aaload, 1) := by decide +kernel
theorem dX9_permanent_18 : decode cX9_permanent 18 = .ok (.astore 5, 2) := by decide +kernel
theorem dX9_permanent_20 : decode cX9_permanent 20 = .ok (.aload 5, 2) := by decide +kernel
theorem dX9_permanent_22 : decode cX9_permanent 22 = .ok (.iload_n 2, 1) := by decide +kernel
theorem dX9_permanent_23 : decode cX9_permanent 23 = .ok (.iload_n 3, 1) := by decide +kernel
theorem dX9_permanent_24 : decode cX9_permanent 24 = .ok (.invokestatic 180, 3) := by decide +kernel
theorem dX9_permanent_27 : decode cX9_permanent 27 = .ok (.ifCond .eq 14, 3) := by decide +kernel
theorem dX9_permanent_30 : decode cX9_permanent 30 = .ok (.iload 4, 2) := by decide +kernel
theorem dX9_permanent_32 : decode cX9_permanent 32 = .ok (.ifCond .lt 9, 3) := by decide +kernel
theorem dX9_permanent_35 : decode cX9_permanent 35 = .ok (.iload 4, 2) := by decide +kernel
theorem dX9_permanent_37 : decode cX9_permanent 37 = .ok (.iconst 2, 1) := by decide +kernel
theorem dX9_permanent_38 : decode cX9_permanent 38 = .ok (.if_icmp .le 6, 3) := by decide +kernel
theorem dX9_permanent_41 : decode cX9_permanent 41 = .ok (.bipush (-2), 2) := by decide +kernel
theorem dX9_permanent_43 : decode cX9_permanent 43 = .ok (.ireturn, 1) := by decide +kernel
theorem dX9_permanent_44 : decode cX9_permanent 44 = .ok (.aload_n 0, 1) := by decide +kernel
theorem dX9_permanent_45 : decode cX9_permanent 45 = .ok (.getfield 51, 3) := by decide +kernel
theorem dX9_permanent_48 : decode cX9_permanent 48 = .ok (.aload 5, 2) := by decide +kernel
theorem dX9_permanent_50 : decode cX9_permanent 50 = .ok (.iload_n 2, 1) := by decide +kernel
theorem dX9_permanent_51 : decode cX9_permanent 51 = .ok (.iload_n 3, 1) := by decide +kernel
theorem dX9_permanent_52 : decode cX9_permanent 52 = .ok (.invokevirtual 184, 3) := by decide +kernel
theorem dX9_permanent_55 : decode cX9_permanent 55 = .ok (.iload 4, 2) := by decide +kernel
theorem dX9_permanent_57 : decode cX9_permanent 57 = .ok (.ifCond .ne 11, 3) := by decide +kernel
theorem dX9_permanent_60 : decode cX9_permanent 60 = .ok (.aload_n 0, 1) := by decide +kernel
theorem dX9_permanent_61 : decode cX9_permanent 61 = .ok (.getfield 51, 3) := by decide +kernel
theorem dX9_permanent_64 : decode cX9_permanent 64 = .ok (.invokevirtual 188, 3) := by decide +kernel
theorem dX9_permanent_67 : decode cX9_permanent 67 = .ok (.ireturn, 1) := by decide +kernel
theorem dX9_permanent_68 : decode cX9_permanent 68 = .ok (.iload 4, 2) := by decide +kernel
theorem dX9_permanent_70 : decode cX9_permanent 70 = .ok (.iconst 1, 1) := by decide +kernel
theorem dX9_permanent_71 : decode cX9_permanent 71 = .ok (.if_icmp .ne 13, 3) := by decide +kernel
theorem dX9_permanent_74 : decode cX9_permanent 74 = .ok (.aload_n 0, 1) := by decide +kernel
theorem dX9_permanent_75 : decode cX9_permanent 75 = .ok (.getfield 51, 3) := by decide +kernel
theorem dX9_permanent_78 : decode cX9_permanent 78 = .ok (.invokevirtual 191, 3) := by decide +kernel
theorem dX9_permanent_81 : decode cX9_permanent 81 = .ok (.goto 10, 3) := by decide +kernel
theorem dX9_permanent_84 : decode cX9_permanent 84 = .ok (.aload_n 0, 1) := by decide +kernel
theorem dX9_permanent_85 : decode cX9_permanent 85 = .ok (.getfield 51, 3) := by decide +kernel
theorem dX9_permanent_88 : decode cX9_permanent 88 = .ok (.invokevirtual 194, 3) := by decide +kernel
theorem dX9_permanent_91 : decode cX9_permanent 91 = .ok (.ireturn, 1) := by decide +kernel
theorem dX9_byParts_0 : decode cX9_byParts 0 = .ok (.iload_n 1, 1) := by decide +kernel
theorem dX9_byParts_1 : decode cX9_byParts 1 = .ok (.invokestatic 76, 3) := by decide +kernel
theorem dX9_byParts_4 : decode cX9_byParts 4 = .ok (.ifCond .ne 5, 3) := by decide +kernel
theorem dX9_byParts_7 : decode cX9_byParts 7 = .ok (.iconst (-1), 1) := by decide +kernel
theorem dX9_byParts_8 : decode cX9_byParts 8 = .ok (.ireturn, 1) := by decide +kernel
theorem dX9_byParts_9 : decode cX9_byParts 9 = .ok (.iload_n 2, 1) := by decide +kernel
theorem dX9_byParts_10 : decode cX9_byParts 10 = .ok (.ifCond .lt 8, 3) := by decide +kernel
theorem dX9_byParts_13 : decode cX9_byParts 13 = .ok (.iload_n 2, 1) := by decide +kernel
theorem dX9_byParts_14 : decode cX9_byParts 14 = .ok (.iconst 3, 1) := by decide +kernel
theorem dX9_byParts_15 : decode cX9_byParts 15 = .ok (.if_icmp .le 6, 3) := by decide +kernel
theorem dX9_byParts_18 : decode cX9_byParts 18 = .ok (.bipush (-2), 2) := by decide +kernel
theorem dX9_byParts_20 : decode cX9_byParts 20 = .ok (.ireturn, 1) := by decide +kernel
theorem dX9_byParts_21 : decode cX9_byParts 21 = .ok (.aload_n 0, 1) := by decide +kernel
theorem dX9_byParts_22 : decode cX9_byParts 22 = .ok (.getfield 58, 3) := by decide +kernel
theorem dX9_byParts_25 : decode cX9_byParts 25 = .ok (.aload_n 0, 1) := by decide +kernel
theorem dX9_byParts_26 : decode cX9_byParts 26 = .ok (.getfield 10, 3) := by decide +kernel
theorem dX9_byParts_29 : decode cX9_byParts 29 = .ok (.getfield 104, 3) := by decide +kernel
theorem dX9_byParts_32 : decode cX9_byParts 32 = .ok (.iload_n 1, 1) := by decide +kernel
theorem dX9_byParts_33 : decode cX9_byParts 33 = .ok (.aaload, 1) := by decide +kernel
theorem dX9_byParts_34 : decode cX9_byParts 34 = .ok (.aload_n 0, 1) := by decide +kernel
theorem dX9_byParts_35 : decode cX9_byParts 35 = .ok (.getfield 51, 3) := by decide +kernel
theorem dX9_byParts_38 : decode cX9_byParts 38 = .ok (.invokevirtual 197, 3) := by decide +kernel
theorem dX9_byParts_41 : decode cX9_byParts 41 = .ok (.iload_n 2, 1) := by decide +kernel
theorem dX9_byParts_42 : decode cX9_byParts 42 = .ok (.tableswitch 50 0 2 #[26, 34, 42], 26) := by decide +kernel
theorem dX9_byParts_68 : decode cX9_byParts 68 = .ok (.aload_n 0, 1) := by decide +kernel
theorem dX9_byParts_69 : decode cX9_byParts 69 = .ok (.getfield 58, 3) := by decide +kernel
theorem dX9_byParts_72 : decode cX9_byParts 72 = .ok (.getfield 201, 3) := by decide +kernel
theorem dX9_byParts_75 : decode cX9_byParts 75 = .ok (.ireturn, 1) := by decide +kernel
theorem dX9_byParts_76 : decode cX9_byParts 76 = .ok (.aload_n 0, 1) := by decide +kernel
theorem dX9_byParts_77 : decode cX9_byParts 77 = .ok (.getfield 58, 3) := by decide +kernel
theorem dX9_byParts_80 : decode cX9_byParts 80 = .ok (.getfield 204, 3) := by decide +kernel
theorem dX9_byParts_83 : decode cX9_byParts 83 = .ok (.ireturn, 1) := by decide +kernel
theorem dX9_byParts_84 : decode cX9_byParts 84 = .ok (.aload_n 0, 1) := by decide +kernel
theorem dX9_byParts_85 : decode cX9_byParts 85 = .ok (.getfield 58, 3) := by decide +kernel
theorem dX9_byParts_88 : decode cX9_byParts 88 = .ok (.getfield 205, 3) := by decide +kernel
theorem dX9_byParts_91 : decode cX9_byParts 91 = .ok (.ireturn, 1) := by decide +kernel
theorem dX9_byParts_92 : decode cX9_byParts 92 = .ok (.aload_n 0, 1) := by decide +kernel
theorem dX9_byParts_93 : decode cX9_byParts 93 = .ok (.getfield 58, 3) := by decide +kernel
theorem dX9_byParts_96 : decode cX9_byParts 96 = .ok (.getfield 206, 3) := by decide +kernel
theorem dX9_byParts_99 : decode cX9_byParts 99 = .ok (.ireturn, 1) := by decide +kernel
theorem dX9_canTouch_0 : decode cX9_canTouch 0 = .ok (.iload_n 1, 1) := by decide +kernel
theorem dX9_canTouch_1 : decode cX9_canTouch 1 = .ok (.invokestatic 76, 3) := by decide +kernel
theorem dX9_canTouch_4 : decode cX9_canTouch 4 = .ok (.ifCond .ne 5, 3) := by decide +kernel
theorem dX9_canTouch_7 : decode cX9_canTouch 7 = .ok (.iconst (-1), 1) := by decide +kernel
theorem dX9_canTouch_8 : decode cX9_canTouch 8 = .ok (.ireturn, 1) := by decide +kernel
theorem dX9_canTouch_9 : decode cX9_canTouch 9 = .ok (.aload_n 0, 1) := by decide +kernel
theorem dX9_canTouch_10 : decode cX9_canTouch 10 = .ok (.getfield 10, 3) := by decide +kernel
theorem dX9_canTouch_13 : decode cX9_canTouch 13 = .ok (.getfield 104, 3) := by decide +kernel
theorem dX9_canTouch_16 : decode cX9_canTouch 16 = .ok (.iload_n 1, 1) := by decide +kernel
theorem dX9_canTouch_17 : decode cX9_canTouch 17 = .ok (.aaload, 1) := by decide +kernel
theorem dX9_canTouch_18 : decode cX9_canTouch 18 = .ok (.astore_n 3, 1) := by decide +kernel
theorem dX9_canTouch_19 : decode cX9_canTouch 19 = .ok (.iload_n 2, 1) := by decide +kernel
theorem dX9_canTouch_20 : decode cX9_canTouch 20 = .ok (.aload_n 3, 1) := by decide +kernel
theorem dX9_canTouch_21 : decode cX9_canTouch 21 = .ok (.invokevirtual 115, 3) := by decide +kernel
theorem dX9_canTouch_24 : decode cX9_canTouch 24 = .ok (.invokestatic 209, 3) := by decide +kernel
theorem dX9_canTouch_27 : decode cX9_canTouch 27 = .ok (.ifCond .ne 6, 3) := by decide +kernel
theorem dX9_canTouch_30 : decode cX9_canTouch 30 = .ok (.bipush (-2), 2) := by decide +kernel
theorem dX9_canTouch_32 : decode cX9_canTouch 32 = .ok (.ireturn, 1) := by decide +kernel
theorem dX9_canTouch_33 : decode cX9_canTouch 33 = .ok (.aload_n 0, 1) := by decide +kernel
theorem dX9_canTouch_34 : decode cX9_canTouch 34 = .ok (.getfield 65, 3) := by decide +kernel
theorem dX9_canTouch_37 : decode cX9_canTouch 37 = .ok (.aload_n 3, 1) := by decide +kernel
theorem dX9_canTouch_38 : decode cX9_canTouch 38 = .ok (.aload_n 0, 1) := by decide +kernel
theorem dX9_canTouch_39 : decode cX9_canTouch 39 = .ok (.getfield 51, 3) := by decide +kernel
theorem dX9_canTouch_42 : decode cX9_canTouch 42 = .ok (.invokevirtual 212, 3) := by decide +kernel
theorem dX9_canTouch_45 : decode cX9_canTouch 45 = .ok (.aload_n 0, 1) := by decide +kernel
theorem dX9_canTouch_46 : decode cX9_canTouch 46 = .ok (.getfield 65, 3) := by decide +kernel
theorem dX9_canTouch_49 : decode cX9_canTouch 49 = .ok (.iload_n 2, 1) := by decide +kernel
theorem dX9_canTouch_50 : decode cX9_canTouch 50 = .ok (.invokevirtual 213, 3) := by decide +kernel
theorem dX9_canTouch_53 : decode cX9_canTouch 53 = .ok (.ifCond .eq 7, 3) := by decide +kernel
theorem dX9_canTouch_56 : decode cX9_canTouch 56 = .ok (.iconst 1, 1) := by decide +kernel
theorem dX9_canTouch_57 : decode cX9_canTouch 57 = .ok (.goto 4, 3) := by decide +kernel
theorem dX9_canTouch_60 : decode cX9_canTouch 60 = .ok (.iconst 0, 1) := by decide +kernel
theorem dX9_canTouch_61 : decode cX9_canTouch 61 = .ok (.ireturn, 1) := by decide +kernel
theorem dX9_byCovers_0 : decode cX9_byCovers 0 = .ok (.iload_n 1, 1) := by decide +kernel
theorem dX9_byCovers_1 : decode cX9_byCovers 1 = .ok (.invokestatic 76, 3) := by decide +kernel
theorem dX9_byCovers_4 : decode cX9_byCovers 4 = .ok (.ifCond .ne 5, 3) := by decide +kernel
theorem dX9_byCovers_7 : decode cX9_byCovers 7 = .ok (.iconst (-1), 1) := by decide +kernel
theorem dX9_byCovers_8 : decode cX9_byCovers 8 = .ok (.ireturn, 1) := by decide +kernel
theorem dX9_byCovers_9 : decode cX9_byCovers 9 = .ok (.iload_n 2, 1) := by decide +kernel
theorem dX9_byCovers_10 : decode cX9_byCovers 10 = .ok (.ifCond .lt 8, 3) := by decide +kernel
theorem dX9_byCovers_13 : decode cX9_byCovers 13 = .ok (.iload_n 2, 1) := by decide +kernel
theorem dX9_byCovers_14 : decode cX9_byCovers 14 = .ok (.iconst 2, 1) := by decide +kernel
theorem dX9_byCovers_15 : decode cX9_byCovers 15 = .ok (.if_icmp .le 6, 3) := by decide +kernel
theorem dX9_byCovers_18 : decode cX9_byCovers 18 = .ok (.bipush (-2), 2) := by decide +kernel
theorem dX9_byCovers_20 : decode cX9_byCovers 20 = .ok (.ireturn, 1) := by decide +kernel
theorem dX9_byCovers_21 : decode cX9_byCovers 21 = .ok (.aload_n 0, 1) := by decide +kernel
theorem dX9_byCovers_22 : decode cX9_byCovers 22 = .ok (.getfield 65, 3) := by decide +kernel
theorem dX9_byCovers_25 : decode cX9_byCovers 25 = .ok (.aload_n 0, 1) := by decide +kernel
theorem dX9_byCovers_26 : decode cX9_byCovers 26 = .ok (.getfield 10, 3) := by decide +kernel
theorem dX9_byCovers_29 : decode cX9_byCovers 29 = .ok (.getfield 104, 3) := by decide +kernel
theorem dX9_byCovers_32 : decode cX9_byCovers 32 = .ok (.iload_n 1, 1) := by decide +kernel
theorem dX9_byCovers_33 : decode cX9_byCovers 33 = .ok (.aaload, 1) := by decide +kernel
theorem dX9_byCovers_34 : decode cX9_byCovers 34 = .ok (.aload_n 0, 1) := by decide +kernel
theorem dX9_byCovers_35 : decode cX9_byCovers 35 = .ok (.getfield 51, 3) := by decide +kernel
theorem dX9_byCovers_38 : decode cX9_byCovers 38 = .ok (.invokevirtual 212, 3) := by decide +kernel
theorem dX9_byCovers_41 : decode cX9_byCovers 41 = .ok (.iload_n 2, 1) := by decide +kernel
theorem dX9_byCovers_42 : decode cX9_byCovers 42 = .ok (.ifCond .ne 11, 3) := by decide +kernel
theorem dX9_byCovers_45 : decode cX9_byCovers 45 = .ok (.aload_n 0, 1) := by decide +kernel
theorem dX9_byCovers_46 : decode cX9_byCovers 46 = .ok (.getfield 65, 3) := by decide +kernel
theorem dX9_byCovers_49 : decode cX9_byCovers 49 = .ok (.invokevirtual 216, 3) := by decide +kernel
theorem dX9_byCovers_52 : decode cX9_byCovers 52 = .ok (.ireturn, 1) := by decide +kernel
theorem dX9_byCovers_53 : decode cX9_byCovers 53 = .ok (.iload_n 2, 1) := by decide +kernel
theorem dX9_byCovers_54 : decode cX9_byCovers 54 = .ok (.iconst 1, 1) := by decide +kernel
theorem dX9_byCovers_55 : decode cX9_byCovers 55 = .ok (.if_icmp .ne 13, 3) := by decide +kernel
theorem dX9_byCovers_58 : decode cX9_byCovers 58 = .ok (.aload_n 0, 1) := by decide +kernel
theorem dX9_byCovers_59 : decode cX9_byCovers 59 = .ok (.getfield 65, 3) := by decide +kernel
theorem dX9_byCovers_62 : decode cX9_byCovers 62 = .ok (.invokevirtual 219, 3) := by decide +kernel
theorem dX9_byCovers_65 : decode cX9_byCovers 65 = .ok (.goto 10, 3) := by decide +kernel
theorem dX9_byCovers_68 : decode cX9_byCovers 68 = .ok (.aload_n 0, 1) := by decide +kernel
theorem dX9_byCovers_69 : decode cX9_byCovers 69 = .ok (.getfield 65, 3) := by decide +kernel
theorem dX9_byCovers_72 : decode cX9_byCovers 72 = .ok (.invokevirtual 222, 3) := by decide +kernel
theorem dX9_byCovers_75 : decode cX9_byCovers 75 = .ok (.ireturn, 1) := by decide +kernel
theorem dX9_cover_0 : decode cX9_cover 0 = .ok (.iload_n 1, 1) := by decide +kernel
theorem dX9_cover_1 : decode cX9_cover 1 = .ok (.invokestatic 76, 3) := by decide +kernel
theorem dX9_cover_4 : decode cX9_cover 4 = .ok (.ifCond .eq 23, 3) := by decide +kernel
theorem dX9_cover_7 : decode cX9_cover 7 = .ok (.iload_n 2, 1) := by decide +kernel
theorem dX9_cover_8 : decode cX9_cover 8 = .ok (.ifCond .lt 19, 3) := by decide +kernel
theorem dX9_cover_11 : decode cX9_cover 11 = .ok (.iload_n 2, 1) := by decide +kernel
theorem dX9_cover_12 : decode cX9_cover 12 = .ok (.aload_n 0, 1) := by decide +kernel
theorem dX9_cover_13 : decode cX9_cover 13 = .ok (.getfield 10, 3) := by decide +kernel
theorem dX9_cover_16 : decode cX9_cover 16 = .ok (.getfield 104, 3) := by decide +kernel
theorem dX9_cover_19 : decode cX9_cover 19 = .ok (.iload_n 1, 1) := by decide +kernel
theorem dX9_cover_20 : decode cX9_cover 20 = .ok (.aaload, 1) := by decide +kernel
theorem dX9_cover_21 : decode cX9_cover 21 = .ok (.invokevirtual 115, 3) := by decide +kernel
theorem dX9_cover_24 : decode cX9_cover 24 = .ok (.if_icmp .lt 5, 3) := by decide +kernel
theorem dX9_cover_27 : decode cX9_cover 27 = .ok (.iconst (-1), 1) := by decide +kernel
theorem dX9_cover_28 : decode cX9_cover 28 = .ok (.ireturn, 1) := by decide +kernel
theorem dX9_cover_29 : decode cX9_cover 29 = .ok (.aload_n 0, 1) := by decide +kernel
theorem dX9_cover_30 : decode cX9_cover 30 = .ok (.getfield 65, 3) := by decide +kernel
theorem dX9_cover_33 : decode cX9_cover 33 = .ok (.aload_n 0, 1) := by decide +kernel
theorem dX9_cover_34 : decode cX9_cover 34 = .ok (.getfield 10, 3) := by decide +kernel
theorem dX9_cover_37 : decode cX9_cover 37 = .ok (.getfield 104, 3) := by decide +kernel
theorem dX9_cover_40 : decode cX9_cover 40 = .ok (.iload_n 1, 1) := by decide +kernel
theorem dX9_cover_41 : decode cX9_cover 41 = .ok (.aaload, 1) := by decide +kernel
theorem dX9_cover_42 : decode cX9_cover 42 = .ok (.aload_n 0, 1) := by decide +kernel
theorem dX9_cover_43 : decode cX9_cover 43 = .ok (.getfield 51, 3) := by decide +kernel
theorem dX9_cover_46 : decode cX9_cover 46 = .ok (.invokevirtual 212, 3) := by decide +kernel
theorem dX9_cover_49 : decode cX9_cover 49 = .ok (.aload_n 0, 1) := by decide +kernel
theorem dX9_cover_50 : decode cX9_cover 50 = .ok (.getfield 65, 3) := by decide +kernel
theorem dX9_cover_53 : decode cX9_cover 53 = .ok (.invokevirtual 216, 3) := by decide +kernel
theorem dX9_cover_56 : decode cX9_cover 56 = .ok (.pop, 1) := by decide +kernel
theorem dX9_cover_57 : decode cX9_cover 57 = .ok (.aload_n 0, 1) := by decide +kernel
theorem dX9_cover_58 : decode cX9_cover 58 = .ok (.getfield 65, 3) := by decide +kernel
theorem dX9_cover_61 : decode cX9_cover 61 = .ok (.getfield 225, 3) := by decide +kernel
theorem dX9_cover_64 : decode cX9_cover 64 = .ok (.iload_n 2, 1) := by decide +kernel
theorem dX9_cover_65 : decode cX9_cover 65 = .ok (.iaload, 1) := by decide +kernel
theorem dX9_cover_66 : decode cX9_cover 66 = .ok (.ireturn, 1) := by decide +kernel
theorem dX9_cone_0 : decode cX9_cone 0 = .ok (.iload_n 1, 1) := by decide +kernel
theorem dX9_cone_1 : decode cX9_cone 1 = .ok (.invokestatic 76, 3) := by decide +kernel
theorem dX9_cone_4 : decode cX9_cone 4 = .ok (.ifCond .eq 20, 3) := by decide +kernel
theorem dX9_cone_7 : decode cX9_cone 7 = .ok (.aload_n 0, 1) := by decide +kernel
theorem dX9_cone_8 : decode cX9_cone 8 = .ok (.getfield 10, 3) := by decide +kernel
theorem dX9_cone_11 : decode cX9_cone 11 = .ok (.getfield 104, 3) := by decide +kernel
theorem dX9_cone_14 : decode cX9_cone 14 = .ok (.iload_n 1, 1) := by decide +kernel
theorem dX9_cone_15 : decode cX9_cone 15 = .ok (.aaload, 1) := by decide +kernel
theorem dX9_cone_16 : decode cX9_cone 16 = .ok (.iconst 0, 1) := by decide +kernel
theorem dX9_cone_17 : decode cX9_cone 17 = .ok (.iload_n 2, 1) := by decide +kernel
theorem dX9_cone_18 : decode cX9_cone 18 = .ok (.invokevirtual 133, 3) := by decide +kernel
theorem dX9_cone_21 : decode cX9_cone 21 = .ok (.ifCond .ne 5, 3) := by decide +kernel
theorem dX9_cone_24 : decode cX9_cone 24 = .ok (.iconst (-1), 1) := by decide +kernel
theorem dX9_cone_25 : decode cX9_cone 25 = .ok (.ireturn, 1) := by decide +kernel
theorem dX9_cone_26 : decode cX9_cone 26 = .ok (.aload_n 0, 1) := by decide +kernel
theorem dX9_cone_27 : decode cX9_cone 27 = .ok (.getfield 10, 3) := by decide +kernel
theorem dX9_cone_30 : decode cX9_cone 30 = .ok (.getfield 104, 3) := by decide +kernel
theorem dX9_cone_33 : decode cX9_cone 33 = .ok (.iload_n 1, 1) := by decide +kernel
theorem dX9_cone_34 : decode cX9_cone 34 = .ok (.aaload, 1) := by decide +kernel
theorem dX9_cone_35 : decode cX9_cone 35 = .ok (.astore 5, 2) := by decide +kernel
theorem dX9_cone_37 : decode cX9_cone 37 = .ok (.iload_n 3, 1) := by decide +kernel
theorem dX9_cone_38 : decode cX9_cone 38 = .ok (.aload 5, 2) := by decide +kernel
theorem dX9_cone_40 : decode cX9_cone 40 = .ok (.getfield 166, 3) := by decide +kernel
theorem dX9_cone_43 : decode cX9_cone 43 = .ok (.invokestatic 209, 3) := by decide +kernel
theorem dX9_cone_46 : decode cX9_cone 46 = .ok (.ifCond .eq 22, 3) := by decide +kernel
theorem dX9_cone_49 : decode cX9_cone 49 = .ok (.iload_n 3, 1) := by decide +kernel
theorem dX9_cone_50 : decode cX9_cone 50 = .ok (.iconst 1, 1) := by decide +kernel
theorem dX9_cone_51 : decode cX9_cone 51 = .ok (.iload_n 2, 1) := by decide +kernel
theorem dX9_cone_52 : decode cX9_cone 52 = .ok (.ishl, 1) := by decide +kernel
theorem dX9_cone_53 : decode cX9_cone 53 = .ok (.iand, 1) := by decide +kernel
theorem dX9_cone_54 : decode cX9_cone 54 = .ok (.ifCond .ne 14, 3) := by decide +kernel
theorem dX9_cone_57 : decode cX9_cone 57 = .ok (.iload 4, 2) := by decide +kernel
theorem dX9_cone_59 : decode cX9_cone 59 = .ok (.ifCond .lt 9, 3) := by decide +kernel
theorem dX9_cone_62 : decode cX9_cone 62 = .ok (.iload 4, 2) := by decide +kernel
theorem dX9_cone_64 : decode cX9_cone 64 = .ok (.iconst 1, 1) := by decide +kernel
theorem dX9_cone_65 : decode cX9_cone 65 = .ok (.if_icmp .le 6, 3) := by decide +kernel
theorem dX9_cone_68 : decode cX9_cone 68 = .ok (.bipush (-2), 2) := by decide +kernel
theorem dX9_cone_70 : decode cX9_cone 70 = .ok (.ireturn, 1) := by decide +kernel
theorem dX9_cone_71 : decode cX9_cone 71 = .ok (.aload 5, 2) := by decide +kernel
theorem dX9_cone_73 : decode cX9_cone 73 = .ok (.iload_n 2, 1) := by decide +kernel
theorem dX9_cone_74 : decode cX9_cone 74 = .ok (.iload_n 3, 1) := by decide +kernel
theorem dX9_cone_75 : decode cX9_cone 75 = .ok (.invokestatic 229, 3) := by decide +kernel
theorem dX9_cone_78 : decode cX9_cone 78 = .ok (.istore 6, 2) := by decide +kernel
theorem dX9_cone_80 : decode cX9_cone 80 = .ok (.iload 4, 2) := by decide +kernel
theorem dX9_cone_82 : decode cX9_cone 82 = .ok (.iconst 1, 1) := by decide +kernel
theorem dX9_cone_83 : decode cX9_cone 83 = .ok (.if_icmp .ne 6, 3) := by decide +kernel
theorem dX9_cone_86 : decode cX9_cone 86 = .ok (.iload 6, 2) := by decide +kernel
theorem dX9_cone_88 : decode cX9_cone 88 = .ok (.ireturn, 1) := by decide +kernel
theorem dX9_cone_89 : decode cX9_cone 89 = .ok (.iload 6, 2) := by decide +kernel
theorem dX9_cone_91 : decode cX9_cone 91 = .ok (.ifCond .ne 7, 3) := by decide +kernel
theorem dX9_cone_94 : decode cX9_cone 94 = .ok (.iconst 1, 1) := by decide +kernel
theorem dX9_cone_95 : decode cX9_cone 95 = .ok (.goto 4, 3) := by decide +kernel
theorem dX9_cone_98 : decode cX9_cone 98 = .ok (.iconst 0, 1) := by decide +kernel
theorem dX9_cone_99 : decode cX9_cone 99 = .ok (.ireturn, 1) := by decide +kernel
theorem dX9_factor_0 : decode cX9_factor 0 = .ok (.iload_n 1, 1) := by decide +kernel
theorem dX9_factor_1 : decode cX9_factor 1 = .ok (.invokestatic 76, 3) := by decide +kernel
theorem dX9_factor_4 : decode cX9_factor 4 = .ok (.ifCond .eq 37, 3) := by decide +kernel
theorem dX9_factor_7 : decode cX9_factor 7 = .ok (.aload_n 0, 1) := by decide +kernel
theorem dX9_factor_8 : decode cX9_factor 8 = .ok (.getfield 10, 3) := by decide +kernel
theorem dX9_factor_11 : decode cX9_factor 11 = .ok (.getfield 104, 3) := by decide +kernel
theorem dX9_factor_14 : decode cX9_factor 14 = .ok (.iload_n 1, 1) := by decide +kernel
theorem dX9_factor_15 : decode cX9_factor 15 = .ok (.aaload, 1) := by decide +kernel
theorem dX9_factor_16 : decode cX9_factor 16 = .ok (.iconst 0, 1) := by decide +kernel
theorem dX9_factor_17 : decode cX9_factor 17 = .ok (.iload_n 2, 1) := by decide +kernel
theorem dX9_factor_18 : decode cX9_factor 18 = .ok (.invokevirtual 133, 3) := by decide +kernel
theorem dX9_factor_21 : decode cX9_factor 21 = .ok (.ifCond .eq 20, 3) := by decide +kernel
theorem dX9_factor_24 : decode cX9_factor 24 = .ok (.aload_n 0, 1) := by decide +kernel
theorem dX9_factor_25 : decode cX9_factor 25 = .ok (.getfield 10, 3) := by decide +kernel
theorem dX9_factor_28 : decode cX9_factor 28 = .ok (.getfield 104, 3) := by decide +kernel
theorem dX9_factor_31 : decode cX9_factor 31 = .ok (.iload_n 1, 1) := by decide +kernel
theorem dX9_factor_32 : decode cX9_factor 32 = .ok (.aaload, 1) := by decide +kernel
theorem dX9_factor_33 : decode cX9_factor 33 = .ok (.iconst 0, 1) := by decide +kernel
theorem dX9_factor_34 : decode cX9_factor 34 = .ok (.iload_n 3, 1) := by decide +kernel
theorem dX9_factor_35 : decode cX9_factor 35 = .ok (.invokevirtual 133, 3) := by decide +kernel
theorem dX9_factor_38 : decode cX9_factor 38 = .ok (.ifCond .ne 5, 3) := by decide +kernel
theorem dX9_factor_41 : decode cX9_factor 41 = .ok (.iconst (-1), 1) := by decide +kernel
theorem dX9_factor_42 : decode cX9_factor 42 = .ok (.ireturn, 1) := by decide +kernel
theorem dX9_factor_43 : decode cX9_factor 43 = .ok (.iload_n 2, 1) := by decide +kernel
theorem dX9_factor_44 : decode cX9_factor 44 = .ok (.iload_n 3, 1) := by decide +kernel
theorem dX9_factor_45 : decode cX9_factor 45 = .ok (.if_icmp .ne 6, 3) := by decide +kernel
theorem dX9_factor_48 : decode cX9_factor 48 = .ok (.bipush (-2), 2) := by decide +kernel
theorem dX9_factor_50 : decode cX9_factor 50 = .ok (.ireturn, 1) := by decide +kernel
theorem dX9_factor_51 : decode cX9_factor 51 = .ok (.aload_n 0, 1) := by decide +kernel
theorem dX9_factor_52 : decode cX9_factor 52 = .ok (.getfield 10, 3) := by decide +kernel
theorem dX9_factor_55 : decode cX9_factor 55 = .ok (.getfield 104, 3) := by decide +kernel
theorem dX9_factor_58 : decode cX9_factor 58 = .ok (.iload_n 1, 1) := by decide +kernel
theorem dX9_factor_59 : decode cX9_factor 59 = .ok (.aaload, 1) := by decide +kernel
theorem dX9_factor_60 : decode cX9_factor 60 = .ok (.iload_n 2, 1) := by decide +kernel
theorem dX9_factor_61 : decode cX9_factor 61 = .ok (.iload_n 3, 1) := by decide +kernel
theorem dX9_factor_62 : decode cX9_factor 62 = .ok (.invokestatic 235, 3) := by decide +kernel
theorem dX9_factor_65 : decode cX9_factor 65 = .ok (.sipush 1000, 3) := by decide +kernel
theorem dX9_factor_68 : decode cX9_factor 68 = .ok (.iadd, 1) := by decide +kernel
theorem dX9_factor_69 : decode cX9_factor 69 = .ok (.ireturn, 1) := by decide +kernel
theorem dX9_byCone_0 : decode cX9_byCone 0 = .ok (.iload_n 1, 1) := by decide +kernel
theorem dX9_byCone_1 : decode cX9_byCone 1 = .ok (.invokestatic 76, 3) := by decide +kernel
theorem dX9_byCone_4 : decode cX9_byCone 4 = .ok (.ifCond .ne 5, 3) := by decide +kernel
theorem dX9_byCone_7 : decode cX9_byCone 7 = .ok (.iconst (-1), 1) := by decide +kernel
theorem dX9_byCone_8 : decode cX9_byCone 8 = .ok (.ireturn, 1) := by decide +kernel
theorem dX9_byCone_9 : decode cX9_byCone 9 = .ok (.iload_n 3, 1) := by decide +kernel
theorem dX9_byCone_10 : decode cX9_byCone 10 = .ok (.ifCond .lt 8, 3) := by decide +kernel
theorem dX9_byCone_13 : decode cX9_byCone 13 = .ok (.iload_n 3, 1) := by decide +kernel
theorem dX9_byCone_14 : decode cX9_byCone 14 = .ok (.iconst 1, 1) := by decide +kernel
theorem dX9_byCone_15 : decode cX9_byCone 15 = .ok (.if_icmp .le 6, 3) := by decide +kernel
theorem dX9_byCone_18 : decode cX9_byCone 18 = .ok (.bipush (-2), 2) := by decide +kernel
theorem dX9_byCone_20 : decode cX9_byCone 20 = .ok (.ireturn, 1) := by decide +kernel
theorem dX9_byCone_21 : decode cX9_byCone 21 = .ok (.aload_n 0, 1) := by decide +kernel
theorem dX9_byCone_22 : decode cX9_byCone 22 = .ok (.aload_n 0, 1) := by decide +kernel
theorem dX9_byCone_23 : decode cX9_byCone 23 = .ok (.getfield 10, 3) := by decide +kernel
theorem dX9_byCone_26 : decode cX9_byCone 26 = .ok (.getfield 104, 3) := by decide +kernel
theorem dX9_byCone_29 : decode cX9_byCone 29 = .ok (.iload_n 1, 1) := by decide +kernel
theorem dX9_byCone_30 : decode cX9_byCone 30 = .ok (.aaload, 1) := by decide +kernel
theorem dX9_byCone_31 : decode cX9_byCone 31 = .ok (.iload_n 2, 1) := by decide +kernel
theorem dX9_byCone_32 : decode cX9_byCone 32 = .ok (.invokevirtual 238, 3) := by decide +kernel
theorem dX9_byCone_35 : decode cX9_byCone 35 = .ok (.istore 4, 2) := by decide +kernel
theorem dX9_byCone_37 : decode cX9_byCone 37 = .ok (.iload_n 3, 1) := by decide +kernel
theorem dX9_byCone_38 : decode cX9_byCone 38 = .ok (.iconst 1, 1) := by decide +kernel
theorem dX9_byCone_39 : decode cX9_byCone 39 = .ok (.if_icmp .ne 8, 3) := by decide +kernel
theorem dX9_byCone_42 : decode cX9_byCone 42 = .ok (.iload 4, 2) := by decide +kernel
theorem dX9_byCone_44 : decode cX9_byCone 44 = .ok (.goto 8, 3) := by decide +kernel
theorem dX9_byCone_47 : decode cX9_byCone 47 = .ok (.iload 4, 2) := by decide +kernel
theorem dX9_byCone_49 : decode cX9_byCone 49 = .ok (.invokestatic 242, 3) := by decide +kernel
theorem dX9_byCone_52 : decode cX9_byCone 52 = .ok (.ireturn, 1) := by decide +kernel
theorem dX9_arrayOf_0 : decode cX9_arrayOf 0 = .ok (.iload_n 1, 1) := by decide +kernel
theorem dX9_arrayOf_1 : decode cX9_arrayOf 1 = .ok (.invokestatic 76, 3) := by decide +kernel
theorem dX9_arrayOf_4 : decode cX9_arrayOf 4 = .ok (.ifCond .ne 5, 3) := by decide +kernel
theorem dX9_arrayOf_7 : decode cX9_arrayOf 7 = .ok (.iconst (-1), 1) := by decide +kernel
theorem dX9_arrayOf_8 : decode cX9_arrayOf 8 = .ok (.ireturn, 1) := by decide +kernel
theorem dX9_arrayOf_9 : decode cX9_arrayOf 9 = .ok (.aload_n 0, 1) := by decide +kernel
theorem dX9_arrayOf_10 : decode cX9_arrayOf 10 = .ok (.getfield 10, 3) := by decide +kernel
theorem dX9_arrayOf_13 : decode cX9_arrayOf 13 = .ok (.getfield 104, 3) := by decide +kernel
theorem dX9_arrayOf_16 : decode cX9_arrayOf 16 = .ok (.iload_n 1, 1) := by decide +kernel
theorem dX9_arrayOf_17 : decode cX9_arrayOf 17 = .ok (.aaload, 1) := by decide +kernel
theorem dX9_arrayOf_18 : decode cX9_arrayOf 18 = .ok (.astore_n 3, 1) := by decide +kernel
theorem dX9_arrayOf_19 : decode cX9_arrayOf 19 = .ok (.iload_n 2, 1) := by decide +kernel
theorem dX9_arrayOf_20 : decode cX9_arrayOf 20 = .ok (.tableswitch 61 0 4 #[36, 41, 46, 51, 56], 36) := by decide +kernel
theorem dX9_arrayOf_56 : decode cX9_arrayOf 56 = .ok (.aload_n 3, 1) := by decide +kernel
theorem dX9_arrayOf_57 : decode cX9_arrayOf 57 = .ok (.getfield 165, 3) := by decide +kernel
theorem dX9_arrayOf_60 : decode cX9_arrayOf 60 = .ok (.ireturn, 1) := by decide +kernel
theorem dX9_arrayOf_61 : decode cX9_arrayOf 61 = .ok (.aload_n 3, 1) := by decide +kernel
theorem dX9_arrayOf_62 : decode cX9_arrayOf 62 = .ok (.getfield 166, 3) := by decide +kernel
theorem dX9_arrayOf_65 : decode cX9_arrayOf 65 = .ok (.ireturn, 1) := by decide +kernel
theorem dX9_arrayOf_66 : decode cX9_arrayOf 66 = .ok (.aload_n 3, 1) := by decide +kernel
theorem dX9_arrayOf_67 : decode cX9_arrayOf 67 = .ok (.invokevirtual 145, 3) := by decide +kernel
theorem dX9_arrayOf_70 : decode cX9_arrayOf 70 = .ok (.ireturn, 1) := by decide +kernel
theorem dX9_arrayOf_71 : decode cX9_arrayOf 71 = .ok (.aload_n 3, 1) := by decide +kernel
theorem dX9_arrayOf_72 : decode cX9_arrayOf 72 = .ok (.invokevirtual 248, 3) := by decide +kernel
theorem dX9_arrayOf_75 : decode cX9_arrayOf 75 = .ok (.ireturn, 1) := by decide +kernel
theorem dX9_arrayOf_76 : decode cX9_arrayOf 76 = .ok (.aload_n 3, 1) := by decide +kernel
theorem dX9_arrayOf_77 : decode cX9_arrayOf 77 = .ok (.invokevirtual 251, 3) := by decide +kernel
theorem dX9_arrayOf_80 : decode cX9_arrayOf 80 = .ok (.ireturn, 1) := by decide +kernel
theorem dX9_arrayOf_81 : decode cX9_arrayOf 81 = .ok (.bipush (-2), 2) := by decide +kernel
theorem dX9_arrayOf_83 : decode cX9_arrayOf 83 = .ok (.ireturn, 1) := by decide +kernel
theorem dX9_ring_0 : decode cX9_ring 0 = .ok (.iload_n 1, 1) := by decide +kernel
theorem dX9_ring_1 : decode cX9_ring 1 = .ok (.invokestatic 76, 3) := by decide +kernel
theorem dX9_ring_4 : decode cX9_ring 4 = .ok (.ifCond .ne 5, 3) := by decide +kernel
theorem dX9_ring_7 : decode cX9_ring 7 = .ok (.iconst (-1), 1) := by decide +kernel
theorem dX9_ring_8 : decode cX9_ring 8 = .ok (.ireturn, 1) := by decide +kernel
theorem dX9_ring_9 : decode cX9_ring 9 = .ok (.iload_n 2, 1) := by decide +kernel
theorem dX9_ring_10 : decode cX9_ring 10 = .ok (.ifCond .lt 8, 3) := by decide +kernel
theorem dX9_ring_13 : decode cX9_ring 13 = .ok (.iload_n 2, 1) := by decide +kernel
theorem dX9_ring_14 : decode cX9_ring 14 = .ok (.iconst 2, 1) := by decide +kernel
theorem dX9_ring_15 : decode cX9_ring 15 = .ok (.if_icmp .le 6, 3) := by decide +kernel
theorem dX9_ring_18 : decode cX9_ring 18 = .ok (.bipush (-2), 2) := by decide +kernel
theorem dX9_ring_20 : decode cX9_ring 20 = .ok (.ireturn, 1) := by decide +kernel
theorem dX9_ring_21 : decode cX9_ring 21 = .ok (.aload_n 0, 1) := by decide +kernel
theorem dX9_ring_22 : decode cX9_ring 22 = .ok (.getfield 10, 3) := by decide +kernel
theorem dX9_ring_25 : decode cX9_ring 25 = .ok (.getfield 104, 3) := by decide +kernel
theorem dX9_ring_28 : decode cX9_ring 28 = .ok (.iload_n 1, 1) := by decide +kernel
theorem dX9_ring_29 : decode cX9_ring 29 = .ok (.aaload, 1) := by decide +kernel
theorem dX9_ring_30 : decode cX9_ring 30 = .ok (.astore_n 3, 1) := by decide +kernel
theorem dX9_ring_31 : decode cX9_ring 31 = .ok (.aload_n 3, 1) := by decide +kernel
theorem dX9_ring_32 : decode cX9_ring 32 = .ok (.getfield 165, 3) := by decide +kernel
theorem dX9_ring_35 : decode cX9_ring 35 = .ok (.aload_n 3, 1) := by decide +kernel
theorem dX9_ring_36 : decode cX9_ring 36 = .ok (.getfield 166, 3) := by decide +kernel
theorem dX9_ring_39 : decode cX9_ring 39 = .ok (.if_icmp .eq 6, 3) := by decide +kernel
theorem dX9_ring_42 : decode cX9_ring 42 = .ok (.bipush (-5), 2) := by decide +kernel
theorem dX9_ring_44 : decode cX9_ring 44 = .ok (.ireturn, 1) := by decide +kernel
theorem dX9_ring_45 : decode cX9_ring 45 = .ok (.aload_n 0, 1) := by decide +kernel
theorem dX9_ring_46 : decode cX9_ring 46 = .ok (.getfield 72, 3) := by decide +kernel
theorem dX9_ring_49 : decode cX9_ring 49 = .ok (.aload_n 3, 1) := by decide +kernel
theorem dX9_ring_50 : decode cX9_ring 50 = .ok (.invokevirtual 254, 3) := by decide +kernel
theorem dX9_ring_53 : decode cX9_ring 53 = .ok (.iload_n 2, 1) := by decide +kernel
theorem dX9_ring_54 : decode cX9_ring 54 = .ok (.ifCond .ne 11, 3) := by decide +kernel
theorem dX9_ring_57 : decode cX9_ring 57 = .ok (.aload_n 0, 1) := by decide +kernel
theorem dX9_ring_58 : decode cX9_ring 58 = .ok (.getfield 72, 3) := by decide +kernel
theorem dX9_ring_61 : decode cX9_ring 61 = .ok (.getfield 256, 3) := by decide +kernel
theorem dX9_ring_64 : decode cX9_ring 64 = .ok (.ireturn, 1) := by decide +kernel
theorem dX9_ring_65 : decode cX9_ring 65 = .ok (.iload_n 2, 1) := by decide +kernel
theorem dX9_ring_66 : decode cX9_ring 66 = .ok (.iconst 1, 1) := by decide +kernel
theorem dX9_ring_67 : decode cX9_ring 67 = .ok (.if_icmp .ne 13, 3) := by decide +kernel
theorem dX9_ring_70 : decode cX9_ring 70 = .ok (.aload_n 0, 1) := by decide +kernel
theorem dX9_ring_71 : decode cX9_ring 71 = .ok (.getfield 72, 3) := by decide +kernel
theorem dX9_ring_74 : decode cX9_ring 74 = .ok (.getfield 259, 3) := by decide +kernel
theorem dX9_ring_77 : decode cX9_ring 77 = .ok (.goto 10, 3) := by decide +kernel
theorem dX9_ring_80 : decode cX9_ring 80 = .ok (.aload_n 0, 1) := by decide +kernel
theorem dX9_ring_81 : decode cX9_ring 81 = .ok (.getfield 72, 3) := by decide +kernel
theorem dX9_ring_84 : decode cX9_ring 84 = .ok (.getfield 262, 3) := by decide +kernel
theorem dX9_ring_87 : decode cX9_ring 87 = .ok (.ireturn, 1) := by decide +kernel
theorem dX9_count_0 : decode cX9_count 0 = .ok (.iload_n 1, 1) := by decide +kernel
theorem dX9_count_1 : decode cX9_count 1 = .ok (.tableswitch 51 0 2 #[27, 35, 43], 27) := by decide +kernel
theorem dX9_count_28 : decode cX9_count 28 = .ok (.aload_n 0, 1) := by decide +kernel
theorem dX9_count_29 : decode cX9_count 29 = .ok (.getfield 10, 3) := by decide +kernel
theorem dX9_count_32 : decode cX9_count 32 = .ok (.invokevirtual 265, 3) := by decide +kernel
theorem dX9_count_35 : decode cX9_count 35 = .ok (.ireturn, 1) := by decide +kernel
theorem dX9_count_36 : decode cX9_count 36 = .ok (.aload_n 0, 1) := by decide +kernel
theorem dX9_count_37 : decode cX9_count 37 = .ok (.getfield 34, 3) := by decide +kernel
theorem dX9_count_40 : decode cX9_count 40 = .ok (.getfield 112, 3) := by decide +kernel
theorem dX9_count_43 : decode cX9_count 43 = .ok (.ireturn, 1) := by decide +kernel
theorem dX9_count_44 : decode cX9_count 44 = .ok (.aload_n 0, 1) := by decide +kernel
theorem dX9_count_45 : decode cX9_count 45 = .ok (.getfield 19, 3) := by decide +kernel
theorem dX9_count_48 : decode cX9_count 48 = .ok (.getfield 266, 3) := by decide +kernel
theorem dX9_count_51 : decode cX9_count 51 = .ok (.ireturn, 1) := by decide +kernel
theorem dX9_count_52 : decode cX9_count 52 = .ok (.bipush (-2), 2) := by decide +kernel
theorem dX9_count_54 : decode cX9_count 54 = .ok (.ireturn, 1) := by decide +kernel
theorem dX9_ifSet_0 : decode cX9_ifSet 0 = .ok (.iload_n 1, 1) := by decide +kernel
theorem dX9_ifSet_1 : decode cX9_ifSet 1 = .ok (.invokestatic 76, 3) := by decide +kernel
theorem dX9_ifSet_4 : decode cX9_ifSet 4 = .ok (.ifCond .eq 20, 3) := by decide +kernel
theorem dX9_ifSet_7 : decode cX9_ifSet 7 = .ok (.aload_n 0, 1) := by decide +kernel
theorem dX9_ifSet_8 : decode cX9_ifSet 8 = .ok (.getfield 10, 3) := by decide +kernel
theorem dX9_ifSet_11 : decode cX9_ifSet 11 = .ok (.getfield 104, 3) := by decide +kernel
theorem dX9_ifSet_14 : decode cX9_ifSet 14 = .ok (.iload_n 1, 1) := by decide +kernel
theorem dX9_ifSet_15 : decode cX9_ifSet 15 = .ok (.aaload, 1) := by decide +kernel
theorem dX9_ifSet_16 : decode cX9_ifSet 16 = .ok (.iload_n 2, 1) := by decide +kernel
theorem dX9_ifSet_17 : decode cX9_ifSet 17 = .ok (.iload_n 3, 1) := by decide +kernel
theorem dX9_ifSet_18 : decode cX9_ifSet 18 = .ok (.invokevirtual 118, 3) := by decide +kernel
theorem dX9_ifSet_21 : decode cX9_ifSet 21 = .ok (.ifCond .ne 5, 3) := by decide +kernel
theorem dX9_ifSet_24 : decode cX9_ifSet 24 = .ok (.iconst (-1), 1) := by decide +kernel
theorem dX9_ifSet_25 : decode cX9_ifSet 25 = .ok (.ireturn, 1) := by decide +kernel
theorem dX9_ifSet_26 : decode cX9_ifSet 26 = .ok (.iload 4, 2) := by decide +kernel
theorem dX9_ifSet_28 : decode cX9_ifSet 28 = .ok (.invokestatic 122, 3) := by decide +kernel
theorem dX9_ifSet_31 : decode cX9_ifSet 31 = .ok (.ifCond .eq 14, 3) := by decide +kernel
theorem dX9_ifSet_34 : decode cX9_ifSet 34 = .ok (.iload 5, 2) := by decide +kernel
theorem dX9_ifSet_36 : decode cX9_ifSet 36 = .ok (.ifCond .lt 9, 3) := by decide +kernel
theorem dX9_ifSet_39 : decode cX9_ifSet 39 = .ok (.iload 5, 2) := by decide +kernel
theorem dX9_ifSet_41 : decode cX9_ifSet 41 = .ok (.iconst 3, 1) := by decide +kernel
theorem dX9_ifSet_42 : decode cX9_ifSet 42 = .ok (.if_icmp .le 6, 3) := by decide +kernel
theorem dX9_ifSet_45 : decode cX9_ifSet 45 = .ok (.bipush (-2), 2) := by decide +kernel
theorem dX9_ifSet_47 : decode cX9_ifSet 47 = .ok (.ireturn, 1) := by decide +kernel
theorem dX9_ifSet_48 : decode cX9_ifSet 48 = .ok (.aload_n 0, 1) := by decide +kernel
theorem dX9_ifSet_49 : decode cX9_ifSet 49 = .ok (.getfield 41, 3) := by decide +kernel
theorem dX9_ifSet_52 : decode cX9_ifSet 52 = .ok (.aload_n 0, 1) := by decide +kernel
theorem dX9_ifSet_53 : decode cX9_ifSet 53 = .ok (.getfield 10, 3) := by decide +kernel
theorem dX9_ifSet_56 : decode cX9_ifSet 56 = .ok (.getfield 104, 3) := by decide +kernel
theorem dX9_ifSet_59 : decode cX9_ifSet 59 = .ok (.iload_n 1, 1) := by decide +kernel
theorem dX9_ifSet_60 : decode cX9_ifSet 60 = .ok (.aaload, 1) := by decide +kernel
theorem dX9_ifSet_61 : decode cX9_ifSet 61 = .ok (.invokevirtual 162, 3) := by decide +kernel
theorem dX9_ifSet_64 : decode cX9_ifSet 64 = .ok (.aload_n 0, 1) := by decide +kernel
theorem dX9_ifSet_65 : decode cX9_ifSet 65 = .ok (.getfield 41, 3) := by decide +kernel
theorem dX9_ifSet_68 : decode cX9_ifSet 68 = .ok (.iload_n 2, 1) := by decide +kernel
theorem dX9_ifSet_69 : decode cX9_ifSet 69 = .ok (.iload_n 3, 1) := by decide +kernel
theorem dX9_ifSet_70 : decode cX9_ifSet 70 = .ok (.iload 4, 2) := by decide +kernel
theorem dX9_ifSet_72 : decode cX9_ifSet 72 = .ok (.invokevirtual 129, 3) := by decide +kernel
theorem dX9_ifSet_75 : decode cX9_ifSet 75 = .ok (.aload_n 0, 1) := by decide +kernel
theorem dX9_ifSet_76 : decode cX9_ifSet 76 = .ok (.aload_n 0, 1) := by decide +kernel
theorem dX9_ifSet_77 : decode cX9_ifSet 77 = .ok (.getfield 41, 3) := by decide +kernel
theorem dX9_ifSet_80 : decode cX9_ifSet 80 = .ok (.iload 5, 2) := by decide +kernel
theorem dX9_ifSet_82 : decode cX9_ifSet 82 = .ok (.invokevirtual 268, 3) := by decide +kernel
theorem dX9_ifSet_85 : decode cX9_ifSet 85 = .ok (.ireturn, 1) := by decide +kernel
theorem dX9_bestZero_0 : decode cX9_bestZero 0 = .ok (.iload_n 1, 1) := by decide +kernel
theorem dX9_bestZero_1 : decode cX9_bestZero 1 = .ok (.invokestatic 76, 3) := by decide +kernel
theorem dX9_bestZero_4 : decode cX9_bestZero 4 = .ok (.ifCond .ne 5, 3) := by decide +kernel
theorem dX9_bestZero_7 : decode cX9_bestZero 7 = .ok (.iconst (-1), 1) := by decide +kernel
theorem dX9_bestZero_8 : decode cX9_bestZero 8 = .ok (.ireturn, 1) := by decide +kernel
theorem dX9_bestZero_9 : decode cX9_bestZero 9 = .ok (.aload_n 0, 1) := by decide +kernel
theorem dX9_bestZero_10 : decode cX9_bestZero 10 = .ok (.getfield 10, 3) := by decide +kernel
theorem dX9_bestZero_13 : decode cX9_bestZero 13 = .ok (.getfield 104, 3) := by decide +kernel
theorem dX9_bestZero_16 : decode cX9_bestZero 16 = .ok (.iload_n 1, 1) := by decide +kernel
theorem dX9_bestZero_17 : decode cX9_bestZero 17 = .ok (.aaload, 1) := by decide +kernel
theorem dX9_bestZero_18 : decode cX9_bestZero 18 = .ok (.astore_n 2, 1) := by decide +kernel
theorem dX9_bestZero_19 : decode cX9_bestZero 19 = .ok (.iconst 0, 1) := by decide +kernel
theorem dX9_bestZero_20 : decode cX9_bestZero 20 = .ok (.istore_n 3, 1) := by decide +kernel
theorem dX9_bestZero_21 : decode cX9_bestZero 21 = .ok (.bipush 13, 2) := by decide +kernel
theorem dX9_bestZero_23 : decode cX9_bestZero 23 = .ok (.istore 4, 2) := by decide +kernel
theorem dX9_bestZero_25 : decode cX9_bestZero 25 = .ok (.iconst 0, 1) := by decide +kernel
theorem dX9_bestZero_26 : decode cX9_bestZero 26 = .ok (.istore 5, 2) := by decide +kernel
theorem dX9_bestZero_28 : decode cX9_bestZero 28 = .ok (.iload 5, 2) := by decide +kernel
theorem dX9_bestZero_30 : decode cX9_bestZero 30 = .ok (.aload_n 2, 1) := by decide +kernel
theorem dX9_bestZero_31 : decode cX9_bestZero 31 = .ok (.getfield 165, 3) := by decide +kernel
theorem dX9_bestZero_34 : decode cX9_bestZero 34 = .ok (.if_icmp .ge 78, 3) := by decide +kernel
theorem dX9_bestZero_37 : decode cX9_bestZero 37 = .ok (.iconst 0, 1) := by decide +kernel
theorem dX9_bestZero_38 : decode cX9_bestZero 38 = .ok (.istore 6, 2) := by decide +kernel
theorem dX9_bestZero_40 : decode cX9_bestZero 40 = .ok (.iload 6, 2) := by decide +kernel
theorem dX9_bestZero_42 : decode cX9_bestZero 42 = .ok (.aload_n 2, 1) := by decide +kernel
theorem dX9_bestZero_43 : decode cX9_bestZero 43 = .ok (.getfield 166, 3) := by decide +kernel
theorem dX9_bestZero_46 : decode cX9_bestZero 46 = .ok (.if_icmp .ge 60, 3) := by decide +kernel
theorem dX9_bestZero_49 : decode cX9_bestZero 49 = .ok (.aload_n 0, 1) := by decide +kernel
theorem dX9_bestZero_50 : decode cX9_bestZero 50 = .ok (.getfield 41, 3) := by decide +kernel
theorem dX9_bestZero_53 : decode cX9_bestZero 53 = .ok (.aload_n 2, 1) := by decide +kernel
theorem dX9_bestZero_54 : decode cX9_bestZero 54 = .ok (.invokevirtual 162, 3) := by decide +kernel
theorem dX9_bestZero_57 : decode cX9_bestZero 57 = .ok (.aload_n 0, 1) := by decide +kernel
theorem dX9_bestZero_58 : decode cX9_bestZero 58 = .ok (.getfield 41, 3) := by decide +kernel
theorem dX9_bestZero_61 : decode cX9_bestZero 61 = .ok (.iload 5, 2) := by decide +kernel
theorem dX9_bestZero_63 : decode cX9_bestZero 63 = .ok (.iload 6, 2) := by decide +kernel
theorem dX9_bestZero_65 : decode cX9_bestZero 65 = .ok (.iconst 0, 1) := by decide +kernel
theorem dX9_bestZero_66 : decode cX9_bestZero 66 = .ok (.invokevirtual 129, 3) := by decide +kernel
theorem dX9_bestZero_69 : decode cX9_bestZero 69 = .ok (.aload_n 0, 1) := by decide +kernel
theorem dX9_bestZero_70 : decode cX9_bestZero 70 = .ok (.aload_n 0, 1) := by decide +kernel
theorem dX9_bestZero_71 : decode cX9_bestZero 71 = .ok (.getfield 41, 3) := by decide +kernel
theorem dX9_bestZero_74 : decode cX9_bestZero 74 = .ok (.iconst 1, 1) := by decide +kernel
theorem dX9_bestZero_75 : decode cX9_bestZero 75 = .ok (.invokevirtual 268, 3) := by decide +kernel
theorem dX9_bestZero_78 : decode cX9_bestZero 78 = .ok (.istore 7, 2) := by decide +kernel
theorem dX9_bestZero_80 : decode cX9_bestZero 80 = .ok (.iload 7, 2) := by decide +kernel
theorem dX9_bestZero_82 : decode cX9_bestZero 82 = .ok (.iload 4, 2) := by decide +kernel
theorem dX9_bestZero_84 : decode cX9_bestZero 84 = .ok (.if_icmp .ge 16, 3) := by decide +kernel
theorem dX9_bestZero_87 : decode cX9_bestZero 87 = .ok (.iload 7, 2) := by decide +kernel
theorem dX9_bestZero_89 : decode cX9_bestZero 89 = .ok (.istore 4, 2) := by decide +kernel
theorem dX9_bestZero_91 : decode cX9_bestZero 91 = .ok (.aload_n 2, 1) := by decide +kernel
theorem dX9_bestZero_92 : decode cX9_bestZero 92 = .ok (.iload 5, 2) := by decide +kernel
theorem dX9_bestZero_94 : decode cX9_bestZero 94 = .ok (.iload 6, 2) := by decide +kernel
theorem dX9_bestZero_96 : decode cX9_bestZero 96 = .ok (.invokevirtual 271, 3) := by decide +kernel
theorem dX9_bestZero_99 : decode cX9_bestZero 99 = .ok (.istore_n 3, 1) := by decide +kernel
theorem dX9_bestZero_100 : decode cX9_bestZero 100 = .ok (.iinc 6 1, 3) := by decide +kernel
theorem dX9_bestZero_103 : decode cX9_bestZero 103 = .ok (.goto (-63), 3) := by decide +kernel
theorem dX9_bestZero_106 : decode cX9_bestZero 106 = .ok (.iinc 5 1, 3) := by decide +kernel
theorem dX9_bestZero_109 : decode cX9_bestZero 109 = .ok (.goto (-81), 3) := by decide +kernel
theorem dX9_bestZero_112 : decode cX9_bestZero 112 = .ok (.iload_n 3, 1) := by decide +kernel
theorem dX9_bestZero_113 : decode cX9_bestZero 113 = .ok (.ireturn, 1) := by decide +kernel
theorem dX9_put_0 : decode cX9_put 0 = .ok (.lload_n 1, 1) := by decide +kernel
theorem dX9_put_1 : decode cX9_put 1 = .ok (.invokestatic 274, 3) := by decide +kernel
theorem dX9_put_4 : decode cX9_put 4 = .ok (.istore_n 3, 1) := by decide +kernel
theorem dX9_put_5 : decode cX9_put 5 = .ok (.iload_n 3, 1) := by decide +kernel
theorem dX9_put_6 : decode cX9_put 6 = .ok (.ifCond .ne 6, 3) := by decide +kernel
theorem dX9_put_9 : decode cX9_put 9 = .ok (.bipush (-2), 2) := by decide +kernel
theorem dX9_put_11 : decode cX9_put 11 = .ok (.ireturn, 1) := by decide +kernel
theorem dX9_put_12 : decode cX9_put 12 = .ok (.aload_n 0, 1) := by decide +kernel
theorem dX9_put_13 : decode cX9_put 13 = .ok (.getfield 34, 3) := by decide +kernel
theorem dX9_put_16 : decode cX9_put 16 = .ok (.getfield 112, 3) := by decide +kernel
theorem dX9_put_19 : decode cX9_put 19 = .ok (.iload_n 3, 1) := by decide +kernel
theorem dX9_put_20 : decode cX9_put 20 = .ok (.iadd, 1) := by decide +kernel
theorem dX9_put_21 : decode cX9_put 21 = .ok (.bipush 80, 2) := by decide +kernel
theorem dX9_put_23 : decode cX9_put 23 = .ok (.if_icmp .le 6, 3) := by decide +kernel
theorem dX9_put_26 : decode cX9_put 26 = .ok (.bipush (-4), 2) := by decide +kernel
theorem dX9_put_28 : decode cX9_put 28 = .ok (.ireturn, 1) := by decide +kernel
theorem dX9_put_29 : decode cX9_put 29 = .ok (.aload_n 0, 1) := by decide +kernel
theorem dX9_put_30 : decode cX9_put 30 = .ok (.getfield 34, 3) := by decide +kernel
theorem dX9_put_33 : decode cX9_put 33 = .ok (.lload_n 1, 1) := by decide +kernel
theorem dX9_put_34 : decode cX9_put 34 = .ok (.iload_n 3, 1) := by decide +kernel
theorem dX9_put_35 : decode cX9_put 35 = .ok (.invokevirtual 278, 3) := by decide +kernel
theorem dX9_put_38 : decode cX9_put 38 = .ok (.aload_n 0, 1) := by decide +kernel
theorem dX9_put_39 : decode cX9_put 39 = .ok (.getfield 34, 3) := by decide +kernel
theorem dX9_put_42 : decode cX9_put 42 = .ok (.getfield 112, 3) := by decide +kernel
theorem dX9_put_45 : decode cX9_put 45 = .ok (.ireturn, 1) := by decide +kernel
theorem dX9_wipe_0 : decode cX9_wipe 0 = .ok (.aload_n 0, 1) := by decide +kernel
theorem dX9_wipe_1 : decode cX9_wipe 1 = .ok (.getfield 34, 3) := by decide +kernel
theorem dX9_wipe_4 : decode cX9_wipe 4 = .ok (.getfield 112, 3) := by decide +kernel
theorem dX9_wipe_7 : decode cX9_wipe 7 = .ok (.istore_n 1, 1) := by decide +kernel
theorem dX9_wipe_8 : decode cX9_wipe 8 = .ok (.aload_n 0, 1) := by decide +kernel
theorem dX9_wipe_9 : decode cX9_wipe 9 = .ok (.getfield 34, 3) := by decide +kernel
theorem dX9_wipe_12 : decode cX9_wipe 12 = .ok (.iconst 0, 1) := by decide +kernel
theorem dX9_wipe_13 : decode cX9_wipe 13 = .ok (.putfield 112, 3) := by decide +kernel
theorem dX9_wipe_16 : decode cX9_wipe 16 = .ok (.iload_n 1, 1) := by decide +kernel
theorem dX9_wipe_17 : decode cX9_wipe 17 = .ok (.ireturn, 1) := by decide +kernel
theorem dX9_fault_0 : decode cX9_fault 0 = .ok (.aload_n 0, 1) := by decide +kernel
theorem dX9_fault_1 : decode cX9_fault 1 = .ok (.getfield 34, 3) := by decide +kernel
theorem dX9_fault_4 : decode cX9_fault 4 = .ok (.invokevirtual 80, 3) := by decide +kernel
theorem dX9_fault_7 : decode cX9_fault 7 = .ok (.ireturn, 1) := by decide +kernel
theorem dX9_undo_0 : decode cX9_undo 0 = .ok (.aload_n 0, 1) := by decide +kernel
theorem dX9_undo_1 : decode cX9_undo 1 = .ok (.getfield 19, 3) := by decide +kernel
theorem dX9_undo_4 : decode cX9_undo 4 = .ok (.getfield 266, 3) := by decide +kernel
theorem dX9_undo_7 : decode cX9_undo 7 = .ok (.ifCond .ne 6, 3) := by decide +kernel
theorem dX9_undo_10 : decode cX9_undo 10 = .ok (.bipush (-5), 2) := by decide +kernel
theorem dX9_undo_12 : decode cX9_undo 12 = .ok (.ireturn, 1) := by decide +kernel
theorem dX9_undo_13 : decode cX9_undo 13 = .ok (.aload_n 0, 1) := by decide +kernel
theorem dX9_undo_14 : decode cX9_undo 14 = .ok (.getfield 19, 3) := by decide +kernel
theorem dX9_undo_17 : decode cX9_undo 17 = .ok (.aload_n 0, 1) := by decide +kernel
theorem dX9_undo_18 : decode cX9_undo 18 = .ok (.getfield 10, 3) := by decide +kernel
theorem dX9_undo_21 : decode cX9_undo 21 = .ok (.invokevirtual 282, 3) := by decide +kernel
theorem dX9_undo_24 : decode cX9_undo 24 = .ok (.aload_n 0, 1) := by decide +kernel
theorem dX9_undo_25 : decode cX9_undo 25 = .ok (.getfield 19, 3) := by decide +kernel
theorem dX9_undo_28 : decode cX9_undo 28 = .ok (.getfield 266, 3) := by decide +kernel
theorem dX9_undo_31 : decode cX9_undo 31 = .ok (.ireturn, 1) := by decide +kernel
theorem dX9_save_0 : decode cX9_save 0 = .ok (.iload_n 1, 1) := by decide +kernel
theorem dX9_save_1 : decode cX9_save 1 = .ok (.invokestatic 285, 3) := by decide +kernel
theorem dX9_save_4 : decode cX9_save 4 = .ok (.ifCond .ne 6, 3) := by decide +kernel
theorem dX9_save_7 : decode cX9_save 7 = .ok (.bipush (-2), 2) := by decide +kernel
theorem dX9_save_9 : decode cX9_save 9 = .ok (.ireturn, 1) := by decide +kernel
theorem dX9_save_10 : decode cX9_save 10 = .ok (.aload_n 0, 1) := by decide +kernel
theorem dX9_save_11 : decode cX9_save 11 = .ok (.getfield 23, 3) := by decide +kernel
theorem dX9_save_14 : decode cX9_save 14 = .ok (.iload_n 1, 1) := by decide +kernel
theorem dX9_save_15 : decode cX9_save 15 = .ok (.aaload, 1) := by decide +kernel
theorem dX9_save_16 : decode cX9_save 16 = .ok (.aload_n 0, 1) := by decide +kernel
theorem dX9_save_17 : decode cX9_save 17 = .ok (.getfield 10, 3) := by decide +kernel
theorem dX9_save_20 : decode cX9_save 20 = .ok (.invokevirtual 288, 3) := by decide +kernel
theorem dX9_save_23 : decode cX9_save 23 = .ok (.aload_n 0, 1) := by decide +kernel
theorem dX9_save_24 : decode cX9_save 24 = .ok (.getfield 27, 3) := by decide +kernel
theorem dX9_save_27 : decode cX9_save 27 = .ok (.iload_n 1, 1) := by decide +kernel
theorem dX9_save_28 : decode cX9_save 28 = .ok (.iconst 1, 1) := by decide +kernel
theorem dX9_save_29 : decode cX9_save 29 = .ok (.bastore, 1) := by decide +kernel
theorem dX9_save_30 : decode cX9_save 30 = .ok (.aload_n 0, 1) := by decide +kernel
theorem dX9_save_31 : decode cX9_save 31 = .ok (.getfield 10, 3) := by decide +kernel
theorem dX9_save_34 : decode cX9_save 34 = .ok (.invokevirtual 265, 3) := by decide +kernel
theorem dX9_save_37 : decode cX9_save 37 = .ok (.ireturn, 1) := by decide +kernel
theorem dX9_restore_0 : decode cX9_restore 0 = .ok (.iload_n 1, 1) := by decide +kernel
theorem dX9_restore_1 : decode cX9_restore 1 = .ok (.invokestatic 285, 3) := by decide +kernel
theorem dX9_restore_4 : decode cX9_restore 4 = .ok (.ifCond .ne 6, 3) := by decide +kernel
theorem dX9_restore_7 : decode cX9_restore 7 = .ok (.bipush (-2), 2) := by decide +kernel
theorem dX9_restore_9 : decode cX9_restore 9 = .ok (.ireturn, 1) := by decide +kernel
theorem dX9_restore_10 : decode cX9_restore 10 = .ok (.aload_n 0, 1) := by decide +kernel
theorem dX9_restore_11 : decode cX9_restore 11 = .ok (.getfield 27, 3) := by decide +kernel
theorem dX9_restore_14 : decode cX9_restore 14 = .ok (.iload_n 1, 1) := by decide +kernel
theorem dX9_restore_15 : decode cX9_restore 15 = .ok (.baload, 1) := by decide +kernel
theorem dX9_restore_16 : decode cX9_restore 16 = .ok (.ifCond .ne 6, 3) := by decide +kernel
theorem dX9_restore_19 : decode cX9_restore 19 = .ok (.bipush (-5), 2) := by decide +kernel
theorem dX9_restore_21 : decode cX9_restore 21 = .ok (.ireturn, 1) := by decide +kernel
theorem dX9_restore_22 : decode cX9_restore 22 = .ok (.aload_n 0, 1) := by decide +kernel
theorem dX9_restore_23 : decode cX9_restore 23 = .ok (.getfield 19, 3) := by decide +kernel
theorem dX9_restore_26 : decode cX9_restore 26 = .ok (.aload_n 0, 1) := by decide +kernel
theorem dX9_restore_27 : decode cX9_restore 27 = .ok (.getfield 10, 3) := by decide +kernel
theorem dX9_restore_30 : decode cX9_restore 30 = .ok (.invokevirtual 100, 3) := by decide +kernel
theorem dX9_restore_33 : decode cX9_restore 33 = .ok (.aload_n 0, 1) := by decide +kernel
theorem dX9_restore_34 : decode cX9_restore 34 = .ok (.getfield 10, 3) := by decide +kernel
theorem dX9_restore_37 : decode cX9_restore 37 = .ok (.aload_n 0, 1) := by decide +kernel
theorem dX9_restore_38 : decode cX9_restore 38 = .ok (.getfield 23, 3) := by decide +kernel
theorem dX9_restore_41 : decode cX9_restore 41 = .ok (.iload_n 1, 1) := by decide +kernel
theorem dX9_restore_42 : decode cX9_restore 42 = .ok (.aaload, 1) := by decide +kernel
theorem dX9_restore_43 : decode cX9_restore 43 = .ok (.invokevirtual 288, 3) := by decide +kernel
theorem dX9_restore_46 : decode cX9_restore 46 = .ok (.aload_n 0, 1) := by decide +kernel
theorem dX9_restore_47 : decode cX9_restore 47 = .ok (.getfield 10, 3) := by decide +kernel
theorem dX9_restore_50 : decode cX9_restore 50 = .ok (.invokevirtual 265, 3) := by decide +kernel
theorem dX9_restore_53 : decode cX9_restore 53 = .ok (.ireturn, 1) := by decide +kernel
theorem dX9_isArray_0 : decode cX9_isArray 0 = .ok (.iload_n 0, 1) := by decide +kernel
theorem dX9_isArray_1 : decode cX9_isArray 1 = .ok (.ifCond .lt 12, 3) := by decide +kernel
theorem dX9_isArray_4 : decode cX9_isArray 4 = .ok (.iload_n 0, 1) := by decide +kernel
theorem dX9_isArray_5 : decode cX9_isArray 5 = .ok (.iconst 3, 1) := by decide +kernel
theorem dX9_isArray_6 : decode cX9_isArray 6 = .ok (.if_icmp .ge 7, 3) := by decide +kernel
theorem dX9_isArray_9 : decode cX9_isArray 9 = .ok (.iconst 1, 1) := by decide +kernel
theorem dX9_isArray_10 : decode cX9_isArray 10 = .ok (.goto 4, 3) := by decide +kernel
theorem dX9_isArray_13 : decode cX9_isArray 13 = .ok (.iconst 0, 1) := by decide +kernel
theorem dX9_isArray_14 : decode cX9_isArray 14 = .ok (.ireturn, 1) := by decide +kernel
theorem dX9_isSlot_0 : decode cX9_isSlot 0 = .ok (.iload_n 0, 1) := by decide +kernel
theorem dX9_isSlot_1 : decode cX9_isSlot 1 = .ok (.ifCond .lt 12, 3) := by decide +kernel
theorem dX9_isSlot_4 : decode cX9_isSlot 4 = .ok (.iload_n 0, 1) := by decide +kernel
theorem dX9_isSlot_5 : decode cX9_isSlot 5 = .ok (.iconst 2, 1) := by decide +kernel
theorem dX9_isSlot_6 : decode cX9_isSlot 6 = .ok (.if_icmp .ge 7, 3) := by decide +kernel
theorem dX9_isSlot_9 : decode cX9_isSlot 9 = .ok (.iconst 1, 1) := by decide +kernel
theorem dX9_isSlot_10 : decode cX9_isSlot 10 = .ok (.goto 4, 3) := by decide +kernel
theorem dX9_isSlot_13 : decode cX9_isSlot 13 = .ok (.iconst 0, 1) := by decide +kernel
theorem dX9_isSlot_14 : decode cX9_isSlot 14 = .ok (.ireturn, 1) := by decide +kernel
theorem dX9_isValue_0 : decode cX9_isValue 0 = .ok (.iload_n 0, 1) := by decide +kernel
theorem dX9_isValue_1 : decode cX9_isValue 1 = .ok (.ifCond .lt 14, 3) := by decide +kernel
theorem dX9_isValue_4 : decode cX9_isValue 4 = .ok (.iload_n 0, 1) := by decide +kernel
theorem dX9_isValue_5 : decode cX9_isValue 5 = .ok (.sipush 999, 3) := by decide +kernel
theorem dX9_isValue_8 : decode cX9_isValue 8 = .ok (.if_icmp .gt 7, 3) := by decide +kernel
theorem dX9_isValue_11 : decode cX9_isValue 11 = .ok (.iconst 1, 1) := by decide +kernel
theorem dX9_isValue_12 : decode cX9_isValue 12 = .ok (.goto 4, 3) := by decide +kernel
theorem dX9_isValue_15 : decode cX9_isValue 15 = .ok (.iconst 0, 1) := by decide +kernel
theorem dX9_isValue_16 : decode cX9_isValue 16 = .ok (.ireturn, 1) := by decide +kernel
theorem dX9_isSet_0 : decode cX9_isSet 0 = .ok (.iload_n 0, 1) := by decide +kernel
theorem dX9_isSet_1 : decode cX9_isSet 1 = .ok (.ifCond .lt 14, 3) := by decide +kernel
theorem dX9_isSet_4 : decode cX9_isSet 4 = .ok (.iload_n 0, 1) := by decide +kernel
theorem dX9_isSet_5 : decode cX9_isSet 5 = .ok (.iconst 1, 1) := by decide +kernel
theorem dX9_isSet_6 : decode cX9_isSet 6 = .ok (.iload_n 1, 1) := by decide +kernel
theorem dX9_isSet_7 : decode cX9_isSet 7 = .ok (.ishl, 1) := by decide +kernel
theorem dX9_isSet_8 : decode cX9_isSet 8 = .ok (.if_icmp .ge 7, 3) := by decide +kernel
theorem dX9_isSet_11 : decode cX9_isSet 11 = .ok (.iconst 1, 1) := by decide +kernel
theorem dX9_isSet_12 : decode cX9_isSet 12 = .ok (.goto 4, 3) := by decide +kernel
theorem dX9_isSet_15 : decode cX9_isSet 15 = .ok (.iconst 0, 1) := by decide +kernel
theorem dX9_isSet_16 : decode cX9_isSet 16 = .ok (.ireturn, 1) := by decide +kernel
theorem dX9_isPart_0 : decode cX9_isPart 0 = .ok (.iload_n 1, 1) := by decide +kernel
theorem dX9_isPart_1 : decode cX9_isPart 1 = .ok (.ifCond .eq 40, 3) := by decide +kernel
theorem dX9_isPart_4 : decode cX9_isPart 4 = .ok (.iload_n 1, 1) := by decide +kernel
theorem dX9_isPart_5 : decode cX9_isPart 5 = .ok (.aload_n 0, 1) := by decide +kernel
theorem dX9_isPart_6 : decode cX9_isPart 6 = .ok (.getfield 165, 3) := by decide +kernel
theorem dX9_isPart_9 : decode cX9_isPart 9 = .ok (.invokestatic 209, 3) := by decide +kernel
theorem dX9_isPart_12 : decode cX9_isPart 12 = .ok (.ifCond .eq 29, 3) := by decide +kernel
theorem dX9_isPart_15 : decode cX9_isPart 15 = .ok (.iload_n 2, 1) := by decide +kernel
theorem dX9_isPart_16 : decode cX9_isPart 16 = .ok (.aload_n 0, 1) := by decide +kernel
theorem dX9_isPart_17 : decode cX9_isPart 17 = .ok (.getfield 166, 3) := by decide +kernel
theorem dX9_isPart_20 : decode cX9_isPart 20 = .ok (.invokestatic 209, 3) := by decide +kernel
theorem dX9_isPart_23 : decode cX9_isPart 23 = .ok (.ifCond .eq 18, 3) := by decide +kernel
theorem dX9_isPart_26 : decode cX9_isPart 26 = .ok (.iload_n 1, 1) := by decide +kernel
theorem dX9_isPart_27 : decode cX9_isPart 27 = .ok (.invokestatic 242, 3) := by decide +kernel
theorem dX9_isPart_30 : decode cX9_isPart 30 = .ok (.iload_n 2, 1) := by decide +kernel
theorem dX9_isPart_31 : decode cX9_isPart 31 = .ok (.invokestatic 242, 3) := by decide +kernel
theorem dX9_isPart_34 : decode cX9_isPart 34 = .ok (.if_icmp .ne 7, 3) := by decide +kernel
theorem dX9_isPart_37 : decode cX9_isPart 37 = .ok (.iconst 1, 1) := by decide +kernel
theorem dX9_isPart_38 : decode cX9_isPart 38 = .ok (.goto 4, 3) := by decide +kernel
theorem dX9_isPart_41 : decode cX9_isPart 41 = .ok (.iconst 0, 1) := by decide +kernel
theorem dX9_isPart_42 : decode cX9_isPart 42 = .ok (.ireturn, 1) := by decide +kernel
theorem dX9_rank_0 : decode cX9_rank 0 = .ok (.iload_n 2, 1) := by decide +kernel
theorem dX9_rank_1 : decode cX9_rank 1 = .ok (.tableswitch 77 0 2 #[27, 47, 67], 27) := by decide +kernel
theorem dX9_rank_28 : decode cX9_rank 28 = .ok (.aload_n 0, 1) := by decide +kernel
theorem dX9_rank_29 : decode cX9_rank 29 = .ok (.getfield 58, 3) := by decide +kernel
theorem dX9_rank_32 : decode cX9_rank 32 = .ok (.aload_n 1, 1) := by decide +kernel
theorem dX9_rank_33 : decode cX9_rank 33 = .ok (.aload_n 0, 1) := by decide +kernel
theorem dX9_rank_34 : decode cX9_rank 34 = .ok (.getfield 51, 3) := by decide +kernel
theorem dX9_rank_37 : decode cX9_rank 37 = .ok (.invokevirtual 197, 3) := by decide +kernel
theorem dX9_rank_40 : decode cX9_rank 40 = .ok (.aload_n 0, 1) := by decide +kernel
theorem dX9_rank_41 : decode cX9_rank 41 = .ok (.getfield 58, 3) := by decide +kernel
theorem dX9_rank_44 : decode cX9_rank 44 = .ok (.getfield 201, 3) := by decide +kernel
theorem dX9_rank_47 : decode cX9_rank 47 = .ok (.ireturn, 1) := by decide +kernel
theorem dX9_rank_48 : decode cX9_rank 48 = .ok (.aload_n 0, 1) := by decide +kernel
theorem dX9_rank_49 : decode cX9_rank 49 = .ok (.getfield 65, 3) := by decide +kernel
theorem dX9_rank_52 : decode cX9_rank 52 = .ok (.aload_n 1, 1) := by decide +kernel
theorem dX9_rank_53 : decode cX9_rank 53 = .ok (.aload_n 0, 1) := by decide +kernel
theorem dX9_rank_54 : decode cX9_rank 54 = .ok (.getfield 51, 3) := by decide +kernel
theorem dX9_rank_57 : decode cX9_rank 57 = .ok (.invokevirtual 212, 3) := by decide +kernel
theorem dX9_rank_60 : decode cX9_rank 60 = .ok (.aload_n 0, 1) := by decide +kernel
theorem dX9_rank_61 : decode cX9_rank 61 = .ok (.getfield 65, 3) := by decide +kernel
theorem dX9_rank_64 : decode cX9_rank 64 = .ok (.invokevirtual 216, 3) := by decide +kernel
theorem dX9_rank_67 : decode cX9_rank 67 = .ok (.ireturn, 1) := by decide +kernel
theorem dX9_rank_68 : decode cX9_rank 68 = .ok (.aload_n 0, 1) := by decide +kernel
theorem dX9_rank_69 : decode cX9_rank 69 = .ok (.aload_n 1, 1) := by decide +kernel
theorem dX9_rank_70 : decode cX9_rank 70 = .ok (.iconst 0, 1) := by decide +kernel
theorem dX9_rank_71 : decode cX9_rank 71 = .ok (.invokevirtual 238, 3) := by decide +kernel
theorem dX9_rank_74 : decode cX9_rank 74 = .ok (.invokestatic 242, 3) := by decide +kernel
theorem dX9_rank_77 : decode cX9_rank 77 = .ok (.ireturn, 1) := by decide +kernel
theorem dX9_rank_78 : decode cX9_rank 78 = .ok (.aload_n 0, 1) := by decide +kernel
theorem dX9_rank_79 : decode cX9_rank 79 = .ok (.aload_n 1, 1) := by decide +kernel
theorem dX9_rank_80 : decode cX9_rank 80 = .ok (.iconst 1, 1) := by decide +kernel
theorem dX9_rank_81 : decode cX9_rank 81 = .ok (.invokevirtual 238, 3) := by decide +kernel
theorem dX9_rank_84 : decode cX9_rank 84 = .ok (.invokestatic 242, 3) := by decide +kernel
theorem dX9_rank_87 : decode cX9_rank 87 = .ok (.ireturn, 1) := by decide +kernel
theorem dX9_neededLines_0 : decode cX9_neededLines 0 = .ok (.iload_n 2, 1) := by decide +kernel
theorem dX9_neededLines_1 : decode cX9_neededLines 1 = .ok (.ifCond .ne 8, 3) := by decide +kernel
theorem dX9_neededLines_4 : decode cX9_neededLines 4 = .ok (.aload_n 1, 1) := by decide +kernel
theorem dX9_neededLines_5 : decode cX9_neededLines 5 = .ok (.invokestatic 290, 3) := by decide +kernel
theorem dX9_neededLines_8 : decode cX9_neededLines 8 = .ok (.ireturn, 1) := by decide +kernel
theorem dX9_neededLines_9 : decode cX9_neededLines 9 = .ok (.aload_n 0, 1) := by decide +kernel
theorem dX9_neededLines_10 : decode cX9_neededLines 10 = .ok (.getfield 45, 3) := by decide +kernel
theorem dX9_neededLines_13 : decode cX9_neededLines 13 = .ok (.aload_n 1, 1) := by decide +kernel
theorem dX9_neededLines_14 : decode cX9_neededLines 14 = .ok (.invokevirtual 159, 3) := by decide +kernel
theorem dX9_neededLines_17 : decode cX9_neededLines 17 = .ok (.aload_n 0, 1) := by decide +kernel
theorem dX9_neededLines_18 : decode cX9_neededLines 18 = .ok (.getfield 45, 3) := by decide +kernel
theorem dX9_neededLines_21 : decode cX9_neededLines 21 = .ok (.invokestatic 290, 3) := by decide +kernel
theorem dX9_neededLines_24 : decode cX9_neededLines 24 = .ok (.ireturn, 1) := by decide +kernel
theorem dX10_init_0 : decode cX10_init 0 = .ok (.aload_n 0, 1) := by decide +kernel
theorem dX10_init_1 : decode cX10_init 1 = .ok (.invokespecial 1, 3) := by decide +kernel
theorem dX10_init_4 : decode cX10_init 4 = .ok (.aload_n 0, 1) := by decide +kernel
theorem dX10_init_5 : decode cX10_init 5 = .ok (.bipush 42, 2) := by decide +kernel
theorem dX10_init_7 : decode cX10_init 7 = .ok (.newarray .int, 2) := by decide +kernel
theorem dX10_init_9 : decode cX10_init 9 = .ok (.putfield 7, 3) := by decide +kernel
theorem dX10_init_12 : decode cX10_init 12 = .ok (.aload_n 0, 1) := by decide +kernel
theorem dX10_init_13 : decode cX10_init 13 = .ok (.sipush 252, 3) := by decide +kernel
theorem dX10_init_16 : decode cX10_init 16 = .ok (.newarray .int, 2) := by decide +kernel
theorem dX10_init_18 : decode cX10_init 18 = .ok (.putfield 13, 3) := by decide +kernel
theorem dX10_init_21 : decode cX10_init 21 = .ok (.aload_n 0, 1) := by decide +kernel
theorem dX10_init_22 : decode cX10_init 22 = .ok (.bipush 84, 2) := by decide +kernel
theorem dX10_init_24 : decode cX10_init 24 = .ok (.newarray .int, 2) := by decide +kernel
theorem dX10_init_26 : decode cX10_init 26 = .ok (.putfield 16, 3) := by decide +kernel
theorem dX10_init_29 : decode cX10_init 29 = .ok (.aload_n 0, 1) := by decide +kernel
theorem dX10_init_30 : decode cX10_init 30 = .ok (.iconst 2, 1) := by decide +kernel
theorem dX10_init_31 : decode cX10_init 31 = .ok (.newarray .int, 2) := by decide +kernel
theorem dX10_init_33 : decode cX10_init 33 = .ok (.putfield 19, 3) := by decide +kernel
theorem dX10_init_36 : decode cX10_init 36 = .ok (.aload_n 0, 1) := by decide +kernel
theorem dX10_init_37 : decode cX10_init 37 = .ok (.bipush 80, 2) := by decide +kernel
theorem dX10_init_39 : decode cX10_init 39 = .ok (.newarray .int, 2) := by decide +kernel
theorem dX10_init_41 : decode cX10_init 41 = .ok (.putfield 22, 3) := by decide +kernel
theorem dX10_init_44 : decode cX10_init 44 = .ok (.aload_n 0, 1) := by decide +kernel
theorem dX10_init_45 : decode cX10_init 45 = .ok (.bipush 48, 2) := by decide +kernel
theorem dX10_init_47 : decode cX10_init 47 = .ok (.newarray .int, 2) := by decide +kernel
theorem dX10_init_49 : decode cX10_init 49 = .ok (.putfield 25, 3) := by decide +kernel
theorem dX10_init_52 : decode cX10_init 52 = .ok (.aload_n 0, 1) := by decide +kernel
theorem dX10_init_53 : decode cX10_init 53 = .ok (.bipush 48, 2) := by decide +kernel
theorem dX10_init_55 : decode cX10_init 55 = .ok (.newarray .int, 2) := by decide +kernel
theorem dX10_init_57 : decode cX10_init 57 = .ok (.putfield 28, 3) := by decide +kernel
theorem dX10_init_60 : decode cX10_init 60 = .ok (.aload_n 0, 1) := by decide +kernel
theorem dX10_init_61 : decode cX10_init 61 = .ok (.iconst 4, 1) := by decide +kernel
theorem dX10_init_62 : decode cX10_init 62 = .ok (.newarray .int, 2) := by decide +kernel
theorem dX10_init_64 : decode cX10_init 64 = .ok (.putfield 31, 3) := by decide +kernel
theorem dX10_init_67 : decode cX10_init 67 = .ok (.aload_n 0, 1) := by decide +kernel
theorem dX10_init_68 : decode cX10_init 68 = .ok (.sipush 4096, 3) := by decide +kernel
theorem dX10_init_71 : decode cX10_init 71 = .ok (.newarray .int, 2) := by decide +kernel
theorem dX10_init_73 : decode cX10_init 73 = .ok (.putfield 34, 3) := by decide +kernel
theorem dX10_init_76 : decode cX10_init 76 = .ok (.aload_n 0, 1) := by decide +kernel
theorem dX10_init_77 : decode cX10_init 77 = .ok (.sipush 4096, 3) := by decide +kernel
theorem dX10_init_80 : decode cX10_init 80 = .ok (.newarray .int, 2) := by decide +kernel
theorem dX10_init_82 : decode cX10_init 82 = .ok (.putfield 37, 3) := by decide +kernel
theorem dX10_init_85 : decode cX10_init 85 = .ok (.aload_n 0, 1) := by decide +kernel
theorem dX10_init_86 : decode cX10_init 86 = .ok (.bipush 16, 2) := by decide +kernel
theorem dX10_init_88 : decode cX10_init 88 = .ok (.newarray .int, 2) := by decide +kernel
theorem dX10_init_90 : decode cX10_init 90 = .ok (.putfield 40, 3) := by decide +kernel
theorem dX10_init_93 : decode cX10_init 93 = .ok (.aload_n 0, 1) := by decide +kernel
theorem dX10_init_94 : decode cX10_init 94 = .ok (.bipush 12, 2) := by decide +kernel
theorem dX10_init_96 : decode cX10_init 96 = .ok (.newarray .int, 2) := by decide +kernel
theorem dX10_init_98 : decode cX10_init 98 = .ok (.putfield 43, 3) := by decide +kernel
theorem dX10_init_101 : decode cX10_init 101 = .ok (.iconst 0, 1) := by decide +kernel
theorem dX10_init_102 : decode cX10_init 102 = .ok (.istore_n 1, 1) := by decide +kernel
theorem dX10_init_103 : decode cX10_init 103 = .ok (.iload_n 1, 1) := by decide +kernel
theorem dX10_init_104 : decode cX10_init 104 = .ok (.iconst 3, 1) := by decide +kernel
theorem dX10_init_105 : decode cX10_init 105 = .ok (.if_icmp .ge 33, 3) := by decide +kernel
theorem dX10_init_108 : decode cX10_init 108 = .ok (.aload_n 0, 1) := by decide +kernel
theorem dX10_init_109 : decode cX10_init 109 = .ok (.getfield 7, 3) := by decide +kernel
theorem dX10_init_112 : decode cX10_init 112 = .ok (.bipush 14, 2) := by decide +kernel
theorem dX10_init_114 : decode cX10_init 114 = .ok (.iload_n 1, 1) := by decide +kernel
theorem dX10_init_115 : decode cX10_init 115 = .ok (.imul, 1) := by decide +kernel
theorem dX10_init_116 : decode cX10_init 116 = .ok (.iconst 0, 1) := by decide +kernel
theorem dX10_init_117 : decode cX10_init 117 = .ok (.iadd, 1) := by decide +kernel
theorem dX10_init_118 : decode cX10_init 118 = .ok (.iconst 1, 1) := by decide +kernel
theorem dX10_init_119 : decode cX10_init 119 = .ok (.iastore, 1) := by decide +kernel
theorem dX10_init_120 : decode cX10_init 120 = .ok (.aload_n 0, 1) := by decide +kernel
theorem dX10_init_121 : decode cX10_init 121 = .ok (.getfield 7, 3) := by decide +kernel
theorem dX10_init_124 : decode cX10_init 124 = .ok (.bipush 14, 2) := by decide +kernel
theorem dX10_init_126 : decode cX10_init 126 = .ok (.iload_n 1, 1) := by decide +kernel
theorem dX10_init_127 : decode cX10_init 127 = .ok (.imul, 1) := by decide +kernel
theorem dX10_init_128 : decode cX10_init 128 = .ok (.iconst 1, 1) := by decide +kernel
theorem dX10_init_129 : decode cX10_init 129 = .ok (.iadd, 1) := by decide +kernel
theorem dX10_init_130 : decode cX10_init 130 = .ok (.iconst 1, 1) := by decide +kernel
theorem dX10_init_131 : decode cX10_init 131 = .ok (.iastore, 1) := by decide +kernel
theorem dX10_init_132 : decode cX10_init 132 = .ok (.iinc 1 1, 3) := by decide +kernel
theorem dX10_init_135 : decode cX10_init 135 = .ok (.goto (-32), 3) := by decide +kernel
theorem dX10_init_138 : decode cX10_init 138 = .ok (.return_, 1) := by decide +kernel
theorem dX10_moves_0 : decode cX10_moves 0 = .ok (.iconst 0, 1) := by decide +kernel
theorem dX10_moves_1 : decode cX10_moves 1 = .ok (.istore 4, 2) := by decide +kernel
theorem dX10_moves_3 : decode cX10_moves 3 = .ok (.iload 4, 2) := by decide +kernel
theorem dX10_moves_5 : decode cX10_moves 5 = .ok (.bipush 42, 2) := by decide +kernel
theorem dX10_moves_7 : decode cX10_moves 7 = .ok (.if_icmp .ge 21, 3) := by decide +kernel
theorem dX10_moves_10 : decode cX10_moves 10 = .ok (.aload_n 2, 1) := by decide +kernel
theorem dX10_moves_11 : decode cX10_moves 11 = .ok (.iload_n 3, 1) := by decide +kernel
theorem dX10_moves_12 : decode cX10_moves 12 = .ok (.iload 4, 2) := by decide +kernel
theorem dX10_moves_14 : decode cX10_moves 14 = .ok (.iadd, 1) := by decide +kernel
theorem dX10_moves_15 : decode cX10_moves 15 = .ok (.aload_n 0, 1) := by decide +kernel
theorem dX10_moves_16 : decode cX10_moves 16 = .ok (.iload_n 1, 1) := by decide +kernel
theorem dX10_moves_17 : decode cX10_moves 17 = .ok (.iload 4, 2) := by decide +kernel
theorem dX10_moves_19 : decode cX10_moves 19 = .ok (.iadd, 1) := by decide +kernel
theorem dX10_moves_20 : decode cX10_moves 20 = .ok (.iaload, 1) := by decide +kernel
theorem dX10_moves_21 : decode cX10_moves 21 = .ok (.iastore, 1) := by decide +kernel
theorem dX10_moves_22 : decode cX10_moves 22 = .ok (.iinc 4 1, 3) := by decide +kernel
theorem dX10_moves_25 : decode cX10_moves 25 = .ok (.goto (-22), 3) := by decide +kernel
theorem dX10_moves_28 : decode cX10_moves 28 = .ok (.return_, 1) := by decide +kernel
theorem dX10_within_0 : decode cX10_within 0 = .ok (.iload_n 0, 1) := by decide +kernel
theorem dX10_within_1 : decode cX10_within 1 = .ok (.iload_n 1, 1) := by decide +kernel
theorem dX10_within_2 : decode cX10_within 2 = .ok (.if_icmp .lt 12, 3) := by decide +kernel
theorem dX10_within_5 : decode cX10_within 5 = .ok (.iload_n 0, 1) := by decide +kernel
theorem dX10_within_6 : decode cX10_within 6 = .ok (.iload_n 2, 1) := by decide +kernel
theorem dX10_within_7 : decode cX10_within 7 = .ok (.if_icmp .gt 7, 3) := by decide +kernel
theorem dX10_within_10 : decode cX10_within 10 = .ok (.iconst 1, 1) := by decide +kernel
theorem dX10_within_11 : decode cX10_within 11 = .ok (.goto 4, 3) := by decide +kernel
theorem dX10_within_14 : decode cX10_within 14 = .ok (.iconst 0, 1) := by decide +kernel
theorem dX10_within_15 : decode cX10_within 15 = .ok (.ireturn, 1) := by decide +kernel
theorem dX10_record_0 : decode cX10_record 0 = .ok (.aload_n 0, 1) := by decide +kernel
theorem dX10_record_1 : decode cX10_record 1 = .ok (.getfield 46, 3) := by decide +kernel
theorem dX10_record_4 : decode cX10_record 4 = .ok (.bipush 6, 2) := by decide +kernel
theorem dX10_record_6 : decode cX10_record 6 = .ok (.if_icmp .ne 43, 3) := by decide +kernel
theorem dX10_record_9 : decode cX10_record 9 = .ok (.iconst 0, 1) := by decide +kernel
theorem dX10_record_10 : decode cX10_record 10 = .ok (.istore_n 1, 1) := by decide +kernel
theorem dX10_record_11 : decode cX10_record 11 = .ok (.iload_n 1, 1) := by decide +kernel
theorem dX10_record_12 : decode cX10_record 12 = .ok (.sipush 210, 3) := by decide +kernel
theorem dX10_record_15 : decode cX10_record 15 = .ok (.if_icmp .ge 24, 3) := by decide +kernel
theorem dX10_record_18 : decode cX10_record 18 = .ok (.aload_n 0, 1) := by decide +kernel
theorem dX10_record_19 : decode cX10_record 19 = .ok (.getfield 13, 3) := by decide +kernel
theorem dX10_record_22 : decode cX10_record 22 = .ok (.iload_n 1, 1) := by decide +kernel
theorem dX10_record_23 : decode cX10_record 23 = .ok (.aload_n 0, 1) := by decide +kernel
theorem dX10_record_24 : decode cX10_record 24 = .ok (.getfield 13, 3) := by decide +kernel
theorem dX10_record_27 : decode cX10_record 27 = .ok (.iload_n 1, 1) := by decide +kernel
theorem dX10_record_28 : decode cX10_record 28 = .ok (.bipush 42, 2) := by decide +kernel
theorem dX10_record_30 : decode cX10_record 30 = .ok (.iadd, 1) := by decide +kernel
theorem dX10_record_31 : decode cX10_record 31 = .ok (.iaload, 1) := by decide +kernel
theorem dX10_record_32 : decode cX10_record 32 = .ok (.iastore, 1) := by decide +kernel
theorem dX10_record_33 : decode cX10_record 33 = .ok (.iinc 1 1, 3) := by decide +kernel
theorem dX10_record_36 : decode cX10_record 36 = .ok (.goto (-25), 3) := by decide +kernel
theorem dX10_record_39 : decode cX10_record 39 = .ok (.aload_n 0, 1) := by decide +kernel
theorem dX10_record_40 : decode cX10_record 40 = .ok (.dup, 1) := by decide +kernel
theorem dX10_record_41 : decode cX10_record 41 = .ok (.getfield 46, 3) := by decide +kernel
theorem dX10_record_44 : decode cX10_record 44 = .ok (.iconst 1, 1) := by decide +kernel
theorem dX10_record_45 : decode cX10_record 45 = .ok (.isub, 1) := by decide +kernel
theorem dX10_record_46 : decode cX10_record 46 = .ok (.putfield 46, 3) := by decide +kernel
theorem dX10_record_49 : decode cX10_record 49 = .ok (.aload_n 0, 1) := by decide +kernel
theorem dX10_record_50 : decode cX10_record 50 = .ok (.getfield 7, 3) := by decide +kernel
theorem dX10_record_53 : decode cX10_record 53 = .ok (.iconst 0, 1) := by decide +kernel
theorem dX10_record_54 : decode cX10_record 54 = .ok (.aload_n 0, 1) := by decide +kernel
theorem dX10_record_55 : decode cX10_record 55 = .ok (.getfield 13, 3) := by decide +kernel
theorem dX10_record_58 : decode cX10_record 58 = .ok (.aload_n 0, 1) := by decide +kernel
theorem dX10_record_59 : decode cX10_record 59 = .ok (.getfield 46, 3) := by decide +kernel
theorem dX10_record_62 : decode cX10_record 62 = .ok (.bipush 42, 2) := by decide +kernel
theorem dX10_record_64 : decode cX10_record 64 = .ok (.imul, 1) := by decide +kernel
theorem dX10_record_65 : decode cX10_record 65 = .ok (.invokestatic 50, 3) := by decide +kernel
theorem dX10_record_68 : decode cX10_record 68 = .ok (.aload_n 0, 1) := by decide +kernel
theorem dX10_record_69 : decode cX10_record 69 = .ok (.dup, 1) := by decide +kernel
theorem dX10_record_70 : decode cX10_record 70 = .ok (.getfield 46, 3) := by decide +kernel
theorem dX10_record_73 : decode cX10_record 73 = .ok (.iconst 1, 1) := by decide +kernel
theorem dX10_record_74 : decode cX10_record 74 = .ok (.iadd, 1) := by decide +kernel
theorem dX10_record_75 : decode cX10_record 75 = .ok (.putfield 46, 3) := by decide +kernel
theorem dX10_record_78 : decode cX10_record 78 = .ok (.return_, 1) := by decide +kernel
theorem dX10_bits_0 : decode cX10_bits 0 = .ok (.iconst 0, 1) := by decide +kernel
theorem dX10_bits_1 : decode cX10_bits 1 = .ok (.istore_n 1, 1) := by decide +kernel
theorem dX10_bits_2 : decode cX10_bits 2 = .ok (.iconst 0, 1) := by decide +kernel
theorem dX10_bits_3 : decode cX10_bits 3 = .ok (.istore_n 2, 1) := by decide +kernel
theorem dX10_bits_4 : decode cX10_bits 4 = .ok (.iload_n 2, 1) := by decide +kernel
theorem dX10_bits_5 : decode cX10_bits 5 = .ok (.bipush 12, 2) := by decide +kernel
theorem dX10_bits_7 : decode cX10_bits 7 = .ok (.if_icmp .ge 17, 3) := by decide +kernel
theorem dX10_bits_10 : decode cX10_bits 10 = .ok (.iload_n 1, 1) := by decide +kernel
theorem dX10_bits_11 : decode cX10_bits 11 = .ok (.iload_n 0, 1) := by decide +kernel
theorem dX10_bits_12 : decode cX10_bits 12 = .ok (.iload_n 2, 1) := by decide +kernel
theorem dX10_bits_13 : decode cX10_bits 13 = .ok (.ishr, 1) := by decide +kernel
theorem dX10_bits_14 : decode cX10_bits 14 = .ok (.iconst 1, 1) := by decide +kernel
theorem dX10_bits_15 : decode cX10_bits 15 = .ok (.iand, 1) := by decide +kernel
theorem dX10_bits_16 : decode cX10_bits 16 = .ok (.iadd, 1) := by decide +kernel
theorem dX10_bits_17 : decode cX10_bits 17 = .ok (.istore_n 1, 1) := by decide +kernel
theorem dX10_bits_18 : decode cX10_bits 18 = .ok (.iinc 2 1, 3) := by decide +kernel
theorem dX10_bits_21 : decode cX10_bits 21 = .ok (.goto (-17), 3) := by decide +kernel
theorem dX10_bits_24 : decode cX10_bits 24 = .ok (.iload_n 1, 1) := by decide +kernel
theorem dX10_bits_25 : decode cX10_bits 25 = .ok (.ireturn, 1) := by decide +kernel
theorem dX10_isArray_0 : decode cX10_isArray 0 = .ok (.iload_n 0, 1) := by decide +kernel
theorem dX10_isArray_1 : decode cX10_isArray 1 = .ok (.iconst 0, 1) := by decide +kernel
theorem dX10_isArray_2 : decode cX10_isArray 2 = .ok (.iconst 2, 1) := by decide +kernel
theorem dX10_isArray_3 : decode cX10_isArray 3 = .ok (.invokestatic 54, 3) := by decide +kernel
theorem dX10_isArray_6 : decode cX10_isArray 6 = .ok (.ireturn, 1) := by decide +kernel
theorem dX10_rowsOf_0 : decode cX10_rowsOf 0 = .ok (.aload_n 0, 1) := by decide +kernel
theorem dX10_rowsOf_1 : decode cX10_rowsOf 1 = .ok (.getfield 7, 3) := by decide +kernel
theorem dX10_rowsOf_4 : decode cX10_rowsOf 4 = .ok (.bipush 14, 2) := by decide +kernel
theorem dX10_rowsOf_6 : decode cX10_rowsOf 6 = .ok (.iload_n 1, 1) := by decide +kernel
theorem dX10_rowsOf_7 : decode cX10_rowsOf 7 = .ok (.imul, 1) := by decide +kernel
theorem dX10_rowsOf_8 : decode cX10_rowsOf 8 = .ok (.iconst 0, 1) := by decide +kernel
theorem dX10_rowsOf_9 : decode cX10_rowsOf 9 = .ok (.iadd, 1) := by decide +kernel
theorem dX10_rowsOf_10 : decode cX10_rowsOf 10 = .ok (.iaload, 1) := by decide +kernel
theorem dX10_rowsOf_11 : decode cX10_rowsOf 11 = .ok (.ireturn, 1) := by decide +kernel
theorem dX10_columnsOf_0 : decode cX10_columnsOf 0 = .ok (.aload_n 0, 1) := by decide +kernel
theorem dX10_columnsOf_1 : decode cX10_columnsOf 1 = .ok (.getfield 7, 3) := by decide +kernel
theorem dX10_columnsOf_4 : decode cX10_columnsOf 4 = .ok (.bipush 14, 2) := by decide +kernel
theorem dX10_columnsOf_6 : decode cX10_columnsOf 6 = .ok (.iload_n 1, 1) := by decide +kernel
theorem dX10_columnsOf_7 : decode cX10_columnsOf 7 = .ok (.imul, 1) := by decide +kernel
theorem dX10_columnsOf_8 : decode cX10_columnsOf 8 = .ok (.iconst 1, 1) := by decide +kernel
theorem dX10_columnsOf_9 : decode cX10_columnsOf 9 = .ok (.iadd, 1) := by decide +kernel
theorem dX10_columnsOf_10 : decode cX10_columnsOf 10 = .ok (.iaload, 1) := by decide +kernel
theorem dX10_columnsOf_11 : decode cX10_columnsOf 11 = .ok (.ireturn, 1) := by decide +kernel
theorem dX10_entriesOf_0 : decode cX10_entriesOf 0 = .ok (.aload_n 0, 1) := by decide +kernel
theorem dX10_entriesOf_1 : decode cX10_entriesOf 1 = .ok (.iload_n 1, 1) := by decide +kernel
theorem dX10_entriesOf_2 : decode cX10_entriesOf 2 = .ok (.invokevirtual 58, 3) := by decide +kernel
theorem dX10_entriesOf_5 : decode cX10_entriesOf 5 = .ok (.aload_n 0, 1) := by decide +kernel
theorem dX10_entriesOf_6 : decode cX10_entriesOf 6 = .ok (.iload_n 1, 1) := by decide +kernel
theorem dX10_entriesOf_7 : decode cX10_entriesOf 7 = .ok (.invokevirtual 62, 3) := by decide +kernel
theorem dX10_entriesOf_10 : decode cX10_entriesOf 10 = .ok (.imul, 1) := by decide +kernel
theorem dX10_entriesOf_11 : decode cX10_entriesOf 11 = .ok (.ireturn, 1) := by decide +kernel
theorem dX10_at_0 : decode cX10_at 0 = .ok (.aload_n 0, 1) := by decide +kernel
theorem dX10_at_1 : decode cX10_at 1 = .ok (.getfield 7, 3) := by decide +kernel
theorem dX10_at_4 : decode cX10_at 4 = .ok (.bipush 14, 2) := by decide +kernel
theorem dX10_at_6 : decode cX10_at 6 = .ok (.iload_n 1, 1) := by decide +kernel
theorem dX10_at_7 : decode cX10_at 7 = .ok (.imul, 1) := by decide +kernel
theorem dX10_at_8 : decode cX10_at 8 = .ok (.iconst 2, 1) := by decide +kernel
theorem dX10_at_9 : decode cX10_at 9 = .ok (.iadd, 1) := by decide +kernel
theorem dX10_at_10 : decode cX10_at 10 = .ok (.iload_n 2, 1) := by decide +kernel
theorem dX10_at_11 : decode cX10_at 11 = .ok (.aload_n 0, 1) := by decide +kernel
theorem dX10_at_12 : decode cX10_at 12 = .ok (.iload_n 1, 1) := by decide +kernel
theorem dX10_at_13 : decode cX10_at 13 = .ok (.invokevirtual 62, 3) := by decide +kernel
theorem dX10_at_16 : decode cX10_at 16 = .ok (.imul, 1) := by decide +kernel
theorem dX10_at_17 : decode cX10_at 17 = .ok (.iadd, 1) := by decide +kernel
theorem dX10_at_18 : decode cX10_at 18 = .ok (.iload_n 3, 1) := by decide +kernel
theorem dX10_at_19 : decode cX10_at 19 = .ok (.iadd, 1) := by decide +kernel
theorem dX10_at_20 : decode cX10_at 20 = .ok (.iaload, 1) := by decide +kernel
theorem dX10_at_21 : decode cX10_at 21 = .ok (.ireturn, 1) := by decide +kernel
theorem dX10_lay_0 : decode cX10_lay 0 = .ok (.aload_n 0, 1) := by decide +kernel
theorem dX10_lay_1 : decode cX10_lay 1 = .ok (.getfield 7, 3) := by decide +kernel
theorem dX10_lay_4 : decode cX10_lay 4 = .ok (.bipush 14, 2) := by decide +kernel
theorem dX10_lay_6 : decode cX10_lay 6 = .ok (.iload_n 1, 1) := by decide +kernel
theorem dX10_lay_7 : decode cX10_lay 7 = .ok (.imul, 1) := by decide +kernel
theorem dX10_lay_8 : decode cX10_lay 8 = .ok (.iconst 2, 1) := by decide +kernel
theorem dX10_lay_9 : decode cX10_lay 9 = .ok (.iadd, 1) := by decide +kernel
theorem dX10_lay_10 : decode cX10_lay 10 = .ok (.iload_n 2, 1) := by decide +kernel
theorem dX10_lay_11 : decode cX10_lay 11 = .ok (.aload_n 0, 1) := by decide +kernel
theorem dX10_lay_12 : decode cX10_lay 12 = .ok (.iload_n 1, 1) := by decide +kernel
theorem dX10_lay_13 : decode cX10_lay 13 = .ok (.invokevirtual 62, 3) := by decide +kernel
theorem dX10_lay_16 : decode cX10_lay 16 = .ok (.imul, 1) := by decide +kernel
theorem dX10_lay_17 : decode cX10_lay 17 = .ok (.iadd, 1) := by decide +kernel
theorem dX10_lay_18 : decode cX10_lay 18 = .ok (.iload_n 3, 1) := by decide +kernel
theorem dX10_lay_19 : decode cX10_lay 19 = .ok (.iadd, 1) := by decide +kernel
theorem dX10_lay_20 : decode cX10_lay 20 = .ok (.iload 4, 2) := by decide +kernel
theorem dX10_lay_22 : decode cX10_lay 22 = .ok (.iastore, 1) := by decide +kernel
theorem dX10_lay_23 : decode cX10_lay 23 = .ok (.return_, 1) := by decide +kernel
theorem dX10_isEntry_0 : decode cX10_isEntry 0 = .ok (.iload_n 1, 1) := by decide +kernel
theorem dX10_isEntry_1 : decode cX10_isEntry 1 = .ok (.invokestatic 65, 3) := by decide +kernel
theorem dX10_isEntry_4 : decode cX10_isEntry 4 = .ok (.ifCond .eq 37, 3) := by decide +kernel
theorem dX10_isEntry_7 : decode cX10_isEntry 7 = .ok (.iload_n 2, 1) := by decide +kernel
theorem dX10_isEntry_8 : decode cX10_isEntry 8 = .ok (.iconst 0, 1) := by decide +kernel
theorem dX10_isEntry_9 : decode cX10_isEntry 9 = .ok (.aload_n 0, 1) := by decide +kernel
theorem dX10_isEntry_10 : decode cX10_isEntry 10 = .ok (.iload_n 1, 1) := by decide +kernel
theorem dX10_isEntry_11 : decode cX10_isEntry 11 = .ok (.invokevirtual 58, 3) := by decide +kernel
theorem dX10_isEntry_14 : decode cX10_isEntry 14 = .ok (.iconst 1, 1) := by decide +kernel
theorem dX10_isEntry_15 : decode cX10_isEntry 15 = .ok (.isub, 1) := by decide +kernel
theorem dX10_isEntry_16 : decode cX10_isEntry 16 = .ok (.invokestatic 54, 3) := by decide +kernel
theorem dX10_isEntry_19 : decode cX10_isEntry 19 = .ok (.ifCond .eq 22, 3) := by decide +kernel
theorem dX10_isEntry_22 : decode cX10_isEntry 22 = .ok (.iload_n 3, 1) := by decide +kernel
theorem dX10_isEntry_23 : decode cX10_isEntry 23 = .ok (.iconst 0, 1) := by decide +kernel
theorem dX10_isEntry_24 : decode cX10_isEntry 24 = .ok (.aload_n 0, 1) := by decide +kernel
theorem dX10_isEntry_25 : decode cX10_isEntry 25 = .ok (.iload_n 1, 1) := by decide +kernel
theorem dX10_isEntry_26 : decode cX10_isEntry 26 = .ok (.invokevirtual 62, 3) := by decide +kernel
theorem dX10_isEntry_29 : decode cX10_isEntry 29 = .ok (.iconst 1, 1) := by decide +kernel
theorem dX10_isEntry_30 : decode cX10_isEntry 30 = .ok (.isub, 1) := by decide +kernel
theorem dX10_isEntry_31 : decode cX10_isEntry 31 = .ok (.invokestatic 54, 3) := by decide +kernel
theorem dX10_isEntry_34 : decode cX10_isEntry 34 = .ok (.ifCond .eq 7, 3) := by decide +kernel
theorem dX10_isEntry_37 : decode cX10_isEntry 37 = .ok (.iconst 1, 1) := by decide +kernel
theorem dX10_isEntry_38 : decode cX10_isEntry 38 = .ok (.goto 4, 3) := by decide +kernel
theorem dX10_isEntry_41 : decode cX10_isEntry 41 = .ok (.iconst 0, 1) := by decide +kernel
theorem dX10_isEntry_42 : decode cX10_isEntry 42 = .ok (.ireturn, 1) := by decide +kernel
theorem dX10_lineMany_0 : decode cX10_lineMany 0 = .ok (.iload_n 2, 1) := by decide +kernel
theorem dX10_lineMany_1 : decode cX10_lineMany 1 = .ok (.ifCond .eq 11, 3) := by decide +kernel
theorem dX10_lineMany_4 : decode cX10_lineMany 4 = .ok (.aload_n 0, 1) := by decide +kernel
theorem dX10_lineMany_5 : decode cX10_lineMany 5 = .ok (.iload_n 1, 1) := by decide +kernel
theorem dX10_lineMany_6 : decode cX10_lineMany 6 = .ok (.invokevirtual 58, 3) := by decide +kernel
theorem dX10_lineMany_9 : decode cX10_lineMany 9 = .ok (.goto 8, 3) := by decide +kernel
theorem dX10_lineMany_12 : decode cX10_lineMany 12 = .ok (.aload_n 0, 1) := by decide +kernel
theorem dX10_lineMany_13 : decode cX10_lineMany 13 = .ok (.iload_n 1, 1) := by decide +kernel
theorem dX10_lineMany_14 : decode cX10_lineMany 14 = .ok (.invokevirtual 62, 3) := by decide +kernel
theorem dX10_lineMany_17 : decode cX10_lineMany 17 = .ok (.ireturn, 1) := by decide +kernel
theorem dX10_isLine_0 : decode cX10_isLine 0 = .ok (.iload_n 1, 1) := by decide +kernel
theorem dX10_isLine_1 : decode cX10_isLine 1 = .ok (.invokestatic 65, 3) := by decide +kernel
theorem dX10_isLine_4 : decode cX10_isLine 4 = .ok (.ifCond .eq 23, 3) := by decide +kernel
theorem dX10_isLine_7 : decode cX10_isLine 7 = .ok (.iload_n 3, 1) := by decide +kernel
theorem dX10_isLine_8 : decode cX10_isLine 8 = .ok (.iconst 0, 1) := by decide +kernel
theorem dX10_isLine_9 : decode cX10_isLine 9 = .ok (.aload_n 0, 1) := by decide +kernel
theorem dX10_isLine_10 : decode cX10_isLine 10 = .ok (.iload_n 1, 1) := by decide +kernel
theorem dX10_isLine_11 : decode cX10_isLine 11 = .ok (.iload_n 2, 1) := by decide +kernel
theorem dX10_isLine_12 : decode cX10_isLine 12 = .ok (.invokevirtual 69, 3) := by decide +kernel
theorem dX10_isLine_15 : decode cX10_isLine 15 = .ok (.iconst 1, 1) := by decide +kernel
theorem dX10_isLine_16 : decode cX10_isLine 16 = .ok (.isub, 1) := by decide +kernel
theorem dX10_isLine_17 : decode cX10_isLine 17 = .ok (.invokestatic 54, 3) := by decide +kernel
theorem dX10_isLine_20 : decode cX10_isLine 20 = .ok (.ifCond .eq 7, 3) := by decide +kernel
theorem dX10_isLine_23 : decode cX10_isLine 23 = .ok (.iconst 1, 1) := by decide +kernel
theorem dX10_isLine_24 : decode cX10_isLine 24 = .ok (.goto 4, 3) := by decide +kernel
theorem dX10_isLine_27 : decode cX10_isLine 27 = .ok (.iconst 0, 1) := by decide +kernel
theorem dX10_isLine_28 : decode cX10_isLine 28 = .ok (.ireturn, 1) := by decide +kernel
theorem dX10_inLine_0 : decode cX10_inLine 0 = .ok (.iload_n 2, 1) := by decide +kernel
theorem dX10_inLine_1 : decode cX10_inLine 1 = .ok (.ifCond .eq 14, 3) := by decide +kernel
theorem dX10_inLine_4 : decode cX10_inLine 4 = .ok (.aload_n 0, 1) := by decide +kernel
theorem dX10_inLine_5 : decode cX10_inLine 5 = .ok (.iload_n 1, 1) := by decide +kernel
theorem dX10_inLine_6 : decode cX10_inLine 6 = .ok (.iload_n 3, 1) := by decide +kernel
theorem dX10_inLine_7 : decode cX10_inLine 7 = .ok (.iload 4, 2) := by decide +kernel
theorem dX10_inLine_9 : decode cX10_inLine 9 = .ok (.invokevirtual 73, 3) := by decide +kernel
theorem dX10_inLine_12 : decode cX10_inLine 12 = .ok (.goto 11, 3) := by decide +kernel
theorem dX10_inLine_15 : decode cX10_inLine 15 = .ok (.aload_n 0, 1) := by decide +kernel
theorem dX10_inLine_16 : decode cX10_inLine 16 = .ok (.iload_n 1, 1) := by decide +kernel
theorem dX10_inLine_17 : decode cX10_inLine 17 = .ok (.iload 4, 2) := by decide +kernel
theorem dX10_inLine_19 : decode cX10_inLine 19 = .ok (.iload_n 3, 1) := by decide +kernel
theorem dX10_inLine_20 : decode cX10_inLine 20 = .ok (.invokevirtual 73, 3) := by decide +kernel
theorem dX10_inLine_23 : decode cX10_inLine 23 = .ok (.ireturn, 1) := by decide +kernel
theorem dX10_layInLine_0 : decode cX10_layInLine 0 = .ok (.iload_n 2, 1) := by decide +kernel
theorem dX10_layInLine_1 : decode cX10_layInLine 1 = .ok (.ifCond .eq 16, 3) := by decide +kernel
theorem dX10_layInLine_4 : decode cX10_layInLine 4 = .ok (.aload_n 0, 1) := by decide +kernel
theorem dX10_layInLine_5 : decode cX10_layInLine 5 = .ok (.iload_n 1, 1) := by decide +kernel
theorem dX10_layInLine_6 : decode cX10_layInLine 6 = .ok (.iload_n 3, 1) := by decide +kernel
theorem dX10_layInLine_7 : decode cX10_layInLine 7 = .ok (.iload 4, 2) := by decide +kernel
theorem dX10_layInLine_9 : decode cX10_layInLine 9 = .ok (.iload 5, 2) := by decide +kernel
theorem dX10_layInLine_11 : decode cX10_layInLine 11 = .ok (.invokevirtual 77, 3) := by decide +kernel
theorem dX10_layInLine_14 : decode cX10_layInLine 14 = .ok (.goto 13, 3) := by decide +kernel
theorem dX10_layInLine_17 : decode cX10_layInLine 17 = .ok (.aload_n 0, 1) := by decide +kernel
theorem dX10_layInLine_18 : decode cX10_layInLine 18 = .ok (.iload_n 1, 1) := by decide +kernel
theorem dX10_layInLine_19 : decode cX10_layInLine 19 = .ok (.iload 4, 2) := by decide +kernel
theorem dX10_layInLine_21 : decode cX10_layInLine 21 = .ok (.iload_n 3, 1) := by decide +kernel
theorem dX10_layInLine_22 : decode cX10_layInLine 22 = .ok (.iload 5, 2) := by decide +kernel
theorem dX10_layInLine_24 : decode cX10_layInLine 24 = .ok (.invokevirtual 77, 3) := by decide +kernel
theorem dX10_layInLine_27 : decode cX10_layInLine 27 = .ok (.return_, 1) := by decide +kernel
theorem dX10_becomes_0 : decode cX10_becomes 0 = .ok (.aload_n 0, 1) := by decide +kernel
theorem dX10_becomes_1 : decode cX10_becomes 1 = .ok (.getfield 7, 3) := by decide +kernel
theorem dX10_becomes_4 : decode cX10_becomes 4 = .ok (.bipush 14, 2) := by decide +kernel
theorem dX10_becomes_6 : decode cX10_becomes 6 = .ok (.iload_n 1, 1) := by decide +kernel
theorem dX10_becomes_7 : decode cX10_becomes 7 = .ok (.imul, 1) := by decide +kernel
theorem dX10_becomes_8 : decode cX10_becomes 8 = .ok (.iconst 0, 1) := by decide +kernel
theorem dX10_becomes_9 : decode cX10_becomes 9 = .ok (.iadd, 1) := by decide +kernel
theorem dX10_becomes_10 : decode cX10_becomes 10 = .ok (.iload_n 2, 1) := by decide +kernel
theorem dX10_becomes_11 : decode cX10_becomes 11 = .ok (.iastore, 1) := by decide +kernel
theorem dX10_becomes_12 : decode cX10_becomes 12 = .ok (.aload_n 0, 1) := by decide +kernel
theorem dX10_becomes_13 : decode cX10_becomes 13 = .ok (.getfield 7, 3) := by decide +kernel
theorem dX10_becomes_16 : decode cX10_becomes 16 = .ok (.bipush 14, 2) := by decide +kernel
theorem dX10_becomes_18 : decode cX10_becomes 18 = .ok (.iload_n 1, 1) := by decide +kernel
theorem dX10_becomes_19 : decode cX10_becomes 19 = .ok (.imul, 1) := by decide +kernel
theorem dX10_becomes_20 : decode cX10_becomes 20 = .ok (.iconst 1, 1) := by decide +kernel
theorem dX10_becomes_21 : decode cX10_becomes 21 = .ok (.iadd, 1) := by decide +kernel
theorem dX10_becomes_22 : decode cX10_becomes 22 = .ok (.iload_n 3, 1) := by decide +kernel
theorem dX10_becomes_23 : decode cX10_becomes 23 = .ok (.iastore, 1) := by decide +kernel
theorem dX10_becomes_24 : decode cX10_becomes 24 = .ok (.iconst 0, 1) := by decide +kernel
theorem dX10_becomes_25 : decode cX10_becomes 25 = .ok (.istore 4, 2) := by decide +kernel
theorem dX10_becomes_27 : decode cX10_becomes 27 = .ok (.iload 4, 2) := by decide +kernel
theorem dX10_becomes_29 : decode cX10_becomes 29 = .ok (.bipush 12, 2) := by decide +kernel
theorem dX10_becomes_31 : decode cX10_becomes 31 = .ok (.if_icmp .ge 42, 3) := by decide +kernel
theorem dX10_becomes_34 : decode cX10_becomes 34 = .ok (.aload_n 0, 1) := by decide +kernel
theorem dX10_becomes_35 : decode cX10_becomes 35 = .ok (.getfield 7, 3) := by decide +kernel
theorem dX10_becomes_38 : decode cX10_becomes 38 = .ok (.bipush 14, 2) := by decide +kernel
theorem dX10_becomes_40 : decode cX10_becomes 40 = .ok (.iload_n 1, 1) := by decide +kernel
theorem dX10_becomes_41 : decode cX10_becomes 41 = .ok (.imul, 1) := by decide +kernel
theorem dX10_becomes_42 : decode cX10_becomes 42 = .ok (.iconst 2, 1) := by decide +kernel
theorem dX10_becomes_43 : decode cX10_becomes 43 = .ok (.iadd, 1) := by decide +kernel
theorem dX10_becomes_44 : decode cX10_becomes 44 = .ok (.iload 4, 2) := by decide +kernel
theorem dX10_becomes_46 : decode cX10_becomes 46 = .ok (.iadd, 1) := by decide +kernel
theorem dX10_becomes_47 : decode cX10_becomes 47 = .ok (.iload 4, 2) := by decide +kernel
theorem dX10_becomes_49 : decode cX10_becomes 49 = .ok (.iload_n 2, 1) := by decide +kernel
theorem dX10_becomes_50 : decode cX10_becomes 50 = .ok (.iload_n 3, 1) := by decide +kernel
theorem dX10_becomes_51 : decode cX10_becomes 51 = .ok (.imul, 1) := by decide +kernel
theorem dX10_becomes_52 : decode cX10_becomes 52 = .ok (.if_icmp .ge 13, 3) := by decide +kernel
theorem dX10_becomes_55 : decode cX10_becomes 55 = .ok (.aload_n 0, 1) := by decide +kernel
theorem dX10_becomes_56 : decode cX10_becomes 56 = .ok (.getfield 25, 3) := by decide +kernel
theorem dX10_becomes_59 : decode cX10_becomes 59 = .ok (.iload 4, 2) := by decide +kernel
theorem dX10_becomes_61 : decode cX10_becomes 61 = .ok (.iaload, 1) := by decide +kernel
theorem dX10_becomes_62 : decode cX10_becomes 62 = .ok (.goto 4, 3) := by decide +kernel
theorem dX10_becomes_65 : decode cX10_becomes 65 = .ok (.iconst 0, 1) := by decide +kernel
theorem dX10_becomes_66 : decode cX10_becomes 66 = .ok (.iastore, 1) := by decide +kernel
theorem dX10_becomes_67 : decode cX10_becomes 67 = .ok (.iinc 4 1, 3) := by decide +kernel
theorem dX10_becomes_70 : decode cX10_becomes 70 = .ok (.goto (-43), 3) := by decide +kernel
theorem dX10_becomes_73 : decode cX10_becomes 73 = .ok (.return_, 1) := by decide +kernel
theorem dX10_greatestOf_0 : decode cX10_greatestOf 0 = .ok (.iconst 0, 1) := by decide +kernel
theorem dX10_greatestOf_1 : decode cX10_greatestOf 1 = .ok (.istore_n 2, 1) := by decide +kernel
theorem dX10_greatestOf_2 : decode cX10_greatestOf 2 = .ok (.iconst 0, 1) := by decide +kernel
theorem dX10_greatestOf_3 : decode cX10_greatestOf 3 = .ok (.istore_n 3, 1) := by decide +kernel
theorem dX10_greatestOf_4 : decode cX10_greatestOf 4 = .ok (.iload_n 3, 1) := by decide +kernel
theorem dX10_greatestOf_5 : decode cX10_greatestOf 5 = .ok (.aload_n 0, 1) := by decide +kernel
theorem dX10_greatestOf_6 : decode cX10_greatestOf 6 = .ok (.iload_n 1, 1) := by decide +kernel
theorem dX10_greatestOf_7 : decode cX10_greatestOf 7 = .ok (.invokevirtual 81, 3) := by decide +kernel
theorem dX10_greatestOf_10 : decode cX10_greatestOf 10 = .ok (.if_icmp .ge 37, 3) := by decide +kernel
theorem dX10_greatestOf_13 : decode cX10_greatestOf 13 = .ok (.aload_n 0, 1) := by decide +kernel
theorem dX10_greatestOf_14 : decode cX10_greatestOf 14 = .ok (.getfield 7, 3) := by decide +kernel
theorem dX10_greatestOf_17 : decode cX10_greatestOf 17 = .ok (.bipush 14, 2) := by decide +kernel
theorem dX10_greatestOf_19 : decode cX10_greatestOf 19 = .ok (.iload_n 1, 1) := by decide +kernel
theorem dX10_greatestOf_20 : decode cX10_greatestOf 20 = .ok (.imul, 1) := by decide +kernel
theorem dX10_greatestOf_21 : decode cX10_greatestOf 21 = .ok (.iconst 2, 1) := by decide +kernel
theorem dX10_greatestOf_22 : decode cX10_greatestOf 22 = .ok (.iadd, 1) := by decide +kernel
theorem dX10_greatestOf_23 : decode cX10_greatestOf 23 = .ok (.iload_n 3, 1) := by decide +kernel
theorem dX10_greatestOf_24 : decode cX10_greatestOf 24 = .ok (.iadd, 1) := by decide +kernel
theorem dX10_greatestOf_25 : decode cX10_greatestOf 25 = .ok (.iaload, 1) := by decide +kernel
theorem dX10_greatestOf_26 : decode cX10_greatestOf 26 = .ok (.istore 4, 2) := by decide +kernel
theorem dX10_greatestOf_28 : decode cX10_greatestOf 28 = .ok (.iload 4, 2) := by decide +kernel
theorem dX10_greatestOf_30 : decode cX10_greatestOf 30 = .ok (.iload_n 2, 1) := by decide +kernel
theorem dX10_greatestOf_31 : decode cX10_greatestOf 31 = .ok (.if_icmp .le 8, 3) := by decide +kernel
theorem dX10_greatestOf_34 : decode cX10_greatestOf 34 = .ok (.iload 4, 2) := by decide +kernel
theorem dX10_greatestOf_36 : decode cX10_greatestOf 36 = .ok (.goto 4, 3) := by decide +kernel
theorem dX10_greatestOf_39 : decode cX10_greatestOf 39 = .ok (.iload_n 2, 1) := by decide +kernel
theorem dX10_greatestOf_40 : decode cX10_greatestOf 40 = .ok (.istore_n 2, 1) := by decide +kernel
theorem dX10_greatestOf_41 : decode cX10_greatestOf 41 = .ok (.iinc 3 1, 3) := by decide +kernel
theorem dX10_greatestOf_44 : decode cX10_greatestOf 44 = .ok (.goto (-40), 3) := by decide +kernel
theorem dX10_greatestOf_47 : decode cX10_greatestOf 47 = .ok (.iload_n 2, 1) := by decide +kernel
theorem dX10_greatestOf_48 : decode cX10_greatestOf 48 = .ok (.ireturn, 1) := by decide +kernel
theorem dX10_leastOf_0 : decode cX10_leastOf 0 = .ok (.sipush 999, 3) := by decide +kernel
theorem dX10_leastOf_3 : decode cX10_leastOf 3 = .ok (.istore_n 2, 1) := by decide +kernel
theorem dX10_leastOf_4 : decode cX10_leastOf 4 = .ok (.iconst 0, 1) := by decide +kernel
theorem dX10_leastOf_5 : decode cX10_leastOf 5 = .ok (.istore_n 3, 1) := by decide +kernel
theorem dX10_leastOf_6 : decode cX10_leastOf 6 = .ok (.iload_n 3, 1) := by decide +kernel
theorem dX10_leastOf_7 : decode cX10_leastOf 7 = .ok (.aload_n 0, 1) := by decide +kernel
theorem dX10_leastOf_8 : decode cX10_leastOf 8 = .ok (.iload_n 1, 1) := by decide +kernel
theorem dX10_leastOf_9 : decode cX10_leastOf 9 = .ok (.invokevirtual 81, 3) := by decide +kernel
theorem dX10_leastOf_12 : decode cX10_leastOf 12 = .ok (.if_icmp .ge 37, 3) := by decide +kernel
theorem dX10_leastOf_15 : decode cX10_leastOf 15 = .ok (.aload_n 0, 1) := by decide +kernel
theorem dX10_leastOf_16 : decode cX10_leastOf 16 = .ok (.getfield 7, 3) := by decide +kernel
theorem dX10_leastOf_19 : decode cX10_leastOf 19 = .ok (.bipush 14, 2) := by decide +kernel
theorem dX10_leastOf_21 : decode cX10_leastOf 21 = .ok (.iload_n 1, 1) := by decide +kernel
theorem dX10_leastOf_22 : decode cX10_leastOf 22 = .ok (.imul, 1) := by decide +kernel
theorem dX10_leastOf_23 : decode cX10_leastOf 23 = .ok (.iconst 2, 1) := by decide +kernel
theorem dX10_leastOf_24 : decode cX10_leastOf 24 = .ok (.iadd, 1) := by decide +kernel
theorem dX10_leastOf_25 : decode cX10_leastOf 25 = .ok (.iload_n 3, 1) := by decide +kernel
theorem dX10_leastOf_26 : decode cX10_leastOf 26 = .ok (.iadd, 1) := by decide +kernel
theorem dX10_leastOf_27 : decode cX10_leastOf 27 = .ok (.iaload, 1) := by decide +kernel
theorem dX10_leastOf_28 : decode cX10_leastOf 28 = .ok (.istore 4, 2) := by decide +kernel
theorem dX10_leastOf_30 : decode cX10_leastOf 30 = .ok (.iload 4, 2) := by decide +kernel
theorem dX10_leastOf_32 : decode cX10_leastOf 32 = .ok (.iload_n 2, 1) := by decide +kernel
theorem dX10_leastOf_33 : decode cX10_leastOf 33 = .ok (.if_icmp .ge 8, 3) := by decide +kernel
theorem dX10_leastOf_36 : decode cX10_leastOf 36 = .ok (.iload 4, 2) := by decide +kernel
theorem dX10_leastOf_38 : decode cX10_leastOf 38 = .ok (.goto 4, 3) := by decide +kernel
theorem dX10_leastOf_41 : decode cX10_leastOf 41 = .ok (.iload_n 2, 1) := by decide +kernel
theorem dX10_leastOf_42 : decode cX10_leastOf 42 = .ok (.istore_n 2, 1) := by decide +kernel
theorem dX10_leastOf_43 : decode cX10_leastOf 43 = .ok (.iinc 3 1, 3) := by decide +kernel
theorem dX10_leastOf_46 : decode cX10_leastOf 46 = .ok (.goto (-40), 3) := by decide +kernel
theorem dX10_leastOf_49 : decode cX10_leastOf 49 = .ok (.iload_n 2, 1) := by decide +kernel
theorem dX10_leastOf_50 : decode cX10_leastOf 50 = .ok (.ireturn, 1) := by decide +kernel
theorem dX10_unlike_0 : decode cX10_unlike 0 = .ok (.iconst 0, 1) := by decide +kernel
theorem dX10_unlike_1 : decode cX10_unlike 1 = .ok (.istore_n 2, 1) := by decide +kernel
theorem dX10_unlike_2 : decode cX10_unlike 2 = .ok (.iconst 0, 1) := by decide +kernel
theorem dX10_unlike_3 : decode cX10_unlike 3 = .ok (.istore_n 3, 1) := by decide +kernel
theorem dX10_unlike_4 : decode cX10_unlike 4 = .ok (.iload_n 3, 1) := by decide +kernel
theorem dX10_unlike_5 : decode cX10_unlike 5 = .ok (.aload_n 0, 1) := by decide +kernel
theorem dX10_unlike_6 : decode cX10_unlike 6 = .ok (.iload_n 1, 1) := by decide +kernel
theorem dX10_unlike_7 : decode cX10_unlike 7 = .ok (.invokevirtual 81, 3) := by decide +kernel
theorem dX10_unlike_10 : decode cX10_unlike 10 = .ok (.if_icmp .ge 82, 3) := by decide +kernel
theorem dX10_unlike_13 : decode cX10_unlike 13 = .ok (.iconst 1, 1) := by decide +kernel
theorem dX10_unlike_14 : decode cX10_unlike 14 = .ok (.istore 4, 2) := by decide +kernel
theorem dX10_unlike_16 : decode cX10_unlike 16 = .ok (.iconst 0, 1) := by decide +kernel
theorem dX10_unlike_17 : decode cX10_unlike 17 = .ok (.istore 5, 2) := by decide +kernel
theorem dX10_unlike_19 : decode cX10_unlike 19 = .ok (.iload 5, 2) := by decide +kernel
theorem dX10_unlike_21 : decode cX10_unlike 21 = .ok (.iload_n 3, 1) := by decide +kernel
theorem dX10_unlike_22 : decode cX10_unlike 22 = .ok (.if_icmp .ge 51, 3) := by decide +kernel
theorem dX10_unlike_25 : decode cX10_unlike 25 = .ok (.iload 4, 2) := by decide +kernel
theorem dX10_unlike_27 : decode cX10_unlike 27 = .ok (.ifCond .eq 37, 3) := by decide +kernel
theorem dX10_unlike_30 : decode cX10_unlike 30 = .ok (.aload_n 0, 1) := by decide +kernel
theorem dX10_unlike_31 : decode cX10_unlike 31 = .ok (.getfield 7, 3) := by decide +kernel
theorem dX10_unlike_34 : decode cX10_unlike 34 = .ok (.bipush 14, 2) := by decide +kernel
theorem dX10_unlike_36 : decode cX10_unlike 36 = .ok (.iload_n 1, 1) := by decide +kernel
theorem dX10_unlike_37 : decode cX10_unlike 37 = .ok (.imul, 1) := by decide +kernel
theorem dX10_unlike_38 : decode cX10_unlike 38 = .ok (.iconst 2, 1) := by decide +kernel
theorem dX10_unlike_39 : decode cX10_unlike 39 = .ok (.iadd, 1) := by decide +kernel
theorem dX10_unlike_40 : decode cX10_unlike 40 = .ok (.iload 5, 2) := by decide +kernel
theorem dX10_unlike_42 : decode cX10_unlike 42 = .ok (.iadd, 1) := by decide +kernel
theorem dX10_unlike_43 : decode cX10_unlike 43 = .ok (.iaload, 1) := by decide +kernel
theorem dX10_unlike_44 : decode cX10_unlike 44 = .ok (.aload_n 0, 1) := by decide +kernel
theorem dX10_unlike_45 : decode cX10_unlike 45 = .ok (.getfield 7, 3) := by decide +kernel
theorem dX10_unlike_48 : decode cX10_unlike 48 = .ok (.bipush 14, 2) := by decide +kernel
theorem dX10_unlike_50 : decode cX10_unlike 50 = .ok (.iload_n 1, 1) := by decide +kernel
theorem dX10_unlike_51 : decode cX10_unlike 51 = .ok (.imul, 1) := by decide +kernel
theorem dX10_unlike_52 : decode cX10_unlike 52 = .ok (.iconst 2, 1) := by decide +kernel
theorem dX10_unlike_53 : decode cX10_unlike 53 = .ok (.iadd, 1) := by decide +kernel
theorem dX10_unlike_54 : decode cX10_unlike 54 = .ok (.iload_n 3, 1) := by decide +kernel
theorem dX10_unlike_55 : decode cX10_unlike 55 = .ok (.iadd, 1) := by decide +kernel
theorem dX10_unlike_56 : decode cX10_unlike 56 = .ok (.iaload, 1) := by decide +kernel
theorem dX10_unlike_57 : decode cX10_unlike 57 = .ok (.if_icmp .eq 7, 3) := by decide +kernel
theorem dX10_unlike_60 : decode cX10_unlike 60 = .ok (.iconst 1, 1) := by decide +kernel
theorem dX10_unlike_61 : decode cX10_unlike 61 = .ok (.goto 4, 3) := by decide +kernel
theorem dX10_unlike_64 : decode cX10_unlike 64 = .ok (.iconst 0, 1) := by decide +kernel
theorem dX10_unlike_65 : decode cX10_unlike 65 = .ok (.istore 4, 2) := by decide +kernel
theorem dX10_unlike_67 : decode cX10_unlike 67 = .ok (.iinc 5 1, 3) := by decide +kernel
theorem dX10_unlike_70 : decode cX10_unlike 70 = .ok (.goto (-51), 3) := by decide +kernel
theorem dX10_unlike_73 : decode cX10_unlike 73 = .ok (.iload_n 2, 1) := by decide +kernel
theorem dX10_unlike_74 : decode cX10_unlike 74 = .ok (.iload 4, 2) := by decide +kernel
theorem dX10_unlike_76 : decode cX10_unlike 76 = .ok (.ifCond .eq 7, 3) := by decide +kernel
theorem dX10_unlike_79 : decode cX10_unlike 79 = .ok (.iconst 1, 1) := by decide +kernel
theorem dX10_unlike_80 : decode cX10_unlike 80 = .ok (.goto 4, 3) := by decide +kernel
theorem dX10_unlike_83 : decode cX10_unlike 83 = .ok (.iconst 0, 1) := by decide +kernel
theorem dX10_unlike_84 : decode cX10_unlike 84 = .ok (.iadd, 1) := by decide +kernel
theorem dX10_unlike_85 : decode cX10_unlike 85 = .ok (.istore_n 2, 1) := by decide +kernel
theorem dX10_unlike_86 : decode cX10_unlike 86 = .ok (.iinc 3 1, 3) := by decide +kernel
theorem dX10_unlike_89 : decode cX10_unlike 89 = .ok (.goto (-85), 3) := by decide +kernel
theorem dX10_unlike_92 : decode cX10_unlike 92 = .ok (.iload_n 2, 1) := by decide +kernel
theorem dX10_unlike_93 : decode cX10_unlike 93 = .ok (.ireturn, 1) := by decide +kernel
theorem dX10_allEntries_0 : decode cX10_allEntries 0 = .ok (.aload_n 0, 1) := by decide +kernel
theorem dX10_allEntries_1 : decode cX10_allEntries 1 = .ok (.iconst 0, 1) := by decide +kernel
theorem dX10_allEntries_2 : decode cX10_allEntries 2 = .ok (.invokevirtual 81, 3) := by decide +kernel
theorem dX10_allEntries_5 : decode cX10_allEntries 5 = .ok (.aload_n 0, 1) := by decide +kernel
theorem dX10_allEntries_6 : decode cX10_allEntries 6 = .ok (.iconst 1, 1) := by decide +kernel
theorem dX10_allEntries_7 : decode cX10_allEntries 7 = .ok (.invokevirtual 81, 3) := by decide +kernel
theorem dX10_allEntries_10 : decode cX10_allEntries 10 = .ok (.iadd, 1) := by decide +kernel
theorem dX10_allEntries_11 : decode cX10_allEntries 11 = .ok (.aload_n 0, 1) := by decide +kernel
theorem dX10_allEntries_12 : decode cX10_allEntries 12 = .ok (.iconst 2, 1) := by decide +kernel
theorem dX10_allEntries_13 : decode cX10_allEntries 13 = .ok (.invokevirtual 81, 3) := by decide +kernel
theorem dX10_allEntries_16 : decode cX10_allEntries 16 = .ok (.iadd, 1) := by decide +kernel
theorem dX10_allEntries_17 : decode cX10_allEntries 17 = .ok (.ireturn, 1) := by decide +kernel
theorem dX10_areTooMany_0 : decode cX10_areTooMany 0 = .ok (.aload_n 0, 1) := by decide +kernel
theorem dX10_areTooMany_1 : decode cX10_areTooMany 1 = .ok (.getfield 84, 3) := by decide +kernel
theorem dX10_areTooMany_4 : decode cX10_areTooMany 4 = .ok (.iconst 4, 1) := by decide +kernel
theorem dX10_areTooMany_5 : decode cX10_areTooMany 5 = .ok (.if_icmp .gt 12, 3) := by decide +kernel
theorem dX10_areTooMany_8 : decode cX10_areTooMany 8 = .ok (.aload_n 0, 1) := by decide +kernel
theorem dX10_areTooMany_9 : decode cX10_areTooMany 9 = .ok (.getfield 87, 3) := by decide +kernel
theorem dX10_areTooMany_12 : decode cX10_areTooMany 12 = .ok (.bipush 12, 2) := by decide +kernel
theorem dX10_areTooMany_14 : decode cX10_areTooMany 14 = .ok (.if_icmp .le 7, 3) := by decide +kernel
theorem dX10_areTooMany_17 : decode cX10_areTooMany 17 = .ok (.iconst 1, 1) := by decide +kernel
theorem dX10_areTooMany_18 : decode cX10_areTooMany 18 = .ok (.goto 4, 3) := by decide +kernel
theorem dX10_areTooMany_21 : decode cX10_areTooMany 21 = .ok (.iconst 0, 1) := by decide +kernel
theorem dX10_areTooMany_22 : decode cX10_areTooMany 22 = .ok (.istore_n 1, 1) := by decide +kernel
theorem dX10_areTooMany_23 : decode cX10_areTooMany 23 = .ok (.iconst 0, 1) := by decide +kernel
theorem dX10_areTooMany_24 : decode cX10_areTooMany 24 = .ok (.istore_n 2, 1) := by decide +kernel
theorem dX10_areTooMany_25 : decode cX10_areTooMany 25 = .ok (.iload_n 2, 1) := by decide +kernel
theorem dX10_areTooMany_26 : decode cX10_areTooMany 26 = .ok (.aload_n 0, 1) := by decide +kernel
theorem dX10_areTooMany_27 : decode cX10_areTooMany 27 = .ok (.getfield 84, 3) := by decide +kernel
theorem dX10_areTooMany_30 : decode cX10_areTooMany 30 = .ok (.if_icmp .ge 29, 3) := by decide +kernel
theorem dX10_areTooMany_33 : decode cX10_areTooMany 33 = .ok (.iload_n 1, 1) := by decide +kernel
theorem dX10_areTooMany_34 : decode cX10_areTooMany 34 = .ok (.ifCond .ne 13, 3) := by decide +kernel
theorem dX10_areTooMany_37 : decode cX10_areTooMany 37 = .ok (.aload_n 0, 1) := by decide +kernel
theorem dX10_areTooMany_38 : decode cX10_areTooMany 38 = .ok (.getfield 28, 3) := by decide +kernel
theorem dX10_areTooMany_41 : decode cX10_areTooMany 41 = .ok (.iload_n 2, 1) := by decide +kernel
theorem dX10_areTooMany_42 : decode cX10_areTooMany 42 = .ok (.iaload, 1) := by decide +kernel
theorem dX10_areTooMany_43 : decode cX10_areTooMany 43 = .ok (.iconst 4, 1) := by decide +kernel
theorem dX10_areTooMany_44 : decode cX10_areTooMany 44 = .ok (.if_icmp .le 7, 3) := by decide +kernel
theorem dX10_areTooMany_47 : decode cX10_areTooMany 47 = .ok (.iconst 1, 1) := by decide +kernel
theorem dX10_areTooMany_48 : decode cX10_areTooMany 48 = .ok (.goto 4, 3) := by decide +kernel
theorem dX10_areTooMany_51 : decode cX10_areTooMany 51 = .ok (.iconst 0, 1) := by decide +kernel
theorem dX10_areTooMany_52 : decode cX10_areTooMany 52 = .ok (.istore_n 1, 1) := by decide +kernel
theorem dX10_areTooMany_53 : decode cX10_areTooMany 53 = .ok (.iinc 2 1, 3) := by decide +kernel
theorem dX10_areTooMany_56 : decode cX10_areTooMany 56 = .ok (.goto (-31), 3) := by decide +kernel
theorem dX10_areTooMany_59 : decode cX10_areTooMany 59 = .ok (.iload_n 1, 1) := by decide +kernel
theorem dX10_areTooMany_60 : decode cX10_areTooMany 60 = .ok (.ireturn, 1) := by decide +kernel
theorem dX10_areAlike_0 : decode cX10_areAlike 0 = .ok (.iconst 1, 1) := by decide +kernel
theorem dX10_areAlike_1 : decode cX10_areAlike 1 = .ok (.istore_n 1, 1) := by decide +kernel
theorem dX10_areAlike_2 : decode cX10_areAlike 2 = .ok (.iconst 1, 1) := by decide +kernel
theorem dX10_areAlike_3 : decode cX10_areAlike 3 = .ok (.istore_n 2, 1) := by decide +kernel
theorem dX10_areAlike_4 : decode cX10_areAlike 4 = .ok (.iload_n 2, 1) := by decide +kernel
theorem dX10_areAlike_5 : decode cX10_areAlike 5 = .ok (.aload_n 0, 1) := by decide +kernel
theorem dX10_areAlike_6 : decode cX10_areAlike 6 = .ok (.getfield 84, 3) := by decide +kernel
theorem dX10_areAlike_9 : decode cX10_areAlike 9 = .ok (.if_icmp .ge 34, 3) := by decide +kernel
theorem dX10_areAlike_12 : decode cX10_areAlike 12 = .ok (.iload_n 1, 1) := by decide +kernel
theorem dX10_areAlike_13 : decode cX10_areAlike 13 = .ok (.ifCond .eq 22, 3) := by decide +kernel
theorem dX10_areAlike_16 : decode cX10_areAlike 16 = .ok (.aload_n 0, 1) := by decide +kernel
theorem dX10_areAlike_17 : decode cX10_areAlike 17 = .ok (.getfield 28, 3) := by decide +kernel
theorem dX10_areAlike_20 : decode cX10_areAlike 20 = .ok (.iload_n 2, 1) := by decide +kernel
theorem dX10_areAlike_21 : decode cX10_areAlike 21 = .ok (.iaload, 1) := by decide +kernel
theorem dX10_areAlike_22 : decode cX10_areAlike 22 = .ok (.aload_n 0, 1) := by decide +kernel
theorem dX10_areAlike_23 : decode cX10_areAlike 23 = .ok (.getfield 28, 3) := by decide +kernel
theorem dX10_areAlike_26 : decode cX10_areAlike 26 = .ok (.iconst 0, 1) := by decide +kernel
theorem dX10_areAlike_27 : decode cX10_areAlike 27 = .ok (.iaload, 1) := by decide +kernel
theorem dX10_areAlike_28 : decode cX10_areAlike 28 = .ok (.if_icmp .ne 7, 3) := by decide +kernel
theorem dX10_areAlike_31 : decode cX10_areAlike 31 = .ok (.iconst 1, 1) := by decide +kernel
theorem dX10_areAlike_32 : decode cX10_areAlike 32 = .ok (.goto 4, 3) := by decide +kernel
theorem dX10_areAlike_35 : decode cX10_areAlike 35 = .ok (.iconst 0, 1) := by decide +kernel
theorem dX10_areAlike_36 : decode cX10_areAlike 36 = .ok (.istore_n 1, 1) := by decide +kernel
theorem dX10_areAlike_37 : decode cX10_areAlike 37 = .ok (.iinc 2 1, 3) := by decide +kernel
theorem dX10_areAlike_40 : decode cX10_areAlike 40 = .ok (.goto (-36), 3) := by decide +kernel
theorem dX10_areAlike_43 : decode cX10_areAlike 43 = .ok (.iload_n 1, 1) := by decide +kernel
theorem dX10_areAlike_44 : decode cX10_areAlike 44 = .ok (.ireturn, 1) := by decide +kernel
theorem dX10_load_0 : decode cX10_load 0 = .ok (.iload_n 1, 1) := by decide +kernel
theorem dX10_load_1 : decode cX10_load 1 = .ok (.invokestatic 65, 3) := by decide +kernel
theorem dX10_load_4 : decode cX10_load 4 = .ok (.ifCond .ne 5, 3) := by decide +kernel
theorem dX10_load_7 : decode cX10_load 7 = .ok (.iconst (-1), 1) := by decide +kernel
theorem dX10_load_8 : decode cX10_load 8 = .ok (.ireturn, 1) := by decide +kernel
theorem dX10_load_9 : decode cX10_load 9 = .ok (.aload_n 0, 1) := by decide +kernel
theorem dX10_load_10 : decode cX10_load 10 = .ok (.invokevirtual 90, 3) := by decide +kernel
theorem dX10_load_13 : decode cX10_load 13 = .ok (.bipush (-6), 2) := by decide +kernel
theorem dX10_load_15 : decode cX10_load 15 = .ok (.if_icmp .eq 6, 3) := by decide +kernel
theorem dX10_load_18 : decode cX10_load 18 = .ok (.bipush (-3), 2) := by decide +kernel
theorem dX10_load_20 : decode cX10_load 20 = .ok (.ireturn, 1) := by decide +kernel
theorem dX10_load_21 : decode cX10_load 21 = .ok (.aload_n 0, 1) := by decide +kernel
theorem dX10_load_22 : decode cX10_load 22 = .ok (.invokevirtual 94, 3) := by decide +kernel
theorem dX10_load_25 : decode cX10_load 25 = .ok (.ifCond .eq 6, 3) := by decide +kernel
theorem dX10_load_28 : decode cX10_load 28 = .ok (.bipush (-4), 2) := by decide +kernel
theorem dX10_load_30 : decode cX10_load 30 = .ok (.ireturn, 1) := by decide +kernel
theorem dX10_load_31 : decode cX10_load 31 = .ok (.aload_n 0, 1) := by decide +kernel
theorem dX10_load_32 : decode cX10_load 32 = .ok (.invokevirtual 98, 3) := by decide +kernel
theorem dX10_load_35 : decode cX10_load 35 = .ok (.ifCond .ne 6, 3) := by decide +kernel
theorem dX10_load_38 : decode cX10_load 38 = .ok (.bipush (-2), 2) := by decide +kernel
theorem dX10_load_40 : decode cX10_load 40 = .ok (.ireturn, 1) := by decide +kernel
theorem dX10_load_41 : decode cX10_load 41 = .ok (.aload_n 0, 1) := by decide +kernel
theorem dX10_load_42 : decode cX10_load 42 = .ok (.invokevirtual 101, 3) := by decide +kernel
theorem dX10_load_45 : decode cX10_load 45 = .ok (.aload_n 0, 1) := by decide +kernel
theorem dX10_load_46 : decode cX10_load 46 = .ok (.iload_n 1, 1) := by decide +kernel
theorem dX10_load_47 : decode cX10_load 47 = .ok (.aload_n 0, 1) := by decide +kernel
theorem dX10_load_48 : decode cX10_load 48 = .ok (.getfield 84, 3) := by decide +kernel
theorem dX10_load_51 : decode cX10_load 51 = .ok (.aload_n 0, 1) := by decide +kernel
theorem dX10_load_52 : decode cX10_load 52 = .ok (.getfield 28, 3) := by decide +kernel
theorem dX10_load_55 : decode cX10_load 55 = .ok (.iconst 0, 1) := by decide +kernel
theorem dX10_load_56 : decode cX10_load 56 = .ok (.iaload, 1) := by decide +kernel
theorem dX10_load_57 : decode cX10_load 57 = .ok (.invokevirtual 104, 3) := by decide +kernel
theorem dX10_load_60 : decode cX10_load 60 = .ok (.aload_n 0, 1) := by decide +kernel
theorem dX10_load_61 : decode cX10_load 61 = .ok (.iconst 0, 1) := by decide +kernel
theorem dX10_load_62 : decode cX10_load 62 = .ok (.putfield 108, 3) := by decide +kernel
theorem dX10_load_65 : decode cX10_load 65 = .ok (.aload_n 0, 1) := by decide +kernel
theorem dX10_load_66 : decode cX10_load 66 = .ok (.iload_n 1, 1) := by decide +kernel
theorem dX10_load_67 : decode cX10_load 67 = .ok (.invokevirtual 81, 3) := by decide +kernel
theorem dX10_load_70 : decode cX10_load 70 = .ok (.ireturn, 1) := by decide +kernel
theorem dX10_set_0 : decode cX10_set 0 = .ok (.aload_n 0, 1) := by decide +kernel
theorem dX10_set_1 : decode cX10_set 1 = .ok (.iload_n 1, 1) := by decide +kernel
theorem dX10_set_2 : decode cX10_set 2 = .ok (.iload_n 2, 1) := by decide +kernel
theorem dX10_set_3 : decode cX10_set 3 = .ok (.iload_n 3, 1) := by decide +kernel
theorem dX10_set_4 : decode cX10_set 4 = .ok (.invokevirtual 111, 3) := by decide +kernel
theorem dX10_set_7 : decode cX10_set 7 = .ok (.ifCond .ne 5, 3) := by decide +kernel
theorem dX10_set_10 : decode cX10_set 10 = .ok (.iconst (-1), 1) := by decide +kernel
theorem dX10_set_11 : decode cX10_set 11 = .ok (.ireturn, 1) := by decide +kernel
theorem dX10_set_12 : decode cX10_set 12 = .ok (.iload 4, 2) := by decide +kernel
theorem dX10_set_14 : decode cX10_set 14 = .ok (.iconst 0, 1) := by decide +kernel
theorem dX10_set_15 : decode cX10_set 15 = .ok (.sipush 999, 3) := by decide +kernel
theorem dX10_set_18 : decode cX10_set 18 = .ok (.invokestatic 54, 3) := by decide +kernel
theorem dX10_set_21 : decode cX10_set 21 = .ok (.ifCond .ne 6, 3) := by decide +kernel
theorem dX10_set_24 : decode cX10_set 24 = .ok (.bipush (-2), 2) := by decide +kernel
theorem dX10_set_26 : decode cX10_set 26 = .ok (.ireturn, 1) := by decide +kernel
theorem dX10_set_27 : decode cX10_set 27 = .ok (.aload_n 0, 1) := by decide +kernel
theorem dX10_set_28 : decode cX10_set 28 = .ok (.invokevirtual 101, 3) := by decide +kernel
theorem dX10_set_31 : decode cX10_set 31 = .ok (.aload_n 0, 1) := by decide +kernel
theorem dX10_set_32 : decode cX10_set 32 = .ok (.iload_n 1, 1) := by decide +kernel
theorem dX10_set_33 : decode cX10_set 33 = .ok (.iload_n 2, 1) := by decide +kernel
theorem dX10_set_34 : decode cX10_set 34 = .ok (.iload_n 3, 1) := by decide +kernel
theorem dX10_set_35 : decode cX10_set 35 = .ok (.invokevirtual 73, 3) := by decide +kernel
theorem dX10_set_38 : decode cX10_set 38 = .ok (.istore 5, 2) := by decide +kernel
theorem dX10_set_40 : decode cX10_set 40 = .ok (.aload_n 0, 1) := by decide +kernel
theorem dX10_set_41 : decode cX10_set 41 = .ok (.iload_n 1, 1) := by decide +kernel
theorem dX10_set_42 : decode cX10_set 42 = .ok (.iload_n 2, 1) := by decide +kernel
theorem dX10_set_43 : decode cX10_set 43 = .ok (.iload_n 3, 1) := by decide +kernel
theorem dX10_set_44 : decode cX10_set 44 = .ok (.iload 4, 2) := by decide +kernel
theorem dX10_set_46 : decode cX10_set 46 = .ok (.invokevirtual 77, 3) := by decide +kernel
theorem dX10_set_49 : decode cX10_set 49 = .ok (.iload 5, 2) := by decide +kernel
theorem dX10_set_51 : decode cX10_set 51 = .ok (.ireturn, 1) := by decide +kernel
theorem dX10_raise_0 : decode cX10_raise 0 = .ok (.aload_n 0, 1) := by decide +kernel
theorem dX10_raise_1 : decode cX10_raise 1 = .ok (.iload_n 1, 1) := by decide +kernel
theorem dX10_raise_2 : decode cX10_raise 2 = .ok (.iload_n 2, 1) := by decide +kernel
theorem dX10_raise_3 : decode cX10_raise 3 = .ok (.iload_n 3, 1) := by decide +kernel
theorem dX10_raise_4 : decode cX10_raise 4 = .ok (.invokevirtual 114, 3) := by decide +kernel
theorem dX10_raise_7 : decode cX10_raise 7 = .ok (.ifCond .ne 5, 3) := by decide +kernel
theorem dX10_raise_10 : decode cX10_raise 10 = .ok (.iconst (-1), 1) := by decide +kernel
theorem dX10_raise_11 : decode cX10_raise 11 = .ok (.ireturn, 1) := by decide +kernel
theorem dX10_raise_12 : decode cX10_raise 12 = .ok (.iload 4, 2) := by decide +kernel
theorem dX10_raise_14 : decode cX10_raise 14 = .ok (.sipush (-999), 3) := by decide +kernel
theorem dX10_raise_17 : decode cX10_raise 17 = .ok (.sipush 999, 3) := by decide +kernel
theorem dX10_raise_20 : decode cX10_raise 20 = .ok (.invokestatic 54, 3) := by decide +kernel
theorem dX10_raise_23 : decode cX10_raise 23 = .ok (.ifCond .ne 6, 3) := by decide +kernel
theorem dX10_raise_26 : decode cX10_raise 26 = .ok (.bipush (-2), 2) := by decide +kernel
theorem dX10_raise_28 : decode cX10_raise 28 = .ok (.ireturn, 1) := by decide +kernel
theorem dX10_raise_29 : decode cX10_raise 29 = .ok (.aload_n 0, 1) := by decide +kernel
theorem dX10_raise_30 : decode cX10_raise 30 = .ok (.iload_n 1, 1) := by decide +kernel
theorem dX10_raise_31 : decode cX10_raise 31 = .ok (.iload_n 2, 1) := by decide +kernel
theorem dX10_raise_32 : decode cX10_raise 32 = .ok (.ifCond .ne 7, 3) := by decide +kernel
theorem dX10_raise_35 : decode cX10_raise 35 = .ok (.iconst 1, 1) := by decide +kernel
theorem dX10_raise_36 : decode cX10_raise 36 = .ok (.goto 4, 3) := by decide +kernel
theorem dX10_raise_39 : decode cX10_raise 39 = .ok (.iconst 0, 1) := by decide +kernel
theorem dX10_raise_40 : decode cX10_raise 40 = .ok (.invokevirtual 69, 3) := by decide +kernel
theorem dX10_raise_43 : decode cX10_raise 43 = .ok (.istore 5, 2) := by decide +kernel
theorem dX10_raise_45 : decode cX10_raise 45 = .ok (.iconst 0, 1) := by decide +kernel
theorem dX10_raise_46 : decode cX10_raise 46 = .ok (.istore 6, 2) := by decide +kernel
theorem dX10_raise_48 : decode cX10_raise 48 = .ok (.iload 6, 2) := by decide +kernel
theorem dX10_raise_50 : decode cX10_raise 50 = .ok (.iload 5, 2) := by decide +kernel
theorem dX10_raise_52 : decode cX10_raise 52 = .ok (.if_icmp .ge 34, 3) := by decide +kernel
theorem dX10_raise_55 : decode cX10_raise 55 = .ok (.aload_n 0, 1) := by decide +kernel
theorem dX10_raise_56 : decode cX10_raise 56 = .ok (.iload_n 1, 1) := by decide +kernel
theorem dX10_raise_57 : decode cX10_raise 57 = .ok (.iload_n 2, 1) := by decide +kernel
theorem dX10_raise_58 : decode cX10_raise 58 = .ok (.iload_n 3, 1) := by decide +kernel
theorem dX10_raise_59 : decode cX10_raise 59 = .ok (.iload 6, 2) := by decide +kernel
theorem dX10_raise_61 : decode cX10_raise 61 = .ok (.invokevirtual 118, 3) := by decide +kernel
theorem dX10_raise_64 : decode cX10_raise 64 = .ok (.iload 4, 2) := by decide +kernel
theorem dX10_raise_66 : decode cX10_raise 66 = .ok (.iadd, 1) := by decide +kernel
theorem dX10_raise_67 : decode cX10_raise 67 = .ok (.iconst 0, 1) := by decide +kernel
theorem dX10_raise_68 : decode cX10_raise 68 = .ok (.sipush 999, 3) := by decide +kernel
theorem dX10_raise_71 : decode cX10_raise 71 = .ok (.invokestatic 54, 3) := by decide +kernel
theorem dX10_raise_74 : decode cX10_raise 74 = .ok (.ifCond .ne 6, 3) := by decide +kernel
theorem dX10_raise_77 : decode cX10_raise 77 = .ok (.bipush (-5), 2) := by decide +kernel
theorem dX10_raise_79 : decode cX10_raise 79 = .ok (.ireturn, 1) := by decide +kernel
theorem dX10_raise_80 : decode cX10_raise 80 = .ok (.iinc 6 1, 3) := by decide +kernel
theorem dX10_raise_83 : decode cX10_raise 83 = .ok (.goto (-35), 3) := by decide +kernel
theorem dX10_raise_86 : decode cX10_raise 86 = .ok (.aload_n 0, 1) := by decide +kernel
theorem dX10_raise_87 : decode cX10_raise 87 = .ok (.invokevirtual 101, 3) := by decide +kernel
theorem dX10_raise_90 : decode cX10_raise 90 = .ok (.iconst 0, 1) := by decide +kernel
theorem dX10_raise_91 : decode cX10_raise 91 = .ok (.istore 6, 2) := by decide +kernel
theorem dX10_raise_93 : decode cX10_raise 93 = .ok (.iload 6, 2) := by decide +kernel
theorem dX10_raise_95 : decode cX10_raise 95 = .ok (.iload 5, 2) := by decide +kernel
theorem dX10_raise_97 : decode cX10_raise 97 = .ok (.if_icmp .ge 30, 3) := by decide +kernel
theorem dX10_raise_100 : decode cX10_raise 100 = .ok (.aload_n 0, 1) := by decide +kernel
theorem dX10_raise_101 : decode cX10_raise 101 = .ok (.iload_n 1, 1) := by decide +kernel
theorem dX10_raise_102 : decode cX10_raise 102 = .ok (.iload_n 2, 1) := by decide +kernel
theorem dX10_raise_103 : decode cX10_raise 103 = .ok (.iload_n 3, 1) := by decide +kernel
theorem dX10_raise_104 : decode cX10_raise 104 = .ok (.iload 6, 2) := by decide +kernel
theorem dX10_raise_106 : decode cX10_raise 106 = .ok (.aload_n 0, 1) := by decide +kernel
theorem dX10_raise_107 : decode cX10_raise 107 = .ok (.iload_n 1, 1) := by decide +kernel
theorem dX10_raise_108 : decode cX10_raise 108 = .ok (.iload_n 2, 1) := by decide +kernel
theorem dX10_raise_109 : decode cX10_raise 109 = .ok (.iload_n 3, 1) := by decide +kernel
theorem dX10_raise_110 : decode cX10_raise 110 = .ok (.iload 6, 2) := by decide +kernel
theorem dX10_raise_112 : decode cX10_raise 112 = .ok (.invokevirtual 118, 3) := by decide +kernel
theorem dX10_raise_115 : decode cX10_raise 115 = .ok (.iload 4, 2) := by decide +kernel
theorem dX10_raise_117 : decode cX10_raise 117 = .ok (.iadd, 1) := by decide +kernel
theorem dX10_raise_118 : decode cX10_raise 118 = .ok (.invokevirtual 122, 3) := by decide +kernel
theorem dX10_raise_121 : decode cX10_raise 121 = .ok (.iinc 6 1, 3) := by decide +kernel
theorem dX10_raise_124 : decode cX10_raise 124 = .ok (.goto (-31), 3) := by decide +kernel
theorem dX10_raise_127 : decode cX10_raise 127 = .ok (.aload_n 0, 1) := by decide +kernel
theorem dX10_raise_128 : decode cX10_raise 128 = .ok (.iload_n 1, 1) := by decide +kernel
theorem dX10_raise_129 : decode cX10_raise 129 = .ok (.invokevirtual 126, 3) := by decide +kernel
theorem dX10_raise_132 : decode cX10_raise 132 = .ok (.ireturn, 1) := by decide +kernel
theorem dX10_exchange_0 : decode cX10_exchange 0 = .ok (.aload_n 0, 1) := by decide +kernel
theorem dX10_exchange_1 : decode cX10_exchange 1 = .ok (.iload_n 1, 1) := by decide +kernel
theorem dX10_exchange_2 : decode cX10_exchange 2 = .ok (.iload_n 2, 1) := by decide +kernel
theorem dX10_exchange_3 : decode cX10_exchange 3 = .ok (.iload_n 3, 1) := by decide +kernel
theorem dX10_exchange_4 : decode cX10_exchange 4 = .ok (.invokevirtual 114, 3) := by decide +kernel
theorem dX10_exchange_7 : decode cX10_exchange 7 = .ok (.ifCond .eq 14, 3) := by decide +kernel
theorem dX10_exchange_10 : decode cX10_exchange 10 = .ok (.aload_n 0, 1) := by decide +kernel
theorem dX10_exchange_11 : decode cX10_exchange 11 = .ok (.iload_n 1, 1) := by decide +kernel
theorem dX10_exchange_12 : decode cX10_exchange 12 = .ok (.iload_n 2, 1) := by decide +kernel
theorem dX10_exchange_13 : decode cX10_exchange 13 = .ok (.iload 4, 2) := by decide +kernel
theorem dX10_exchange_15 : decode cX10_exchange 15 = .ok (.invokevirtual 114, 3) := by decide +kernel
theorem dX10_exchange_18 : decode cX10_exchange 18 = .ok (.ifCond .ne 5, 3) := by decide +kernel
theorem dX10_exchange_21 : decode cX10_exchange 21 = .ok (.iconst (-1), 1) := by decide +kernel
theorem dX10_exchange_22 : decode cX10_exchange 22 = .ok (.ireturn, 1) := by decide +kernel
theorem dX10_exchange_23 : decode cX10_exchange 23 = .ok (.iload_n 3, 1) := by decide +kernel
theorem dX10_exchange_24 : decode cX10_exchange 24 = .ok (.iload 4, 2) := by decide +kernel
theorem dX10_exchange_26 : decode cX10_exchange 26 = .ok (.if_icmp .ne 6, 3) := by decide +kernel
theorem dX10_exchange_29 : decode cX10_exchange 29 = .ok (.bipush (-2), 2) := by decide +kernel
theorem dX10_exchange_31 : decode cX10_exchange 31 = .ok (.ireturn, 1) := by decide +kernel
theorem dX10_exchange_32 : decode cX10_exchange 32 = .ok (.aload_n 0, 1) := by decide +kernel
theorem dX10_exchange_33 : decode cX10_exchange 33 = .ok (.invokevirtual 101, 3) := by decide +kernel
theorem dX10_exchange_36 : decode cX10_exchange 36 = .ok (.iconst 0, 1) := by decide +kernel
theorem dX10_exchange_37 : decode cX10_exchange 37 = .ok (.istore 5, 2) := by decide +kernel
theorem dX10_exchange_39 : decode cX10_exchange 39 = .ok (.iconst 0, 1) := by decide +kernel
theorem dX10_exchange_40 : decode cX10_exchange 40 = .ok (.istore 6, 2) := by decide +kernel
theorem dX10_exchange_42 : decode cX10_exchange 42 = .ok (.iload 6, 2) := by decide +kernel
theorem dX10_exchange_44 : decode cX10_exchange 44 = .ok (.aload_n 0, 1) := by decide +kernel
theorem dX10_exchange_45 : decode cX10_exchange 45 = .ok (.iload_n 1, 1) := by decide +kernel
theorem dX10_exchange_46 : decode cX10_exchange 46 = .ok (.iload_n 2, 1) := by decide +kernel
theorem dX10_exchange_47 : decode cX10_exchange 47 = .ok (.ifCond .ne 7, 3) := by decide +kernel
theorem dX10_exchange_50 : decode cX10_exchange 50 = .ok (.iconst 1, 1) := by decide +kernel
theorem dX10_exchange_51 : decode cX10_exchange 51 = .ok (.goto 4, 3) := by decide +kernel
theorem dX10_exchange_54 : decode cX10_exchange 54 = .ok (.iconst 0, 1) := by decide +kernel
theorem dX10_exchange_55 : decode cX10_exchange 55 = .ok (.invokevirtual 69, 3) := by decide +kernel
theorem dX10_exchange_58 : decode cX10_exchange 58 = .ok (.if_icmp .ge 70, 3) := by decide +kernel
theorem dX10_exchange_61 : decode cX10_exchange 61 = .ok (.aload_n 0, 1) := by decide +kernel
theorem dX10_exchange_62 : decode cX10_exchange 62 = .ok (.iload_n 1, 1) := by decide +kernel
theorem dX10_exchange_63 : decode cX10_exchange 63 = .ok (.iload_n 2, 1) := by decide +kernel
theorem dX10_exchange_64 : decode cX10_exchange 64 = .ok (.iload_n 3, 1) := by decide +kernel
theorem dX10_exchange_65 : decode cX10_exchange 65 = .ok (.iload 6, 2) := by decide +kernel
theorem dX10_exchange_67 : decode cX10_exchange 67 = .ok (.invokevirtual 118, 3) := by decide +kernel
theorem dX10_exchange_70 : decode cX10_exchange 70 = .ok (.istore 7, 2) := by decide +kernel
theorem dX10_exchange_72 : decode cX10_exchange 72 = .ok (.aload_n 0, 1) := by decide +kernel
theorem dX10_exchange_73 : decode cX10_exchange 73 = .ok (.iload_n 1, 1) := by decide +kernel
theorem dX10_exchange_74 : decode cX10_exchange 74 = .ok (.iload_n 2, 1) := by decide +kernel
theorem dX10_exchange_75 : decode cX10_exchange 75 = .ok (.iload 4, 2) := by decide +kernel
theorem dX10_exchange_77 : decode cX10_exchange 77 = .ok (.iload 6, 2) := by decide +kernel
theorem dX10_exchange_79 : decode cX10_exchange 79 = .ok (.invokevirtual 118, 3) := by decide +kernel
theorem dX10_exchange_82 : decode cX10_exchange 82 = .ok (.istore 8, 2) := by decide +kernel
theorem dX10_exchange_84 : decode cX10_exchange 84 = .ok (.iload 7, 2) := by decide +kernel
theorem dX10_exchange_86 : decode cX10_exchange 86 = .ok (.iload 8, 2) := by decide +kernel
theorem dX10_exchange_88 : decode cX10_exchange 88 = .ok (.if_icmp .ne 8, 3) := by decide +kernel
theorem dX10_exchange_91 : decode cX10_exchange 91 = .ok (.iload 5, 2) := by decide +kernel
theorem dX10_exchange_93 : decode cX10_exchange 93 = .ok (.goto 4, 3) := by decide +kernel
theorem dX10_exchange_96 : decode cX10_exchange 96 = .ok (.iconst 1, 1) := by decide +kernel
theorem dX10_exchange_97 : decode cX10_exchange 97 = .ok (.istore 5, 2) := by decide +kernel
theorem dX10_exchange_99 : decode cX10_exchange 99 = .ok (.aload_n 0, 1) := by decide +kernel
theorem dX10_exchange_100 : decode cX10_exchange 100 = .ok (.iload_n 1, 1) := by decide +kernel
theorem dX10_exchange_101 : decode cX10_exchange 101 = .ok (.iload_n 2, 1) := by decide +kernel
theorem dX10_exchange_102 : decode cX10_exchange 102 = .ok (.iload_n 3, 1) := by decide +kernel
theorem dX10_exchange_103 : decode cX10_exchange 103 = .ok (.iload 6, 2) := by decide +kernel
theorem dX10_exchange_105 : decode cX10_exchange 105 = .ok (.iload 8, 2) := by decide +kernel
theorem dX10_exchange_107 : decode cX10_exchange 107 = .ok (.invokevirtual 122, 3) := by decide +kernel
theorem dX10_exchange_110 : decode cX10_exchange 110 = .ok (.aload_n 0, 1) := by decide +kernel
theorem dX10_exchange_111 : decode cX10_exchange 111 = .ok (.iload_n 1, 1) := by decide +kernel
theorem dX10_exchange_112 : decode cX10_exchange 112 = .ok (.iload_n 2, 1) := by decide +kernel
theorem dX10_exchange_113 : decode cX10_exchange 113 = .ok (.iload 4, 2) := by decide +kernel
theorem dX10_exchange_115 : decode cX10_exchange 115 = .ok (.iload 6, 2) := by decide +kernel
theorem dX10_exchange_117 : decode cX10_exchange 117 = .ok (.iload 7, 2) := by decide +kernel
theorem dX10_exchange_119 : decode cX10_exchange 119 = .ok (.invokevirtual 122, 3) := by decide +kernel
theorem dX10_exchange_122 : decode cX10_exchange 122 = .ok (.iinc 6 1, 3) := by decide +kernel
theorem dX10_exchange_125 : decode cX10_exchange 125 = .ok (.goto (-83), 3) := by decide +kernel
theorem dX10_exchange_128 : decode cX10_exchange 128 = .ok (.iload 5, 2) := by decide +kernel
theorem dX10_exchange_130 : decode cX10_exchange 130 = .ok (.ireturn, 1) := by decide +kernel
theorem dX10_drop_0 : decode cX10_drop 0 = .ok (.aload_n 0, 1) := by decide +kernel
theorem dX10_drop_1 : decode cX10_drop 1 = .ok (.iload_n 1, 1) := by decide +kernel
theorem dX10_drop_2 : decode cX10_drop 2 = .ok (.iload_n 2, 1) := by decide +kernel
theorem dX10_drop_3 : decode cX10_drop 3 = .ok (.iload_n 3, 1) := by decide +kernel
theorem dX10_drop_4 : decode cX10_drop 4 = .ok (.invokevirtual 114, 3) := by decide +kernel
theorem dX10_drop_7 : decode cX10_drop 7 = .ok (.ifCond .ne 5, 3) := by decide +kernel
theorem dX10_drop_10 : decode cX10_drop 10 = .ok (.iconst (-1), 1) := by decide +kernel
theorem dX10_drop_11 : decode cX10_drop 11 = .ok (.ireturn, 1) := by decide +kernel
theorem dX10_drop_12 : decode cX10_drop 12 = .ok (.aload_n 0, 1) := by decide +kernel
theorem dX10_drop_13 : decode cX10_drop 13 = .ok (.iload_n 1, 1) := by decide +kernel
theorem dX10_drop_14 : decode cX10_drop 14 = .ok (.iload_n 2, 1) := by decide +kernel
theorem dX10_drop_15 : decode cX10_drop 15 = .ok (.invokevirtual 69, 3) := by decide +kernel
theorem dX10_drop_18 : decode cX10_drop 18 = .ok (.iconst 1, 1) := by decide +kernel
theorem dX10_drop_19 : decode cX10_drop 19 = .ok (.if_icmp .ne 6, 3) := by decide +kernel
theorem dX10_drop_22 : decode cX10_drop 22 = .ok (.bipush (-5), 2) := by decide +kernel
theorem dX10_drop_24 : decode cX10_drop 24 = .ok (.ireturn, 1) := by decide +kernel
theorem dX10_drop_25 : decode cX10_drop 25 = .ok (.aload_n 0, 1) := by decide +kernel
theorem dX10_drop_26 : decode cX10_drop 26 = .ok (.invokevirtual 101, 3) := by decide +kernel
theorem dX10_drop_29 : decode cX10_drop 29 = .ok (.aload_n 0, 1) := by decide +kernel
theorem dX10_drop_30 : decode cX10_drop 30 = .ok (.iload_n 1, 1) := by decide +kernel
theorem dX10_drop_31 : decode cX10_drop 31 = .ok (.invokevirtual 58, 3) := by decide +kernel
theorem dX10_drop_34 : decode cX10_drop 34 = .ok (.istore 4, 2) := by decide +kernel
theorem dX10_drop_36 : decode cX10_drop 36 = .ok (.aload_n 0, 1) := by decide +kernel
theorem dX10_drop_37 : decode cX10_drop 37 = .ok (.iload_n 1, 1) := by decide +kernel
theorem dX10_drop_38 : decode cX10_drop 38 = .ok (.invokevirtual 62, 3) := by decide +kernel
theorem dX10_drop_41 : decode cX10_drop 41 = .ok (.istore 5, 2) := by decide +kernel
theorem dX10_drop_43 : decode cX10_drop 43 = .ok (.iconst 0, 1) := by decide +kernel
theorem dX10_drop_44 : decode cX10_drop 44 = .ok (.istore 6, 2) := by decide +kernel
theorem dX10_drop_46 : decode cX10_drop 46 = .ok (.iconst 0, 1) := by decide +kernel
theorem dX10_drop_47 : decode cX10_drop 47 = .ok (.istore 7, 2) := by decide +kernel
theorem dX10_drop_49 : decode cX10_drop 49 = .ok (.iload 7, 2) := by decide +kernel
theorem dX10_drop_51 : decode cX10_drop 51 = .ok (.iload 4, 2) := by decide +kernel
theorem dX10_drop_53 : decode cX10_drop 53 = .ok (.iload 5, 2) := by decide +kernel
theorem dX10_drop_55 : decode cX10_drop 55 = .ok (.imul, 1) := by decide +kernel
theorem dX10_drop_56 : decode cX10_drop 56 = .ok (.if_icmp .ge 55, 3) := by decide +kernel
theorem dX10_drop_59 : decode cX10_drop 59 = .ok (.iload_n 2, 1) := by decide +kernel
theorem dX10_drop_60 : decode cX10_drop 60 = .ok (.ifCond .eq 11, 3) := by decide +kernel
theorem dX10_drop_63 : decode cX10_drop 63 = .ok (.iload 7, 2) := by decide +kernel
theorem dX10_drop_65 : decode cX10_drop 65 = .ok (.iload 5, 2) := by decide +kernel
theorem dX10_drop_67 : decode cX10_drop 67 = .ok (.idiv, 1) := by decide +kernel
theorem dX10_drop_68 : decode cX10_drop 68 = .ok (.goto 8, 3) := by decide +kernel
theorem dX10_drop_71 : decode cX10_drop 71 = .ok (.iload 7, 2) := by decide +kernel
theorem dX10_drop_73 : decode cX10_drop 73 = .ok (.iload 5, 2) := by decide +kernel
theorem dX10_drop_75 : decode cX10_drop 75 = .ok (.irem, 1) := by decide +kernel
theorem dX10_drop_76 : decode cX10_drop 76 = .ok (.iload_n 3, 1) := by decide +kernel
theorem dX10_drop_77 : decode cX10_drop 77 = .ok (.if_icmp .eq 28, 3) := by decide +kernel
theorem dX10_drop_80 : decode cX10_drop 80 = .ok (.aload_n 0, 1) := by decide +kernel
theorem dX10_drop_81 : decode cX10_drop 81 = .ok (.getfield 25, 3) := by decide +kernel
theorem dX10_drop_84 : decode cX10_drop 84 = .ok (.iload 6, 2) := by decide +kernel
theorem dX10_drop_86 : decode cX10_drop 86 = .ok (.aload_n 0, 1) := by decide +kernel
theorem dX10_drop_87 : decode cX10_drop 87 = .ok (.iload_n 1, 1) := by decide +kernel
theorem dX10_drop_88 : decode cX10_drop 88 = .ok (.iload 7, 2) := by decide +kernel
theorem dX10_drop_90 : decode cX10_drop 90 = .ok (.iload 5, 2) := by decide +kernel
theorem dX10_drop_92 : decode cX10_drop 92 = .ok (.idiv, 1) := by decide +kernel
theorem dX10_drop_93 : decode cX10_drop 93 = .ok (.iload 7, 2) := by decide +kernel
theorem dX10_drop_95 : decode cX10_drop 95 = .ok (.iload 5, 2) := by decide +kernel
theorem dX10_drop_97 : decode cX10_drop 97 = .ok (.irem, 1) := by decide +kernel
theorem dX10_drop_98 : decode cX10_drop 98 = .ok (.invokevirtual 73, 3) := by decide +kernel
theorem dX10_drop_101 : decode cX10_drop 101 = .ok (.iastore, 1) := by decide +kernel
theorem dX10_drop_102 : decode cX10_drop 102 = .ok (.iinc 6 1, 3) := by decide +kernel
theorem dX10_drop_105 : decode cX10_drop 105 = .ok (.iinc 7 1, 3) := by decide +kernel
theorem dX10_drop_108 : decode cX10_drop 108 = .ok (.goto (-59), 3) := by decide +kernel
theorem dX10_drop_111 : decode cX10_drop 111 = .ok (.aload_n 0, 1) := by decide +kernel
theorem dX10_drop_112 : decode cX10_drop 112 = .ok (.iload_n 1, 1) := by decide +kernel
theorem dX10_drop_113 : decode cX10_drop 113 = .ok (.iload_n 2, 1) := by decide +kernel
theorem dX10_drop_114 : decode cX10_drop 114 = .ok (.ifCond .eq 10, 3) := by decide +kernel
theorem dX10_drop_117 : decode cX10_drop 117 = .ok (.iload 4, 2) := by decide +kernel
theorem dX10_drop_119 : decode cX10_drop 119 = .ok (.iconst 1, 1) := by decide +kernel
theorem dX10_drop_120 : decode cX10_drop 120 = .ok (.isub, 1) := by decide +kernel
theorem dX10_drop_121 : decode cX10_drop 121 = .ok (.goto 5, 3) := by decide +kernel
theorem dX10_drop_124 : decode cX10_drop 124 = .ok (.iload 4, 2) := by decide +kernel
theorem dX10_drop_126 : decode cX10_drop 126 = .ok (.iload_n 2, 1) := by decide +kernel
theorem dX10_drop_127 : decode cX10_drop 127 = .ok (.ifCond .eq 8, 3) := by decide +kernel
theorem dX10_drop_130 : decode cX10_drop 130 = .ok (.iload 5, 2) := by decide +kernel
theorem dX10_drop_132 : decode cX10_drop 132 = .ok (.goto 7, 3) := by decide +kernel
theorem dX10_drop_135 : decode cX10_drop 135 = .ok (.iload 5, 2) := by decide +kernel
theorem dX10_drop_137 : decode cX10_drop 137 = .ok (.iconst 1, 1) := by decide +kernel
theorem dX10_drop_138 : decode cX10_drop 138 = .ok (.isub, 1) := by decide +kernel
theorem dX10_drop_139 : decode cX10_drop 139 = .ok (.invokevirtual 104, 3) := by decide +kernel
theorem dX10_drop_142 : decode cX10_drop 142 = .ok (.iload 6, 2) := by decide +kernel
theorem dX10_drop_144 : decode cX10_drop 144 = .ok (.ireturn, 1) := by decide +kernel
theorem dX10_makeTurned_0 : decode cX10_makeTurned 0 = .ok (.iconst 0, 1) := by decide +kernel
theorem dX10_makeTurned_1 : decode cX10_makeTurned 1 = .ok (.istore_n 2, 1) := by decide +kernel
theorem dX10_makeTurned_2 : decode cX10_makeTurned 2 = .ok (.iload_n 2, 1) := by decide +kernel
theorem dX10_makeTurned_3 : decode cX10_makeTurned 3 = .ok (.aload_n 0, 1) := by decide +kernel
theorem dX10_makeTurned_4 : decode cX10_makeTurned 4 = .ok (.iload_n 1, 1) := by decide +kernel
theorem dX10_makeTurned_5 : decode cX10_makeTurned 5 = .ok (.invokevirtual 58, 3) := by decide +kernel
theorem dX10_makeTurned_8 : decode cX10_makeTurned 8 = .ok (.if_icmp .ge 47, 3) := by decide +kernel
theorem dX10_makeTurned_11 : decode cX10_makeTurned 11 = .ok (.iconst 0, 1) := by decide +kernel
theorem dX10_makeTurned_12 : decode cX10_makeTurned 12 = .ok (.istore_n 3, 1) := by decide +kernel
theorem dX10_makeTurned_13 : decode cX10_makeTurned 13 = .ok (.iload_n 3, 1) := by decide +kernel
theorem dX10_makeTurned_14 : decode cX10_makeTurned 14 = .ok (.aload_n 0, 1) := by decide +kernel
theorem dX10_makeTurned_15 : decode cX10_makeTurned 15 = .ok (.iload_n 1, 1) := by decide +kernel
theorem dX10_makeTurned_16 : decode cX10_makeTurned 16 = .ok (.invokevirtual 62, 3) := by decide +kernel
theorem dX10_makeTurned_19 : decode cX10_makeTurned 19 = .ok (.if_icmp .ge 30, 3) := by decide +kernel
theorem dX10_makeTurned_22 : decode cX10_makeTurned 22 = .ok (.aload_n 0, 1) := by decide +kernel
theorem dX10_makeTurned_23 : decode cX10_makeTurned 23 = .ok (.getfield 25, 3) := by decide +kernel
theorem dX10_makeTurned_26 : decode cX10_makeTurned 26 = .ok (.iload_n 3, 1) := by decide +kernel
theorem dX10_makeTurned_27 : decode cX10_makeTurned 27 = .ok (.aload_n 0, 1) := by decide +kernel
theorem dX10_makeTurned_28 : decode cX10_makeTurned 28 = .ok (.iload_n 1, 1) := by decide +kernel
theorem dX10_makeTurned_29 : decode cX10_makeTurned 29 = .ok (.invokevirtual 58, 3) := by decide +kernel
theorem dX10_makeTurned_32 : decode cX10_makeTurned 32 = .ok (.imul, 1) := by decide +kernel
theorem dX10_makeTurned_33 : decode cX10_makeTurned 33 = .ok (.iload_n 2, 1) := by decide +kernel
theorem dX10_makeTurned_34 : decode cX10_makeTurned 34 = .ok (.iadd, 1) := by decide +kernel
theorem dX10_makeTurned_35 : decode cX10_makeTurned 35 = .ok (.aload_n 0, 1) := by decide +kernel
theorem dX10_makeTurned_36 : decode cX10_makeTurned 36 = .ok (.iload_n 1, 1) := by decide +kernel
theorem dX10_makeTurned_37 : decode cX10_makeTurned 37 = .ok (.iload_n 2, 1) := by decide +kernel
theorem dX10_makeTurned_38 : decode cX10_makeTurned 38 = .ok (.iload_n 3, 1) := by decide +kernel
theorem dX10_makeTurned_39 : decode cX10_makeTurned 39 = .ok (.invokevirtual 73, 3) := by decide +kernel
theorem dX10_makeTurned_42 : decode cX10_makeTurned 42 = .ok (.iastore, 1) := by decide +kernel
theorem dX10_makeTurned_43 : decode cX10_makeTurned 43 = .ok (.iinc 3 1, 3) := by decide +kernel
theorem dX10_makeTurned_46 : decode cX10_makeTurned 46 = .ok (.goto (-33), 3) := by decide +kernel
theorem dX10_makeTurned_49 : decode cX10_makeTurned 49 = .ok (.iinc 2 1, 3) := by decide +kernel
theorem dX10_makeTurned_52 : decode cX10_makeTurned 52 = .ok (.goto (-50), 3) := by decide +kernel
theorem dX10_makeTurned_55 : decode cX10_makeTurned 55 = .ok (.return_, 1) := by decide +kernel
theorem dX10_turns_0 : decode cX10_turns 0 = .ok (.aload_n 0, 1) := by decide +kernel
theorem dX10_turns_1 : decode cX10_turns 1 = .ok (.iload_n 1, 1) := by decide +kernel
theorem dX10_turns_2 : decode cX10_turns 2 = .ok (.invokevirtual 129, 3) := by decide +kernel
theorem dX10_turns_5 : decode cX10_turns 5 = .ok (.aload_n 0, 1) := by decide +kernel
theorem dX10_turns_6 : decode cX10_turns 6 = .ok (.iload_n 1, 1) := by decide +kernel
theorem dX10_turns_7 : decode cX10_turns 7 = .ok (.aload_n 0, 1) := by decide +kernel
theorem dX10_turns_8 : decode cX10_turns 8 = .ok (.iload_n 1, 1) := by decide +kernel
theorem dX10_turns_9 : decode cX10_turns 9 = .ok (.invokevirtual 62, 3) := by decide +kernel
theorem dX10_turns_12 : decode cX10_turns 12 = .ok (.aload_n 0, 1) := by decide +kernel
theorem dX10_turns_13 : decode cX10_turns 13 = .ok (.iload_n 1, 1) := by decide +kernel
theorem dX10_turns_14 : decode cX10_turns 14 = .ok (.invokevirtual 58, 3) := by decide +kernel
theorem dX10_turns_17 : decode cX10_turns 17 = .ok (.invokevirtual 104, 3) := by decide +kernel
theorem dX10_turns_20 : decode cX10_turns 20 = .ok (.return_, 1) := by decide +kernel
theorem dX10_turn_0 : decode cX10_turn 0 = .ok (.iload_n 1, 1) := by decide +kernel
theorem dX10_turn_1 : decode cX10_turn 1 = .ok (.invokestatic 65, 3) := by decide +kernel
theorem dX10_turn_4 : decode cX10_turn 4 = .ok (.ifCond .ne 5, 3) := by decide +kernel
theorem dX10_turn_7 : decode cX10_turn 7 = .ok (.iconst (-1), 1) := by decide +kernel
theorem dX10_turn_8 : decode cX10_turn 8 = .ok (.ireturn, 1) := by decide +kernel
theorem dX10_turn_9 : decode cX10_turn 9 = .ok (.aload_n 0, 1) := by decide +kernel
theorem dX10_turn_10 : decode cX10_turn 10 = .ok (.invokevirtual 101, 3) := by decide +kernel
theorem dX10_turn_13 : decode cX10_turn 13 = .ok (.aload_n 0, 1) := by decide +kernel
theorem dX10_turn_14 : decode cX10_turn 14 = .ok (.iload_n 1, 1) := by decide +kernel
theorem dX10_turn_15 : decode cX10_turn 15 = .ok (.invokevirtual 133, 3) := by decide +kernel
theorem dX10_turn_18 : decode cX10_turn 18 = .ok (.aload_n 0, 1) := by decide +kernel
theorem dX10_turn_19 : decode cX10_turn 19 = .ok (.iload_n 1, 1) := by decide +kernel
theorem dX10_turn_20 : decode cX10_turn 20 = .ok (.invokevirtual 58, 3) := by decide +kernel
theorem dX10_turn_23 : decode cX10_turn 23 = .ok (.ireturn, 1) := by decide +kernel
theorem dX10_leastSum_0 : decode cX10_leastSum 0 = .ok (.sipush 1999, 3) := by decide +kernel
theorem dX10_leastSum_3 : decode cX10_leastSum 3 = .ok (.istore 5, 2) := by decide +kernel
theorem dX10_leastSum_5 : decode cX10_leastSum 5 = .ok (.iconst 0, 1) := by decide +kernel
theorem dX10_leastSum_6 : decode cX10_leastSum 6 = .ok (.istore 6, 2) := by decide +kernel
theorem dX10_leastSum_8 : decode cX10_leastSum 8 = .ok (.iload 6, 2) := by decide +kernel
theorem dX10_leastSum_10 : decode cX10_leastSum 10 = .ok (.aload_n 0, 1) := by decide +kernel
theorem dX10_leastSum_11 : decode cX10_leastSum 11 = .ok (.iload_n 1, 1) := by decide +kernel
theorem dX10_leastSum_12 : decode cX10_leastSum 12 = .ok (.invokevirtual 62, 3) := by decide +kernel
theorem dX10_leastSum_15 : decode cX10_leastSum 15 = .ok (.if_icmp .ge 45, 3) := by decide +kernel
theorem dX10_leastSum_18 : decode cX10_leastSum 18 = .ok (.aload_n 0, 1) := by decide +kernel
theorem dX10_leastSum_19 : decode cX10_leastSum 19 = .ok (.iload_n 1, 1) := by decide +kernel
theorem dX10_leastSum_20 : decode cX10_leastSum 20 = .ok (.iload_n 3, 1) := by decide +kernel
theorem dX10_leastSum_21 : decode cX10_leastSum 21 = .ok (.iload 6, 2) := by decide +kernel
theorem dX10_leastSum_23 : decode cX10_leastSum 23 = .ok (.invokevirtual 73, 3) := by decide +kernel
theorem dX10_leastSum_26 : decode cX10_leastSum 26 = .ok (.aload_n 0, 1) := by decide +kernel
theorem dX10_leastSum_27 : decode cX10_leastSum 27 = .ok (.iload_n 2, 1) := by decide +kernel
theorem dX10_leastSum_28 : decode cX10_leastSum 28 = .ok (.iload 6, 2) := by decide +kernel
theorem dX10_leastSum_30 : decode cX10_leastSum 30 = .ok (.iload 4, 2) := by decide +kernel
theorem dX10_leastSum_32 : decode cX10_leastSum 32 = .ok (.invokevirtual 73, 3) := by decide +kernel
theorem dX10_leastSum_35 : decode cX10_leastSum 35 = .ok (.iadd, 1) := by decide +kernel
theorem dX10_leastSum_36 : decode cX10_leastSum 36 = .ok (.istore 7, 2) := by decide +kernel
theorem dX10_leastSum_38 : decode cX10_leastSum 38 = .ok (.iload 7, 2) := by decide +kernel
theorem dX10_leastSum_40 : decode cX10_leastSum 40 = .ok (.iload 5, 2) := by decide +kernel
theorem dX10_leastSum_42 : decode cX10_leastSum 42 = .ok (.if_icmp .ge 8, 3) := by decide +kernel
theorem dX10_leastSum_45 : decode cX10_leastSum 45 = .ok (.iload 7, 2) := by decide +kernel
theorem dX10_leastSum_47 : decode cX10_leastSum 47 = .ok (.goto 5, 3) := by decide +kernel
theorem dX10_leastSum_50 : decode cX10_leastSum 50 = .ok (.iload 5, 2) := by decide +kernel
theorem dX10_leastSum_52 : decode cX10_leastSum 52 = .ok (.istore 5, 2) := by decide +kernel
theorem dX10_leastSum_54 : decode cX10_leastSum 54 = .ok (.iinc 6 1, 3) := by decide +kernel
theorem dX10_leastSum_57 : decode cX10_leastSum 57 = .ok (.goto (-49), 3) := by decide +kernel
theorem dX10_leastSum_60 : decode cX10_leastSum 60 = .ok (.iload 5, 2) := by decide +kernel
theorem dX10_leastSum_62 : decode cX10_leastSum 62 = .ok (.ireturn, 1) := by decide +kernel
theorem dX10_product_0 : decode cX10_product 0 = .ok (.iload_n 1, 1) := by decide +kernel
theorem dX10_product_1 : decode cX10_product 1 = .ok (.invokestatic 65, 3) := by decide +kernel
theorem dX10_product_4 : decode cX10_product 4 = .ok (.ifCond .eq 17, 3) := by decide +kernel
theorem dX10_product_7 : decode cX10_product 7 = .ok (.iload_n 2, 1) := by decide +kernel
theorem dX10_product_8 : decode cX10_product 8 = .ok (.invokestatic 65, 3) := by decide +kernel
theorem dX10_product_11 : decode cX10_product 11 = .ok (.ifCond .eq 10, 3) := by decide +kernel
theorem dX10_product_14 : decode cX10_product 14 = .ok (.iload_n 3, 1) := by decide +kernel
theorem dX10_product_15 : decode cX10_product 15 = .ok (.invokestatic 65, 3) := by decide +kernel
theorem dX10_product_18 : decode cX10_product 18 = .ok (.ifCond .ne 5, 3) := by decide +kernel
theorem dX10_product_21 : decode cX10_product 21 = .ok (.iconst (-1), 1) := by decide +kernel
theorem dX10_product_22 : decode cX10_product 22 = .ok (.ireturn, 1) := by decide +kernel
theorem dX10_product_23 : decode cX10_product 23 = .ok (.aload_n 0, 1) := by decide +kernel
theorem dX10_product_24 : decode cX10_product 24 = .ok (.iload_n 1, 1) := by decide +kernel
theorem dX10_product_25 : decode cX10_product 25 = .ok (.invokevirtual 62, 3) := by decide +kernel
theorem dX10_product_28 : decode cX10_product 28 = .ok (.aload_n 0, 1) := by decide +kernel
theorem dX10_product_29 : decode cX10_product 29 = .ok (.iload_n 2, 1) := by decide +kernel
theorem dX10_product_30 : decode cX10_product 30 = .ok (.invokevirtual 58, 3) := by decide +kernel
theorem dX10_product_33 : decode cX10_product 33 = .ok (.if_icmp .eq 6, 3) := by decide +kernel
theorem dX10_product_36 : decode cX10_product 36 = .ok (.bipush (-5), 2) := by decide +kernel
theorem dX10_product_38 : decode cX10_product 38 = .ok (.ireturn, 1) := by decide +kernel
theorem dX10_product_39 : decode cX10_product 39 = .ok (.aload_n 0, 1) := by decide +kernel
theorem dX10_product_40 : decode cX10_product 40 = .ok (.iload_n 1, 1) := by decide +kernel
theorem dX10_product_41 : decode cX10_product 41 = .ok (.invokevirtual 58, 3) := by decide +kernel
theorem dX10_product_44 : decode cX10_product 44 = .ok (.istore 4, 2) := by decide +kernel
theorem dX10_product_46 : decode cX10_product 46 = .ok (.aload_n 0, 1) := by decide +kernel
theorem dX10_product_47 : decode cX10_product 47 = .ok (.iload_n 2, 1) := by decide +kernel
theorem dX10_product_48 : decode cX10_product 48 = .ok (.invokevirtual 62, 3) := by decide +kernel
theorem dX10_product_51 : decode cX10_product 51 = .ok (.istore 5, 2) := by decide +kernel
theorem dX10_product_53 : decode cX10_product 53 = .ok (.iload 4, 2) := by decide +kernel
theorem dX10_product_55 : decode cX10_product 55 = .ok (.iload 5, 2) := by decide +kernel
theorem dX10_product_57 : decode cX10_product 57 = .ok (.imul, 1) := by decide +kernel
theorem dX10_product_58 : decode cX10_product 58 = .ok (.bipush 12, 2) := by decide +kernel
theorem dX10_product_60 : decode cX10_product 60 = .ok (.if_icmp .le 6, 3) := by decide +kernel
theorem dX10_product_63 : decode cX10_product 63 = .ok (.bipush (-4), 2) := by decide +kernel
theorem dX10_product_65 : decode cX10_product 65 = .ok (.ireturn, 1) := by decide +kernel
theorem dX10_product_66 : decode cX10_product 66 = .ok (.iconst 0, 1) := by decide +kernel
theorem dX10_product_67 : decode cX10_product 67 = .ok (.istore 6, 2) := by decide +kernel
theorem dX10_product_69 : decode cX10_product 69 = .ok (.iload 6, 2) := by decide +kernel
theorem dX10_product_71 : decode cX10_product 71 = .ok (.iload 4, 2) := by decide +kernel
theorem dX10_product_73 : decode cX10_product 73 = .ok (.iload 5, 2) := by decide +kernel
theorem dX10_product_75 : decode cX10_product 75 = .ok (.imul, 1) := by decide +kernel
theorem dX10_product_76 : decode cX10_product 76 = .ok (.if_icmp .ge 32, 3) := by decide +kernel
theorem dX10_product_79 : decode cX10_product 79 = .ok (.aload_n 0, 1) := by decide +kernel
theorem dX10_product_80 : decode cX10_product 80 = .ok (.getfield 25, 3) := by decide +kernel
theorem dX10_product_83 : decode cX10_product 83 = .ok (.iload 6, 2) := by decide +kernel
theorem dX10_product_85 : decode cX10_product 85 = .ok (.aload_n 0, 1) := by decide +kernel
theorem dX10_product_86 : decode cX10_product 86 = .ok (.iload_n 1, 1) := by decide +kernel
theorem dX10_product_87 : decode cX10_product 87 = .ok (.iload_n 2, 1) := by decide +kernel
theorem dX10_product_88 : decode cX10_product 88 = .ok (.iload 6, 2) := by decide +kernel
theorem dX10_product_90 : decode cX10_product 90 = .ok (.iload 5, 2) := by decide +kernel
theorem dX10_product_92 : decode cX10_product 92 = .ok (.idiv, 1) := by decide +kernel
theorem dX10_product_93 : decode cX10_product 93 = .ok (.iload 6, 2) := by decide +kernel
theorem dX10_product_95 : decode cX10_product 95 = .ok (.iload 5, 2) := by decide +kernel
theorem dX10_product_97 : decode cX10_product 97 = .ok (.irem, 1) := by decide +kernel
theorem dX10_product_98 : decode cX10_product 98 = .ok (.invokevirtual 136, 3) := by decide +kernel
theorem dX10_product_101 : decode cX10_product 101 = .ok (.iastore, 1) := by decide +kernel
theorem dX10_product_102 : decode cX10_product 102 = .ok (.iinc 6 1, 3) := by decide +kernel
theorem dX10_product_105 : decode cX10_product 105 = .ok (.goto (-36), 3) := by decide +kernel
theorem dX10_product_108 : decode cX10_product 108 = .ok (.iconst 0, 1) := by decide +kernel
theorem dX10_product_109 : decode cX10_product 109 = .ok (.istore 6, 2) := by decide +kernel
theorem dX10_product_111 : decode cX10_product 111 = .ok (.iload 6, 2) := by decide +kernel
theorem dX10_product_113 : decode cX10_product 113 = .ok (.iload 4, 2) := by decide +kernel
theorem dX10_product_115 : decode cX10_product 115 = .ok (.iload 5, 2) := by decide +kernel
theorem dX10_product_117 : decode cX10_product 117 = .ok (.imul, 1) := by decide +kernel
theorem dX10_product_118 : decode cX10_product 118 = .ok (.if_icmp .ge 25, 3) := by decide +kernel
theorem dX10_product_121 : decode cX10_product 121 = .ok (.aload_n 0, 1) := by decide +kernel
theorem dX10_product_122 : decode cX10_product 122 = .ok (.getfield 25, 3) := by decide +kernel
theorem dX10_product_125 : decode cX10_product 125 = .ok (.iload 6, 2) := by decide +kernel
theorem dX10_product_127 : decode cX10_product 127 = .ok (.iaload, 1) := by decide +kernel
theorem dX10_product_128 : decode cX10_product 128 = .ok (.sipush 999, 3) := by decide +kernel
theorem dX10_product_131 : decode cX10_product 131 = .ok (.if_icmp .le 6, 3) := by decide +kernel
theorem dX10_product_134 : decode cX10_product 134 = .ok (.bipush (-4), 2) := by decide +kernel
theorem dX10_product_136 : decode cX10_product 136 = .ok (.ireturn, 1) := by decide +kernel
theorem dX10_product_137 : decode cX10_product 137 = .ok (.iinc 6 1, 3) := by decide +kernel
theorem dX10_product_140 : decode cX10_product 140 = .ok (.goto (-29), 3) := by decide +kernel
theorem dX10_product_143 : decode cX10_product 143 = .ok (.aload_n 0, 1) := by decide +kernel
theorem dX10_product_144 : decode cX10_product 144 = .ok (.invokevirtual 101, 3) := by decide +kernel
theorem dX10_product_147 : decode cX10_product 147 = .ok (.aload_n 0, 1) := by decide +kernel
theorem dX10_product_148 : decode cX10_product 148 = .ok (.iload_n 3, 1) := by decide +kernel
theorem dX10_product_149 : decode cX10_product 149 = .ok (.iload 4, 2) := by decide +kernel
theorem dX10_product_151 : decode cX10_product 151 = .ok (.iload 5, 2) := by decide +kernel
theorem dX10_product_153 : decode cX10_product 153 = .ok (.invokevirtual 104, 3) := by decide +kernel
theorem dX10_product_156 : decode cX10_product 156 = .ok (.iload 4, 2) := by decide +kernel
theorem dX10_product_158 : decode cX10_product 158 = .ok (.iload 5, 2) := by decide +kernel
theorem dX10_product_160 : decode cX10_product 160 = .ok (.imul, 1) := by decide +kernel
theorem dX10_product_161 : decode cX10_product 161 = .ok (.ireturn, 1) := by decide +kernel
theorem dX10_isSquare_0 : decode cX10_isSquare 0 = .ok (.aload_n 0, 1) := by decide +kernel
theorem dX10_isSquare_1 : decode cX10_isSquare 1 = .ok (.iload_n 1, 1) := by decide +kernel
theorem dX10_isSquare_2 : decode cX10_isSquare 2 = .ok (.invokevirtual 58, 3) := by decide +kernel
theorem dX10_isSquare_5 : decode cX10_isSquare 5 = .ok (.aload_n 0, 1) := by decide +kernel
theorem dX10_isSquare_6 : decode cX10_isSquare 6 = .ok (.iload_n 1, 1) := by decide +kernel
theorem dX10_isSquare_7 : decode cX10_isSquare 7 = .ok (.invokevirtual 62, 3) := by decide +kernel
theorem dX10_isSquare_10 : decode cX10_isSquare 10 = .ok (.if_icmp .ne 7, 3) := by decide +kernel
theorem dX10_isSquare_13 : decode cX10_isSquare 13 = .ok (.iconst 1, 1) := by decide +kernel
theorem dX10_isSquare_14 : decode cX10_isSquare 14 = .ok (.goto 4, 3) := by decide +kernel
theorem dX10_isSquare_17 : decode cX10_isSquare 17 = .ok (.iconst 0, 1) := by decide +kernel
theorem dX10_isSquare_18 : decode cX10_isSquare 18 = .ok (.ireturn, 1) := by decide +kernel
theorem dX10_close_0 : decode cX10_close 0 = .ok (.iload_n 1, 1) := by decide +kernel
theorem dX10_close_1 : decode cX10_close 1 = .ok (.invokestatic 65, 3) := by decide +kernel
theorem dX10_close_4 : decode cX10_close 4 = .ok (.ifCond .ne 5, 3) := by decide +kernel
theorem dX10_close_7 : decode cX10_close 7 = .ok (.iconst (-1), 1) := by decide +kernel
theorem dX10_close_8 : decode cX10_close 8 = .ok (.ireturn, 1) := by decide +kernel
theorem dX10_close_9 : decode cX10_close 9 = .ok (.aload_n 0, 1) := by decide +kernel
theorem dX10_close_10 : decode cX10_close 10 = .ok (.iload_n 1, 1) := by decide +kernel
theorem dX10_close_11 : decode cX10_close 11 = .ok (.invokevirtual 140, 3) := by decide +kernel
theorem dX10_close_14 : decode cX10_close 14 = .ok (.ifCond .ne 6, 3) := by decide +kernel
theorem dX10_close_17 : decode cX10_close 17 = .ok (.bipush (-5), 2) := by decide +kernel
theorem dX10_close_19 : decode cX10_close 19 = .ok (.ireturn, 1) := by decide +kernel
theorem dX10_close_20 : decode cX10_close 20 = .ok (.aload_n 0, 1) := by decide +kernel
theorem dX10_close_21 : decode cX10_close 21 = .ok (.invokevirtual 101, 3) := by decide +kernel
theorem dX10_close_24 : decode cX10_close 24 = .ok (.aload_n 0, 1) := by decide +kernel
theorem dX10_close_25 : decode cX10_close 25 = .ok (.iload_n 1, 1) := by decide +kernel
theorem dX10_close_26 : decode cX10_close 26 = .ok (.invokevirtual 58, 3) := by decide +kernel
theorem dX10_close_29 : decode cX10_close 29 = .ok (.istore_n 2, 1) := by decide +kernel
theorem dX10_close_30 : decode cX10_close 30 = .ok (.iconst 0, 1) := by decide +kernel
theorem dX10_close_31 : decode cX10_close 31 = .ok (.istore_n 3, 1) := by decide +kernel
theorem dX10_close_32 : decode cX10_close 32 = .ok (.iload_n 3, 1) := by decide +kernel
theorem dX10_close_33 : decode cX10_close 33 = .ok (.iload_n 2, 1) := by decide +kernel
theorem dX10_close_34 : decode cX10_close 34 = .ok (.iload_n 2, 1) := by decide +kernel
theorem dX10_close_35 : decode cX10_close 35 = .ok (.imul, 1) := by decide +kernel
theorem dX10_close_36 : decode cX10_close 36 = .ok (.if_icmp .ge 26, 3) := by decide +kernel
theorem dX10_close_39 : decode cX10_close 39 = .ok (.aload_n 0, 1) := by decide +kernel
theorem dX10_close_40 : decode cX10_close 40 = .ok (.getfield 25, 3) := by decide +kernel
theorem dX10_close_43 : decode cX10_close 43 = .ok (.iload_n 3, 1) := by decide +kernel
theorem dX10_close_44 : decode cX10_close 44 = .ok (.aload_n 0, 1) := by decide +kernel
theorem dX10_close_45 : decode cX10_close 45 = .ok (.iload_n 1, 1) := by decide +kernel
theorem dX10_close_46 : decode cX10_close 46 = .ok (.iload_n 3, 1) := by decide +kernel
theorem dX10_close_47 : decode cX10_close 47 = .ok (.iload_n 2, 1) := by decide +kernel
theorem dX10_close_48 : decode cX10_close 48 = .ok (.idiv, 1) := by decide +kernel
theorem dX10_close_49 : decode cX10_close 49 = .ok (.iload_n 3, 1) := by decide +kernel
theorem dX10_close_50 : decode cX10_close 50 = .ok (.iload_n 2, 1) := by decide +kernel
theorem dX10_close_51 : decode cX10_close 51 = .ok (.irem, 1) := by decide +kernel
theorem dX10_close_52 : decode cX10_close 52 = .ok (.invokevirtual 73, 3) := by decide +kernel
theorem dX10_close_55 : decode cX10_close 55 = .ok (.iastore, 1) := by decide +kernel
theorem dX10_close_56 : decode cX10_close 56 = .ok (.iinc 3 1, 3) := by decide +kernel
theorem dX10_close_59 : decode cX10_close 59 = .ok (.goto (-27), 3) := by decide +kernel
theorem dX10_close_62 : decode cX10_close 62 = .ok (.iconst 0, 1) := by decide +kernel
theorem dX10_close_63 : decode cX10_close 63 = .ok (.istore_n 3, 1) := by decide +kernel
theorem dX10_close_64 : decode cX10_close 64 = .ok (.iload_n 3, 1) := by decide +kernel
theorem dX10_close_65 : decode cX10_close 65 = .ok (.iload_n 2, 1) := by decide +kernel
theorem dX10_close_66 : decode cX10_close 66 = .ok (.if_icmp .ge 82, 3) := by decide +kernel
theorem dX10_close_69 : decode cX10_close 69 = .ok (.iconst 0, 1) := by decide +kernel
theorem dX10_close_70 : decode cX10_close 70 = .ok (.istore 4, 2) := by decide +kernel
theorem dX10_close_72 : decode cX10_close 72 = .ok (.iload 4, 2) := by decide +kernel
theorem dX10_close_74 : decode cX10_close 74 = .ok (.iload_n 2, 1) := by decide +kernel
theorem dX10_close_75 : decode cX10_close 75 = .ok (.iload_n 2, 1) := by decide +kernel
theorem dX10_close_76 : decode cX10_close 76 = .ok (.imul, 1) := by decide +kernel
theorem dX10_close_77 : decode cX10_close 77 = .ok (.if_icmp .ge 65, 3) := by decide +kernel
theorem dX10_close_80 : decode cX10_close 80 = .ok (.aload_n 0, 1) := by decide +kernel
theorem dX10_close_81 : decode cX10_close 81 = .ok (.iload_n 1, 1) := by decide +kernel
theorem dX10_close_82 : decode cX10_close 82 = .ok (.iload 4, 2) := by decide +kernel
theorem dX10_close_84 : decode cX10_close 84 = .ok (.iload_n 2, 1) := by decide +kernel
theorem dX10_close_85 : decode cX10_close 85 = .ok (.idiv, 1) := by decide +kernel
theorem dX10_close_86 : decode cX10_close 86 = .ok (.iload_n 3, 1) := by decide +kernel
theorem dX10_close_87 : decode cX10_close 87 = .ok (.invokevirtual 73, 3) := by decide +kernel
theorem dX10_close_90 : decode cX10_close 90 = .ok (.aload_n 0, 1) := by decide +kernel
theorem dX10_close_91 : decode cX10_close 91 = .ok (.iload_n 1, 1) := by decide +kernel
theorem dX10_close_92 : decode cX10_close 92 = .ok (.iload_n 3, 1) := by decide +kernel
theorem dX10_close_93 : decode cX10_close 93 = .ok (.iload 4, 2) := by decide +kernel
theorem dX10_close_95 : decode cX10_close 95 = .ok (.iload_n 2, 1) := by decide +kernel
theorem dX10_close_96 : decode cX10_close 96 = .ok (.irem, 1) := by decide +kernel
theorem dX10_close_97 : decode cX10_close 97 = .ok (.invokevirtual 73, 3) := by decide +kernel
theorem dX10_close_100 : decode cX10_close 100 = .ok (.iadd, 1) := by decide +kernel
theorem dX10_close_101 : decode cX10_close 101 = .ok (.istore 5, 2) := by decide +kernel
theorem dX10_close_103 : decode cX10_close 103 = .ok (.iload 5, 2) := by decide +kernel
theorem dX10_close_105 : decode cX10_close 105 = .ok (.aload_n 0, 1) := by decide +kernel
theorem dX10_close_106 : decode cX10_close 106 = .ok (.iload_n 1, 1) := by decide +kernel
theorem dX10_close_107 : decode cX10_close 107 = .ok (.iload 4, 2) := by decide +kernel
theorem dX10_close_109 : decode cX10_close 109 = .ok (.iload_n 2, 1) := by decide +kernel
theorem dX10_close_110 : decode cX10_close 110 = .ok (.idiv, 1) := by decide +kernel
theorem dX10_close_111 : decode cX10_close 111 = .ok (.iload 4, 2) := by decide +kernel
theorem dX10_close_113 : decode cX10_close 113 = .ok (.iload_n 2, 1) := by decide +kernel
theorem dX10_close_114 : decode cX10_close 114 = .ok (.irem, 1) := by decide +kernel
theorem dX10_close_115 : decode cX10_close 115 = .ok (.invokevirtual 73, 3) := by decide +kernel
theorem dX10_close_118 : decode cX10_close 118 = .ok (.if_icmp .ge 18, 3) := by decide +kernel
theorem dX10_close_121 : decode cX10_close 121 = .ok (.aload_n 0, 1) := by decide +kernel
theorem dX10_close_122 : decode cX10_close 122 = .ok (.iload_n 1, 1) := by decide +kernel
theorem dX10_close_123 : decode cX10_close 123 = .ok (.iload 4, 2) := by decide +kernel
theorem dX10_close_125 : decode cX10_close 125 = .ok (.iload_n 2, 1) := by decide +kernel
theorem dX10_close_126 : decode cX10_close 126 = .ok (.idiv, 1) := by decide +kernel
theorem dX10_close_127 : decode cX10_close 127 = .ok (.iload 4, 2) := by decide +kernel
theorem dX10_close_129 : decode cX10_close 129 = .ok (.iload_n 2, 1) := by decide +kernel
theorem dX10_close_130 : decode cX10_close 130 = .ok (.irem, 1) := by decide +kernel
theorem dX10_close_131 : decode cX10_close 131 = .ok (.iload 5, 2) := by decide +kernel
theorem dX10_close_133 : decode cX10_close 133 = .ok (.invokevirtual 77, 3) := by decide +kernel
theorem dX10_close_136 : decode cX10_close 136 = .ok (.iinc 4 1, 3) := by decide +kernel
theorem dX10_close_139 : decode cX10_close 139 = .ok (.goto (-67), 3) := by decide +kernel
theorem dX10_close_142 : decode cX10_close 142 = .ok (.iinc 3 1, 3) := by decide +kernel
theorem dX10_close_145 : decode cX10_close 145 = .ok (.goto (-81), 3) := by decide +kernel
theorem dX10_close_148 : decode cX10_close 148 = .ok (.iconst 0, 1) := by decide +kernel
theorem dX10_close_149 : decode cX10_close 149 = .ok (.istore_n 3, 1) := by decide +kernel
theorem dX10_close_150 : decode cX10_close 150 = .ok (.iconst 0, 1) := by decide +kernel
theorem dX10_close_151 : decode cX10_close 151 = .ok (.istore 4, 2) := by decide +kernel
theorem dX10_close_153 : decode cX10_close 153 = .ok (.iload 4, 2) := by decide +kernel
theorem dX10_close_155 : decode cX10_close 155 = .ok (.iload_n 2, 1) := by decide +kernel
theorem dX10_close_156 : decode cX10_close 156 = .ok (.iload_n 2, 1) := by decide +kernel
theorem dX10_close_157 : decode cX10_close 157 = .ok (.imul, 1) := by decide +kernel
theorem dX10_close_158 : decode cX10_close 158 = .ok (.if_icmp .ge 40, 3) := by decide +kernel
theorem dX10_close_161 : decode cX10_close 161 = .ok (.iload_n 3, 1) := by decide +kernel
theorem dX10_close_162 : decode cX10_close 162 = .ok (.aload_n 0, 1) := by decide +kernel
theorem dX10_close_163 : decode cX10_close 163 = .ok (.iload_n 1, 1) := by decide +kernel
theorem dX10_close_164 : decode cX10_close 164 = .ok (.iload 4, 2) := by decide +kernel
theorem dX10_close_166 : decode cX10_close 166 = .ok (.iload_n 2, 1) := by decide +kernel
theorem dX10_close_167 : decode cX10_close 167 = .ok (.idiv, 1) := by decide +kernel
theorem dX10_close_168 : decode cX10_close 168 = .ok (.iload 4, 2) := by decide +kernel
theorem dX10_close_170 : decode cX10_close 170 = .ok (.iload_n 2, 1) := by decide +kernel
theorem dX10_close_171 : decode cX10_close 171 = .ok (.irem, 1) := by decide +kernel
theorem dX10_close_172 : decode cX10_close 172 = .ok (.invokevirtual 73, 3) := by decide +kernel
theorem dX10_close_175 : decode cX10_close 175 = .ok (.aload_n 0, 1) := by decide +kernel
theorem dX10_close_176 : decode cX10_close 176 = .ok (.getfield 25, 3) := by decide +kernel
theorem dX10_close_179 : decode cX10_close 179 = .ok (.iload 4, 2) := by decide +kernel
theorem dX10_close_181 : decode cX10_close 181 = .ok (.iaload, 1) := by decide +kernel
theorem dX10_close_182 : decode cX10_close 182 = .ok (.if_icmp .ge 7, 3) := by decide +kernel
theorem dX10_close_185 : decode cX10_close 185 = .ok (.iconst 1, 1) := by decide +kernel
theorem dX10_close_186 : decode cX10_close 186 = .ok (.goto 4, 3) := by decide +kernel
theorem dX10_close_189 : decode cX10_close 189 = .ok (.iconst 0, 1) := by decide +kernel
theorem dX10_close_190 : decode cX10_close 190 = .ok (.iadd, 1) := by decide +kernel
theorem dX10_close_191 : decode cX10_close 191 = .ok (.istore_n 3, 1) := by decide +kernel
theorem dX10_close_192 : decode cX10_close 192 = .ok (.iinc 4 1, 3) := by decide +kernel
theorem dX10_close_195 : decode cX10_close 195 = .ok (.goto (-42), 3) := by decide +kernel
theorem dX10_close_198 : decode cX10_close 198 = .ok (.iload_n 3, 1) := by decide +kernel
theorem dX10_close_199 : decode cX10_close 199 = .ok (.ireturn, 1) := by decide +kernel
theorem dX10_entry_0 : decode cX10_entry 0 = .ok (.aload_n 0, 1) := by decide +kernel
theorem dX10_entry_1 : decode cX10_entry 1 = .ok (.iload_n 1, 1) := by decide +kernel
theorem dX10_entry_2 : decode cX10_entry 2 = .ok (.iload_n 2, 1) := by decide +kernel
theorem dX10_entry_3 : decode cX10_entry 3 = .ok (.iload_n 3, 1) := by decide +kernel
theorem dX10_entry_4 : decode cX10_entry 4 = .ok (.invokevirtual 111, 3) := by decide +kernel
theorem dX10_entry_7 : decode cX10_entry 7 = .ok (.ifCond .eq 13, 3) := by decide +kernel
theorem dX10_entry_10 : decode cX10_entry 10 = .ok (.aload_n 0, 1) := by decide +kernel
theorem dX10_entry_11 : decode cX10_entry 11 = .ok (.iload_n 1, 1) := by decide +kernel
theorem dX10_entry_12 : decode cX10_entry 12 = .ok (.iload_n 2, 1) := by decide +kernel
theorem dX10_entry_13 : decode cX10_entry 13 = .ok (.iload_n 3, 1) := by decide +kernel
theorem dX10_entry_14 : decode cX10_entry 14 = .ok (.invokevirtual 73, 3) := by decide +kernel
theorem dX10_entry_17 : decode cX10_entry 17 = .ok (.goto 4, 3) := by decide +kernel
theorem dX10_entry_20 : decode cX10_entry 20 = .ok (.iconst (-1), 1) := by decide +kernel
theorem dX10_entry_21 : decode cX10_entry 21 = .ok (.ireturn, 1) := by decide +kernel
theorem dX10_member_0 : decode cX10_member 0 = .ok (.iconst 0, 1) := by decide +kernel
theorem dX10_member_1 : decode cX10_member 1 = .ok (.istore_n 2, 1) := by decide +kernel
theorem dX10_member_2 : decode cX10_member 2 = .ok (.iconst 0, 1) := by decide +kernel
theorem dX10_member_3 : decode cX10_member 3 = .ok (.istore_n 3, 1) := by decide +kernel
theorem dX10_member_4 : decode cX10_member 4 = .ok (.iconst 0, 1) := by decide +kernel
theorem dX10_member_5 : decode cX10_member 5 = .ok (.istore 4, 2) := by decide +kernel
theorem dX10_member_7 : decode cX10_member 7 = .ok (.iload 4, 2) := by decide +kernel
theorem dX10_member_9 : decode cX10_member 9 = .ok (.iconst 4, 1) := by decide +kernel
theorem dX10_member_10 : decode cX10_member 10 = .ok (.if_icmp .ge 40, 3) := by decide +kernel
theorem dX10_member_13 : decode cX10_member 13 = .ok (.iload_n 0, 1) := by decide +kernel
theorem dX10_member_14 : decode cX10_member 14 = .ok (.iload 4, 2) := by decide +kernel
theorem dX10_member_16 : decode cX10_member 16 = .ok (.ishr, 1) := by decide +kernel
theorem dX10_member_17 : decode cX10_member 17 = .ok (.iconst 1, 1) := by decide +kernel
theorem dX10_member_18 : decode cX10_member 18 = .ok (.iand, 1) := by decide +kernel
theorem dX10_member_19 : decode cX10_member 19 = .ok (.iconst 1, 1) := by decide +kernel
theorem dX10_member_20 : decode cX10_member 20 = .ok (.if_icmp .ne 13, 3) := by decide +kernel
theorem dX10_member_23 : decode cX10_member 23 = .ok (.iload_n 3, 1) := by decide +kernel
theorem dX10_member_24 : decode cX10_member 24 = .ok (.iload_n 1, 1) := by decide +kernel
theorem dX10_member_25 : decode cX10_member 25 = .ok (.if_icmp .ne 8, 3) := by decide +kernel
theorem dX10_member_28 : decode cX10_member 28 = .ok (.iload 4, 2) := by decide +kernel
theorem dX10_member_30 : decode cX10_member 30 = .ok (.goto 4, 3) := by decide +kernel
theorem dX10_member_33 : decode cX10_member 33 = .ok (.iload_n 2, 1) := by decide +kernel
theorem dX10_member_34 : decode cX10_member 34 = .ok (.istore_n 2, 1) := by decide +kernel
theorem dX10_member_35 : decode cX10_member 35 = .ok (.iload_n 3, 1) := by decide +kernel
theorem dX10_member_36 : decode cX10_member 36 = .ok (.iload_n 0, 1) := by decide +kernel
theorem dX10_member_37 : decode cX10_member 37 = .ok (.iload 4, 2) := by decide +kernel
theorem dX10_member_39 : decode cX10_member 39 = .ok (.ishr, 1) := by decide +kernel
theorem dX10_member_40 : decode cX10_member 40 = .ok (.iconst 1, 1) := by decide +kernel
theorem dX10_member_41 : decode cX10_member 41 = .ok (.iand, 1) := by decide +kernel
theorem dX10_member_42 : decode cX10_member 42 = .ok (.iadd, 1) := by decide +kernel
theorem dX10_member_43 : decode cX10_member 43 = .ok (.istore_n 3, 1) := by decide +kernel
theorem dX10_member_44 : decode cX10_member 44 = .ok (.iinc 4 1, 3) := by decide +kernel
theorem dX10_member_47 : decode cX10_member 47 = .ok (.goto (-40), 3) := by decide +kernel
theorem dX10_member_50 : decode cX10_member 50 = .ok (.iload_n 2, 1) := by decide +kernel
theorem dX10_member_51 : decode cX10_member 51 = .ok (.ireturn, 1) := by decide +kernel
theorem dX10_findWays_0 : decode cX10_findWays 0 = .ok (.iload_n 2, 1) := by decide +kernel
theorem dX10_findWays_1 : decode cX10_findWays 1 = .ok (.invokestatic 143, 3) := by decide +kernel
theorem dX10_findWays_4 : decode cX10_findWays 4 = .ok (.istore 4, 2) := by decide +kernel
theorem dX10_findWays_6 : decode cX10_findWays 6 = .ok (.iload 4, 2) := by decide +kernel
theorem dX10_findWays_8 : decode cX10_findWays 8 = .ok (.iconst 1, 1) := by decide +kernel
theorem dX10_findWays_9 : decode cX10_findWays 9 = .ok (.if_icmp .ne 7, 3) := by decide +kernel
theorem dX10_findWays_12 : decode cX10_findWays 12 = .ok (.iconst 1, 1) := by decide +kernel
theorem dX10_findWays_13 : decode cX10_findWays 13 = .ok (.goto 27, 3) := by decide +kernel
theorem dX10_findWays_16 : decode cX10_findWays 16 = .ok (.iload 4, 2) := by decide +kernel
theorem dX10_findWays_18 : decode cX10_findWays 18 = .ok (.iconst 2, 1) := by decide +kernel
theorem dX10_findWays_19 : decode cX10_findWays 19 = .ok (.if_icmp .ne 7, 3) := by decide +kernel
theorem dX10_findWays_22 : decode cX10_findWays 22 = .ok (.iconst 4, 1) := by decide +kernel
theorem dX10_findWays_23 : decode cX10_findWays 23 = .ok (.goto 17, 3) := by decide +kernel
theorem dX10_findWays_26 : decode cX10_findWays 26 = .ok (.iload 4, 2) := by decide +kernel
theorem dX10_findWays_28 : decode cX10_findWays 28 = .ok (.iconst 3, 1) := by decide +kernel
theorem dX10_findWays_29 : decode cX10_findWays 29 = .ok (.if_icmp .ne 8, 3) := by decide +kernel
theorem dX10_findWays_32 : decode cX10_findWays 32 = .ok (.bipush 27, 2) := by decide +kernel
theorem dX10_findWays_34 : decode cX10_findWays 34 = .ok (.goto 6, 3) := by decide +kernel
theorem dX10_findWays_37 : decode cX10_findWays 37 = .ok (.sipush 256, 3) := by decide +kernel
theorem dX10_findWays_40 : decode cX10_findWays 40 = .ok (.istore 5, 2) := by decide +kernel
theorem dX10_findWays_42 : decode cX10_findWays 42 = .ok (.aload_n 0, 1) := by decide +kernel
theorem dX10_findWays_43 : decode cX10_findWays 43 = .ok (.bipush (-6), 2) := by decide +kernel
theorem dX10_findWays_45 : decode cX10_findWays 45 = .ok (.putfield 146, 3) := by decide +kernel
theorem dX10_findWays_48 : decode cX10_findWays 48 = .ok (.aload_n 0, 1) := by decide +kernel
theorem dX10_findWays_49 : decode cX10_findWays 49 = .ok (.iconst 0, 1) := by decide +kernel
theorem dX10_findWays_50 : decode cX10_findWays 50 = .ok (.putfield 149, 3) := by decide +kernel
theorem dX10_findWays_53 : decode cX10_findWays 53 = .ok (.aload_n 0, 1) := by decide +kernel
theorem dX10_findWays_54 : decode cX10_findWays 54 = .ok (.bipush (-6), 2) := by decide +kernel
theorem dX10_findWays_56 : decode cX10_findWays 56 = .ok (.putfield 152, 3) := by decide +kernel
theorem dX10_findWays_59 : decode cX10_findWays 59 = .ok (.iconst 0, 1) := by decide +kernel
theorem dX10_findWays_60 : decode cX10_findWays 60 = .ok (.istore 6, 2) := by decide +kernel
theorem dX10_findWays_62 : decode cX10_findWays 62 = .ok (.iload 6, 2) := by decide +kernel
theorem dX10_findWays_64 : decode cX10_findWays 64 = .ok (.iload 5, 2) := by decide +kernel
theorem dX10_findWays_66 : decode cX10_findWays 66 = .ok (.if_icmp .ge 207, 3) := by decide +kernel
theorem dX10_findWays_69 : decode cX10_findWays 69 = .ok (.iload 6, 2) := by decide +kernel
theorem dX10_findWays_71 : decode cX10_findWays 71 = .ok (.istore 7, 2) := by decide +kernel
theorem dX10_findWays_73 : decode cX10_findWays 73 = .ok (.iconst 0, 1) := by decide +kernel
theorem dX10_findWays_74 : decode cX10_findWays 74 = .ok (.istore 8, 2) := by decide +kernel
theorem dX10_findWays_76 : decode cX10_findWays 76 = .ok (.iconst 0, 1) := by decide +kernel
theorem dX10_findWays_77 : decode cX10_findWays 77 = .ok (.istore 9, 2) := by decide +kernel
theorem dX10_findWays_79 : decode cX10_findWays 79 = .ok (.iconst 0, 1) := by decide +kernel
theorem dX10_findWays_80 : decode cX10_findWays 80 = .ok (.istore 10, 2) := by decide +kernel
theorem dX10_findWays_82 : decode cX10_findWays 82 = .ok (.iload 10, 2) := by decide +kernel
theorem dX10_findWays_84 : decode cX10_findWays 84 = .ok (.iload 4, 2) := by decide +kernel
theorem dX10_findWays_86 : decode cX10_findWays 86 = .ok (.if_icmp .ge 69, 3) := by decide +kernel
theorem dX10_findWays_89 : decode cX10_findWays 89 = .ok (.aload_n 0, 1) := by decide +kernel
theorem dX10_findWays_90 : decode cX10_findWays 90 = .ok (.getfield 31, 3) := by decide +kernel
theorem dX10_findWays_93 : decode cX10_findWays 93 = .ok (.iload 10, 2) := by decide +kernel
theorem dX10_findWays_95 : decode cX10_findWays 95 = .ok (.iload 7, 2) := by decide +kernel
theorem dX10_findWays_97 : decode cX10_findWays 97 = .ok (.iload 4, 2) := by decide +kernel
theorem dX10_findWays_99 : decode cX10_findWays 99 = .ok (.irem, 1) := by decide +kernel
theorem dX10_findWays_100 : decode cX10_findWays 100 = .ok (.iastore, 1) := by decide +kernel
theorem dX10_findWays_101 : decode cX10_findWays 101 = .ok (.iload 7, 2) := by decide +kernel
theorem dX10_findWays_103 : decode cX10_findWays 103 = .ok (.iload 4, 2) := by decide +kernel
theorem dX10_findWays_105 : decode cX10_findWays 105 = .ok (.idiv, 1) := by decide +kernel
theorem dX10_findWays_106 : decode cX10_findWays 106 = .ok (.istore 7, 2) := by decide +kernel
theorem dX10_findWays_108 : decode cX10_findWays 108 = .ok (.iload 8, 2) := by decide +kernel
theorem dX10_findWays_110 : decode cX10_findWays 110 = .ok (.iconst 1, 1) := by decide +kernel
theorem dX10_findWays_111 : decode cX10_findWays 111 = .ok (.aload_n 0, 1) := by decide +kernel
theorem dX10_findWays_112 : decode cX10_findWays 112 = .ok (.getfield 31, 3) := by decide +kernel
theorem dX10_findWays_115 : decode cX10_findWays 115 = .ok (.iload 10, 2) := by decide +kernel
theorem dX10_findWays_117 : decode cX10_findWays 117 = .ok (.iaload, 1) := by decide +kernel
theorem dX10_findWays_118 : decode cX10_findWays 118 = .ok (.ishl, 1) := by decide +kernel
theorem dX10_findWays_119 : decode cX10_findWays 119 = .ok (.ior, 1) := by decide +kernel
theorem dX10_findWays_120 : decode cX10_findWays 120 = .ok (.istore 8, 2) := by decide +kernel
theorem dX10_findWays_122 : decode cX10_findWays 122 = .ok (.iload 9, 2) := by decide +kernel
theorem dX10_findWays_124 : decode cX10_findWays 124 = .ok (.aload_n 0, 1) := by decide +kernel
theorem dX10_findWays_125 : decode cX10_findWays 125 = .ok (.iload_n 1, 1) := by decide +kernel
theorem dX10_findWays_126 : decode cX10_findWays 126 = .ok (.iload_n 2, 1) := by decide +kernel
theorem dX10_findWays_127 : decode cX10_findWays 127 = .ok (.iload 10, 2) := by decide +kernel
theorem dX10_findWays_129 : decode cX10_findWays 129 = .ok (.invokestatic 155, 3) := by decide +kernel
theorem dX10_findWays_132 : decode cX10_findWays 132 = .ok (.iload_n 3, 1) := by decide +kernel
theorem dX10_findWays_133 : decode cX10_findWays 133 = .ok (.aload_n 0, 1) := by decide +kernel
theorem dX10_findWays_134 : decode cX10_findWays 134 = .ok (.getfield 31, 3) := by decide +kernel
theorem dX10_findWays_137 : decode cX10_findWays 137 = .ok (.iload 10, 2) := by decide +kernel
theorem dX10_findWays_139 : decode cX10_findWays 139 = .ok (.iaload, 1) := by decide +kernel
theorem dX10_findWays_140 : decode cX10_findWays 140 = .ok (.invokestatic 155, 3) := by decide +kernel
theorem dX10_findWays_143 : decode cX10_findWays 143 = .ok (.invokevirtual 73, 3) := by decide +kernel
theorem dX10_findWays_146 : decode cX10_findWays 146 = .ok (.iadd, 1) := by decide +kernel
theorem dX10_findWays_147 : decode cX10_findWays 147 = .ok (.istore 9, 2) := by decide +kernel
theorem dX10_findWays_149 : decode cX10_findWays 149 = .ok (.iinc 10 1, 3) := by decide +kernel
theorem dX10_findWays_152 : decode cX10_findWays 152 = .ok (.goto (-70), 3) := by decide +kernel
theorem dX10_findWays_155 : decode cX10_findWays 155 = .ok (.iload 8, 2) := by decide +kernel
theorem dX10_findWays_157 : decode cX10_findWays 157 = .ok (.iconst 1, 1) := by decide +kernel
theorem dX10_findWays_158 : decode cX10_findWays 158 = .ok (.iload 4, 2) := by decide +kernel
theorem dX10_findWays_160 : decode cX10_findWays 160 = .ok (.ishl, 1) := by decide +kernel
theorem dX10_findWays_161 : decode cX10_findWays 161 = .ok (.iconst 1, 1) := by decide +kernel
theorem dX10_findWays_162 : decode cX10_findWays 162 = .ok (.isub, 1) := by decide +kernel
theorem dX10_findWays_163 : decode cX10_findWays 163 = .ok (.if_icmp .ne 104, 3) := by decide +kernel
theorem dX10_findWays_166 : decode cX10_findWays 166 = .ok (.aload_n 0, 1) := by decide +kernel
theorem dX10_findWays_167 : decode cX10_findWays 167 = .ok (.aload_n 0, 1) := by decide +kernel
theorem dX10_findWays_168 : decode cX10_findWays 168 = .ok (.getfield 146, 3) := by decide +kernel
theorem dX10_findWays_171 : decode cX10_findWays 171 = .ok (.bipush (-6), 2) := by decide +kernel
theorem dX10_findWays_173 : decode cX10_findWays 173 = .ok (.if_icmp .eq 12, 3) := by decide +kernel
theorem dX10_findWays_176 : decode cX10_findWays 176 = .ok (.iload 9, 2) := by decide +kernel
theorem dX10_findWays_178 : decode cX10_findWays 178 = .ok (.aload_n 0, 1) := by decide +kernel
theorem dX10_findWays_179 : decode cX10_findWays 179 = .ok (.getfield 146, 3) := by decide +kernel
theorem dX10_findWays_182 : decode cX10_findWays 182 = .ok (.if_icmp .ge 7, 3) := by decide +kernel
theorem dX10_findWays_185 : decode cX10_findWays 185 = .ok (.iconst 1, 1) := by decide +kernel
theorem dX10_findWays_186 : decode cX10_findWays 186 = .ok (.goto 25, 3) := by decide +kernel
theorem dX10_findWays_189 : decode cX10_findWays 189 = .ok (.iload 9, 2) := by decide +kernel
theorem dX10_findWays_191 : decode cX10_findWays 191 = .ok (.aload_n 0, 1) := by decide +kernel
theorem dX10_findWays_192 : decode cX10_findWays 192 = .ok (.getfield 146, 3) := by decide +kernel
theorem dX10_findWays_195 : decode cX10_findWays 195 = .ok (.if_icmp .ne 12, 3) := by decide +kernel
theorem dX10_findWays_198 : decode cX10_findWays 198 = .ok (.aload_n 0, 1) := by decide +kernel
theorem dX10_findWays_199 : decode cX10_findWays 199 = .ok (.getfield 149, 3) := by decide +kernel
theorem dX10_findWays_202 : decode cX10_findWays 202 = .ok (.iconst 1, 1) := by decide +kernel
theorem dX10_findWays_203 : decode cX10_findWays 203 = .ok (.iadd, 1) := by decide +kernel
theorem dX10_findWays_204 : decode cX10_findWays 204 = .ok (.goto 7, 3) := by decide +kernel
theorem dX10_findWays_207 : decode cX10_findWays 207 = .ok (.aload_n 0, 1) := by decide +kernel
theorem dX10_findWays_208 : decode cX10_findWays 208 = .ok (.getfield 149, 3) := by decide +kernel
theorem dX10_findWays_211 : decode cX10_findWays 211 = .ok (.putfield 149, 3) := by decide +kernel
theorem dX10_findWays_214 : decode cX10_findWays 214 = .ok (.aload_n 0, 1) := by decide +kernel
theorem dX10_findWays_215 : decode cX10_findWays 215 = .ok (.aload_n 0, 1) := by decide +kernel
theorem dX10_findWays_216 : decode cX10_findWays 216 = .ok (.getfield 146, 3) := by decide +kernel
theorem dX10_findWays_219 : decode cX10_findWays 219 = .ok (.bipush (-6), 2) := by decide +kernel
theorem dX10_findWays_221 : decode cX10_findWays 221 = .ok (.if_icmp .eq 12, 3) := by decide +kernel
theorem dX10_findWays_224 : decode cX10_findWays 224 = .ok (.iload 9, 2) := by decide +kernel
theorem dX10_findWays_226 : decode cX10_findWays 226 = .ok (.aload_n 0, 1) := by decide +kernel
theorem dX10_findWays_227 : decode cX10_findWays 227 = .ok (.getfield 146, 3) := by decide +kernel
theorem dX10_findWays_230 : decode cX10_findWays 230 = .ok (.if_icmp .ge 8, 3) := by decide +kernel
theorem dX10_findWays_233 : decode cX10_findWays 233 = .ok (.iload 9, 2) := by decide +kernel
theorem dX10_findWays_235 : decode cX10_findWays 235 = .ok (.goto 7, 3) := by decide +kernel
theorem dX10_findWays_238 : decode cX10_findWays 238 = .ok (.aload_n 0, 1) := by decide +kernel
theorem dX10_findWays_239 : decode cX10_findWays 239 = .ok (.getfield 146, 3) := by decide +kernel
theorem dX10_findWays_242 : decode cX10_findWays 242 = .ok (.putfield 146, 3) := by decide +kernel
theorem dX10_findWays_245 : decode cX10_findWays 245 = .ok (.aload_n 0, 1) := by decide +kernel
theorem dX10_findWays_246 : decode cX10_findWays 246 = .ok (.iload 9, 2) := by decide +kernel
theorem dX10_findWays_248 : decode cX10_findWays 248 = .ok (.aload_n 0, 1) := by decide +kernel
theorem dX10_findWays_249 : decode cX10_findWays 249 = .ok (.getfield 152, 3) := by decide +kernel
theorem dX10_findWays_252 : decode cX10_findWays 252 = .ok (.if_icmp .le 8, 3) := by decide +kernel
theorem dX10_findWays_255 : decode cX10_findWays 255 = .ok (.iload 9, 2) := by decide +kernel
theorem dX10_findWays_257 : decode cX10_findWays 257 = .ok (.goto 7, 3) := by decide +kernel
theorem dX10_findWays_260 : decode cX10_findWays 260 = .ok (.aload_n 0, 1) := by decide +kernel
theorem dX10_findWays_261 : decode cX10_findWays 261 = .ok (.getfield 152, 3) := by decide +kernel
theorem dX10_findWays_264 : decode cX10_findWays 264 = .ok (.putfield 152, 3) := by decide +kernel
theorem dX10_findWays_267 : decode cX10_findWays 267 = .ok (.iinc 6 1, 3) := by decide +kernel
theorem dX10_findWays_270 : decode cX10_findWays 270 = .ok (.goto (-208), 3) := by decide +kernel
theorem dX10_findWays_273 : decode cX10_findWays 273 = .ok (.return_, 1) := by decide +kernel
theorem dX10_isSet_0 : decode cX10_isSet 0 = .ok (.iload_n 0, 1) := by decide +kernel
theorem dX10_isSet_1 : decode cX10_isSet 1 = .ok (.iconst 1, 1) := by decide +kernel
theorem dX10_isSet_2 : decode cX10_isSet 2 = .ok (.iconst 1, 1) := by decide +kernel
theorem dX10_isSet_3 : decode cX10_isSet 3 = .ok (.iload_n 1, 1) := by decide +kernel
theorem dX10_isSet_4 : decode cX10_isSet 4 = .ok (.ishl, 1) := by decide +kernel
theorem dX10_isSet_5 : decode cX10_isSet 5 = .ok (.iconst 1, 1) := by decide +kernel
theorem dX10_isSet_6 : decode cX10_isSet 6 = .ok (.isub, 1) := by decide +kernel
theorem dX10_isSet_7 : decode cX10_isSet 7 = .ok (.invokestatic 54, 3) := by decide +kernel
theorem dX10_isSet_10 : decode cX10_isSet 10 = .ok (.ireturn, 1) := by decide +kernel
theorem dX10_permanent_0 : decode cX10_permanent 0 = .ok (.iload_n 1, 1) := by decide +kernel
theorem dX10_permanent_1 : decode cX10_permanent 1 = .ok (.invokestatic 65, 3) := by decide +kernel
theorem dX10_permanent_4 : decode cX10_permanent 4 = .ok (.ifCond .ne 5, 3) := by decide +kernel
theorem dX10_permanent_7 : decode cX10_permanent 7 = .ok (.iconst (-1), 1) := by decide +kernel
theorem dX10_permanent_8 : decode cX10_permanent 8 = .ok (.ireturn, 1) := by decide +kernel
theorem dX10_permanent_9 : decode cX10_permanent 9 = .ok (.iload_n 2, 1) := by decide +kernel
theorem dX10_permanent_10 : decode cX10_permanent 10 = .ok (.aload_n 0, 1) := by decide +kernel
theorem dX10_permanent_11 : decode cX10_permanent 11 = .ok (.iload_n 1, 1) := by decide +kernel
theorem dX10_permanent_12 : decode cX10_permanent 12 = .ok (.invokevirtual 58, 3) := by decide +kernel
theorem dX10_permanent_15 : decode cX10_permanent 15 = .ok (.invokestatic 159, 3) := by decide +kernel
theorem dX10_permanent_18 : decode cX10_permanent 18 = .ok (.ifCond .eq 36, 3) := by decide +kernel
theorem dX10_permanent_21 : decode cX10_permanent 21 = .ok (.iload_n 3, 1) := by decide +kernel
theorem dX10_permanent_22 : decode cX10_permanent 22 = .ok (.aload_n 0, 1) := by decide +kernel
theorem dX10_permanent_23 : decode cX10_permanent 23 = .ok (.iload_n 1, 1) := by decide +kernel
theorem dX10_permanent_24 : decode cX10_permanent 24 = .ok (.invokevirtual 62, 3) := by decide +kernel
theorem dX10_permanent_27 : decode cX10_permanent 27 = .ok (.invokestatic 159, 3) := by decide +kernel
theorem dX10_permanent_30 : decode cX10_permanent 30 = .ok (.ifCond .eq 24, 3) := by decide +kernel
theorem dX10_permanent_33 : decode cX10_permanent 33 = .ok (.iload_n 2, 1) := by decide +kernel
theorem dX10_permanent_34 : decode cX10_permanent 34 = .ok (.invokestatic 143, 3) := by decide +kernel
theorem dX10_permanent_37 : decode cX10_permanent 37 = .ok (.iload_n 3, 1) := by decide +kernel
theorem dX10_permanent_38 : decode cX10_permanent 38 = .ok (.invokestatic 143, 3) := by decide +kernel
theorem dX10_permanent_41 : decode cX10_permanent 41 = .ok (.if_icmp .ne 13, 3) := by decide +kernel
theorem dX10_permanent_44 : decode cX10_permanent 44 = .ok (.iload 4, 2) := by decide +kernel
theorem dX10_permanent_46 : decode cX10_permanent 46 = .ok (.iconst 0, 1) := by decide +kernel
theorem dX10_permanent_47 : decode cX10_permanent 47 = .ok (.iconst 2, 1) := by decide +kernel
theorem dX10_permanent_48 : decode cX10_permanent 48 = .ok (.invokestatic 54, 3) := by decide +kernel
theorem dX10_permanent_51 : decode cX10_permanent 51 = .ok (.ifCond .ne 6, 3) := by decide +kernel
theorem dX10_permanent_54 : decode cX10_permanent 54 = .ok (.bipush (-2), 2) := by decide +kernel
theorem dX10_permanent_56 : decode cX10_permanent 56 = .ok (.ireturn, 1) := by decide +kernel
theorem dX10_permanent_57 : decode cX10_permanent 57 = .ok (.aload_n 0, 1) := by decide +kernel
theorem dX10_permanent_58 : decode cX10_permanent 58 = .ok (.iload_n 1, 1) := by decide +kernel
theorem dX10_permanent_59 : decode cX10_permanent 59 = .ok (.iload_n 2, 1) := by decide +kernel
theorem dX10_permanent_60 : decode cX10_permanent 60 = .ok (.iload_n 3, 1) := by decide +kernel
theorem dX10_permanent_61 : decode cX10_permanent 61 = .ok (.invokevirtual 163, 3) := by decide +kernel
theorem dX10_permanent_64 : decode cX10_permanent 64 = .ok (.iload 4, 2) := by decide +kernel
theorem dX10_permanent_66 : decode cX10_permanent 66 = .ok (.ifCond .ne 10, 3) := by decide +kernel
theorem dX10_permanent_69 : decode cX10_permanent 69 = .ok (.aload_n 0, 1) := by decide +kernel
theorem dX10_permanent_70 : decode cX10_permanent 70 = .ok (.getfield 146, 3) := by decide +kernel
theorem dX10_permanent_73 : decode cX10_permanent 73 = .ok (.goto 20, 3) := by decide +kernel
theorem dX10_permanent_76 : decode cX10_permanent 76 = .ok (.iload 4, 2) := by decide +kernel
theorem dX10_permanent_78 : decode cX10_permanent 78 = .ok (.iconst 1, 1) := by decide +kernel
theorem dX10_permanent_79 : decode cX10_permanent 79 = .ok (.if_icmp .ne 10, 3) := by decide +kernel
theorem dX10_permanent_82 : decode cX10_permanent 82 = .ok (.aload_n 0, 1) := by decide +kernel
theorem dX10_permanent_83 : decode cX10_permanent 83 = .ok (.getfield 149, 3) := by decide +kernel
theorem dX10_permanent_86 : decode cX10_permanent 86 = .ok (.goto 7, 3) := by decide +kernel
theorem dX10_permanent_89 : decode cX10_permanent 89 = .ok (.aload_n 0, 1) := by decide +kernel
theorem dX10_permanent_90 : decode cX10_permanent 90 = .ok (.getfield 152, 3) := by decide +kernel
theorem dX10_permanent_93 : decode cX10_permanent 93 = .ok (.ireturn, 1) := by decide +kernel
theorem dX10_regular_0 : decode cX10_regular 0 = .ok (.iconst 0, 1) := by decide +kernel
theorem dX10_regular_1 : decode cX10_regular 1 = .ok (.istore_n 3, 1) := by decide +kernel
theorem dX10_regular_2 : decode cX10_regular 2 = .ok (.iconst 0, 1) := by decide +kernel
theorem dX10_regular_3 : decode cX10_regular 3 = .ok (.istore 4, 2) := by decide +kernel
theorem dX10_regular_5 : decode cX10_regular 5 = .ok (.iconst 0, 1) := by decide +kernel
theorem dX10_regular_6 : decode cX10_regular 6 = .ok (.istore 5, 2) := by decide +kernel
theorem dX10_regular_8 : decode cX10_regular 8 = .ok (.iconst 0, 1) := by decide +kernel
theorem dX10_regular_9 : decode cX10_regular 9 = .ok (.istore 6, 2) := by decide +kernel
theorem dX10_regular_11 : decode cX10_regular 11 = .ok (.iconst 1, 1) := by decide +kernel
theorem dX10_regular_12 : decode cX10_regular 12 = .ok (.istore 7, 2) := by decide +kernel
theorem dX10_regular_14 : decode cX10_regular 14 = .ok (.iload 7, 2) := by decide +kernel
theorem dX10_regular_16 : decode cX10_regular 16 = .ok (.iconst 1, 1) := by decide +kernel
theorem dX10_regular_17 : decode cX10_regular 17 = .ok (.aload_n 0, 1) := by decide +kernel
theorem dX10_regular_18 : decode cX10_regular 18 = .ok (.iload_n 1, 1) := by decide +kernel
theorem dX10_regular_19 : decode cX10_regular 19 = .ok (.invokevirtual 58, 3) := by decide +kernel
theorem dX10_regular_22 : decode cX10_regular 22 = .ok (.ishl, 1) := by decide +kernel
theorem dX10_regular_23 : decode cX10_regular 23 = .ok (.if_icmp .ge 113, 3) := by decide +kernel
theorem dX10_regular_26 : decode cX10_regular 26 = .ok (.iconst 1, 1) := by decide +kernel
theorem dX10_regular_27 : decode cX10_regular 27 = .ok (.istore 8, 2) := by decide +kernel
theorem dX10_regular_29 : decode cX10_regular 29 = .ok (.iload 8, 2) := by decide +kernel
theorem dX10_regular_31 : decode cX10_regular 31 = .ok (.iconst 1, 1) := by decide +kernel
theorem dX10_regular_32 : decode cX10_regular 32 = .ok (.aload_n 0, 1) := by decide +kernel
theorem dX10_regular_33 : decode cX10_regular 33 = .ok (.iload_n 1, 1) := by decide +kernel
theorem dX10_regular_34 : decode cX10_regular 34 = .ok (.invokevirtual 62, 3) := by decide +kernel
theorem dX10_regular_37 : decode cX10_regular 37 = .ok (.ishl, 1) := by decide +kernel
theorem dX10_regular_38 : decode cX10_regular 38 = .ok (.if_icmp .ge 92, 3) := by decide +kernel
theorem dX10_regular_41 : decode cX10_regular 41 = .ok (.iconst 0, 1) := by decide +kernel
theorem dX10_regular_42 : decode cX10_regular 42 = .ok (.istore 9, 2) := by decide +kernel
theorem dX10_regular_44 : decode cX10_regular 44 = .ok (.iload 7, 2) := by decide +kernel
theorem dX10_regular_46 : decode cX10_regular 46 = .ok (.invokestatic 143, 3) := by decide +kernel
theorem dX10_regular_49 : decode cX10_regular 49 = .ok (.iload 8, 2) := by decide +kernel
theorem dX10_regular_51 : decode cX10_regular 51 = .ok (.invokestatic 143, 3) := by decide +kernel
theorem dX10_regular_54 : decode cX10_regular 54 = .ok (.if_icmp .ne 27, 3) := by decide +kernel
theorem dX10_regular_57 : decode cX10_regular 57 = .ok (.aload_n 0, 1) := by decide +kernel
theorem dX10_regular_58 : decode cX10_regular 58 = .ok (.iload_n 1, 1) := by decide +kernel
theorem dX10_regular_59 : decode cX10_regular 59 = .ok (.iload 7, 2) := by decide +kernel
theorem dX10_regular_61 : decode cX10_regular 61 = .ok (.iload 8, 2) := by decide +kernel
theorem dX10_regular_63 : decode cX10_regular 63 = .ok (.invokevirtual 163, 3) := by decide +kernel
theorem dX10_regular_66 : decode cX10_regular 66 = .ok (.aload_n 0, 1) := by decide +kernel
theorem dX10_regular_67 : decode cX10_regular 67 = .ok (.getfield 149, 3) := by decide +kernel
theorem dX10_regular_70 : decode cX10_regular 70 = .ok (.iconst 1, 1) := by decide +kernel
theorem dX10_regular_71 : decode cX10_regular 71 = .ok (.if_icmp .ne 7, 3) := by decide +kernel
theorem dX10_regular_74 : decode cX10_regular 74 = .ok (.iconst 1, 1) := by decide +kernel
theorem dX10_regular_75 : decode cX10_regular 75 = .ok (.goto 4, 3) := by decide +kernel
theorem dX10_regular_78 : decode cX10_regular 78 = .ok (.iconst 0, 1) := by decide +kernel
theorem dX10_regular_79 : decode cX10_regular 79 = .ok (.istore 9, 2) := by decide +kernel
theorem dX10_regular_81 : decode cX10_regular 81 = .ok (.iload 6, 2) := by decide +kernel
theorem dX10_regular_83 : decode cX10_regular 83 = .ok (.iload 9, 2) := by decide +kernel
theorem dX10_regular_85 : decode cX10_regular 85 = .ok (.ifCond .eq 7, 3) := by decide +kernel
theorem dX10_regular_88 : decode cX10_regular 88 = .ok (.iconst 1, 1) := by decide +kernel
theorem dX10_regular_89 : decode cX10_regular 89 = .ok (.goto 4, 3) := by decide +kernel
theorem dX10_regular_92 : decode cX10_regular 92 = .ok (.iconst 0, 1) := by decide +kernel
theorem dX10_regular_93 : decode cX10_regular 93 = .ok (.iadd, 1) := by decide +kernel
theorem dX10_regular_94 : decode cX10_regular 94 = .ok (.istore 6, 2) := by decide +kernel
theorem dX10_regular_96 : decode cX10_regular 96 = .ok (.iload 9, 2) := by decide +kernel
theorem dX10_regular_98 : decode cX10_regular 98 = .ok (.ifCond .eq 26, 3) := by decide +kernel
theorem dX10_regular_101 : decode cX10_regular 101 = .ok (.iload 7, 2) := by decide +kernel
theorem dX10_regular_103 : decode cX10_regular 103 = .ok (.invokestatic 143, 3) := by decide +kernel
theorem dX10_regular_106 : decode cX10_regular 106 = .ok (.iload_n 3, 1) := by decide +kernel
theorem dX10_regular_107 : decode cX10_regular 107 = .ok (.if_icmp .le 17, 3) := by decide +kernel
theorem dX10_regular_110 : decode cX10_regular 110 = .ok (.iload 7, 2) := by decide +kernel
theorem dX10_regular_112 : decode cX10_regular 112 = .ok (.invokestatic 143, 3) := by decide +kernel
theorem dX10_regular_115 : decode cX10_regular 115 = .ok (.istore_n 3, 1) := by decide +kernel
theorem dX10_regular_116 : decode cX10_regular 116 = .ok (.iload 7, 2) := by decide +kernel
theorem dX10_regular_118 : decode cX10_regular 118 = .ok (.istore 4, 2) := by decide +kernel
theorem dX10_regular_120 : decode cX10_regular 120 = .ok (.iload 8, 2) := by decide +kernel
theorem dX10_regular_122 : decode cX10_regular 122 = .ok (.istore 5, 2) := by decide +kernel
theorem dX10_regular_124 : decode cX10_regular 124 = .ok (.iinc 8 1, 3) := by decide +kernel
theorem dX10_regular_127 : decode cX10_regular 127 = .ok (.goto (-98), 3) := by decide +kernel
theorem dX10_regular_130 : decode cX10_regular 130 = .ok (.iinc 7 1, 3) := by decide +kernel
theorem dX10_regular_133 : decode cX10_regular 133 = .ok (.goto (-119), 3) := by decide +kernel
theorem dX10_regular_136 : decode cX10_regular 136 = .ok (.iload_n 2, 1) := by decide +kernel
theorem dX10_regular_137 : decode cX10_regular 137 = .ok (.ifCond .ne 7, 3) := by decide +kernel
theorem dX10_regular_140 : decode cX10_regular 140 = .ok (.iload_n 3, 1) := by decide +kernel
theorem dX10_regular_141 : decode cX10_regular 141 = .ok (.goto 25, 3) := by decide +kernel
theorem dX10_regular_144 : decode cX10_regular 144 = .ok (.iload_n 2, 1) := by decide +kernel
theorem dX10_regular_145 : decode cX10_regular 145 = .ok (.iconst 1, 1) := by decide +kernel
theorem dX10_regular_146 : decode cX10_regular 146 = .ok (.if_icmp .ne 8, 3) := by decide +kernel
theorem dX10_regular_149 : decode cX10_regular 149 = .ok (.iload 4, 2) := by decide +kernel
theorem dX10_regular_151 : decode cX10_regular 151 = .ok (.goto 15, 3) := by decide +kernel
theorem dX10_regular_154 : decode cX10_regular 154 = .ok (.iload_n 2, 1) := by decide +kernel
theorem dX10_regular_155 : decode cX10_regular 155 = .ok (.iconst 2, 1) := by decide +kernel
theorem dX10_regular_156 : decode cX10_regular 156 = .ok (.if_icmp .ne 8, 3) := by decide +kernel
theorem dX10_regular_159 : decode cX10_regular 159 = .ok (.iload 5, 2) := by decide +kernel
theorem dX10_regular_161 : decode cX10_regular 161 = .ok (.goto 5, 3) := by decide +kernel
theorem dX10_regular_164 : decode cX10_regular 164 = .ok (.iload 6, 2) := by decide +kernel
theorem dX10_regular_166 : decode cX10_regular 166 = .ok (.ireturn, 1) := by decide +kernel
theorem dX10_byParts_0 : decode cX10_byParts 0 = .ok (.iload_n 1, 1) := by decide +kernel
theorem dX10_byParts_1 : decode cX10_byParts 1 = .ok (.invokestatic 65, 3) := by decide +kernel
theorem dX10_byParts_4 : decode cX10_byParts 4 = .ok (.ifCond .ne 5, 3) := by decide +kernel
theorem dX10_byParts_7 : decode cX10_byParts 7 = .ok (.iconst (-1), 1) := by decide +kernel
theorem dX10_byParts_8 : decode cX10_byParts 8 = .ok (.ireturn, 1) := by decide +kernel
theorem dX10_byParts_9 : decode cX10_byParts 9 = .ok (.iload_n 2, 1) := by decide +kernel
theorem dX10_byParts_10 : decode cX10_byParts 10 = .ok (.iconst 0, 1) := by decide +kernel
theorem dX10_byParts_11 : decode cX10_byParts 11 = .ok (.iconst 3, 1) := by decide +kernel
theorem dX10_byParts_12 : decode cX10_byParts 12 = .ok (.invokestatic 54, 3) := by decide +kernel
theorem dX10_byParts_15 : decode cX10_byParts 15 = .ok (.ifCond .eq 12, 3) := by decide +kernel
theorem dX10_byParts_18 : decode cX10_byParts 18 = .ok (.aload_n 0, 1) := by decide +kernel
theorem dX10_byParts_19 : decode cX10_byParts 19 = .ok (.iload_n 1, 1) := by decide +kernel
theorem dX10_byParts_20 : decode cX10_byParts 20 = .ok (.iload_n 2, 1) := by decide +kernel
theorem dX10_byParts_21 : decode cX10_byParts 21 = .ok (.invokevirtual 166, 3) := by decide +kernel
theorem dX10_byParts_24 : decode cX10_byParts 24 = .ok (.goto 5, 3) := by decide +kernel
theorem dX10_byParts_27 : decode cX10_byParts 27 = .ok (.bipush (-2), 2) := by decide +kernel
theorem dX10_byParts_29 : decode cX10_byParts 29 = .ok (.ireturn, 1) := by decide +kernel
theorem dX10_isTouchable_0 : decode cX10_isTouchable 0 = .ok (.aload_n 0, 1) := by decide +kernel
theorem dX10_isTouchable_1 : decode cX10_isTouchable 1 = .ok (.iload_n 1, 1) := by decide +kernel
theorem dX10_isTouchable_2 : decode cX10_isTouchable 2 = .ok (.invokevirtual 58, 3) := by decide +kernel
theorem dX10_isTouchable_5 : decode cX10_isTouchable 5 = .ok (.istore_n 3, 1) := by decide +kernel
theorem dX10_isTouchable_6 : decode cX10_isTouchable 6 = .ok (.aload_n 0, 1) := by decide +kernel
theorem dX10_isTouchable_7 : decode cX10_isTouchable 7 = .ok (.iload_n 1, 1) := by decide +kernel
theorem dX10_isTouchable_8 : decode cX10_isTouchable 8 = .ok (.invokevirtual 62, 3) := by decide +kernel
theorem dX10_isTouchable_11 : decode cX10_isTouchable 11 = .ok (.istore 4, 2) := by decide +kernel
theorem dX10_isTouchable_13 : decode cX10_isTouchable 13 = .ok (.iconst 0, 1) := by decide +kernel
theorem dX10_isTouchable_14 : decode cX10_isTouchable 14 = .ok (.istore 5, 2) := by decide +kernel
theorem dX10_isTouchable_16 : decode cX10_isTouchable 16 = .ok (.iload 5, 2) := by decide +kernel
theorem dX10_isTouchable_18 : decode cX10_isTouchable 18 = .ok (.iload_n 3, 1) := by decide +kernel
theorem dX10_isTouchable_19 : decode cX10_isTouchable 19 = .ok (.if_icmp .ge 111, 3) := by decide +kernel
theorem dX10_isTouchable_22 : decode cX10_isTouchable 22 = .ok (.iconst 0, 1) := by decide +kernel
theorem dX10_isTouchable_23 : decode cX10_isTouchable 23 = .ok (.istore 6, 2) := by decide +kernel
theorem dX10_isTouchable_25 : decode cX10_isTouchable 25 = .ok (.iload 6, 2) := by decide +kernel
theorem dX10_isTouchable_27 : decode cX10_isTouchable 27 = .ok (.iload_n 3, 1) := by decide +kernel
theorem dX10_isTouchable_28 : decode cX10_isTouchable 28 = .ok (.if_icmp .ge 96, 3) := by decide +kernel
theorem dX10_isTouchable_31 : decode cX10_isTouchable 31 = .ok (.ldc 169, 2) := by decide +kernel
theorem dX10_isTouchable_33 : decode cX10_isTouchable 33 = .ok (.istore 7, 2) := by decide +kernel
theorem dX10_isTouchable_35 : decode cX10_isTouchable 35 = .ok (.iconst 0, 1) := by decide +kernel
theorem dX10_isTouchable_36 : decode cX10_isTouchable 36 = .ok (.istore 8, 2) := by decide +kernel
theorem dX10_isTouchable_38 : decode cX10_isTouchable 38 = .ok (.iload 8, 2) := by decide +kernel
theorem dX10_isTouchable_40 : decode cX10_isTouchable 40 = .ok (.iload 4, 2) := by decide +kernel
theorem dX10_isTouchable_42 : decode cX10_isTouchable 42 = .ok (.if_icmp .ge 62, 3) := by decide +kernel
theorem dX10_isTouchable_45 : decode cX10_isTouchable 45 = .ok (.aload_n 0, 1) := by decide +kernel
theorem dX10_isTouchable_46 : decode cX10_isTouchable 46 = .ok (.iload_n 1, 1) := by decide +kernel
theorem dX10_isTouchable_47 : decode cX10_isTouchable 47 = .ok (.iload 6, 2) := by decide +kernel
theorem dX10_isTouchable_49 : decode cX10_isTouchable 49 = .ok (.iload 8, 2) := by decide +kernel
theorem dX10_isTouchable_51 : decode cX10_isTouchable 51 = .ok (.invokevirtual 73, 3) := by decide +kernel
theorem dX10_isTouchable_54 : decode cX10_isTouchable 54 = .ok (.aload_n 0, 1) := by decide +kernel
theorem dX10_isTouchable_55 : decode cX10_isTouchable 55 = .ok (.iload_n 1, 1) := by decide +kernel
theorem dX10_isTouchable_56 : decode cX10_isTouchable 56 = .ok (.iload 5, 2) := by decide +kernel
theorem dX10_isTouchable_58 : decode cX10_isTouchable 58 = .ok (.iload 8, 2) := by decide +kernel
theorem dX10_isTouchable_60 : decode cX10_isTouchable 60 = .ok (.invokevirtual 73, 3) := by decide +kernel
theorem dX10_isTouchable_63 : decode cX10_isTouchable 63 = .ok (.isub, 1) := by decide +kernel
theorem dX10_isTouchable_64 : decode cX10_isTouchable 64 = .ok (.istore 9, 2) := by decide +kernel
theorem dX10_isTouchable_66 : decode cX10_isTouchable 66 = .ok (.iload_n 2, 1) := by decide +kernel
theorem dX10_isTouchable_67 : decode cX10_isTouchable 67 = .ok (.iload 6, 2) := by decide +kernel
theorem dX10_isTouchable_69 : decode cX10_isTouchable 69 = .ok (.iload 4, 2) := by decide +kernel
theorem dX10_isTouchable_71 : decode cX10_isTouchable 71 = .ok (.imul, 1) := by decide +kernel
theorem dX10_isTouchable_72 : decode cX10_isTouchable 72 = .ok (.iload 8, 2) := by decide +kernel
theorem dX10_isTouchable_74 : decode cX10_isTouchable 74 = .ok (.iadd, 1) := by decide +kernel
theorem dX10_isTouchable_75 : decode cX10_isTouchable 75 = .ok (.ishr, 1) := by decide +kernel
theorem dX10_isTouchable_76 : decode cX10_isTouchable 76 = .ok (.iconst 1, 1) := by decide +kernel
theorem dX10_isTouchable_77 : decode cX10_isTouchable 77 = .ok (.iand, 1) := by decide +kernel
theorem dX10_isTouchable_78 : decode cX10_isTouchable 78 = .ok (.iconst 1, 1) := by decide +kernel
theorem dX10_isTouchable_79 : decode cX10_isTouchable 79 = .ok (.if_icmp .ne 15, 3) := by decide +kernel
theorem dX10_isTouchable_82 : decode cX10_isTouchable 82 = .ok (.iload 9, 2) := by decide +kernel
theorem dX10_isTouchable_84 : decode cX10_isTouchable 84 = .ok (.iload 7, 2) := by decide +kernel
theorem dX10_isTouchable_86 : decode cX10_isTouchable 86 = .ok (.if_icmp .ge 8, 3) := by decide +kernel
theorem dX10_isTouchable_89 : decode cX10_isTouchable 89 = .ok (.iload 9, 2) := by decide +kernel
theorem dX10_isTouchable_91 : decode cX10_isTouchable 91 = .ok (.goto 5, 3) := by decide +kernel
theorem dX10_isTouchable_94 : decode cX10_isTouchable 94 = .ok (.iload 7, 2) := by decide +kernel
theorem dX10_isTouchable_96 : decode cX10_isTouchable 96 = .ok (.istore 7, 2) := by decide +kernel
theorem dX10_isTouchable_98 : decode cX10_isTouchable 98 = .ok (.iinc 8 1, 3) := by decide +kernel
theorem dX10_isTouchable_101 : decode cX10_isTouchable 101 = .ok (.goto (-63), 3) := by decide +kernel
theorem dX10_isTouchable_104 : decode cX10_isTouchable 104 = .ok (.aload_n 0, 1) := by decide +kernel
theorem dX10_isTouchable_105 : decode cX10_isTouchable 105 = .ok (.getfield 40, 3) := by decide +kernel
theorem dX10_isTouchable_108 : decode cX10_isTouchable 108 = .ok (.iconst 4, 1) := by decide +kernel
theorem dX10_isTouchable_109 : decode cX10_isTouchable 109 = .ok (.iload 5, 2) := by decide +kernel
theorem dX10_isTouchable_111 : decode cX10_isTouchable 111 = .ok (.imul, 1) := by decide +kernel
theorem dX10_isTouchable_112 : decode cX10_isTouchable 112 = .ok (.iload 6, 2) := by decide +kernel
theorem dX10_isTouchable_114 : decode cX10_isTouchable 114 = .ok (.iadd, 1) := by decide +kernel
theorem dX10_isTouchable_115 : decode cX10_isTouchable 115 = .ok (.iload 7, 2) := by decide +kernel
theorem dX10_isTouchable_117 : decode cX10_isTouchable 117 = .ok (.iastore, 1) := by decide +kernel
theorem dX10_isTouchable_118 : decode cX10_isTouchable 118 = .ok (.iinc 6 1, 3) := by decide +kernel
theorem dX10_isTouchable_121 : decode cX10_isTouchable 121 = .ok (.goto (-96), 3) := by decide +kernel
theorem dX10_isTouchable_124 : decode cX10_isTouchable 124 = .ok (.iinc 5 1, 3) := by decide +kernel
theorem dX10_isTouchable_127 : decode cX10_isTouchable 127 = .ok (.goto (-111), 3) := by decide +kernel
theorem dX10_isTouchable_130 : decode cX10_isTouchable 130 = .ok (.iconst 0, 1) := by decide +kernel
theorem dX10_isTouchable_131 : decode cX10_isTouchable 131 = .ok (.istore 5, 2) := by decide +kernel
theorem dX10_isTouchable_133 : decode cX10_isTouchable 133 = .ok (.iload 5, 2) := by decide +kernel
theorem dX10_isTouchable_135 : decode cX10_isTouchable 135 = .ok (.iload_n 3, 1) := by decide +kernel
theorem dX10_isTouchable_136 : decode cX10_isTouchable 136 = .ok (.if_icmp .ge 115, 3) := by decide +kernel
theorem dX10_isTouchable_139 : decode cX10_isTouchable 139 = .ok (.iconst 0, 1) := by decide +kernel
theorem dX10_isTouchable_140 : decode cX10_isTouchable 140 = .ok (.istore 6, 2) := by decide +kernel
theorem dX10_isTouchable_142 : decode cX10_isTouchable 142 = .ok (.iload 6, 2) := by decide +kernel
theorem dX10_isTouchable_144 : decode cX10_isTouchable 144 = .ok (.iload_n 3, 1) := by decide +kernel
theorem dX10_isTouchable_145 : decode cX10_isTouchable 145 = .ok (.iload_n 3, 1) := by decide +kernel
theorem dX10_isTouchable_146 : decode cX10_isTouchable 146 = .ok (.imul, 1) := by decide +kernel
theorem dX10_isTouchable_147 : decode cX10_isTouchable 147 = .ok (.if_icmp .ge 98, 3) := by decide +kernel
theorem dX10_isTouchable_150 : decode cX10_isTouchable 150 = .ok (.aload_n 0, 1) := by decide +kernel
theorem dX10_isTouchable_151 : decode cX10_isTouchable 151 = .ok (.getfield 40, 3) := by decide +kernel
theorem dX10_isTouchable_154 : decode cX10_isTouchable 154 = .ok (.iconst 4, 1) := by decide +kernel
theorem dX10_isTouchable_155 : decode cX10_isTouchable 155 = .ok (.iload 6, 2) := by decide +kernel
theorem dX10_isTouchable_157 : decode cX10_isTouchable 157 = .ok (.iload_n 3, 1) := by decide +kernel
theorem dX10_isTouchable_158 : decode cX10_isTouchable 158 = .ok (.idiv, 1) := by decide +kernel
theorem dX10_isTouchable_159 : decode cX10_isTouchable 159 = .ok (.imul, 1) := by decide +kernel
theorem dX10_isTouchable_160 : decode cX10_isTouchable 160 = .ok (.iload 5, 2) := by decide +kernel
theorem dX10_isTouchable_162 : decode cX10_isTouchable 162 = .ok (.iadd, 1) := by decide +kernel
theorem dX10_isTouchable_163 : decode cX10_isTouchable 163 = .ok (.iaload, 1) := by decide +kernel
theorem dX10_isTouchable_164 : decode cX10_isTouchable 164 = .ok (.aload_n 0, 1) := by decide +kernel
theorem dX10_isTouchable_165 : decode cX10_isTouchable 165 = .ok (.getfield 40, 3) := by decide +kernel
theorem dX10_isTouchable_168 : decode cX10_isTouchable 168 = .ok (.iconst 4, 1) := by decide +kernel
theorem dX10_isTouchable_169 : decode cX10_isTouchable 169 = .ok (.iload 5, 2) := by decide +kernel
theorem dX10_isTouchable_171 : decode cX10_isTouchable 171 = .ok (.imul, 1) := by decide +kernel
theorem dX10_isTouchable_172 : decode cX10_isTouchable 172 = .ok (.iload 6, 2) := by decide +kernel
theorem dX10_isTouchable_174 : decode cX10_isTouchable 174 = .ok (.iload_n 3, 1) := by decide +kernel
theorem dX10_isTouchable_175 : decode cX10_isTouchable 175 = .ok (.irem, 1) := by decide +kernel
theorem dX10_isTouchable_176 : decode cX10_isTouchable 176 = .ok (.iadd, 1) := by decide +kernel
theorem dX10_isTouchable_177 : decode cX10_isTouchable 177 = .ok (.iaload, 1) := by decide +kernel
theorem dX10_isTouchable_178 : decode cX10_isTouchable 178 = .ok (.iadd, 1) := by decide +kernel
theorem dX10_isTouchable_179 : decode cX10_isTouchable 179 = .ok (.istore 7, 2) := by decide +kernel
theorem dX10_isTouchable_181 : decode cX10_isTouchable 181 = .ok (.aload_n 0, 1) := by decide +kernel
theorem dX10_isTouchable_182 : decode cX10_isTouchable 182 = .ok (.getfield 40, 3) := by decide +kernel
theorem dX10_isTouchable_185 : decode cX10_isTouchable 185 = .ok (.iconst 4, 1) := by decide +kernel
theorem dX10_isTouchable_186 : decode cX10_isTouchable 186 = .ok (.iload 6, 2) := by decide +kernel
theorem dX10_isTouchable_188 : decode cX10_isTouchable 188 = .ok (.iload_n 3, 1) := by decide +kernel
theorem dX10_isTouchable_189 : decode cX10_isTouchable 189 = .ok (.idiv, 1) := by decide +kernel
theorem dX10_isTouchable_190 : decode cX10_isTouchable 190 = .ok (.imul, 1) := by decide +kernel
theorem dX10_isTouchable_191 : decode cX10_isTouchable 191 = .ok (.iload 6, 2) := by decide +kernel
theorem dX10_isTouchable_193 : decode cX10_isTouchable 193 = .ok (.iload_n 3, 1) := by decide +kernel
theorem dX10_isTouchable_194 : decode cX10_isTouchable 194 = .ok (.irem, 1) := by decide +kernel
theorem dX10_isTouchable_195 : decode cX10_isTouchable 195 = .ok (.iadd, 1) := by decide +kernel
theorem dX10_isTouchable_196 : decode cX10_isTouchable 196 = .ok (.iload 7, 2) := by decide +kernel
theorem dX10_isTouchable_198 : decode cX10_isTouchable 198 = .ok (.aload_n 0, 1) := by decide +kernel
theorem dX10_isTouchable_199 : decode cX10_isTouchable 199 = .ok (.getfield 40, 3) := by decide +kernel
theorem dX10_isTouchable_202 : decode cX10_isTouchable 202 = .ok (.iconst 4, 1) := by decide +kernel
theorem dX10_isTouchable_203 : decode cX10_isTouchable 203 = .ok (.iload 6, 2) := by decide +kernel
theorem dX10_isTouchable_205 : decode cX10_isTouchable 205 = .ok (.iload_n 3, 1) := by decide +kernel
theorem dX10_isTouchable_206 : decode cX10_isTouchable 206 = .ok (.idiv, 1) := by decide +kernel
theorem dX10_isTouchable_207 : decode cX10_isTouchable 207 = .ok (.imul, 1) := by decide +kernel
theorem dX10_isTouchable_208 : decode cX10_isTouchable 208 = .ok (.iload 6, 2) := by decide +kernel
theorem dX10_isTouchable_210 : decode cX10_isTouchable 210 = .ok (.iload_n 3, 1) := by decide +kernel
theorem dX10_isTouchable_211 : decode cX10_isTouchable 211 = .ok (.irem, 1) := by decide +kernel
theorem dX10_isTouchable_212 : decode cX10_isTouchable 212 = .ok (.iadd, 1) := by decide +kernel
theorem dX10_isTouchable_213 : decode cX10_isTouchable 213 = .ok (.iaload, 1) := by decide +kernel
theorem dX10_isTouchable_214 : decode cX10_isTouchable 214 = .ok (.if_icmp .ge 8, 3) := by decide +kernel
theorem dX10_isTouchable_217 : decode cX10_isTouchable 217 = .ok (.iload 7, 2) := by decide +kernel
theorem dX10_isTouchable_219 : decode cX10_isTouchable 219 = .ok (.goto 19, 3) := by decide +kernel
theorem dX10_isTouchable_222 : decode cX10_isTouchable 222 = .ok (.aload_n 0, 1) := by decide +kernel
theorem dX10_isTouchable_223 : decode cX10_isTouchable 223 = .ok (.getfield 40, 3) := by decide +kernel
theorem dX10_isTouchable_226 : decode cX10_isTouchable 226 = .ok (.iconst 4, 1) := by decide +kernel
theorem dX10_isTouchable_227 : decode cX10_isTouchable 227 = .ok (.iload 6, 2) := by decide +kernel
theorem dX10_isTouchable_229 : decode cX10_isTouchable 229 = .ok (.iload_n 3, 1) := by decide +kernel
theorem dX10_isTouchable_230 : decode cX10_isTouchable 230 = .ok (.idiv, 1) := by decide +kernel
theorem dX10_isTouchable_231 : decode cX10_isTouchable 231 = .ok (.imul, 1) := by decide +kernel
theorem dX10_isTouchable_232 : decode cX10_isTouchable 232 = .ok (.iload 6, 2) := by decide +kernel
theorem dX10_isTouchable_234 : decode cX10_isTouchable 234 = .ok (.iload_n 3, 1) := by decide +kernel
theorem dX10_isTouchable_235 : decode cX10_isTouchable 235 = .ok (.irem, 1) := by decide +kernel
theorem dX10_isTouchable_236 : decode cX10_isTouchable 236 = .ok (.iadd, 1) := by decide +kernel
theorem dX10_isTouchable_237 : decode cX10_isTouchable 237 = .ok (.iaload, 1) := by decide +kernel
theorem dX10_isTouchable_238 : decode cX10_isTouchable 238 = .ok (.iastore, 1) := by decide +kernel
theorem dX10_isTouchable_239 : decode cX10_isTouchable 239 = .ok (.iinc 6 1, 3) := by decide +kernel
theorem dX10_isTouchable_242 : decode cX10_isTouchable 242 = .ok (.goto (-100), 3) := by decide +kernel
theorem dX10_isTouchable_245 : decode cX10_isTouchable 245 = .ok (.iinc 5 1, 3) := by decide +kernel
theorem dX10_isTouchable_248 : decode cX10_isTouchable 248 = .ok (.goto (-115), 3) := by decide +kernel
theorem dX10_isTouchable_251 : decode cX10_isTouchable 251 = .ok (.iconst 1, 1) := by decide +kernel
theorem dX10_isTouchable_252 : decode cX10_isTouchable 252 = .ok (.istore 5, 2) := by decide +kernel
theorem dX10_isTouchable_254 : decode cX10_isTouchable 254 = .ok (.iconst 0, 1) := by decide +kernel
theorem dX10_isTouchable_255 : decode cX10_isTouchable 255 = .ok (.istore 6, 2) := by decide +kernel
theorem dX10_isTouchable_257 : decode cX10_isTouchable 257 = .ok (.iload 6, 2) := by decide +kernel
theorem dX10_isTouchable_259 : decode cX10_isTouchable 259 = .ok (.iload_n 3, 1) := by decide +kernel
theorem dX10_isTouchable_260 : decode cX10_isTouchable 260 = .ok (.if_icmp .ge 36, 3) := by decide +kernel
theorem dX10_isTouchable_263 : decode cX10_isTouchable 263 = .ok (.iload 5, 2) := by decide +kernel
theorem dX10_isTouchable_265 : decode cX10_isTouchable 265 = .ok (.ifCond .eq 22, 3) := by decide +kernel
theorem dX10_isTouchable_268 : decode cX10_isTouchable 268 = .ok (.aload_n 0, 1) := by decide +kernel
theorem dX10_isTouchable_269 : decode cX10_isTouchable 269 = .ok (.getfield 40, 3) := by decide +kernel
theorem dX10_isTouchable_272 : decode cX10_isTouchable 272 = .ok (.iconst 4, 1) := by decide +kernel
theorem dX10_isTouchable_273 : decode cX10_isTouchable 273 = .ok (.iload 6, 2) := by decide +kernel
theorem dX10_isTouchable_275 : decode cX10_isTouchable 275 = .ok (.imul, 1) := by decide +kernel
theorem dX10_isTouchable_276 : decode cX10_isTouchable 276 = .ok (.iload 6, 2) := by decide +kernel
theorem dX10_isTouchable_278 : decode cX10_isTouchable 278 = .ok (.iadd, 1) := by decide +kernel
theorem dX10_isTouchable_279 : decode cX10_isTouchable 279 = .ok (.iaload, 1) := by decide +kernel
theorem dX10_isTouchable_280 : decode cX10_isTouchable 280 = .ok (.ifCond .lt 7, 3) := by decide +kernel
theorem dX10_isTouchable_283 : decode cX10_isTouchable 283 = .ok (.iconst 1, 1) := by decide +kernel
theorem dX10_isTouchable_284 : decode cX10_isTouchable 284 = .ok (.goto 4, 3) := by decide +kernel
theorem dX10_isTouchable_287 : decode cX10_isTouchable 287 = .ok (.iconst 0, 1) := by decide +kernel
theorem dX10_isTouchable_288 : decode cX10_isTouchable 288 = .ok (.istore 5, 2) := by decide +kernel
theorem dX10_isTouchable_290 : decode cX10_isTouchable 290 = .ok (.iinc 6 1, 3) := by decide +kernel
theorem dX10_isTouchable_293 : decode cX10_isTouchable 293 = .ok (.goto (-36), 3) := by decide +kernel
theorem dX10_isTouchable_296 : decode cX10_isTouchable 296 = .ok (.iload 5, 2) := by decide +kernel
theorem dX10_isTouchable_298 : decode cX10_isTouchable 298 = .ok (.ireturn, 1) := by decide +kernel
theorem dX10_findTouched_0 : decode cX10_findTouched 0 = .ok (.iconst 0, 1) := by decide +kernel
theorem dX10_findTouched_1 : decode cX10_findTouched 1 = .ok (.istore_n 2, 1) := by decide +kernel
theorem dX10_findTouched_2 : decode cX10_findTouched 2 = .ok (.iload_n 2, 1) := by decide +kernel
theorem dX10_findTouched_3 : decode cX10_findTouched 3 = .ok (.iconst 1, 1) := by decide +kernel
theorem dX10_findTouched_4 : decode cX10_findTouched 4 = .ok (.aload_n 0, 1) := by decide +kernel
theorem dX10_findTouched_5 : decode cX10_findTouched 5 = .ok (.iload_n 1, 1) := by decide +kernel
theorem dX10_findTouched_6 : decode cX10_findTouched 6 = .ok (.invokevirtual 81, 3) := by decide +kernel
theorem dX10_findTouched_9 : decode cX10_findTouched 9 = .ok (.ishl, 1) := by decide +kernel
theorem dX10_findTouched_10 : decode cX10_findTouched 10 = .ok (.if_icmp .ge 49, 3) := by decide +kernel
theorem dX10_findTouched_13 : decode cX10_findTouched 13 = .ok (.iload_n 2, 1) := by decide +kernel
theorem dX10_findTouched_14 : decode cX10_findTouched 14 = .ok (.iload_n 2, 1) := by decide +kernel
theorem dX10_findTouched_15 : decode cX10_findTouched 15 = .ok (.iconst 1, 1) := by decide +kernel
theorem dX10_findTouched_16 : decode cX10_findTouched 16 = .ok (.isub, 1) := by decide +kernel
theorem dX10_findTouched_17 : decode cX10_findTouched 17 = .ok (.iand, 1) := by decide +kernel
theorem dX10_findTouched_18 : decode cX10_findTouched 18 = .ok (.istore_n 3, 1) := by decide +kernel
theorem dX10_findTouched_19 : decode cX10_findTouched 19 = .ok (.aload_n 0, 1) := by decide +kernel
theorem dX10_findTouched_20 : decode cX10_findTouched 20 = .ok (.getfield 34, 3) := by decide +kernel
theorem dX10_findTouched_23 : decode cX10_findTouched 23 = .ok (.iload_n 2, 1) := by decide +kernel
theorem dX10_findTouched_24 : decode cX10_findTouched 24 = .ok (.iload_n 2, 1) := by decide +kernel
theorem dX10_findTouched_25 : decode cX10_findTouched 25 = .ok (.ifCond .eq 22, 3) := by decide +kernel
theorem dX10_findTouched_28 : decode cX10_findTouched 28 = .ok (.aload_n 0, 1) := by decide +kernel
theorem dX10_findTouched_29 : decode cX10_findTouched 29 = .ok (.getfield 34, 3) := by decide +kernel
theorem dX10_findTouched_32 : decode cX10_findTouched 32 = .ok (.iload_n 3, 1) := by decide +kernel
theorem dX10_findTouched_33 : decode cX10_findTouched 33 = .ok (.iaload, 1) := by decide +kernel
theorem dX10_findTouched_34 : decode cX10_findTouched 34 = .ok (.iconst 1, 1) := by decide +kernel
theorem dX10_findTouched_35 : decode cX10_findTouched 35 = .ok (.if_icmp .ne 16, 3) := by decide +kernel
theorem dX10_findTouched_38 : decode cX10_findTouched 38 = .ok (.aload_n 0, 1) := by decide +kernel
theorem dX10_findTouched_39 : decode cX10_findTouched 39 = .ok (.iload_n 1, 1) := by decide +kernel
theorem dX10_findTouched_40 : decode cX10_findTouched 40 = .ok (.iload_n 2, 1) := by decide +kernel
theorem dX10_findTouched_41 : decode cX10_findTouched 41 = .ok (.invokevirtual 170, 3) := by decide +kernel
theorem dX10_findTouched_44 : decode cX10_findTouched 44 = .ok (.ifCond .eq 7, 3) := by decide +kernel
theorem dX10_findTouched_47 : decode cX10_findTouched 47 = .ok (.iconst 1, 1) := by decide +kernel
theorem dX10_findTouched_48 : decode cX10_findTouched 48 = .ok (.goto 4, 3) := by decide +kernel
theorem dX10_findTouched_51 : decode cX10_findTouched 51 = .ok (.iconst 0, 1) := by decide +kernel
theorem dX10_findTouched_52 : decode cX10_findTouched 52 = .ok (.iastore, 1) := by decide +kernel
theorem dX10_findTouched_53 : decode cX10_findTouched 53 = .ok (.iinc 2 1, 3) := by decide +kernel
theorem dX10_findTouched_56 : decode cX10_findTouched 56 = .ok (.goto (-54), 3) := by decide +kernel
theorem dX10_findTouched_59 : decode cX10_findTouched 59 = .ok (.return_, 1) := by decide +kernel
theorem dX10_findFewest_0 : decode cX10_findFewest 0 = .ok (.aload_n 0, 1) := by decide +kernel
theorem dX10_findFewest_1 : decode cX10_findFewest 1 = .ok (.iload_n 1, 1) := by decide +kernel
theorem dX10_findFewest_2 : decode cX10_findFewest 2 = .ok (.invokevirtual 173, 3) := by decide +kernel
theorem dX10_findFewest_5 : decode cX10_findFewest 5 = .ok (.iconst 1, 1) := by decide +kernel
theorem dX10_findFewest_6 : decode cX10_findFewest 6 = .ok (.aload_n 0, 1) := by decide +kernel
theorem dX10_findFewest_7 : decode cX10_findFewest 7 = .ok (.iload_n 1, 1) := by decide +kernel
theorem dX10_findFewest_8 : decode cX10_findFewest 8 = .ok (.invokevirtual 81, 3) := by decide +kernel
theorem dX10_findFewest_11 : decode cX10_findFewest 11 = .ok (.ishl, 1) := by decide +kernel
theorem dX10_findFewest_12 : decode cX10_findFewest 12 = .ok (.iconst 1, 1) := by decide +kernel
theorem dX10_findFewest_13 : decode cX10_findFewest 13 = .ok (.isub, 1) := by decide +kernel
theorem dX10_findFewest_14 : decode cX10_findFewest 14 = .ok (.istore_n 2, 1) := by decide +kernel
theorem dX10_findFewest_15 : decode cX10_findFewest 15 = .ok (.aload_n 0, 1) := by decide +kernel
theorem dX10_findFewest_16 : decode cX10_findFewest 16 = .ok (.getfield 37, 3) := by decide +kernel
theorem dX10_findFewest_19 : decode cX10_findFewest 19 = .ok (.iconst 0, 1) := by decide +kernel
theorem dX10_findFewest_20 : decode cX10_findFewest 20 = .ok (.iconst 0, 1) := by decide +kernel
theorem dX10_findFewest_21 : decode cX10_findFewest 21 = .ok (.iastore, 1) := by decide +kernel
theorem dX10_findFewest_22 : decode cX10_findFewest 22 = .ok (.iconst 1, 1) := by decide +kernel
theorem dX10_findFewest_23 : decode cX10_findFewest 23 = .ok (.istore_n 3, 1) := by decide +kernel
theorem dX10_findFewest_24 : decode cX10_findFewest 24 = .ok (.iload_n 3, 1) := by decide +kernel
theorem dX10_findFewest_25 : decode cX10_findFewest 25 = .ok (.iload_n 2, 1) := by decide +kernel
theorem dX10_findFewest_26 : decode cX10_findFewest 26 = .ok (.if_icmp .gt 123, 3) := by decide +kernel
theorem dX10_findFewest_29 : decode cX10_findFewest 29 = .ok (.iload_n 3, 1) := by decide +kernel
theorem dX10_findFewest_30 : decode cX10_findFewest 30 = .ok (.iload_n 3, 1) := by decide +kernel
theorem dX10_findFewest_31 : decode cX10_findFewest 31 = .ok (.ineg, 1) := by decide +kernel
theorem dX10_findFewest_32 : decode cX10_findFewest 32 = .ok (.iand, 1) := by decide +kernel
theorem dX10_findFewest_33 : decode cX10_findFewest 33 = .ok (.istore 4, 2) := by decide +kernel
theorem dX10_findFewest_35 : decode cX10_findFewest 35 = .ok (.iload_n 3, 1) := by decide +kernel
theorem dX10_findFewest_36 : decode cX10_findFewest 36 = .ok (.iload 4, 2) := by decide +kernel
theorem dX10_findFewest_38 : decode cX10_findFewest 38 = .ok (.ixor, 1) := by decide +kernel
theorem dX10_findFewest_39 : decode cX10_findFewest 39 = .ok (.istore 5, 2) := by decide +kernel
theorem dX10_findFewest_41 : decode cX10_findFewest 41 = .ok (.bipush 12, 2) := by decide +kernel
theorem dX10_findFewest_43 : decode cX10_findFewest 43 = .ok (.istore 6, 2) := by decide +kernel
theorem dX10_findFewest_45 : decode cX10_findFewest 45 = .ok (.iload 5, 2) := by decide +kernel
theorem dX10_findFewest_47 : decode cX10_findFewest 47 = .ok (.istore 7, 2) := by decide +kernel
theorem dX10_findFewest_49 : decode cX10_findFewest 49 = .ok (.iload 7, 2) := by decide +kernel
theorem dX10_findFewest_51 : decode cX10_findFewest 51 = .ok (.ifCond .lt 82, 3) := by decide +kernel
theorem dX10_findFewest_54 : decode cX10_findFewest 54 = .ok (.aload_n 0, 1) := by decide +kernel
theorem dX10_findFewest_55 : decode cX10_findFewest 55 = .ok (.getfield 34, 3) := by decide +kernel
theorem dX10_findFewest_58 : decode cX10_findFewest 58 = .ok (.iload 7, 2) := by decide +kernel
theorem dX10_findFewest_60 : decode cX10_findFewest 60 = .ok (.iload 4, 2) := by decide +kernel
theorem dX10_findFewest_62 : decode cX10_findFewest 62 = .ok (.ior, 1) := by decide +kernel
theorem dX10_findFewest_63 : decode cX10_findFewest 63 = .ok (.iaload, 1) := by decide +kernel
theorem dX10_findFewest_64 : decode cX10_findFewest 64 = .ok (.iconst 1, 1) := by decide +kernel
theorem dX10_findFewest_65 : decode cX10_findFewest 65 = .ok (.if_icmp .ne 22, 3) := by decide +kernel
theorem dX10_findFewest_68 : decode cX10_findFewest 68 = .ok (.aload_n 0, 1) := by decide +kernel
theorem dX10_findFewest_69 : decode cX10_findFewest 69 = .ok (.getfield 37, 3) := by decide +kernel
theorem dX10_findFewest_72 : decode cX10_findFewest 72 = .ok (.iload 5, 2) := by decide +kernel
theorem dX10_findFewest_74 : decode cX10_findFewest 74 = .ok (.iload 7, 2) := by decide +kernel
theorem dX10_findFewest_76 : decode cX10_findFewest 76 = .ok (.ixor, 1) := by decide +kernel
theorem dX10_findFewest_77 : decode cX10_findFewest 77 = .ok (.iaload, 1) := by decide +kernel
theorem dX10_findFewest_78 : decode cX10_findFewest 78 = .ok (.iload 6, 2) := by decide +kernel
theorem dX10_findFewest_80 : decode cX10_findFewest 80 = .ok (.if_icmp .ge 7, 3) := by decide +kernel
theorem dX10_findFewest_83 : decode cX10_findFewest 83 = .ok (.iconst 1, 1) := by decide +kernel
theorem dX10_findFewest_84 : decode cX10_findFewest 84 = .ok (.goto 4, 3) := by decide +kernel
theorem dX10_findFewest_87 : decode cX10_findFewest 87 = .ok (.iconst 0, 1) := by decide +kernel
theorem dX10_findFewest_88 : decode cX10_findFewest 88 = .ok (.istore 8, 2) := by decide +kernel
theorem dX10_findFewest_90 : decode cX10_findFewest 90 = .ok (.iload 8, 2) := by decide +kernel
theorem dX10_findFewest_92 : decode cX10_findFewest 92 = .ok (.ifCond .eq 16, 3) := by decide +kernel
theorem dX10_findFewest_95 : decode cX10_findFewest 95 = .ok (.aload_n 0, 1) := by decide +kernel
theorem dX10_findFewest_96 : decode cX10_findFewest 96 = .ok (.getfield 37, 3) := by decide +kernel
theorem dX10_findFewest_99 : decode cX10_findFewest 99 = .ok (.iload 5, 2) := by decide +kernel
theorem dX10_findFewest_101 : decode cX10_findFewest 101 = .ok (.iload 7, 2) := by decide +kernel
theorem dX10_findFewest_103 : decode cX10_findFewest 103 = .ok (.ixor, 1) := by decide +kernel
theorem dX10_findFewest_104 : decode cX10_findFewest 104 = .ok (.iaload, 1) := by decide +kernel
theorem dX10_findFewest_105 : decode cX10_findFewest 105 = .ok (.goto 5, 3) := by decide +kernel
theorem dX10_findFewest_108 : decode cX10_findFewest 108 = .ok (.iload 6, 2) := by decide +kernel
theorem dX10_findFewest_110 : decode cX10_findFewest 110 = .ok (.istore 6, 2) := by decide +kernel
theorem dX10_findFewest_112 : decode cX10_findFewest 112 = .ok (.iload 7, 2) := by decide +kernel
theorem dX10_findFewest_114 : decode cX10_findFewest 114 = .ok (.ifCond .ne 7, 3) := by decide +kernel
theorem dX10_findFewest_117 : decode cX10_findFewest 117 = .ok (.iconst (-1), 1) := by decide +kernel
theorem dX10_findFewest_118 : decode cX10_findFewest 118 = .ok (.goto 10, 3) := by decide +kernel
theorem dX10_findFewest_121 : decode cX10_findFewest 121 = .ok (.iload 7, 2) := by decide +kernel
theorem dX10_findFewest_123 : decode cX10_findFewest 123 = .ok (.iconst 1, 1) := by decide +kernel
theorem dX10_findFewest_124 : decode cX10_findFewest 124 = .ok (.isub, 1) := by decide +kernel
theorem dX10_findFewest_125 : decode cX10_findFewest 125 = .ok (.iload 5, 2) := by decide +kernel
theorem dX10_findFewest_127 : decode cX10_findFewest 127 = .ok (.iand, 1) := by decide +kernel
theorem dX10_findFewest_128 : decode cX10_findFewest 128 = .ok (.istore 7, 2) := by decide +kernel
theorem dX10_findFewest_130 : decode cX10_findFewest 130 = .ok (.goto (-81), 3) := by decide +kernel
theorem dX10_findFewest_133 : decode cX10_findFewest 133 = .ok (.aload_n 0, 1) := by decide +kernel
theorem dX10_findFewest_134 : decode cX10_findFewest 134 = .ok (.getfield 37, 3) := by decide +kernel
theorem dX10_findFewest_137 : decode cX10_findFewest 137 = .ok (.iload_n 3, 1) := by decide +kernel
theorem dX10_findFewest_138 : decode cX10_findFewest 138 = .ok (.iload 6, 2) := by decide +kernel
theorem dX10_findFewest_140 : decode cX10_findFewest 140 = .ok (.iconst 1, 1) := by decide +kernel
theorem dX10_findFewest_141 : decode cX10_findFewest 141 = .ok (.iadd, 1) := by decide +kernel
theorem dX10_findFewest_142 : decode cX10_findFewest 142 = .ok (.iastore, 1) := by decide +kernel
theorem dX10_findFewest_143 : decode cX10_findFewest 143 = .ok (.iinc 3 1, 3) := by decide +kernel
theorem dX10_findFewest_146 : decode cX10_findFewest 146 = .ok (.goto (-122), 3) := by decide +kernel
theorem dX10_findFewest_149 : decode cX10_findFewest 149 = .ok (.aload_n 0, 1) := by decide +kernel
theorem dX10_findFewest_150 : decode cX10_findFewest 150 = .ok (.getfield 37, 3) := by decide +kernel
theorem dX10_findFewest_153 : decode cX10_findFewest 153 = .ok (.iload_n 2, 1) := by decide +kernel
theorem dX10_findFewest_154 : decode cX10_findFewest 154 = .ok (.iaload, 1) := by decide +kernel
theorem dX10_findFewest_155 : decode cX10_findFewest 155 = .ok (.ireturn, 1) := by decide +kernel
theorem dX10_canTouch_0 : decode cX10_canTouch 0 = .ok (.iload_n 1, 1) := by decide +kernel
theorem dX10_canTouch_1 : decode cX10_canTouch 1 = .ok (.invokestatic 65, 3) := by decide +kernel
theorem dX10_canTouch_4 : decode cX10_canTouch 4 = .ok (.ifCond .ne 5, 3) := by decide +kernel
theorem dX10_canTouch_7 : decode cX10_canTouch 7 = .ok (.iconst (-1), 1) := by decide +kernel
theorem dX10_canTouch_8 : decode cX10_canTouch 8 = .ok (.ireturn, 1) := by decide +kernel
theorem dX10_canTouch_9 : decode cX10_canTouch 9 = .ok (.iload_n 2, 1) := by decide +kernel
theorem dX10_canTouch_10 : decode cX10_canTouch 10 = .ok (.iconst 0, 1) := by decide +kernel
theorem dX10_canTouch_11 : decode cX10_canTouch 11 = .ok (.iconst 1, 1) := by decide +kernel
theorem dX10_canTouch_12 : decode cX10_canTouch 12 = .ok (.aload_n 0, 1) := by decide +kernel
theorem dX10_canTouch_13 : decode cX10_canTouch 13 = .ok (.iload_n 1, 1) := by decide +kernel
theorem dX10_canTouch_14 : decode cX10_canTouch 14 = .ok (.invokevirtual 81, 3) := by decide +kernel
theorem dX10_canTouch_17 : decode cX10_canTouch 17 = .ok (.ishl, 1) := by decide +kernel
theorem dX10_canTouch_18 : decode cX10_canTouch 18 = .ok (.iconst 1, 1) := by decide +kernel
theorem dX10_canTouch_19 : decode cX10_canTouch 19 = .ok (.isub, 1) := by decide +kernel
theorem dX10_canTouch_20 : decode cX10_canTouch 20 = .ok (.invokestatic 54, 3) := by decide +kernel
theorem dX10_canTouch_23 : decode cX10_canTouch 23 = .ok (.ifCond .ne 6, 3) := by decide +kernel
theorem dX10_canTouch_26 : decode cX10_canTouch 26 = .ok (.bipush (-2), 2) := by decide +kernel
theorem dX10_canTouch_28 : decode cX10_canTouch 28 = .ok (.ireturn, 1) := by decide +kernel
theorem dX10_canTouch_29 : decode cX10_canTouch 29 = .ok (.aload_n 0, 1) := by decide +kernel
theorem dX10_canTouch_30 : decode cX10_canTouch 30 = .ok (.iload_n 1, 1) := by decide +kernel
theorem dX10_canTouch_31 : decode cX10_canTouch 31 = .ok (.iload_n 2, 1) := by decide +kernel
theorem dX10_canTouch_32 : decode cX10_canTouch 32 = .ok (.invokevirtual 170, 3) := by decide +kernel
theorem dX10_canTouch_35 : decode cX10_canTouch 35 = .ok (.ifCond .eq 7, 3) := by decide +kernel
theorem dX10_canTouch_38 : decode cX10_canTouch 38 = .ok (.iconst 1, 1) := by decide +kernel
theorem dX10_canTouch_39 : decode cX10_canTouch 39 = .ok (.goto 4, 3) := by decide +kernel
theorem dX10_canTouch_42 : decode cX10_canTouch 42 = .ok (.iconst 0, 1) := by decide +kernel
theorem dX10_canTouch_43 : decode cX10_canTouch 43 = .ok (.ireturn, 1) := by decide +kernel
theorem dX10_touchedMany_0 : decode cX10_touchedMany 0 = .ok (.iconst 0, 1) := by decide +kernel
theorem dX10_touchedMany_1 : decode cX10_touchedMany 1 = .ok (.istore_n 2, 1) := by decide +kernel
theorem dX10_touchedMany_2 : decode cX10_touchedMany 2 = .ok (.iconst 0, 1) := by decide +kernel
theorem dX10_touchedMany_3 : decode cX10_touchedMany 3 = .ok (.istore_n 3, 1) := by decide +kernel
theorem dX10_touchedMany_4 : decode cX10_touchedMany 4 = .ok (.iload_n 3, 1) := by decide +kernel
theorem dX10_touchedMany_5 : decode cX10_touchedMany 5 = .ok (.iconst 1, 1) := by decide +kernel
theorem dX10_touchedMany_6 : decode cX10_touchedMany 6 = .ok (.aload_n 0, 1) := by decide +kernel
theorem dX10_touchedMany_7 : decode cX10_touchedMany 7 = .ok (.iload_n 1, 1) := by decide +kernel
theorem dX10_touchedMany_8 : decode cX10_touchedMany 8 = .ok (.invokevirtual 81, 3) := by decide +kernel
theorem dX10_touchedMany_11 : decode cX10_touchedMany 11 = .ok (.ishl, 1) := by decide +kernel
theorem dX10_touchedMany_12 : decode cX10_touchedMany 12 = .ok (.if_icmp .ge 18, 3) := by decide +kernel
theorem dX10_touchedMany_15 : decode cX10_touchedMany 15 = .ok (.iload_n 2, 1) := by decide +kernel
theorem dX10_touchedMany_16 : decode cX10_touchedMany 16 = .ok (.aload_n 0, 1) := by decide +kernel
theorem dX10_touchedMany_17 : decode cX10_touchedMany 17 = .ok (.getfield 34, 3) := by decide +kernel
theorem dX10_touchedMany_20 : decode cX10_touchedMany 20 = .ok (.iload_n 3, 1) := by decide +kernel
theorem dX10_touchedMany_21 : decode cX10_touchedMany 21 = .ok (.iaload, 1) := by decide +kernel
theorem dX10_touchedMany_22 : decode cX10_touchedMany 22 = .ok (.iadd, 1) := by decide +kernel
theorem dX10_touchedMany_23 : decode cX10_touchedMany 23 = .ok (.istore_n 2, 1) := by decide +kernel
theorem dX10_touchedMany_24 : decode cX10_touchedMany 24 = .ok (.iinc 3 1, 3) := by decide +kernel
theorem dX10_touchedMany_27 : decode cX10_touchedMany 27 = .ok (.goto (-23), 3) := by decide +kernel
theorem dX10_touchedMany_30 : decode cX10_touchedMany 30 = .ok (.iload_n 2, 1) := by decide +kernel
theorem dX10_touchedMany_31 : decode cX10_touchedMany 31 = .ok (.ireturn, 1) := by decide +kernel
theorem dX10_greatestTouched_0 : decode cX10_greatestTouched 0 = .ok (.iconst 0, 1) := by decide +kernel
theorem dX10_greatestTouched_1 : decode cX10_greatestTouched 1 = .ok (.istore_n 2, 1) := by decide +kernel
theorem dX10_greatestTouched_2 : decode cX10_greatestTouched 2 = .ok (.iconst 0, 1) := by decide +kernel
theorem dX10_greatestTouched_3 : decode cX10_greatestTouched 3 = .ok (.istore_n 3, 1) := by decide +kernel
theorem dX10_greatestTouched_4 : decode cX10_greatestTouched 4 = .ok (.iload_n 3, 1) := by decide +kernel
theorem dX10_greatestTouched_5 : decode cX10_greatestTouched 5 = .ok (.iconst 1, 1) := by decide +kernel
theorem dX10_greatestTouched_6 : decode cX10_greatestTouched 6 = .ok (.aload_n 0, 1) := by decide +kernel
theorem dX10_greatestTouched_7 : decode cX10_greatestTouched 7 = .ok (.iload_n 1, 1) := by decide +kernel
theorem dX10_greatestTouched_8 : decode cX10_greatestTouched 8 = .ok (.invokevirtual 81, 3) := by decide +kernel
theorem dX10_greatestTouched_11 : decode cX10_greatestTouched 11 = .ok (.ishl, 1) := by decide +kernel
theorem dX10_greatestTouched_12 : decode cX10_greatestTouched 12 = .ok (.if_icmp .ge 36, 3) := by decide +kernel
theorem dX10_greatestTouched_15 : decode cX10_greatestTouched 15 = .ok (.aload_n 0, 1) := by decide +kernel
theorem dX10_greatestTouched_16 : decode cX10_greatestTouched 16 = .ok (.getfield 34, 3) := by decide +kernel
theorem dX10_greatestTouched_19 : decode cX10_greatestTouched 19 = .ok (.iload_n 3, 1) := by decide +kernel
theorem dX10_greatestTouched_20 : decode cX10_greatestTouched 20 = .ok (.iaload, 1) := by decide +kernel
theorem dX10_greatestTouched_21 : decode cX10_greatestTouched 21 = .ok (.iconst 1, 1) := by decide +kernel
theorem dX10_greatestTouched_22 : decode cX10_greatestTouched 22 = .ok (.if_icmp .ne 18, 3) := by decide +kernel
theorem dX10_greatestTouched_25 : decode cX10_greatestTouched 25 = .ok (.iload_n 3, 1) := by decide +kernel
theorem dX10_greatestTouched_26 : decode cX10_greatestTouched 26 = .ok (.invokestatic 143, 3) := by decide +kernel
theorem dX10_greatestTouched_29 : decode cX10_greatestTouched 29 = .ok (.iload_n 2, 1) := by decide +kernel
theorem dX10_greatestTouched_30 : decode cX10_greatestTouched 30 = .ok (.if_icmp .le 10, 3) := by decide +kernel
theorem dX10_greatestTouched_33 : decode cX10_greatestTouched 33 = .ok (.iload_n 3, 1) := by decide +kernel
theorem dX10_greatestTouched_34 : decode cX10_greatestTouched 34 = .ok (.invokestatic 143, 3) := by decide +kernel
theorem dX10_greatestTouched_37 : decode cX10_greatestTouched 37 = .ok (.goto 4, 3) := by decide +kernel
theorem dX10_greatestTouched_40 : decode cX10_greatestTouched 40 = .ok (.iload_n 2, 1) := by decide +kernel
theorem dX10_greatestTouched_41 : decode cX10_greatestTouched 41 = .ok (.istore_n 2, 1) := by decide +kernel
theorem dX10_greatestTouched_42 : decode cX10_greatestTouched 42 = .ok (.iinc 3 1, 3) := by decide +kernel
theorem dX10_greatestTouched_45 : decode cX10_greatestTouched 45 = .ok (.goto (-41), 3) := by decide +kernel
theorem dX10_greatestTouched_48 : decode cX10_greatestTouched 48 = .ok (.iload_n 2, 1) := by decide +kernel
theorem dX10_greatestTouched_49 : decode cX10_greatestTouched 49 = .ok (.ireturn, 1) := by decide +kernel
theorem dX10_byCovers_0 : decode cX10_byCovers 0 = .ok (.iload_n 1, 1) := by decide +kernel
theorem dX10_byCovers_1 : decode cX10_byCovers 1 = .ok (.invokestatic 65, 3) := by decide +kernel
theorem dX10_byCovers_4 : decode cX10_byCovers 4 = .ok (.ifCond .ne 5, 3) := by decide +kernel
theorem dX10_byCovers_7 : decode cX10_byCovers 7 = .ok (.iconst (-1), 1) := by decide +kernel
theorem dX10_byCovers_8 : decode cX10_byCovers 8 = .ok (.ireturn, 1) := by decide +kernel
theorem dX10_byCovers_9 : decode cX10_byCovers 9 = .ok (.iload_n 2, 1) := by decide +kernel
theorem dX10_byCovers_10 : decode cX10_byCovers 10 = .ok (.iconst 0, 1) := by decide +kernel
theorem dX10_byCovers_11 : decode cX10_byCovers 11 = .ok (.iconst 2, 1) := by decide +kernel
theorem dX10_byCovers_12 : decode cX10_byCovers 12 = .ok (.invokestatic 54, 3) := by decide +kernel
theorem dX10_byCovers_15 : decode cX10_byCovers 15 = .ok (.ifCond .ne 6, 3) := by decide +kernel
theorem dX10_byCovers_18 : decode cX10_byCovers 18 = .ok (.bipush (-2), 2) := by decide +kernel
theorem dX10_byCovers_20 : decode cX10_byCovers 20 = .ok (.ireturn, 1) := by decide +kernel
theorem dX10_byCovers_21 : decode cX10_byCovers 21 = .ok (.aload_n 0, 1) := by decide +kernel
theorem dX10_byCovers_22 : decode cX10_byCovers 22 = .ok (.iload_n 1, 1) := by decide +kernel
theorem dX10_byCovers_23 : decode cX10_byCovers 23 = .ok (.invokevirtual 176, 3) := by decide +kernel
theorem dX10_byCovers_26 : decode cX10_byCovers 26 = .ok (.istore_n 3, 1) := by decide +kernel
theorem dX10_byCovers_27 : decode cX10_byCovers 27 = .ok (.iload_n 2, 1) := by decide +kernel
theorem dX10_byCovers_28 : decode cX10_byCovers 28 = .ok (.ifCond .ne 7, 3) := by decide +kernel
theorem dX10_byCovers_31 : decode cX10_byCovers 31 = .ok (.iload_n 3, 1) := by decide +kernel
theorem dX10_byCovers_32 : decode cX10_byCovers 32 = .ok (.goto 21, 3) := by decide +kernel
theorem dX10_byCovers_35 : decode cX10_byCovers 35 = .ok (.iload_n 2, 1) := by decide +kernel
theorem dX10_byCovers_36 : decode cX10_byCovers 36 = .ok (.iconst 1, 1) := by decide +kernel
theorem dX10_byCovers_37 : decode cX10_byCovers 37 = .ok (.if_icmp .ne 11, 3) := by decide +kernel
theorem dX10_byCovers_40 : decode cX10_byCovers 40 = .ok (.aload_n 0, 1) := by decide +kernel
theorem dX10_byCovers_41 : decode cX10_byCovers 41 = .ok (.iload_n 1, 1) := by decide +kernel
theorem dX10_byCovers_42 : decode cX10_byCovers 42 = .ok (.invokevirtual 179, 3) := by decide +kernel
theorem dX10_byCovers_45 : decode cX10_byCovers 45 = .ok (.goto 8, 3) := by decide +kernel
theorem dX10_byCovers_48 : decode cX10_byCovers 48 = .ok (.aload_n 0, 1) := by decide +kernel
theorem dX10_byCovers_49 : decode cX10_byCovers 49 = .ok (.iload_n 1, 1) := by decide +kernel
theorem dX10_byCovers_50 : decode cX10_byCovers 50 = .ok (.invokevirtual 182, 3) := by decide +kernel
theorem dX10_byCovers_53 : decode cX10_byCovers 53 = .ok (.ireturn, 1) := by decide +kernel
theorem dX10_withNumber_0 : decode cX10_withNumber 0 = .ok (.iconst 0, 1) := by decide +kernel
theorem dX10_withNumber_1 : decode cX10_withNumber 1 = .ok (.istore_n 2, 1) := by decide +kernel
theorem dX10_withNumber_2 : decode cX10_withNumber 2 = .ok (.iconst 0, 1) := by decide +kernel
theorem dX10_withNumber_3 : decode cX10_withNumber 3 = .ok (.istore_n 3, 1) := by decide +kernel
theorem dX10_withNumber_4 : decode cX10_withNumber 4 = .ok (.iload_n 3, 1) := by decide +kernel
theorem dX10_withNumber_5 : decode cX10_withNumber 5 = .ok (.iload_n 1, 1) := by decide +kernel
theorem dX10_withNumber_6 : decode cX10_withNumber 6 = .ok (.if_icmp .gt 34, 3) := by decide +kernel
theorem dX10_withNumber_9 : decode cX10_withNumber 9 = .ok (.iload_n 2, 1) := by decide +kernel
theorem dX10_withNumber_10 : decode cX10_withNumber 10 = .ok (.aload_n 0, 1) := by decide +kernel
theorem dX10_withNumber_11 : decode cX10_withNumber 11 = .ok (.getfield 43, 3) := by decide +kernel
theorem dX10_withNumber_14 : decode cX10_withNumber 14 = .ok (.iload_n 3, 1) := by decide +kernel
theorem dX10_withNumber_15 : decode cX10_withNumber 15 = .ok (.iaload, 1) := by decide +kernel
theorem dX10_withNumber_16 : decode cX10_withNumber 16 = .ok (.aload_n 0, 1) := by decide +kernel
theorem dX10_withNumber_17 : decode cX10_withNumber 17 = .ok (.getfield 43, 3) := by decide +kernel
theorem dX10_withNumber_20 : decode cX10_withNumber 20 = .ok (.iload_n 1, 1) := by decide +kernel
theorem dX10_withNumber_21 : decode cX10_withNumber 21 = .ok (.iaload, 1) := by decide +kernel
theorem dX10_withNumber_22 : decode cX10_withNumber 22 = .ok (.if_icmp .ne 9, 3) := by decide +kernel
theorem dX10_withNumber_25 : decode cX10_withNumber 25 = .ok (.iconst 1, 1) := by decide +kernel
theorem dX10_withNumber_26 : decode cX10_withNumber 26 = .ok (.iload_n 3, 1) := by decide +kernel
theorem dX10_withNumber_27 : decode cX10_withNumber 27 = .ok (.ishl, 1) := by decide +kernel
theorem dX10_withNumber_28 : decode cX10_withNumber 28 = .ok (.goto 4, 3) := by decide +kernel
theorem dX10_withNumber_31 : decode cX10_withNumber 31 = .ok (.iconst 0, 1) := by decide +kernel
theorem dX10_withNumber_32 : decode cX10_withNumber 32 = .ok (.ior, 1) := by decide +kernel
theorem dX10_withNumber_33 : decode cX10_withNumber 33 = .ok (.istore_n 2, 1) := by decide +kernel
theorem dX10_withNumber_34 : decode cX10_withNumber 34 = .ok (.iinc 3 1, 3) := by decide +kernel
theorem dX10_withNumber_37 : decode cX10_withNumber 37 = .ok (.goto (-33), 3) := by decide +kernel
theorem dX10_withNumber_40 : decode cX10_withNumber 40 = .ok (.iload_n 2, 1) := by decide +kernel
theorem dX10_withNumber_41 : decode cX10_withNumber 41 = .ok (.ireturn, 1) := by decide +kernel
theorem dX10_findCover_0 : decode cX10_findCover 0 = .ok (.iconst 0, 1) := by decide +kernel
theorem dX10_findCover_1 : decode cX10_findCover 1 = .ok (.istore_n 3, 1) := by decide +kernel
theorem dX10_findCover_2 : decode cX10_findCover 2 = .ok (.aload_n 0, 1) := by decide +kernel
theorem dX10_findCover_3 : decode cX10_findCover 3 = .ok (.getfield 43, 3) := by decide +kernel
theorem dX10_findCover_6 : decode cX10_findCover 6 = .ok (.iconst 0, 1) := by decide +kernel
theorem dX10_findCover_7 : decode cX10_findCover 7 = .ok (.iconst 0, 1) := by decide +kernel
theorem dX10_findCover_8 : decode cX10_findCover 8 = .ok (.iastore, 1) := by decide +kernel
theorem dX10_findCover_9 : decode cX10_findCover 9 = .ok (.iload_n 3, 1) := by decide +kernel
theorem dX10_findCover_10 : decode cX10_findCover 10 = .ok (.aload_n 0, 1) := by decide +kernel
theorem dX10_findCover_11 : decode cX10_findCover 11 = .ok (.iload_n 1, 1) := by decide +kernel
theorem dX10_findCover_12 : decode cX10_findCover 12 = .ok (.invokevirtual 81, 3) := by decide +kernel
theorem dX10_findCover_15 : decode cX10_findCover 15 = .ok (.if_icmp .ge 78, 3) := by decide +kernel
theorem dX10_findCover_18 : decode cX10_findCover 18 = .ok (.aload_n 0, 1) := by decide +kernel
theorem dX10_findCover_19 : decode cX10_findCover 19 = .ok (.getfield 43, 3) := by decide +kernel
theorem dX10_findCover_22 : decode cX10_findCover 22 = .ok (.iload_n 3, 1) := by decide +kernel
theorem dX10_findCover_23 : decode cX10_findCover 23 = .ok (.iaload, 1) := by decide +kernel
theorem dX10_findCover_24 : decode cX10_findCover 24 = .ok (.iload_n 2, 1) := by decide +kernel
theorem dX10_findCover_25 : decode cX10_findCover 25 = .ok (.if_icmp .ne 19, 3) := by decide +kernel
theorem dX10_findCover_28 : decode cX10_findCover 28 = .ok (.iinc 3 (-1), 3) := by decide +kernel
theorem dX10_findCover_31 : decode cX10_findCover 31 = .ok (.aload_n 0, 1) := by decide +kernel
theorem dX10_findCover_32 : decode cX10_findCover 32 = .ok (.getfield 43, 3) := by decide +kernel
theorem dX10_findCover_35 : decode cX10_findCover 35 = .ok (.iload_n 3, 1) := by decide +kernel
theorem dX10_findCover_36 : decode cX10_findCover 36 = .ok (.dup2, 1) := by decide +kernel
theorem dX10_findCover_37 : decode cX10_findCover 37 = .ok (.iaload, 1) := by decide +kernel
theorem dX10_findCover_38 : decode cX10_findCover 38 = .ok (.iconst 1, 1) := by decide +kernel
theorem dX10_findCover_39 : decode cX10_findCover 39 = .ok (.iadd, 1) := by decide +kernel
theorem dX10_findCover_40 : decode cX10_findCover 40 = .ok (.iastore, 1) := by decide +kernel
theorem dX10_findCover_41 : decode cX10_findCover 41 = .ok (.goto (-32), 3) := by decide +kernel
theorem dX10_findCover_44 : decode cX10_findCover 44 = .ok (.aload_n 0, 1) := by decide +kernel
theorem dX10_findCover_45 : decode cX10_findCover 45 = .ok (.getfield 34, 3) := by decide +kernel
theorem dX10_findCover_48 : decode cX10_findCover 48 = .ok (.aload_n 0, 1) := by decide +kernel
theorem dX10_findCover_49 : decode cX10_findCover 49 = .ok (.iload_n 3, 1) := by decide +kernel
theorem dX10_findCover_50 : decode cX10_findCover 50 = .ok (.invokevirtual 185, 3) := by decide +kernel
theorem dX10_findCover_53 : decode cX10_findCover 53 = .ok (.iaload, 1) := by decide +kernel
theorem dX10_findCover_54 : decode cX10_findCover 54 = .ok (.iconst 1, 1) := by decide +kernel
theorem dX10_findCover_55 : decode cX10_findCover 55 = .ok (.if_icmp .ne 25, 3) := by decide +kernel
theorem dX10_findCover_58 : decode cX10_findCover 58 = .ok (.iinc 3 1, 3) := by decide +kernel
theorem dX10_findCover_61 : decode cX10_findCover 61 = .ok (.iload_n 3, 1) := by decide +kernel
theorem dX10_findCover_62 : decode cX10_findCover 62 = .ok (.aload_n 0, 1) := by decide +kernel
theorem dX10_findCover_63 : decode cX10_findCover 63 = .ok (.iload_n 1, 1) := by decide +kernel
theorem dX10_findCover_64 : decode cX10_findCover 64 = .ok (.invokevirtual 81, 3) := by decide +kernel
theorem dX10_findCover_67 : decode cX10_findCover 67 = .ok (.if_icmp .ge (-58), 3) := by decide +kernel
theorem dX10_findCover_70 : decode cX10_findCover 70 = .ok (.aload_n 0, 1) := by decide +kernel
theorem dX10_findCover_71 : decode cX10_findCover 71 = .ok (.getfield 43, 3) := by decide +kernel
theorem dX10_findCover_74 : decode cX10_findCover 74 = .ok (.iload_n 3, 1) := by decide +kernel
theorem dX10_findCover_75 : decode cX10_findCover 75 = .ok (.iconst 0, 1) := by decide +kernel
theorem dX10_findCover_76 : decode cX10_findCover 76 = .ok (.iastore, 1) := by decide +kernel
theorem dX10_findCover_77 : decode cX10_findCover 77 = .ok (.goto (-68), 3) := by decide +kernel
theorem dX10_findCover_80 : decode cX10_findCover 80 = .ok (.aload_n 0, 1) := by decide +kernel
theorem dX10_findCover_81 : decode cX10_findCover 81 = .ok (.getfield 43, 3) := by decide +kernel
theorem dX10_findCover_84 : decode cX10_findCover 84 = .ok (.iload_n 3, 1) := by decide +kernel
theorem dX10_findCover_85 : decode cX10_findCover 85 = .ok (.dup2, 1) := by decide +kernel
theorem dX10_findCover_86 : decode cX10_findCover 86 = .ok (.iaload, 1) := by decide +kernel
theorem dX10_findCover_87 : decode cX10_findCover 87 = .ok (.iconst 1, 1) := by decide +kernel
theorem dX10_findCover_88 : decode cX10_findCover 88 = .ok (.iadd, 1) := by decide +kernel
theorem dX10_findCover_89 : decode cX10_findCover 89 = .ok (.iastore, 1) := by decide +kernel
theorem dX10_findCover_90 : decode cX10_findCover 90 = .ok (.goto (-81), 3) := by decide +kernel
theorem dX10_findCover_93 : decode cX10_findCover 93 = .ok (.return_, 1) := by decide +kernel
theorem dX10_cover_0 : decode cX10_cover 0 = .ok (.iload_n 1, 1) := by decide +kernel
theorem dX10_cover_1 : decode cX10_cover 1 = .ok (.invokestatic 65, 3) := by decide +kernel
theorem dX10_cover_4 : decode cX10_cover 4 = .ok (.ifCond .eq 18, 3) := by decide +kernel
theorem dX10_cover_7 : decode cX10_cover 7 = .ok (.iload_n 2, 1) := by decide +kernel
theorem dX10_cover_8 : decode cX10_cover 8 = .ok (.iconst 0, 1) := by decide +kernel
theorem dX10_cover_9 : decode cX10_cover 9 = .ok (.aload_n 0, 1) := by decide +kernel
theorem dX10_cover_10 : decode cX10_cover 10 = .ok (.iload_n 1, 1) := by decide +kernel
theorem dX10_cover_11 : decode cX10_cover 11 = .ok (.invokevirtual 81, 3) := by decide +kernel
theorem dX10_cover_14 : decode cX10_cover 14 = .ok (.iconst 1, 1) := by decide +kernel
theorem dX10_cover_15 : decode cX10_cover 15 = .ok (.isub, 1) := by decide +kernel
theorem dX10_cover_16 : decode cX10_cover 16 = .ok (.invokestatic 54, 3) := by decide +kernel
theorem dX10_cover_19 : decode cX10_cover 19 = .ok (.ifCond .ne 5, 3) := by decide +kernel
theorem dX10_cover_22 : decode cX10_cover 22 = .ok (.iconst (-1), 1) := by decide +kernel
theorem dX10_cover_23 : decode cX10_cover 23 = .ok (.ireturn, 1) := by decide +kernel
theorem dX10_cover_24 : decode cX10_cover 24 = .ok (.aload_n 0, 1) := by decide +kernel
theorem dX10_cover_25 : decode cX10_cover 25 = .ok (.iload_n 1, 1) := by decide +kernel
theorem dX10_cover_26 : decode cX10_cover 26 = .ok (.aload_n 0, 1) := by decide +kernel
theorem dX10_cover_27 : decode cX10_cover 27 = .ok (.iload_n 1, 1) := by decide +kernel
theorem dX10_cover_28 : decode cX10_cover 28 = .ok (.invokevirtual 176, 3) := by decide +kernel
theorem dX10_cover_31 : decode cX10_cover 31 = .ok (.invokevirtual 188, 3) := by decide +kernel
theorem dX10_cover_34 : decode cX10_cover 34 = .ok (.aload_n 0, 1) := by decide +kernel
theorem dX10_cover_35 : decode cX10_cover 35 = .ok (.getfield 43, 3) := by decide +kernel
theorem dX10_cover_38 : decode cX10_cover 38 = .ok (.iload_n 2, 1) := by decide +kernel
theorem dX10_cover_39 : decode cX10_cover 39 = .ok (.iaload, 1) := by decide +kernel
theorem dX10_cover_40 : decode cX10_cover 40 = .ok (.ireturn, 1) := by decide +kernel
theorem dX10_factorOf_0 : decode cX10_factorOf 0 = .ok (.sipush (-999), 3) := by decide +kernel
theorem dX10_factorOf_3 : decode cX10_factorOf 3 = .ok (.istore 4, 2) := by decide +kernel
theorem dX10_factorOf_5 : decode cX10_factorOf 5 = .ok (.iconst 0, 1) := by decide +kernel
theorem dX10_factorOf_6 : decode cX10_factorOf 6 = .ok (.istore 5, 2) := by decide +kernel
theorem dX10_factorOf_8 : decode cX10_factorOf 8 = .ok (.iload 5, 2) := by decide +kernel
theorem dX10_factorOf_10 : decode cX10_factorOf 10 = .ok (.aload_n 0, 1) := by decide +kernel
theorem dX10_factorOf_11 : decode cX10_factorOf 11 = .ok (.iload_n 1, 1) := by decide +kernel
theorem dX10_factorOf_12 : decode cX10_factorOf 12 = .ok (.invokevirtual 58, 3) := by decide +kernel
theorem dX10_factorOf_15 : decode cX10_factorOf 15 = .ok (.if_icmp .ge 44, 3) := by decide +kernel
theorem dX10_factorOf_18 : decode cX10_factorOf 18 = .ok (.aload_n 0, 1) := by decide +kernel
theorem dX10_factorOf_19 : decode cX10_factorOf 19 = .ok (.iload_n 1, 1) := by decide +kernel
theorem dX10_factorOf_20 : decode cX10_factorOf 20 = .ok (.iload 5, 2) := by decide +kernel
theorem dX10_factorOf_22 : decode cX10_factorOf 22 = .ok (.iload_n 2, 1) := by decide +kernel
theorem dX10_factorOf_23 : decode cX10_factorOf 23 = .ok (.invokevirtual 73, 3) := by decide +kernel
theorem dX10_factorOf_26 : decode cX10_factorOf 26 = .ok (.aload_n 0, 1) := by decide +kernel
theorem dX10_factorOf_27 : decode cX10_factorOf 27 = .ok (.iload_n 1, 1) := by decide +kernel
theorem dX10_factorOf_28 : decode cX10_factorOf 28 = .ok (.iload 5, 2) := by decide +kernel
theorem dX10_factorOf_30 : decode cX10_factorOf 30 = .ok (.iload_n 3, 1) := by decide +kernel
theorem dX10_factorOf_31 : decode cX10_factorOf 31 = .ok (.invokevirtual 73, 3) := by decide +kernel
theorem dX10_factorOf_34 : decode cX10_factorOf 34 = .ok (.isub, 1) := by decide +kernel
theorem dX10_factorOf_35 : decode cX10_factorOf 35 = .ok (.istore 6, 2) := by decide +kernel
theorem dX10_factorOf_37 : decode cX10_factorOf 37 = .ok (.iload 6, 2) := by decide +kernel
theorem dX10_factorOf_39 : decode cX10_factorOf 39 = .ok (.iload 4, 2) := by decide +kernel
theorem dX10_factorOf_41 : decode cX10_factorOf 41 = .ok (.if_icmp .le 8, 3) := by decide +kernel
theorem dX10_factorOf_44 : decode cX10_factorOf 44 = .ok (.iload 6, 2) := by decide +kernel
theorem dX10_factorOf_46 : decode cX10_factorOf 46 = .ok (.goto 5, 3) := by decide +kernel
theorem dX10_factorOf_49 : decode cX10_factorOf 49 = .ok (.iload 4, 2) := by decide +kernel
theorem dX10_factorOf_51 : decode cX10_factorOf 51 = .ok (.istore 4, 2) := by decide +kernel
theorem dX10_factorOf_53 : decode cX10_factorOf 53 = .ok (.iinc 5 1, 3) := by decide +kernel
theorem dX10_factorOf_56 : decode cX10_factorOf 56 = .ok (.goto (-48), 3) := by decide +kernel
theorem dX10_factorOf_59 : decode cX10_factorOf 59 = .ok (.iload 4, 2) := by decide +kernel
theorem dX10_factorOf_61 : decode cX10_factorOf 61 = .ok (.ireturn, 1) := by decide +kernel
theorem dX10_missed_0 : decode cX10_missed 0 = .ok (.iconst 0, 1) := by decide +kernel
theorem dX10_missed_1 : decode cX10_missed 1 = .ok (.istore 4, 2) := by decide +kernel
theorem dX10_missed_3 : decode cX10_missed 3 = .ok (.iconst 0, 1) := by decide +kernel
theorem dX10_missed_4 : decode cX10_missed 4 = .ok (.istore 5, 2) := by decide +kernel
theorem dX10_missed_6 : decode cX10_missed 6 = .ok (.iload 5, 2) := by decide +kernel
theorem dX10_missed_8 : decode cX10_missed 8 = .ok (.aload_n 0, 1) := by decide +kernel
theorem dX10_missed_9 : decode cX10_missed 9 = .ok (.iload_n 1, 1) := by decide +kernel
theorem dX10_missed_10 : decode cX10_missed 10 = .ok (.invokevirtual 58, 3) := by decide +kernel
theorem dX10_missed_13 : decode cX10_missed 13 = .ok (.if_icmp .ge 100, 3) := by decide +kernel
theorem dX10_missed_16 : decode cX10_missed 16 = .ok (.iconst 0, 1) := by decide +kernel
theorem dX10_missed_17 : decode cX10_missed 17 = .ok (.istore 6, 2) := by decide +kernel
theorem dX10_missed_19 : decode cX10_missed 19 = .ok (.iconst 0, 1) := by decide +kernel
theorem dX10_missed_20 : decode cX10_missed 20 = .ok (.istore 7, 2) := by decide +kernel
theorem dX10_missed_22 : decode cX10_missed 22 = .ok (.iload 7, 2) := by decide +kernel
theorem dX10_missed_24 : decode cX10_missed 24 = .ok (.aload_n 0, 1) := by decide +kernel
theorem dX10_missed_25 : decode cX10_missed 25 = .ok (.iload_n 1, 1) := by decide +kernel
theorem dX10_missed_26 : decode cX10_missed 26 = .ok (.invokevirtual 62, 3) := by decide +kernel
theorem dX10_missed_29 : decode cX10_missed 29 = .ok (.if_icmp .ge 60, 3) := by decide +kernel
theorem dX10_missed_32 : decode cX10_missed 32 = .ok (.iload 6, 2) := by decide +kernel
theorem dX10_missed_34 : decode cX10_missed 34 = .ok (.ifCond .ne 42, 3) := by decide +kernel
theorem dX10_missed_37 : decode cX10_missed 37 = .ok (.iload_n 3, 1) := by decide +kernel
theorem dX10_missed_38 : decode cX10_missed 38 = .ok (.iload 7, 2) := by decide +kernel
theorem dX10_missed_40 : decode cX10_missed 40 = .ok (.ishr, 1) := by decide +kernel
theorem dX10_missed_41 : decode cX10_missed 41 = .ok (.iconst 1, 1) := by decide +kernel
theorem dX10_missed_42 : decode cX10_missed 42 = .ok (.iand, 1) := by decide +kernel
theorem dX10_missed_43 : decode cX10_missed 43 = .ok (.iconst 1, 1) := by decide +kernel
theorem dX10_missed_44 : decode cX10_missed 44 = .ok (.if_icmp .ne 36, 3) := by decide +kernel
theorem dX10_missed_47 : decode cX10_missed 47 = .ok (.aload_n 0, 1) := by decide +kernel
theorem dX10_missed_48 : decode cX10_missed 48 = .ok (.iload_n 1, 1) := by decide +kernel
theorem dX10_missed_49 : decode cX10_missed 49 = .ok (.iload_n 2, 1) := by decide +kernel
theorem dX10_missed_50 : decode cX10_missed 50 = .ok (.iload 7, 2) := by decide +kernel
theorem dX10_missed_52 : decode cX10_missed 52 = .ok (.invokevirtual 192, 3) := by decide +kernel
theorem dX10_missed_55 : decode cX10_missed 55 = .ok (.aload_n 0, 1) := by decide +kernel
theorem dX10_missed_56 : decode cX10_missed 56 = .ok (.iload_n 1, 1) := by decide +kernel
theorem dX10_missed_57 : decode cX10_missed 57 = .ok (.iload 5, 2) := by decide +kernel
theorem dX10_missed_59 : decode cX10_missed 59 = .ok (.iload 7, 2) := by decide +kernel
theorem dX10_missed_61 : decode cX10_missed 61 = .ok (.invokevirtual 73, 3) := by decide +kernel
theorem dX10_missed_64 : decode cX10_missed 64 = .ok (.iadd, 1) := by decide +kernel
theorem dX10_missed_65 : decode cX10_missed 65 = .ok (.aload_n 0, 1) := by decide +kernel
theorem dX10_missed_66 : decode cX10_missed 66 = .ok (.iload_n 1, 1) := by decide +kernel
theorem dX10_missed_67 : decode cX10_missed 67 = .ok (.iload 5, 2) := by decide +kernel
theorem dX10_missed_69 : decode cX10_missed 69 = .ok (.iload_n 2, 1) := by decide +kernel
theorem dX10_missed_70 : decode cX10_missed 70 = .ok (.invokevirtual 73, 3) := by decide +kernel
theorem dX10_missed_73 : decode cX10_missed 73 = .ok (.if_icmp .ne 7, 3) := by decide +kernel
theorem dX10_missed_76 : decode cX10_missed 76 = .ok (.iconst 1, 1) := by decide +kernel
theorem dX10_missed_77 : decode cX10_missed 77 = .ok (.goto 4, 3) := by decide +kernel
theorem dX10_missed_80 : decode cX10_missed 80 = .ok (.iconst 0, 1) := by decide +kernel
theorem dX10_missed_81 : decode cX10_missed 81 = .ok (.istore 6, 2) := by decide +kernel
theorem dX10_missed_83 : decode cX10_missed 83 = .ok (.iinc 7 1, 3) := by decide +kernel
theorem dX10_missed_86 : decode cX10_missed 86 = .ok (.goto (-64), 3) := by decide +kernel
theorem dX10_missed_89 : decode cX10_missed 89 = .ok (.iload 4, 2) := by decide +kernel
theorem dX10_missed_91 : decode cX10_missed 91 = .ok (.iload 6, 2) := by decide +kernel
theorem dX10_missed_93 : decode cX10_missed 93 = .ok (.ifCond .eq 7, 3) := by decide +kernel
theorem dX10_missed_96 : decode cX10_missed 96 = .ok (.iconst 0, 1) := by decide +kernel
theorem dX10_missed_97 : decode cX10_missed 97 = .ok (.goto 7, 3) := by decide +kernel
theorem dX10_missed_100 : decode cX10_missed 100 = .ok (.iconst 1, 1) := by decide +kernel
theorem dX10_missed_101 : decode cX10_missed 101 = .ok (.iload 5, 2) := by decide +kernel
theorem dX10_missed_103 : decode cX10_missed 103 = .ok (.ishl, 1) := by decide +kernel
theorem dX10_missed_104 : decode cX10_missed 104 = .ok (.ior, 1) := by decide +kernel
theorem dX10_missed_105 : decode cX10_missed 105 = .ok (.istore 4, 2) := by decide +kernel
theorem dX10_missed_107 : decode cX10_missed 107 = .ok (.iinc 5 1, 3) := by decide +kernel
theorem dX10_missed_110 : decode cX10_missed 110 = .ok (.goto (-104), 3) := by decide +kernel
theorem dX10_missed_113 : decode cX10_missed 113 = .ok (.iload 4, 2) := by decide +kernel
theorem dX10_missed_115 : decode cX10_missed 115 = .ok (.ireturn, 1) := by decide +kernel
theorem dX10_cone_0 : decode cX10_cone 0 = .ok (.iload_n 1, 1) := by decide +kernel
theorem dX10_cone_1 : decode cX10_cone 1 = .ok (.invokestatic 65, 3) := by decide +kernel
theorem dX10_cone_4 : decode cX10_cone 4 = .ok (.ifCond .eq 18, 3) := by decide +kernel
theorem dX10_cone_7 : decode cX10_cone 7 = .ok (.iload_n 2, 1) := by decide +kernel
theorem dX10_cone_8 : decode cX10_cone 8 = .ok (.iconst 0, 1) := by decide +kernel
theorem dX10_cone_9 : decode cX10_cone 9 = .ok (.aload_n 0, 1) := by decide +kernel
theorem dX10_cone_10 : decode cX10_cone 10 = .ok (.iload_n 1, 1) := by decide +kernel
theorem dX10_cone_11 : decode cX10_cone 11 = .ok (.invokevirtual 62, 3) := by decide +kernel
theorem dX10_cone_14 : decode cX10_cone 14 = .ok (.iconst 1, 1) := by decide +kernel
theorem dX10_cone_15 : decode cX10_cone 15 = .ok (.isub, 1) := by decide +kernel
theorem dX10_cone_16 : decode cX10_cone 16 = .ok (.invokestatic 54, 3) := by decide +kernel
theorem dX10_cone_19 : decode cX10_cone 19 = .ok (.ifCond .ne 5, 3) := by decide +kernel
theorem dX10_cone_22 : decode cX10_cone 22 = .ok (.iconst (-1), 1) := by decide +kernel
theorem dX10_cone_23 : decode cX10_cone 23 = .ok (.ireturn, 1) := by decide +kernel
theorem dX10_cone_24 : decode cX10_cone 24 = .ok (.iload_n 3, 1) := by decide +kernel
theorem dX10_cone_25 : decode cX10_cone 25 = .ok (.iconst 0, 1) := by decide +kernel
theorem dX10_cone_26 : decode cX10_cone 26 = .ok (.iconst 1, 1) := by decide +kernel
theorem dX10_cone_27 : decode cX10_cone 27 = .ok (.aload_n 0, 1) := by decide +kernel
theorem dX10_cone_28 : decode cX10_cone 28 = .ok (.iload_n 1, 1) := by decide +kernel
theorem dX10_cone_29 : decode cX10_cone 29 = .ok (.invokevirtual 62, 3) := by decide +kernel
theorem dX10_cone_32 : decode cX10_cone 32 = .ok (.ishl, 1) := by decide +kernel
theorem dX10_cone_33 : decode cX10_cone 33 = .ok (.iconst 1, 1) := by decide +kernel
theorem dX10_cone_34 : decode cX10_cone 34 = .ok (.isub, 1) := by decide +kernel
theorem dX10_cone_35 : decode cX10_cone 35 = .ok (.invokestatic 54, 3) := by decide +kernel
theorem dX10_cone_38 : decode cX10_cone 38 = .ok (.ifCond .eq 22, 3) := by decide +kernel
theorem dX10_cone_41 : decode cX10_cone 41 = .ok (.iload_n 3, 1) := by decide +kernel
theorem dX10_cone_42 : decode cX10_cone 42 = .ok (.iload_n 2, 1) := by decide +kernel
theorem dX10_cone_43 : decode cX10_cone 43 = .ok (.ishr, 1) := by decide +kernel
theorem dX10_cone_44 : decode cX10_cone 44 = .ok (.iconst 1, 1) := by decide +kernel
theorem dX10_cone_45 : decode cX10_cone 45 = .ok (.iand, 1) := by decide +kernel
theorem dX10_cone_46 : decode cX10_cone 46 = .ok (.iconst 1, 1) := by decide +kernel
theorem dX10_cone_47 : decode cX10_cone 47 = .ok (.if_icmp .eq 13, 3) := by decide +kernel
theorem dX10_cone_50 : decode cX10_cone 50 = .ok (.iload 4, 2) := by decide +kernel
theorem dX10_cone_52 : decode cX10_cone 52 = .ok (.iconst 0, 1) := by decide +kernel
theorem dX10_cone_53 : decode cX10_cone 53 = .ok (.iconst 1, 1) := by decide +kernel
theorem dX10_cone_54 : decode cX10_cone 54 = .ok (.invokestatic 54, 3) := by decide +kernel
theorem dX10_cone_57 : decode cX10_cone 57 = .ok (.ifCond .ne 6, 3) := by decide +kernel
theorem dX10_cone_60 : decode cX10_cone 60 = .ok (.bipush (-2), 2) := by decide +kernel
theorem dX10_cone_62 : decode cX10_cone 62 = .ok (.ireturn, 1) := by decide +kernel
theorem dX10_cone_63 : decode cX10_cone 63 = .ok (.aload_n 0, 1) := by decide +kernel
theorem dX10_cone_64 : decode cX10_cone 64 = .ok (.iload_n 1, 1) := by decide +kernel
theorem dX10_cone_65 : decode cX10_cone 65 = .ok (.iload_n 2, 1) := by decide +kernel
theorem dX10_cone_66 : decode cX10_cone 66 = .ok (.iload_n 3, 1) := by decide +kernel
theorem dX10_cone_67 : decode cX10_cone 67 = .ok (.invokevirtual 195, 3) := by decide +kernel
theorem dX10_cone_70 : decode cX10_cone 70 = .ok (.istore 5, 2) := by decide +kernel
theorem dX10_cone_72 : decode cX10_cone 72 = .ok (.iload 4, 2) := by decide +kernel
theorem dX10_cone_74 : decode cX10_cone 74 = .ok (.iconst 1, 1) := by decide +kernel
theorem dX10_cone_75 : decode cX10_cone 75 = .ok (.if_icmp .ne 8, 3) := by decide +kernel
theorem dX10_cone_78 : decode cX10_cone 78 = .ok (.iload 5, 2) := by decide +kernel
theorem dX10_cone_80 : decode cX10_cone 80 = .ok (.goto 13, 3) := by decide +kernel
theorem dX10_cone_83 : decode cX10_cone 83 = .ok (.iload 5, 2) := by decide +kernel
theorem dX10_cone_85 : decode cX10_cone 85 = .ok (.ifCond .ne 7, 3) := by decide +kernel
theorem dX10_cone_88 : decode cX10_cone 88 = .ok (.iconst 1, 1) := by decide +kernel
theorem dX10_cone_89 : decode cX10_cone 89 = .ok (.goto 4, 3) := by decide +kernel
theorem dX10_cone_92 : decode cX10_cone 92 = .ok (.iconst 0, 1) := by decide +kernel
theorem dX10_cone_93 : decode cX10_cone 93 = .ok (.ireturn, 1) := by decide +kernel
theorem dX10_factor_0 : decode cX10_factor 0 = .ok (.aload_n 0, 1) := by decide +kernel
theorem dX10_factor_1 : decode cX10_factor 1 = .ok (.iload_n 1, 1) := by decide +kernel
theorem dX10_factor_2 : decode cX10_factor 2 = .ok (.iconst 0, 1) := by decide +kernel
theorem dX10_factor_3 : decode cX10_factor 3 = .ok (.iload_n 2, 1) := by decide +kernel
theorem dX10_factor_4 : decode cX10_factor 4 = .ok (.invokevirtual 114, 3) := by decide +kernel
theorem dX10_factor_7 : decode cX10_factor 7 = .ok (.ifCond .eq 13, 3) := by decide +kernel
theorem dX10_factor_10 : decode cX10_factor 10 = .ok (.aload_n 0, 1) := by decide +kernel
theorem dX10_factor_11 : decode cX10_factor 11 = .ok (.iload_n 1, 1) := by decide +kernel
theorem dX10_factor_12 : decode cX10_factor 12 = .ok (.iconst 0, 1) := by decide +kernel
theorem dX10_factor_13 : decode cX10_factor 13 = .ok (.iload_n 3, 1) := by decide +kernel
theorem dX10_factor_14 : decode cX10_factor 14 = .ok (.invokevirtual 114, 3) := by decide +kernel
theorem dX10_factor_17 : decode cX10_factor 17 = .ok (.ifCond .ne 5, 3) := by decide +kernel
theorem dX10_factor_20 : decode cX10_factor 20 = .ok (.iconst (-1), 1) := by decide +kernel
theorem dX10_factor_21 : decode cX10_factor 21 = .ok (.ireturn, 1) := by decide +kernel
theorem dX10_factor_22 : decode cX10_factor 22 = .ok (.iload_n 2, 1) := by decide +kernel
theorem dX10_factor_23 : decode cX10_factor 23 = .ok (.iload_n 3, 1) := by decide +kernel
theorem dX10_factor_24 : decode cX10_factor 24 = .ok (.if_icmp .ne 8, 3) := by decide +kernel
theorem dX10_factor_27 : decode cX10_factor 27 = .ok (.bipush (-2), 2) := by decide +kernel
theorem dX10_factor_29 : decode cX10_factor 29 = .ok (.goto 14, 3) := by decide +kernel
theorem dX10_factor_32 : decode cX10_factor 32 = .ok (.aload_n 0, 1) := by decide +kernel
theorem dX10_factor_33 : decode cX10_factor 33 = .ok (.iload_n 1, 1) := by decide +kernel
theorem dX10_factor_34 : decode cX10_factor 34 = .ok (.iload_n 2, 1) := by decide +kernel
theorem dX10_factor_35 : decode cX10_factor 35 = .ok (.iload_n 3, 1) := by decide +kernel
theorem dX10_factor_36 : decode cX10_factor 36 = .ok (.invokevirtual 192, 3) := by decide +kernel
theorem dX10_factor_39 : decode cX10_factor 39 = .ok (.sipush 1000, 3) := by decide +kernel
theorem dX10_factor_42 : decode cX10_factor 42 = .ok (.iadd, 1) := by decide +kernel
theorem dX10_factor_43 : decode cX10_factor 43 = .ok (.ireturn, 1) := by decide +kernel
theorem dX10_staying_0 : decode cX10_staying 0 = .ok (.iconst 1, 1) := by decide +kernel
theorem dX10_staying_1 : decode cX10_staying 1 = .ok (.aload_n 0, 1) := by decide +kernel
theorem dX10_staying_2 : decode cX10_staying 2 = .ok (.iload_n 1, 1) := by decide +kernel
theorem dX10_staying_3 : decode cX10_staying 3 = .ok (.invokevirtual 62, 3) := by decide +kernel
theorem dX10_staying_6 : decode cX10_staying 6 = .ok (.ishl, 1) := by decide +kernel
theorem dX10_staying_7 : decode cX10_staying 7 = .ok (.iconst 1, 1) := by decide +kernel
theorem dX10_staying_8 : decode cX10_staying 8 = .ok (.isub, 1) := by decide +kernel
theorem dX10_staying_9 : decode cX10_staying 9 = .ok (.istore_n 2, 1) := by decide +kernel
theorem dX10_staying_10 : decode cX10_staying 10 = .ok (.iconst 0, 1) := by decide +kernel
theorem dX10_staying_11 : decode cX10_staying 11 = .ok (.istore_n 3, 1) := by decide +kernel
theorem dX10_staying_12 : decode cX10_staying 12 = .ok (.iload_n 3, 1) := by decide +kernel
theorem dX10_staying_13 : decode cX10_staying 13 = .ok (.aload_n 0, 1) := by decide +kernel
theorem dX10_staying_14 : decode cX10_staying 14 = .ok (.iload_n 1, 1) := by decide +kernel
theorem dX10_staying_15 : decode cX10_staying 15 = .ok (.invokevirtual 62, 3) := by decide +kernel
theorem dX10_staying_18 : decode cX10_staying 18 = .ok (.if_icmp .ge 36, 3) := by decide +kernel
theorem dX10_staying_21 : decode cX10_staying 21 = .ok (.iload_n 2, 1) := by decide +kernel
theorem dX10_staying_22 : decode cX10_staying 22 = .ok (.iconst 1, 1) := by decide +kernel
theorem dX10_staying_23 : decode cX10_staying 23 = .ok (.iload_n 3, 1) := by decide +kernel
theorem dX10_staying_24 : decode cX10_staying 24 = .ok (.ishl, 1) := by decide +kernel
theorem dX10_staying_25 : decode cX10_staying 25 = .ok (.iconst (-1), 1) := by decide +kernel
theorem dX10_staying_26 : decode cX10_staying 26 = .ok (.ixor, 1) := by decide +kernel
theorem dX10_staying_27 : decode cX10_staying 27 = .ok (.iand, 1) := by decide +kernel
theorem dX10_staying_28 : decode cX10_staying 28 = .ok (.istore 4, 2) := by decide +kernel
theorem dX10_staying_30 : decode cX10_staying 30 = .ok (.aload_n 0, 1) := by decide +kernel
theorem dX10_staying_31 : decode cX10_staying 31 = .ok (.iload_n 1, 1) := by decide +kernel
theorem dX10_staying_32 : decode cX10_staying 32 = .ok (.iload_n 3, 1) := by decide +kernel
theorem dX10_staying_33 : decode cX10_staying 33 = .ok (.iload 4, 2) := by decide +kernel
theorem dX10_staying_35 : decode cX10_staying 35 = .ok (.invokevirtual 195, 3) := by decide +kernel
theorem dX10_staying_38 : decode cX10_staying 38 = .ok (.ifCond .ne 8, 3) := by decide +kernel
theorem dX10_staying_41 : decode cX10_staying 41 = .ok (.iload 4, 2) := by decide +kernel
theorem dX10_staying_43 : decode cX10_staying 43 = .ok (.goto 4, 3) := by decide +kernel
theorem dX10_staying_46 : decode cX10_staying 46 = .ok (.iload_n 2, 1) := by decide +kernel
theorem dX10_staying_47 : decode cX10_staying 47 = .ok (.istore_n 2, 1) := by decide +kernel
theorem dX10_staying_48 : decode cX10_staying 48 = .ok (.iinc 3 1, 3) := by decide +kernel
theorem dX10_staying_51 : decode cX10_staying 51 = .ok (.goto (-39), 3) := by decide +kernel
theorem dX10_staying_54 : decode cX10_staying 54 = .ok (.iload_n 2, 1) := by decide +kernel
theorem dX10_staying_55 : decode cX10_staying 55 = .ok (.ireturn, 1) := by decide +kernel
theorem dX10_stayingBy_0 : decode cX10_stayingBy 0 = .ok (.iload_n 2, 1) := by decide +kernel
theorem dX10_stayingBy_1 : decode cX10_stayingBy 1 = .ok (.ifCond .ne 9, 3) := by decide +kernel
theorem dX10_stayingBy_4 : decode cX10_stayingBy 4 = .ok (.aload_n 0, 1) := by decide +kernel
theorem dX10_stayingBy_5 : decode cX10_stayingBy 5 = .ok (.iload_n 1, 1) := by decide +kernel
theorem dX10_stayingBy_6 : decode cX10_stayingBy 6 = .ok (.invokevirtual 198, 3) := by decide +kernel
theorem dX10_stayingBy_9 : decode cX10_stayingBy 9 = .ok (.ireturn, 1) := by decide +kernel
theorem dX10_stayingBy_10 : decode cX10_stayingBy 10 = .ok (.aload_n 0, 1) := by decide +kernel
theorem dX10_stayingBy_11 : decode cX10_stayingBy 11 = .ok (.iload_n 1, 1) := by decide +kernel
theorem dX10_stayingBy_12 : decode cX10_stayingBy 12 = .ok (.invokevirtual 133, 3) := by decide +kernel
theorem dX10_stayingBy_15 : decode cX10_stayingBy 15 = .ok (.aload_n 0, 1) := by decide +kernel
theorem dX10_stayingBy_16 : decode cX10_stayingBy 16 = .ok (.iload_n 1, 1) := by decide +kernel
theorem dX10_stayingBy_17 : decode cX10_stayingBy 17 = .ok (.invokevirtual 198, 3) := by decide +kernel
theorem dX10_stayingBy_20 : decode cX10_stayingBy 20 = .ok (.istore_n 3, 1) := by decide +kernel
theorem dX10_stayingBy_21 : decode cX10_stayingBy 21 = .ok (.aload_n 0, 1) := by decide +kernel
theorem dX10_stayingBy_22 : decode cX10_stayingBy 22 = .ok (.iload_n 1, 1) := by decide +kernel
theorem dX10_stayingBy_23 : decode cX10_stayingBy 23 = .ok (.invokevirtual 133, 3) := by decide +kernel
theorem dX10_stayingBy_26 : decode cX10_stayingBy 26 = .ok (.iload_n 3, 1) := by decide +kernel
theorem dX10_stayingBy_27 : decode cX10_stayingBy 27 = .ok (.ireturn, 1) := by decide +kernel
theorem dX10_byCone_0 : decode cX10_byCone 0 = .ok (.iload_n 1, 1) := by decide +kernel
theorem dX10_byCone_1 : decode cX10_byCone 1 = .ok (.invokestatic 65, 3) := by decide +kernel
theorem dX10_byCone_4 : decode cX10_byCone 4 = .ok (.ifCond .ne 5, 3) := by decide +kernel
theorem dX10_byCone_7 : decode cX10_byCone 7 = .ok (.iconst (-1), 1) := by decide +kernel
theorem dX10_byCone_8 : decode cX10_byCone 8 = .ok (.ireturn, 1) := by decide +kernel
theorem dX10_byCone_9 : decode cX10_byCone 9 = .ok (.iload_n 3, 1) := by decide +kernel
theorem dX10_byCone_10 : decode cX10_byCone 10 = .ok (.iconst 0, 1) := by decide +kernel
theorem dX10_byCone_11 : decode cX10_byCone 11 = .ok (.iconst 1, 1) := by decide +kernel
theorem dX10_byCone_12 : decode cX10_byCone 12 = .ok (.invokestatic 54, 3) := by decide +kernel
theorem dX10_byCone_15 : decode cX10_byCone 15 = .ok (.ifCond .ne 6, 3) := by decide +kernel
theorem dX10_byCone_18 : decode cX10_byCone 18 = .ok (.bipush (-2), 2) := by decide +kernel
theorem dX10_byCone_20 : decode cX10_byCone 20 = .ok (.ireturn, 1) := by decide +kernel
theorem dX10_byCone_21 : decode cX10_byCone 21 = .ok (.aload_n 0, 1) := by decide +kernel
theorem dX10_byCone_22 : decode cX10_byCone 22 = .ok (.iload_n 1, 1) := by decide +kernel
theorem dX10_byCone_23 : decode cX10_byCone 23 = .ok (.iload_n 2, 1) := by decide +kernel
theorem dX10_byCone_24 : decode cX10_byCone 24 = .ok (.invokevirtual 201, 3) := by decide +kernel
theorem dX10_byCone_27 : decode cX10_byCone 27 = .ok (.istore 4, 2) := by decide +kernel
theorem dX10_byCone_29 : decode cX10_byCone 29 = .ok (.iload_n 3, 1) := by decide +kernel
theorem dX10_byCone_30 : decode cX10_byCone 30 = .ok (.ifCond .ne 11, 3) := by decide +kernel
theorem dX10_byCone_33 : decode cX10_byCone 33 = .ok (.iload 4, 2) := by decide +kernel
theorem dX10_byCone_35 : decode cX10_byCone 35 = .ok (.invokestatic 143, 3) := by decide +kernel
theorem dX10_byCone_38 : decode cX10_byCone 38 = .ok (.goto 5, 3) := by decide +kernel
theorem dX10_byCone_41 : decode cX10_byCone 41 = .ok (.iload 4, 2) := by decide +kernel
theorem dX10_byCone_43 : decode cX10_byCone 43 = .ok (.ireturn, 1) := by decide +kernel
theorem dX10_arrayOf_0 : decode cX10_arrayOf 0 = .ok (.iload_n 1, 1) := by decide +kernel
theorem dX10_arrayOf_1 : decode cX10_arrayOf 1 = .ok (.invokestatic 65, 3) := by decide +kernel
theorem dX10_arrayOf_4 : decode cX10_arrayOf 4 = .ok (.ifCond .ne 5, 3) := by decide +kernel
theorem dX10_arrayOf_7 : decode cX10_arrayOf 7 = .ok (.iconst (-1), 1) := by decide +kernel
theorem dX10_arrayOf_8 : decode cX10_arrayOf 8 = .ok (.ireturn, 1) := by decide +kernel
theorem dX10_arrayOf_9 : decode cX10_arrayOf 9 = .ok (.iload_n 2, 1) := by decide +kernel
theorem dX10_arrayOf_10 : decode cX10_arrayOf 10 = .ok (.tableswitch 64 0 4 #[34, 40, 46, 52, 58], 34) := by decide +kernel
theorem dX10_arrayOf_44 : decode cX10_arrayOf 44 = .ok (.aload_n 0, 1) := by decide +kernel
theorem dX10_arrayOf_45 : decode cX10_arrayOf 45 = .ok (.iload_n 1, 1) := by decide +kernel
theorem dX10_arrayOf_46 : decode cX10_arrayOf 46 = .ok (.invokevirtual 58, 3) := by decide +kernel
theorem dX10_arrayOf_49 : decode cX10_arrayOf 49 = .ok (.ireturn, 1) := by decide +kernel
theorem dX10_arrayOf_50 : decode cX10_arrayOf 50 = .ok (.aload_n 0, 1) := by decide +kernel
theorem dX10_arrayOf_51 : decode cX10_arrayOf 51 = .ok (.iload_n 1, 1) := by decide +kernel
theorem dX10_arrayOf_52 : decode cX10_arrayOf 52 = .ok (.invokevirtual 62, 3) := by decide +kernel
theorem dX10_arrayOf_55 : decode cX10_arrayOf 55 = .ok (.ireturn, 1) := by decide +kernel
theorem dX10_arrayOf_56 : decode cX10_arrayOf 56 = .ok (.aload_n 0, 1) := by decide +kernel
theorem dX10_arrayOf_57 : decode cX10_arrayOf 57 = .ok (.iload_n 1, 1) := by decide +kernel
theorem dX10_arrayOf_58 : decode cX10_arrayOf 58 = .ok (.invokevirtual 126, 3) := by decide +kernel
theorem dX10_arrayOf_61 : decode cX10_arrayOf 61 = .ok (.ireturn, 1) := by decide +kernel
theorem dX10_arrayOf_62 : decode cX10_arrayOf 62 = .ok (.aload_n 0, 1) := by decide +kernel
theorem dX10_arrayOf_63 : decode cX10_arrayOf 63 = .ok (.iload_n 1, 1) := by decide +kernel
theorem dX10_arrayOf_64 : decode cX10_arrayOf 64 = .ok (.invokevirtual 204, 3) := by decide +kernel
theorem dX10_arrayOf_67 : decode cX10_arrayOf 67 = .ok (.ireturn, 1) := by decide +kernel
theorem dX10_arrayOf_68 : decode cX10_arrayOf 68 = .ok (.aload_n 0, 1) := by decide +kernel
theorem dX10_arrayOf_69 : decode cX10_arrayOf 69 = .ok (.iload_n 1, 1) := by decide +kernel
theorem dX10_arrayOf_70 : decode cX10_arrayOf 70 = .ok (.invokevirtual 207, 3) := by decide +kernel
theorem dX10_arrayOf_73 : decode cX10_arrayOf 73 = .ok (.ireturn, 1) := by decide +kernel
theorem dX10_arrayOf_74 : decode cX10_arrayOf 74 = .ok (.bipush (-2), 2) := by decide +kernel
theorem dX10_arrayOf_76 : decode cX10_arrayOf 76 = .ok (.ireturn, 1) := by decide +kernel
theorem dX10_ofRings_0 : decode cX10_ofRings 0 = .ok (.aload_n 0, 1) := by decide +kernel
theorem dX10_ofRings_1 : decode cX10_ofRings 1 = .ok (.iload_n 1, 1) := by decide +kernel
theorem dX10_ofRings_2 : decode cX10_ofRings 2 = .ok (.invokevirtual 58, 3) := by decide +kernel
theorem dX10_ofRings_5 : decode cX10_ofRings 5 = .ok (.istore_n 3, 1) := by decide +kernel
theorem dX10_ofRings_6 : decode cX10_ofRings 6 = .ok (.iconst 0, 1) := by decide +kernel
theorem dX10_ofRings_7 : decode cX10_ofRings 7 = .ok (.istore 4, 2) := by decide +kernel
theorem dX10_ofRings_9 : decode cX10_ofRings 9 = .ok (.iconst 0, 1) := by decide +kernel
theorem dX10_ofRings_10 : decode cX10_ofRings 10 = .ok (.istore 5, 2) := by decide +kernel
theorem dX10_ofRings_12 : decode cX10_ofRings 12 = .ok (.iconst 0, 1) := by decide +kernel
theorem dX10_ofRings_13 : decode cX10_ofRings 13 = .ok (.istore 6, 2) := by decide +kernel
theorem dX10_ofRings_15 : decode cX10_ofRings 15 = .ok (.iconst 0, 1) := by decide +kernel
theorem dX10_ofRings_16 : decode cX10_ofRings 16 = .ok (.istore 7, 2) := by decide +kernel
theorem dX10_ofRings_18 : decode cX10_ofRings 18 = .ok (.iload 7, 2) := by decide +kernel
theorem dX10_ofRings_20 : decode cX10_ofRings 20 = .ok (.iload_n 3, 1) := by decide +kernel
theorem dX10_ofRings_21 : decode cX10_ofRings 21 = .ok (.iload_n 3, 1) := by decide +kernel
theorem dX10_ofRings_22 : decode cX10_ofRings 22 = .ok (.iload_n 3, 1) := by decide +kernel
theorem dX10_ofRings_23 : decode cX10_ofRings 23 = .ok (.imul, 1) := by decide +kernel
theorem dX10_ofRings_24 : decode cX10_ofRings 24 = .ok (.iadd, 1) := by decide +kernel
theorem dX10_ofRings_25 : decode cX10_ofRings 25 = .ok (.iload_n 3, 1) := by decide +kernel
theorem dX10_ofRings_26 : decode cX10_ofRings 26 = .ok (.iload_n 3, 1) := by decide +kernel
theorem dX10_ofRings_27 : decode cX10_ofRings 27 = .ok (.imul, 1) := by decide +kernel
theorem dX10_ofRings_28 : decode cX10_ofRings 28 = .ok (.iload_n 3, 1) := by decide +kernel
theorem dX10_ofRings_29 : decode cX10_ofRings 29 = .ok (.imul, 1) := by decide +kernel
theorem dX10_ofRings_30 : decode cX10_ofRings 30 = .ok (.iadd, 1) := by decide +kernel
theorem dX10_ofRings_31 : decode cX10_ofRings 31 = .ok (.if_icmp .ge 278, 3) := by decide +kernel
theorem dX10_ofRings_34 : decode cX10_ofRings 34 = .ok (.iload 7, 2) := by decide +kernel
theorem dX10_ofRings_36 : decode cX10_ofRings 36 = .ok (.iload_n 3, 1) := by decide +kernel
theorem dX10_ofRings_37 : decode cX10_ofRings 37 = .ok (.if_icmp .ge 7, 3) := by decide +kernel
theorem dX10_ofRings_40 : decode cX10_ofRings 40 = .ok (.iconst 1, 1) := by decide +kernel
theorem dX10_ofRings_41 : decode cX10_ofRings 41 = .ok (.goto 18, 3) := by decide +kernel
theorem dX10_ofRings_44 : decode cX10_ofRings 44 = .ok (.iload 7, 2) := by decide +kernel
theorem dX10_ofRings_46 : decode cX10_ofRings 46 = .ok (.iload_n 3, 1) := by decide +kernel
theorem dX10_ofRings_47 : decode cX10_ofRings 47 = .ok (.iload_n 3, 1) := by decide +kernel
theorem dX10_ofRings_48 : decode cX10_ofRings 48 = .ok (.iload_n 3, 1) := by decide +kernel
theorem dX10_ofRings_49 : decode cX10_ofRings 49 = .ok (.imul, 1) := by decide +kernel
theorem dX10_ofRings_50 : decode cX10_ofRings 50 = .ok (.iadd, 1) := by decide +kernel
theorem dX10_ofRings_51 : decode cX10_ofRings 51 = .ok (.if_icmp .ge 7, 3) := by decide +kernel
theorem dX10_ofRings_54 : decode cX10_ofRings 54 = .ok (.iconst 2, 1) := by decide +kernel
theorem dX10_ofRings_55 : decode cX10_ofRings 55 = .ok (.goto 4, 3) := by decide +kernel
theorem dX10_ofRings_58 : decode cX10_ofRings 58 = .ok (.iconst 3, 1) := by decide +kernel
theorem dX10_ofRings_59 : decode cX10_ofRings 59 = .ok (.istore 8, 2) := by decide +kernel
theorem dX10_ofRings_61 : decode cX10_ofRings 61 = .ok (.iload 7, 2) := by decide +kernel
theorem dX10_ofRings_63 : decode cX10_ofRings 63 = .ok (.iload 8, 2) := by decide +kernel
theorem dX10_ofRings_65 : decode cX10_ofRings 65 = .ok (.iconst 1, 1) := by decide +kernel
theorem dX10_ofRings_66 : decode cX10_ofRings 66 = .ok (.if_icmp .le 7, 3) := by decide +kernel
theorem dX10_ofRings_69 : decode cX10_ofRings 69 = .ok (.iload_n 3, 1) := by decide +kernel
theorem dX10_ofRings_70 : decode cX10_ofRings 70 = .ok (.goto 4, 3) := by decide +kernel
theorem dX10_ofRings_73 : decode cX10_ofRings 73 = .ok (.iconst 0, 1) := by decide +kernel
theorem dX10_ofRings_74 : decode cX10_ofRings 74 = .ok (.isub, 1) := by decide +kernel
theorem dX10_ofRings_75 : decode cX10_ofRings 75 = .ok (.iload 8, 2) := by decide +kernel
theorem dX10_ofRings_77 : decode cX10_ofRings 77 = .ok (.iconst 2, 1) := by decide +kernel
theorem dX10_ofRings_78 : decode cX10_ofRings 78 = .ok (.if_icmp .le 9, 3) := by decide +kernel
theorem dX10_ofRings_81 : decode cX10_ofRings 81 = .ok (.iload_n 3, 1) := by decide +kernel
theorem dX10_ofRings_82 : decode cX10_ofRings 82 = .ok (.iload_n 3, 1) := by decide +kernel
theorem dX10_ofRings_83 : decode cX10_ofRings 83 = .ok (.imul, 1) := by decide +kernel
theorem dX10_ofRings_84 : decode cX10_ofRings 84 = .ok (.goto 4, 3) := by decide +kernel
theorem dX10_ofRings_87 : decode cX10_ofRings 87 = .ok (.iconst 0, 1) := by decide +kernel
theorem dX10_ofRings_88 : decode cX10_ofRings 88 = .ok (.isub, 1) := by decide +kernel
theorem dX10_ofRings_89 : decode cX10_ofRings 89 = .ok (.istore 9, 2) := by decide +kernel
theorem dX10_ofRings_91 : decode cX10_ofRings 91 = .ok (.iload 9, 2) := by decide +kernel
theorem dX10_ofRings_93 : decode cX10_ofRings 93 = .ok (.iload_n 3, 1) := by decide +kernel
theorem dX10_ofRings_94 : decode cX10_ofRings 94 = .ok (.irem, 1) := by decide +kernel
theorem dX10_ofRings_95 : decode cX10_ofRings 95 = .ok (.istore 10, 2) := by decide +kernel
theorem dX10_ofRings_97 : decode cX10_ofRings 97 = .ok (.iload 9, 2) := by decide +kernel
theorem dX10_ofRings_99 : decode cX10_ofRings 99 = .ok (.iload_n 3, 1) := by decide +kernel
theorem dX10_ofRings_100 : decode cX10_ofRings 100 = .ok (.idiv, 1) := by decide +kernel
theorem dX10_ofRings_101 : decode cX10_ofRings 101 = .ok (.iload_n 3, 1) := by decide +kernel
theorem dX10_ofRings_102 : decode cX10_ofRings 102 = .ok (.irem, 1) := by decide +kernel
theorem dX10_ofRings_103 : decode cX10_ofRings 103 = .ok (.istore 11, 2) := by decide +kernel
theorem dX10_ofRings_105 : decode cX10_ofRings 105 = .ok (.iload 9, 2) := by decide +kernel
theorem dX10_ofRings_107 : decode cX10_ofRings 107 = .ok (.iload_n 3, 1) := by decide +kernel
theorem dX10_ofRings_108 : decode cX10_ofRings 108 = .ok (.idiv, 1) := by decide +kernel
theorem dX10_ofRings_109 : decode cX10_ofRings 109 = .ok (.iload_n 3, 1) := by decide +kernel
theorem dX10_ofRings_110 : decode cX10_ofRings 110 = .ok (.idiv, 1) := by decide +kernel
theorem dX10_ofRings_111 : decode cX10_ofRings 111 = .ok (.istore 12, 2) := by decide +kernel
theorem dX10_ofRings_113 : decode cX10_ofRings 113 = .ok (.iload 8, 2) := by decide +kernel
theorem dX10_ofRings_115 : decode cX10_ofRings 115 = .ok (.iconst 1, 1) := by decide +kernel
theorem dX10_ofRings_116 : decode cX10_ofRings 116 = .ok (.if_icmp .eq 30, 3) := by decide +kernel
theorem dX10_ofRings_119 : decode cX10_ofRings 119 = .ok (.iload 10, 2) := by decide +kernel
theorem dX10_ofRings_121 : decode cX10_ofRings 121 = .ok (.iload 11, 2) := by decide +kernel
theorem dX10_ofRings_123 : decode cX10_ofRings 123 = .ok (.if_icmp .ge 27, 3) := by decide +kernel
theorem dX10_ofRings_126 : decode cX10_ofRings 126 = .ok (.iload 8, 2) := by decide +kernel
theorem dX10_ofRings_128 : decode cX10_ofRings 128 = .ok (.iconst 2, 1) := by decide +kernel
theorem dX10_ofRings_129 : decode cX10_ofRings 129 = .ok (.if_icmp .eq 17, 3) := by decide +kernel
theorem dX10_ofRings_132 : decode cX10_ofRings 132 = .ok (.iload 10, 2) := by decide +kernel
theorem dX10_ofRings_134 : decode cX10_ofRings 134 = .ok (.iload 12, 2) := by decide +kernel
theorem dX10_ofRings_136 : decode cX10_ofRings 136 = .ok (.if_icmp .ge 14, 3) := by decide +kernel
theorem dX10_ofRings_139 : decode cX10_ofRings 139 = .ok (.iload 11, 2) := by decide +kernel
theorem dX10_ofRings_141 : decode cX10_ofRings 141 = .ok (.iload 12, 2) := by decide +kernel
theorem dX10_ofRings_143 : decode cX10_ofRings 143 = .ok (.if_icmp .eq 7, 3) := by decide +kernel
theorem dX10_ofRings_146 : decode cX10_ofRings 146 = .ok (.iconst 1, 1) := by decide +kernel
theorem dX10_ofRings_147 : decode cX10_ofRings 147 = .ok (.goto 4, 3) := by decide +kernel
theorem dX10_ofRings_150 : decode cX10_ofRings 150 = .ok (.iconst 0, 1) := by decide +kernel
theorem dX10_ofRings_151 : decode cX10_ofRings 151 = .ok (.istore 13, 2) := by decide +kernel
theorem dX10_ofRings_153 : decode cX10_ofRings 153 = .ok (.iload 8, 2) := by decide +kernel
theorem dX10_ofRings_155 : decode cX10_ofRings 155 = .ok (.iconst 1, 1) := by decide +kernel
theorem dX10_ofRings_156 : decode cX10_ofRings 156 = .ok (.if_icmp .ne 15, 3) := by decide +kernel
theorem dX10_ofRings_159 : decode cX10_ofRings 159 = .ok (.aload_n 0, 1) := by decide +kernel
theorem dX10_ofRings_160 : decode cX10_ofRings 160 = .ok (.iload_n 1, 1) := by decide +kernel
theorem dX10_ofRings_161 : decode cX10_ofRings 161 = .ok (.iload 10, 2) := by decide +kernel
theorem dX10_ofRings_163 : decode cX10_ofRings 163 = .ok (.iload 10, 2) := by decide +kernel
theorem dX10_ofRings_165 : decode cX10_ofRings 165 = .ok (.invokevirtual 73, 3) := by decide +kernel
theorem dX10_ofRings_168 : decode cX10_ofRings 168 = .ok (.goto 60, 3) := by decide +kernel
theorem dX10_ofRings_171 : decode cX10_ofRings 171 = .ok (.iload 8, 2) := by decide +kernel
theorem dX10_ofRings_173 : decode cX10_ofRings 173 = .ok (.iconst 2, 1) := by decide +kernel
theorem dX10_ofRings_174 : decode cX10_ofRings 174 = .ok (.if_icmp .ne 25, 3) := by decide +kernel
theorem dX10_ofRings_177 : decode cX10_ofRings 177 = .ok (.aload_n 0, 1) := by decide +kernel
theorem dX10_ofRings_178 : decode cX10_ofRings 178 = .ok (.iload_n 1, 1) := by decide +kernel
theorem dX10_ofRings_179 : decode cX10_ofRings 179 = .ok (.iload 10, 2) := by decide +kernel
theorem dX10_ofRings_181 : decode cX10_ofRings 181 = .ok (.iload 11, 2) := by decide +kernel
theorem dX10_ofRings_183 : decode cX10_ofRings 183 = .ok (.invokevirtual 73, 3) := by decide +kernel
theorem dX10_ofRings_186 : decode cX10_ofRings 186 = .ok (.aload_n 0, 1) := by decide +kernel
theorem dX10_ofRings_187 : decode cX10_ofRings 187 = .ok (.iload_n 1, 1) := by decide +kernel
theorem dX10_ofRings_188 : decode cX10_ofRings 188 = .ok (.iload 11, 2) := by decide +kernel
theorem dX10_ofRings_190 : decode cX10_ofRings 190 = .ok (.iload 10, 2) := by decide +kernel
theorem dX10_ofRings_192 : decode cX10_ofRings 192 = .ok (.invokevirtual 73, 3) := by decide +kernel
theorem dX10_ofRings_195 : decode cX10_ofRings 195 = .ok (.iadd, 1) := by decide +kernel
theorem dX10_ofRings_196 : decode cX10_ofRings 196 = .ok (.goto 32, 3) := by decide +kernel
theorem dX10_ofRings_199 : decode cX10_ofRings 199 = .ok (.aload_n 0, 1) := by decide +kernel
theorem dX10_ofRings_200 : decode cX10_ofRings 200 = .ok (.iload_n 1, 1) := by decide +kernel
theorem dX10_ofRings_201 : decode cX10_ofRings 201 = .ok (.iload 10, 2) := by decide +kernel
theorem dX10_ofRings_203 : decode cX10_ofRings 203 = .ok (.iload 11, 2) := by decide +kernel
theorem dX10_ofRings_205 : decode cX10_ofRings 205 = .ok (.invokevirtual 73, 3) := by decide +kernel
theorem dX10_ofRings_208 : decode cX10_ofRings 208 = .ok (.aload_n 0, 1) := by decide +kernel
theorem dX10_ofRings_209 : decode cX10_ofRings 209 = .ok (.iload_n 1, 1) := by decide +kernel
theorem dX10_ofRings_210 : decode cX10_ofRings 210 = .ok (.iload 11, 2) := by decide +kernel
theorem dX10_ofRings_212 : decode cX10_ofRings 212 = .ok (.iload 12, 2) := by decide +kernel
theorem dX10_ofRings_214 : decode cX10_ofRings 214 = .ok (.invokevirtual 73, 3) := by decide +kernel
theorem dX10_ofRings_217 : decode cX10_ofRings 217 = .ok (.iadd, 1) := by decide +kernel
theorem dX10_ofRings_218 : decode cX10_ofRings 218 = .ok (.aload_n 0, 1) := by decide +kernel
theorem dX10_ofRings_219 : decode cX10_ofRings 219 = .ok (.iload_n 1, 1) := by decide +kernel
theorem dX10_ofRings_220 : decode cX10_ofRings 220 = .ok (.iload 12, 2) := by decide +kernel
theorem dX10_ofRings_222 : decode cX10_ofRings 222 = .ok (.iload 10, 2) := by decide +kernel
theorem dX10_ofRings_224 : decode cX10_ofRings 224 = .ok (.invokevirtual 73, 3) := by decide +kernel
theorem dX10_ofRings_227 : decode cX10_ofRings 227 = .ok (.iadd, 1) := by decide +kernel
theorem dX10_ofRings_228 : decode cX10_ofRings 228 = .ok (.istore 14, 2) := by decide +kernel
theorem dX10_ofRings_230 : decode cX10_ofRings 230 = .ok (.iload 13, 2) := by decide +kernel
theorem dX10_ofRings_232 : decode cX10_ofRings 232 = .ok (.ifCond .eq 25, 3) := by decide +kernel
theorem dX10_ofRings_235 : decode cX10_ofRings 235 = .ok (.iload 4, 2) := by decide +kernel
theorem dX10_ofRings_237 : decode cX10_ofRings 237 = .ok (.ifCond .eq 16, 3) := by decide +kernel
theorem dX10_ofRings_240 : decode cX10_ofRings 240 = .ok (.iload 14, 2) := by decide +kernel
theorem dX10_ofRings_242 : decode cX10_ofRings 242 = .ok (.iload 6, 2) := by decide +kernel
theorem dX10_ofRings_244 : decode cX10_ofRings 244 = .ok (.imul, 1) := by decide +kernel
theorem dX10_ofRings_245 : decode cX10_ofRings 245 = .ok (.iload 5, 2) := by decide +kernel
theorem dX10_ofRings_247 : decode cX10_ofRings 247 = .ok (.iload 8, 2) := by decide +kernel
theorem dX10_ofRings_249 : decode cX10_ofRings 249 = .ok (.imul, 1) := by decide +kernel
theorem dX10_ofRings_250 : decode cX10_ofRings 250 = .ok (.if_icmp .ge 7, 3) := by decide +kernel
theorem dX10_ofRings_253 : decode cX10_ofRings 253 = .ok (.iconst 1, 1) := by decide +kernel
theorem dX10_ofRings_254 : decode cX10_ofRings 254 = .ok (.goto 4, 3) := by decide +kernel
theorem dX10_ofRings_257 : decode cX10_ofRings 257 = .ok (.iconst 0, 1) := by decide +kernel
theorem dX10_ofRings_258 : decode cX10_ofRings 258 = .ok (.istore 15, 2) := by decide +kernel
theorem dX10_ofRings_260 : decode cX10_ofRings 260 = .ok (.iload 4, 2) := by decide +kernel
theorem dX10_ofRings_262 : decode cX10_ofRings 262 = .ok (.iload 13, 2) := by decide +kernel
theorem dX10_ofRings_264 : decode cX10_ofRings 264 = .ok (.ifCond .eq 7, 3) := by decide +kernel
theorem dX10_ofRings_267 : decode cX10_ofRings 267 = .ok (.iconst 1, 1) := by decide +kernel
theorem dX10_ofRings_268 : decode cX10_ofRings 268 = .ok (.goto 4, 3) := by decide +kernel
theorem dX10_ofRings_271 : decode cX10_ofRings 271 = .ok (.iconst 0, 1) := by decide +kernel
theorem dX10_ofRings_272 : decode cX10_ofRings 272 = .ok (.iadd, 1) := by decide +kernel
theorem dX10_ofRings_273 : decode cX10_ofRings 273 = .ok (.istore 4, 2) := by decide +kernel
theorem dX10_ofRings_275 : decode cX10_ofRings 275 = .ok (.iload 15, 2) := by decide +kernel
theorem dX10_ofRings_277 : decode cX10_ofRings 277 = .ok (.ifCond .eq 8, 3) := by decide +kernel
theorem dX10_ofRings_280 : decode cX10_ofRings 280 = .ok (.iload 14, 2) := by decide +kernel
theorem dX10_ofRings_282 : decode cX10_ofRings 282 = .ok (.goto 5, 3) := by decide +kernel
theorem dX10_ofRings_285 : decode cX10_ofRings 285 = .ok (.iload 5, 2) := by decide +kernel
theorem dX10_ofRings_287 : decode cX10_ofRings 287 = .ok (.istore 5, 2) := by decide +kernel
theorem dX10_ofRings_289 : decode cX10_ofRings 289 = .ok (.iload 15, 2) := by decide +kernel
theorem dX10_ofRings_291 : decode cX10_ofRings 291 = .ok (.ifCond .eq 8, 3) := by decide +kernel
theorem dX10_ofRings_294 : decode cX10_ofRings 294 = .ok (.iload 8, 2) := by decide +kernel
theorem dX10_ofRings_296 : decode cX10_ofRings 296 = .ok (.goto 5, 3) := by decide +kernel
theorem dX10_ofRings_299 : decode cX10_ofRings 299 = .ok (.iload 6, 2) := by decide +kernel
theorem dX10_ofRings_301 : decode cX10_ofRings 301 = .ok (.istore 6, 2) := by decide +kernel
theorem dX10_ofRings_303 : decode cX10_ofRings 303 = .ok (.iinc 7 1, 3) := by decide +kernel
theorem dX10_ofRings_306 : decode cX10_ofRings 306 = .ok (.goto (-288), 3) := by decide +kernel
theorem dX10_ofRings_309 : decode cX10_ofRings 309 = .ok (.iload_n 2, 1) := by decide +kernel
theorem dX10_ofRings_310 : decode cX10_ofRings 310 = .ok (.ifCond .ne 8, 3) := by decide +kernel
theorem dX10_ofRings_313 : decode cX10_ofRings 313 = .ok (.iload 4, 2) := by decide +kernel
theorem dX10_ofRings_315 : decode cX10_ofRings 315 = .ok (.goto 15, 3) := by decide +kernel
theorem dX10_ofRings_318 : decode cX10_ofRings 318 = .ok (.iload_n 2, 1) := by decide +kernel
theorem dX10_ofRings_319 : decode cX10_ofRings 319 = .ok (.iconst 1, 1) := by decide +kernel
theorem dX10_ofRings_320 : decode cX10_ofRings 320 = .ok (.if_icmp .ne 8, 3) := by decide +kernel
theorem dX10_ofRings_323 : decode cX10_ofRings 323 = .ok (.iload 5, 2) := by decide +kernel
theorem dX10_ofRings_325 : decode cX10_ofRings 325 = .ok (.goto 5, 3) := by decide +kernel
theorem dX10_ofRings_328 : decode cX10_ofRings 328 = .ok (.iload 6, 2) := by decide +kernel
theorem dX10_ofRings_330 : decode cX10_ofRings 330 = .ok (.ireturn, 1) := by decide +kernel
theorem dX10_ring_0 : decode cX10_ring 0 = .ok (.iload_n 1, 1) := by decide +kernel
theorem dX10_ring_1 : decode cX10_ring 1 = .ok (.invokestatic 65, 3) := by decide +kernel
theorem dX10_ring_4 : decode cX10_ring 4 = .ok (.ifCond .ne 5, 3) := by decide +kernel
theorem dX10_ring_7 : decode cX10_ring 7 = .ok (.iconst (-1), 1) := by decide +kernel
theorem dX10_ring_8 : decode cX10_ring 8 = .ok (.ireturn, 1) := by decide +kernel
theorem dX10_ring_9 : decode cX10_ring 9 = .ok (.iload_n 2, 1) := by decide +kernel
theorem dX10_ring_10 : decode cX10_ring 10 = .ok (.iconst 0, 1) := by decide +kernel
theorem dX10_ring_11 : decode cX10_ring 11 = .ok (.iconst 2, 1) := by decide +kernel
theorem dX10_ring_12 : decode cX10_ring 12 = .ok (.invokestatic 54, 3) := by decide +kernel
theorem dX10_ring_15 : decode cX10_ring 15 = .ok (.ifCond .ne 6, 3) := by decide +kernel
theorem dX10_ring_18 : decode cX10_ring 18 = .ok (.bipush (-2), 2) := by decide +kernel
theorem dX10_ring_20 : decode cX10_ring 20 = .ok (.ireturn, 1) := by decide +kernel
theorem dX10_ring_21 : decode cX10_ring 21 = .ok (.aload_n 0, 1) := by decide +kernel
theorem dX10_ring_22 : decode cX10_ring 22 = .ok (.iload_n 1, 1) := by decide +kernel
theorem dX10_ring_23 : decode cX10_ring 23 = .ok (.invokevirtual 140, 3) := by decide +kernel
theorem dX10_ring_26 : decode cX10_ring 26 = .ok (.ifCond .eq 12, 3) := by decide +kernel
theorem dX10_ring_29 : decode cX10_ring 29 = .ok (.aload_n 0, 1) := by decide +kernel
theorem dX10_ring_30 : decode cX10_ring 30 = .ok (.iload_n 1, 1) := by decide +kernel
theorem dX10_ring_31 : decode cX10_ring 31 = .ok (.iload_n 2, 1) := by decide +kernel
theorem dX10_ring_32 : decode cX10_ring 32 = .ok (.invokevirtual 210, 3) := by decide +kernel
theorem dX10_ring_35 : decode cX10_ring 35 = .ok (.goto 5, 3) := by decide +kernel
theorem dX10_ring_38 : decode cX10_ring 38 = .ok (.bipush (-5), 2) := by decide +kernel
theorem dX10_ring_40 : decode cX10_ring 40 = .ok (.ireturn, 1) := by decide +kernel
theorem dX10_count_0 : decode cX10_count 0 = .ok (.iload_n 1, 1) := by decide +kernel
theorem dX10_count_1 : decode cX10_count 1 = .ok (.tableswitch 42 0 2 #[27, 32, 37], 27) := by decide +kernel
theorem dX10_count_28 : decode cX10_count 28 = .ok (.aload_n 0, 1) := by decide +kernel
theorem dX10_count_29 : decode cX10_count 29 = .ok (.invokevirtual 213, 3) := by decide +kernel
theorem dX10_count_32 : decode cX10_count 32 = .ok (.ireturn, 1) := by decide +kernel
theorem dX10_count_33 : decode cX10_count 33 = .ok (.aload_n 0, 1) := by decide +kernel
theorem dX10_count_34 : decode cX10_count 34 = .ok (.getfield 108, 3) := by decide +kernel
theorem dX10_count_37 : decode cX10_count 37 = .ok (.ireturn, 1) := by decide +kernel
theorem dX10_count_38 : decode cX10_count 38 = .ok (.aload_n 0, 1) := by decide +kernel
theorem dX10_count_39 : decode cX10_count 39 = .ok (.getfield 46, 3) := by decide +kernel
theorem dX10_count_42 : decode cX10_count 42 = .ok (.ireturn, 1) := by decide +kernel
theorem dX10_count_43 : decode cX10_count 43 = .ok (.bipush (-2), 2) := by decide +kernel
theorem dX10_count_45 : decode cX10_count 45 = .ok (.ireturn, 1) := by decide +kernel
theorem dX10_rankOf_0 : decode cX10_rankOf 0 = .ok (.iload_n 2, 1) := by decide +kernel
theorem dX10_rankOf_1 : decode cX10_rankOf 1 = .ok (.tableswitch 50 0 2 #[27, 34, 40], 27) := by decide +kernel
theorem dX10_rankOf_28 : decode cX10_rankOf 28 = .ok (.aload_n 0, 1) := by decide +kernel
theorem dX10_rankOf_29 : decode cX10_rankOf 29 = .ok (.iload_n 1, 1) := by decide +kernel
theorem dX10_rankOf_30 : decode cX10_rankOf 30 = .ok (.iconst 0, 1) := by decide +kernel
theorem dX10_rankOf_31 : decode cX10_rankOf 31 = .ok (.invokevirtual 166, 3) := by decide +kernel
theorem dX10_rankOf_34 : decode cX10_rankOf 34 = .ok (.ireturn, 1) := by decide +kernel
theorem dX10_rankOf_35 : decode cX10_rankOf 35 = .ok (.aload_n 0, 1) := by decide +kernel
theorem dX10_rankOf_36 : decode cX10_rankOf 36 = .ok (.iload_n 1, 1) := by decide +kernel
theorem dX10_rankOf_37 : decode cX10_rankOf 37 = .ok (.invokevirtual 176, 3) := by decide +kernel
theorem dX10_rankOf_40 : decode cX10_rankOf 40 = .ok (.ireturn, 1) := by decide +kernel
theorem dX10_rankOf_41 : decode cX10_rankOf 41 = .ok (.aload_n 0, 1) := by decide +kernel
theorem dX10_rankOf_42 : decode cX10_rankOf 42 = .ok (.iload_n 1, 1) := by decide +kernel
theorem dX10_rankOf_43 : decode cX10_rankOf 43 = .ok (.iconst 0, 1) := by decide +kernel
theorem dX10_rankOf_44 : decode cX10_rankOf 44 = .ok (.invokevirtual 201, 3) := by decide +kernel
theorem dX10_rankOf_47 : decode cX10_rankOf 47 = .ok (.invokestatic 143, 3) := by decide +kernel
theorem dX10_rankOf_50 : decode cX10_rankOf 50 = .ok (.ireturn, 1) := by decide +kernel
theorem dX10_rankOf_51 : decode cX10_rankOf 51 = .ok (.aload_n 0, 1) := by decide +kernel
theorem dX10_rankOf_52 : decode cX10_rankOf 52 = .ok (.iload_n 1, 1) := by decide +kernel
theorem dX10_rankOf_53 : decode cX10_rankOf 53 = .ok (.iconst 1, 1) := by decide +kernel
theorem dX10_rankOf_54 : decode cX10_rankOf 54 = .ok (.invokevirtual 201, 3) := by decide +kernel
theorem dX10_rankOf_57 : decode cX10_rankOf 57 = .ok (.invokestatic 143, 3) := by decide +kernel
theorem dX10_rankOf_60 : decode cX10_rankOf 60 = .ok (.ireturn, 1) := by decide +kernel
theorem dX10_rankIf_0 : decode cX10_rankIf 0 = .ok (.aload_n 0, 1) := by decide +kernel
theorem dX10_rankIf_1 : decode cX10_rankIf 1 = .ok (.iload_n 1, 1) := by decide +kernel
theorem dX10_rankIf_2 : decode cX10_rankIf 2 = .ok (.iload_n 2, 1) := by decide +kernel
theorem dX10_rankIf_3 : decode cX10_rankIf 3 = .ok (.iload_n 3, 1) := by decide +kernel
theorem dX10_rankIf_4 : decode cX10_rankIf 4 = .ok (.invokevirtual 73, 3) := by decide +kernel
theorem dX10_rankIf_7 : decode cX10_rankIf 7 = .ok (.istore 6, 2) := by decide +kernel
theorem dX10_rankIf_9 : decode cX10_rankIf 9 = .ok (.aload_n 0, 1) := by decide +kernel
theorem dX10_rankIf_10 : decode cX10_rankIf 10 = .ok (.iload_n 1, 1) := by decide +kernel
theorem dX10_rankIf_11 : decode cX10_rankIf 11 = .ok (.iload_n 2, 1) := by decide +kernel
theorem dX10_rankIf_12 : decode cX10_rankIf 12 = .ok (.iload_n 3, 1) := by decide +kernel
theorem dX10_rankIf_13 : decode cX10_rankIf 13 = .ok (.iload 4, 2) := by decide +kernel
theorem dX10_rankIf_15 : decode cX10_rankIf 15 = .ok (.invokevirtual 77, 3) := by decide +kernel
theorem dX10_rankIf_18 : decode cX10_rankIf 18 = .ok (.aload_n 0, 1) := by decide +kernel
theorem dX10_rankIf_19 : decode cX10_rankIf 19 = .ok (.iload_n 1, 1) := by decide +kernel
theorem dX10_rankIf_20 : decode cX10_rankIf 20 = .ok (.iload 5, 2) := by decide +kernel
theorem dX10_rankIf_22 : decode cX10_rankIf 22 = .ok (.invokevirtual 216, 3) := by decide +kernel
theorem dX10_rankIf_25 : decode cX10_rankIf 25 = .ok (.istore 7, 2) := by decide +kernel
theorem dX10_rankIf_27 : decode cX10_rankIf 27 = .ok (.aload_n 0, 1) := by decide +kernel
theorem dX10_rankIf_28 : decode cX10_rankIf 28 = .ok (.iload_n 1, 1) := by decide +kernel
theorem dX10_rankIf_29 : decode cX10_rankIf 29 = .ok (.iload_n 2, 1) := by decide +kernel
theorem dX10_rankIf_30 : decode cX10_rankIf 30 = .ok (.iload_n 3, 1) := by decide +kernel
theorem dX10_rankIf_31 : decode cX10_rankIf 31 = .ok (.iload 6, 2) := by decide +kernel
theorem dX10_rankIf_33 : decode cX10_rankIf 33 = .ok (.invokevirtual 77, 3) := by decide +kernel
theorem dX10_rankIf_36 : decode cX10_rankIf 36 = .ok (.iload 7, 2) := by decide +kernel
theorem dX10_rankIf_38 : decode cX10_rankIf 38 = .ok (.ireturn, 1) := by decide +kernel
theorem dX10_ifSet_0 : decode cX10_ifSet 0 = .ok (.aload_n 0, 1) := by decide +kernel
theorem dX10_ifSet_1 : decode cX10_ifSet 1 = .ok (.iload_n 1, 1) := by decide +kernel
theorem dX10_ifSet_2 : decode cX10_ifSet 2 = .ok (.iload_n 2, 1) := by decide +kernel
theorem dX10_ifSet_3 : decode cX10_ifSet 3 = .ok (.iload_n 3, 1) := by decide +kernel
theorem dX10_ifSet_4 : decode cX10_ifSet 4 = .ok (.invokevirtual 111, 3) := by decide +kernel
theorem dX10_ifSet_7 : decode cX10_ifSet 7 = .ok (.ifCond .ne 5, 3) := by decide +kernel
theorem dX10_ifSet_10 : decode cX10_ifSet 10 = .ok (.iconst (-1), 1) := by decide +kernel
theorem dX10_ifSet_11 : decode cX10_ifSet 11 = .ok (.ireturn, 1) := by decide +kernel
theorem dX10_ifSet_12 : decode cX10_ifSet 12 = .ok (.iload 4, 2) := by decide +kernel
theorem dX10_ifSet_14 : decode cX10_ifSet 14 = .ok (.iconst 0, 1) := by decide +kernel
theorem dX10_ifSet_15 : decode cX10_ifSet 15 = .ok (.sipush 999, 3) := by decide +kernel
theorem dX10_ifSet_18 : decode cX10_ifSet 18 = .ok (.invokestatic 54, 3) := by decide +kernel
theorem dX10_ifSet_21 : decode cX10_ifSet 21 = .ok (.ifCond .eq 13, 3) := by decide +kernel
theorem dX10_ifSet_24 : decode cX10_ifSet 24 = .ok (.iload 5, 2) := by decide +kernel
theorem dX10_ifSet_26 : decode cX10_ifSet 26 = .ok (.iconst 0, 1) := by decide +kernel
theorem dX10_ifSet_27 : decode cX10_ifSet 27 = .ok (.iconst 3, 1) := by decide +kernel
theorem dX10_ifSet_28 : decode cX10_ifSet 28 = .ok (.invokestatic 54, 3) := by decide +kernel
theorem dX10_ifSet_31 : decode cX10_ifSet 31 = .ok (.ifCond .ne 6, 3) := by decide +kernel
theorem dX10_ifSet_34 : decode cX10_ifSet 34 = .ok (.bipush (-2), 2) := by decide +kernel
theorem dX10_ifSet_36 : decode cX10_ifSet 36 = .ok (.ireturn, 1) := by decide +kernel
theorem dX10_ifSet_37 : decode cX10_ifSet 37 = .ok (.aload_n 0, 1) := by decide +kernel
theorem dX10_ifSet_38 : decode cX10_ifSet 38 = .ok (.iload_n 1, 1) := by decide +kernel
theorem dX10_ifSet_39 : decode cX10_ifSet 39 = .ok (.iload_n 2, 1) := by decide +kernel
theorem dX10_ifSet_40 : decode cX10_ifSet 40 = .ok (.iload_n 3, 1) := by decide +kernel
theorem dX10_ifSet_41 : decode cX10_ifSet 41 = .ok (.iload 4, 2) := by decide +kernel
theorem dX10_ifSet_43 : decode cX10_ifSet 43 = .ok (.iload 5, 2) := by decide +kernel
theorem dX10_ifSet_45 : decode cX10_ifSet 45 = .ok (.invokevirtual 219, 3) := by decide +kernel
theorem dX10_ifSet_48 : decode cX10_ifSet 48 = .ok (.ireturn, 1) := by decide +kernel
theorem dX10_bestZero_0 : decode cX10_bestZero 0 = .ok (.iload_n 1, 1) := by decide +kernel
theorem dX10_bestZero_1 : decode cX10_bestZero 1 = .ok (.invokestatic 65, 3) := by decide +kernel
theorem dX10_bestZero_4 : decode cX10_bestZero 4 = .ok (.ifCond .ne 5, 3) := by decide +kernel
theorem dX10_bestZero_7 : decode cX10_bestZero 7 = .ok (.iconst (-1), 1) := by decide +kernel
theorem dX10_bestZero_8 : decode cX10_bestZero 8 = .ok (.ireturn, 1) := by decide +kernel
theorem dX10_bestZero_9 : decode cX10_bestZero 9 = .ok (.iconst 0, 1) := by decide +kernel
theorem dX10_bestZero_10 : decode cX10_bestZero 10 = .ok (.istore_n 2, 1) := by decide +kernel
theorem dX10_bestZero_11 : decode cX10_bestZero 11 = .ok (.bipush 13, 2) := by decide +kernel
theorem dX10_bestZero_13 : decode cX10_bestZero 13 = .ok (.istore_n 3, 1) := by decide +kernel
theorem dX10_bestZero_14 : decode cX10_bestZero 14 = .ok (.iconst 0, 1) := by decide +kernel
theorem dX10_bestZero_15 : decode cX10_bestZero 15 = .ok (.istore 4, 2) := by decide +kernel
theorem dX10_bestZero_17 : decode cX10_bestZero 17 = .ok (.iload 4, 2) := by decide +kernel
theorem dX10_bestZero_19 : decode cX10_bestZero 19 = .ok (.aload_n 0, 1) := by decide +kernel
theorem dX10_bestZero_20 : decode cX10_bestZero 20 = .ok (.iload_n 1, 1) := by decide +kernel
theorem dX10_bestZero_21 : decode cX10_bestZero 21 = .ok (.invokevirtual 81, 3) := by decide +kernel
theorem dX10_bestZero_24 : decode cX10_bestZero 24 = .ok (.if_icmp .ge 60, 3) := by decide +kernel
theorem dX10_bestZero_27 : decode cX10_bestZero 27 = .ok (.aload_n 0, 1) := by decide +kernel
theorem dX10_bestZero_28 : decode cX10_bestZero 28 = .ok (.iload_n 1, 1) := by decide +kernel
theorem dX10_bestZero_29 : decode cX10_bestZero 29 = .ok (.iload 4, 2) := by decide +kernel
theorem dX10_bestZero_31 : decode cX10_bestZero 31 = .ok (.aload_n 0, 1) := by decide +kernel
theorem dX10_bestZero_32 : decode cX10_bestZero 32 = .ok (.iload_n 1, 1) := by decide +kernel
theorem dX10_bestZero_33 : decode cX10_bestZero 33 = .ok (.invokevirtual 62, 3) := by decide +kernel
theorem dX10_bestZero_36 : decode cX10_bestZero 36 = .ok (.idiv, 1) := by decide +kernel
theorem dX10_bestZero_37 : decode cX10_bestZero 37 = .ok (.iload 4, 2) := by decide +kernel
theorem dX10_bestZero_39 : decode cX10_bestZero 39 = .ok (.aload_n 0, 1) := by decide +kernel
theorem dX10_bestZero_40 : decode cX10_bestZero 40 = .ok (.iload_n 1, 1) := by decide +kernel
theorem dX10_bestZero_41 : decode cX10_bestZero 41 = .ok (.invokevirtual 62, 3) := by decide +kernel
theorem dX10_bestZero_44 : decode cX10_bestZero 44 = .ok (.irem, 1) := by decide +kernel
theorem dX10_bestZero_45 : decode cX10_bestZero 45 = .ok (.iconst 0, 1) := by decide +kernel
theorem dX10_bestZero_46 : decode cX10_bestZero 46 = .ok (.iconst 1, 1) := by decide +kernel
theorem dX10_bestZero_47 : decode cX10_bestZero 47 = .ok (.invokevirtual 219, 3) := by decide +kernel
theorem dX10_bestZero_50 : decode cX10_bestZero 50 = .ok (.istore 5, 2) := by decide +kernel
theorem dX10_bestZero_52 : decode cX10_bestZero 52 = .ok (.iload 5, 2) := by decide +kernel
theorem dX10_bestZero_54 : decode cX10_bestZero 54 = .ok (.iload_n 3, 1) := by decide +kernel
theorem dX10_bestZero_55 : decode cX10_bestZero 55 = .ok (.if_icmp .ge 8, 3) := by decide +kernel
theorem dX10_bestZero_58 : decode cX10_bestZero 58 = .ok (.iload 4, 2) := by decide +kernel
theorem dX10_bestZero_60 : decode cX10_bestZero 60 = .ok (.goto 4, 3) := by decide +kernel
theorem dX10_bestZero_63 : decode cX10_bestZero 63 = .ok (.iload_n 2, 1) := by decide +kernel
theorem dX10_bestZero_64 : decode cX10_bestZero 64 = .ok (.istore_n 2, 1) := by decide +kernel
theorem dX10_bestZero_65 : decode cX10_bestZero 65 = .ok (.iload 5, 2) := by decide +kernel
theorem dX10_bestZero_67 : decode cX10_bestZero 67 = .ok (.iload_n 3, 1) := by decide +kernel
theorem dX10_bestZero_68 : decode cX10_bestZero 68 = .ok (.if_icmp .ge 8, 3) := by decide +kernel
theorem dX10_bestZero_71 : decode cX10_bestZero 71 = .ok (.iload 5, 2) := by decide +kernel
theorem dX10_bestZero_73 : decode cX10_bestZero 73 = .ok (.goto 4, 3) := by decide +kernel
theorem dX10_bestZero_76 : decode cX10_bestZero 76 = .ok (.iload_n 3, 1) := by decide +kernel
theorem dX10_bestZero_77 : decode cX10_bestZero 77 = .ok (.istore_n 3, 1) := by decide +kernel
theorem dX10_bestZero_78 : decode cX10_bestZero 78 = .ok (.iinc 4 1, 3) := by decide +kernel
theorem dX10_bestZero_81 : decode cX10_bestZero 81 = .ok (.goto (-64), 3) := by decide +kernel
theorem dX10_bestZero_84 : decode cX10_bestZero 84 = .ok (.iload_n 2, 1) := by decide +kernel
theorem dX10_bestZero_85 : decode cX10_bestZero 85 = .ok (.ireturn, 1) := by decide +kernel
theorem dX10_put_0 : decode cX10_put 0 = .ok (.iconst 0, 1) := by decide +kernel
theorem dX10_put_1 : decode cX10_put 1 = .ok (.istore_n 3, 1) := by decide +kernel
theorem dX10_put_2 : decode cX10_put 2 = .ok (.lload_n 1, 1) := by decide +kernel
theorem dX10_put_3 : decode cX10_put 3 = .ok (.lstore 4, 2) := by decide +kernel
theorem dX10_put_5 : decode cX10_put 5 = .ok (.iconst 1, 1) := by decide +kernel
theorem dX10_put_6 : decode cX10_put 6 = .ok (.istore 6, 2) := by decide +kernel
theorem dX10_put_8 : decode cX10_put 8 = .ok (.iload_n 3, 1) := by decide +kernel
theorem dX10_put_9 : decode cX10_put 9 = .ok (.bipush 8, 2) := by decide +kernel
theorem dX10_put_11 : decode cX10_put 11 = .ok (.if_icmp .ge 56, 3) := by decide +kernel
theorem dX10_put_14 : decode cX10_put 14 = .ok (.lload 4, 2) := by decide +kernel
theorem dX10_put_16 : decode cX10_put 16 = .ok (.ldc2_w 223, 3) := by decide +kernel
theorem dX10_put_19 : decode cX10_put 19 = .ok (.land, 1) := by decide +kernel
theorem dX10_put_20 : decode cX10_put 20 = .ok (.lconst 0, 1) := by decide +kernel
theorem dX10_put_21 : decode cX10_put 21 = .ok (.lcmp, 1) := by decide +kernel
theorem dX10_put_22 : decode cX10_put 22 = .ok (.ifCond .eq 45, 3) := by decide +kernel
theorem dX10_put_25 : decode cX10_put 25 = .ok (.iload 6, 2) := by decide +kernel
theorem dX10_put_27 : decode cX10_put 27 = .ok (.ifCond .eq 24, 3) := by decide +kernel
theorem dX10_put_30 : decode cX10_put 30 = .ok (.lload 4, 2) := by decide +kernel
theorem dX10_put_32 : decode cX10_put 32 = .ok (.ldc2_w 223, 3) := by decide +kernel
theorem dX10_put_35 : decode cX10_put 35 = .ok (.land, 1) := by decide +kernel
theorem dX10_put_36 : decode cX10_put 36 = .ok (.l2i, 1) := by decide +kernel
theorem dX10_put_37 : decode cX10_put 37 = .ok (.bipush 33, 2) := by decide +kernel
theorem dX10_put_39 : decode cX10_put 39 = .ok (.bipush 126, 2) := by decide +kernel
theorem dX10_put_41 : decode cX10_put 41 = .ok (.invokestatic 54, 3) := by decide +kernel
theorem dX10_put_44 : decode cX10_put 44 = .ok (.ifCond .eq 7, 3) := by decide +kernel
theorem dX10_put_47 : decode cX10_put 47 = .ok (.iconst 1, 1) := by decide +kernel
theorem dX10_put_48 : decode cX10_put 48 = .ok (.goto 4, 3) := by decide +kernel
theorem dX10_put_51 : decode cX10_put 51 = .ok (.iconst 0, 1) := by decide +kernel
theorem dX10_put_52 : decode cX10_put 52 = .ok (.istore 6, 2) := by decide +kernel
theorem dX10_put_54 : decode cX10_put 54 = .ok (.lload 4, 2) := by decide +kernel
theorem dX10_put_56 : decode cX10_put 56 = .ok (.bipush 8, 2) := by decide +kernel
theorem dX10_put_58 : decode cX10_put 58 = .ok (.lushr, 1) := by decide +kernel
theorem dX10_put_59 : decode cX10_put 59 = .ok (.lstore 4, 2) := by decide +kernel
theorem dX10_put_61 : decode cX10_put 61 = .ok (.iinc 3 1, 3) := by decide +kernel
theorem dX10_put_64 : decode cX10_put 64 = .ok (.goto (-56), 3) := by decide +kernel
theorem dX10_put_67 : decode cX10_put 67 = .ok (.iload_n 3, 1) := by decide +kernel
theorem dX10_put_68 : decode cX10_put 68 = .ok (.ifCond .eq 15, 3) := by decide +kernel
theorem dX10_put_71 : decode cX10_put 71 = .ok (.iload 6, 2) := by decide +kernel
theorem dX10_put_73 : decode cX10_put 73 = .ok (.ifCond .eq 10, 3) := by decide +kernel
theorem dX10_put_76 : decode cX10_put 76 = .ok (.lload 4, 2) := by decide +kernel
theorem dX10_put_78 : decode cX10_put 78 = .ok (.lconst 0, 1) := by decide +kernel
theorem dX10_put_79 : decode cX10_put 79 = .ok (.lcmp, 1) := by decide +kernel
theorem dX10_put_80 : decode cX10_put 80 = .ok (.ifCond .eq 6, 3) := by decide +kernel
theorem dX10_put_83 : decode cX10_put 83 = .ok (.bipush (-2), 2) := by decide +kernel
theorem dX10_put_85 : decode cX10_put 85 = .ok (.ireturn, 1) := by decide +kernel
theorem dX10_put_86 : decode cX10_put 86 = .ok (.aload_n 0, 1) := by decide +kernel
theorem dX10_put_87 : decode cX10_put 87 = .ok (.getfield 108, 3) := by decide +kernel
theorem dX10_put_90 : decode cX10_put 90 = .ok (.iload_n 3, 1) := by decide +kernel
theorem dX10_put_91 : decode cX10_put 91 = .ok (.iadd, 1) := by decide +kernel
theorem dX10_put_92 : decode cX10_put 92 = .ok (.bipush 80, 2) := by decide +kernel
theorem dX10_put_94 : decode cX10_put 94 = .ok (.if_icmp .le 6, 3) := by decide +kernel
theorem dX10_put_97 : decode cX10_put 97 = .ok (.bipush (-4), 2) := by decide +kernel
theorem dX10_put_99 : decode cX10_put 99 = .ok (.ireturn, 1) := by decide +kernel
theorem dX10_put_100 : decode cX10_put 100 = .ok (.iload_n 3, 1) := by decide +kernel
theorem dX10_put_101 : decode cX10_put 101 = .ok (.iconst 1, 1) := by decide +kernel
theorem dX10_put_102 : decode cX10_put 102 = .ok (.isub, 1) := by decide +kernel
theorem dX10_put_103 : decode cX10_put 103 = .ok (.istore 7, 2) := by decide +kernel
theorem dX10_put_105 : decode cX10_put 105 = .ok (.iload 7, 2) := by decide +kernel
theorem dX10_put_107 : decode cX10_put 107 = .ok (.ifCond .lt 40, 3) := by decide +kernel
theorem dX10_put_110 : decode cX10_put 110 = .ok (.aload_n 0, 1) := by decide +kernel
theorem dX10_put_111 : decode cX10_put 111 = .ok (.getfield 22, 3) := by decide +kernel
theorem dX10_put_114 : decode cX10_put 114 = .ok (.aload_n 0, 1) := by decide +kernel
theorem dX10_put_115 : decode cX10_put 115 = .ok (.getfield 108, 3) := by decide +kernel
theorem dX10_put_118 : decode cX10_put 118 = .ok (.lload_n 1, 1) := by decide +kernel
theorem dX10_put_119 : decode cX10_put 119 = .ok (.bipush 8, 2) := by decide +kernel
theorem dX10_put_121 : decode cX10_put 121 = .ok (.iload 7, 2) := by decide +kernel
theorem dX10_put_123 : decode cX10_put 123 = .ok (.imul, 1) := by decide +kernel
theorem dX10_put_124 : decode cX10_put 124 = .ok (.lushr, 1) := by decide +kernel
theorem dX10_put_125 : decode cX10_put 125 = .ok (.ldc2_w 223, 3) := by decide +kernel
theorem dX10_put_128 : decode cX10_put 128 = .ok (.land, 1) := by decide +kernel
theorem dX10_put_129 : decode cX10_put 129 = .ok (.l2i, 1) := by decide +kernel
theorem dX10_put_130 : decode cX10_put 130 = .ok (.iastore, 1) := by decide +kernel
theorem dX10_put_131 : decode cX10_put 131 = .ok (.aload_n 0, 1) := by decide +kernel
theorem dX10_put_132 : decode cX10_put 132 = .ok (.dup, 1) := by decide +kernel
theorem dX10_put_133 : decode cX10_put 133 = .ok (.getfield 108, 3) := by decide +kernel
theorem dX10_put_136 : decode cX10_put 136 = .ok (.iconst 1, 1) := by decide +kernel
theorem dX10_put_137 : decode cX10_put 137 = .ok (.iadd, 1) := by decide +kernel
theorem dX10_put_138 : decode cX10_put 138 = .ok (.putfield 108, 3) := by decide +kernel
theorem dX10_put_141 : decode cX10_put 141 = .ok (.iinc 7 (-1), 3) := by decide +kernel
theorem dX10_put_144 : decode cX10_put 144 = .ok (.goto (-39), 3) := by decide +kernel
theorem dX10_put_147 : decode cX10_put 147 = .ok (.aload_n 0, 1) := by decide +kernel
theorem dX10_put_148 : decode cX10_put 148 = .ok (.getfield 108, 3) := by decide +kernel
theorem dX10_put_151 : decode cX10_put 151 = .ok (.ireturn, 1) := by decide +kernel
theorem dX10_wipe_0 : decode cX10_wipe 0 = .ok (.aload_n 0, 1) := by decide +kernel
theorem dX10_wipe_1 : decode cX10_wipe 1 = .ok (.getfield 108, 3) := by decide +kernel
theorem dX10_wipe_4 : decode cX10_wipe 4 = .ok (.istore_n 1, 1) := by decide +kernel
theorem dX10_wipe_5 : decode cX10_wipe 5 = .ok (.aload_n 0, 1) := by decide +kernel
theorem dX10_wipe_6 : decode cX10_wipe 6 = .ok (.iconst 0, 1) := by decide +kernel
theorem dX10_wipe_7 : decode cX10_wipe 7 = .ok (.putfield 108, 3) := by decide +kernel
theorem dX10_wipe_10 : decode cX10_wipe 10 = .ok (.iload_n 1, 1) := by decide +kernel
theorem dX10_wipe_11 : decode cX10_wipe 11 = .ok (.ireturn, 1) := by decide +kernel
theorem dX10_takes_0 : decode cX10_takes 0 = .ok (.aload_n 0, 1) := by decide +kernel
theorem dX10_takes_1 : decode cX10_takes 1 = .ok (.getfield 25, 3) := by decide +kernel
theorem dX10_takes_4 : decode cX10_takes 4 = .ok (.aload_n 0, 1) := by decide +kernel
theorem dX10_takes_5 : decode cX10_takes 5 = .ok (.getfield 87, 3) := by decide +kernel
theorem dX10_takes_8 : decode cX10_takes 8 = .ok (.iload_n 1, 1) := by decide +kernel
theorem dX10_takes_9 : decode cX10_takes 9 = .ok (.iastore, 1) := by decide +kernel
theorem dX10_takes_10 : decode cX10_takes 10 = .ok (.aload_n 0, 1) := by decide +kernel
theorem dX10_takes_11 : decode cX10_takes 11 = .ok (.dup, 1) := by decide +kernel
theorem dX10_takes_12 : decode cX10_takes 12 = .ok (.getfield 87, 3) := by decide +kernel
theorem dX10_takes_15 : decode cX10_takes 15 = .ok (.iconst 1, 1) := by decide +kernel
theorem dX10_takes_16 : decode cX10_takes 16 = .ok (.iadd, 1) := by decide +kernel
theorem dX10_takes_17 : decode cX10_takes 17 = .ok (.putfield 87, 3) := by decide +kernel
theorem dX10_takes_20 : decode cX10_takes 20 = .ok (.aload_n 0, 1) := by decide +kernel
theorem dX10_takes_21 : decode cX10_takes 21 = .ok (.getfield 28, 3) := by decide +kernel
theorem dX10_takes_24 : decode cX10_takes 24 = .ok (.aload_n 0, 1) := by decide +kernel
theorem dX10_takes_25 : decode cX10_takes 25 = .ok (.getfield 84, 3) := by decide +kernel
theorem dX10_takes_28 : decode cX10_takes 28 = .ok (.dup2, 1) := by decide +kernel
theorem dX10_takes_29 : decode cX10_takes 29 = .ok (.iaload, 1) := by decide +kernel
theorem dX10_takes_30 : decode cX10_takes 30 = .ok (.iconst 1, 1) := by decide +kernel
theorem dX10_takes_31 : decode cX10_takes 31 = .ok (.iadd, 1) := by decide +kernel
theorem dX10_takes_32 : decode cX10_takes 32 = .ok (.iastore, 1) := by decide +kernel
theorem dX10_takes_33 : decode cX10_takes 33 = .ok (.return_, 1) := by decide +kernel
theorem dX10_findFault_0 : decode cX10_findFault 0 = .ok (.bipush (-6), 2) := by decide +kernel
theorem dX10_findFault_2 : decode cX10_findFault 2 = .ok (.istore_n 1, 1) := by decide +kernel
theorem dX10_findFault_3 : decode cX10_findFault 3 = .ok (.aload_n 0, 1) := by decide +kernel
theorem dX10_findFault_4 : decode cX10_findFault 4 = .ok (.iconst 0, 1) := by decide +kernel
theorem dX10_findFault_5 : decode cX10_findFault 5 = .ok (.putfield 87, 3) := by decide +kernel
theorem dX10_findFault_8 : decode cX10_findFault 8 = .ok (.aload_n 0, 1) := by decide +kernel
theorem dX10_findFault_9 : decode cX10_findFault 9 = .ok (.iconst 0, 1) := by decide +kernel
theorem dX10_findFault_10 : decode cX10_findFault 10 = .ok (.putfield 84, 3) := by decide +kernel
theorem dX10_findFault_13 : decode cX10_findFault 13 = .ok (.aload_n 0, 1) := by decide +kernel
theorem dX10_findFault_14 : decode cX10_findFault 14 = .ok (.getfield 28, 3) := by decide +kernel
theorem dX10_findFault_17 : decode cX10_findFault 17 = .ok (.iconst 0, 1) := by decide +kernel
theorem dX10_findFault_18 : decode cX10_findFault 18 = .ok (.iconst 0, 1) := by decide +kernel
theorem dX10_findFault_19 : decode cX10_findFault 19 = .ok (.iastore, 1) := by decide +kernel
theorem dX10_findFault_20 : decode cX10_findFault 20 = .ok (.iconst 0, 1) := by decide +kernel
theorem dX10_findFault_21 : decode cX10_findFault 21 = .ok (.istore_n 2, 1) := by decide +kernel
theorem dX10_findFault_22 : decode cX10_findFault 22 = .ok (.iload_n 2, 1) := by decide +kernel
theorem dX10_findFault_23 : decode cX10_findFault 23 = .ok (.aload_n 0, 1) := by decide +kernel
theorem dX10_findFault_24 : decode cX10_findFault 24 = .ok (.getfield 108, 3) := by decide +kernel
theorem dX10_findFault_27 : decode cX10_findFault 27 = .ok (.if_icmp .ge 177, 3) := by decide +kernel
theorem dX10_findFault_30 : decode cX10_findFault 30 = .ok (.aload_n 0, 1) := by decide +kernel
theorem dX10_findFault_31 : decode cX10_findFault 31 = .ok (.getfield 22, 3) := by decide +kernel
theorem dX10_findFault_34 : decode cX10_findFault 34 = .ok (.iload_n 2, 1) := by decide +kernel
theorem dX10_findFault_35 : decode cX10_findFault 35 = .ok (.iaload, 1) := by decide +kernel
theorem dX10_findFault_36 : decode cX10_findFault 36 = .ok (.istore_n 3, 1) := by decide +kernel
theorem dX10_findFault_37 : decode cX10_findFault 37 = .ok (.iload_n 3, 1) := by decide +kernel
theorem dX10_findFault_38 : decode cX10_findFault 38 = .ok (.bipush 48, 2) := by decide +kernel
theorem dX10_findFault_40 : decode cX10_findFault 40 = .ok (.bipush 57, 2) := by decide +kernel
theorem dX10_findFault_42 : decode cX10_findFault 42 = .ok (.invokestatic 54, 3) := by decide +kernel
theorem dX10_findFault_45 : decode cX10_findFault 45 = .ok (.ifCond .eq 10, 3) := by decide +kernel
theorem dX10_findFault_48 : decode cX10_findFault 48 = .ok (.iload_n 3, 1) := by decide +kernel
theorem dX10_findFault_49 : decode cX10_findFault 49 = .ok (.bipush 48, 2) := by decide +kernel
theorem dX10_findFault_51 : decode cX10_findFault 51 = .ok (.isub, 1) := by decide +kernel
theorem dX10_findFault_52 : decode cX10_findFault 52 = .ok (.goto 5, 3) := by decide +kernel
theorem dX10_findFault_55 : decode cX10_findFault 55 = .ok (.bipush (-6), 2) := by decide +kernel
theorem dX10_findFault_57 : decode cX10_findFault 57 = .ok (.istore 4, 2) := by decide +kernel
theorem dX10_findFault_59 : decode cX10_findFault 59 = .ok (.iload 4, 2) := by decide +kernel
theorem dX10_findFault_61 : decode cX10_findFault 61 = .ok (.bipush (-6), 2) := by decide +kernel
theorem dX10_findFault_63 : decode cX10_findFault 63 = .ok (.if_icmp .eq 30, 3) := by decide +kernel
theorem dX10_findFault_66 : decode cX10_findFault 66 = .ok (.iload_n 1, 1) := by decide +kernel
theorem dX10_findFault_67 : decode cX10_findFault 67 = .ok (.bipush (-6), 2) := by decide +kernel
theorem dX10_findFault_69 : decode cX10_findFault 69 = .ok (.if_icmp .eq 20, 3) := by decide +kernel
theorem dX10_findFault_72 : decode cX10_findFault 72 = .ok (.iload_n 1, 1) := by decide +kernel
theorem dX10_findFault_73 : decode cX10_findFault 73 = .ok (.ifCond .le 20, 3) := by decide +kernel
theorem dX10_findFault_76 : decode cX10_findFault 76 = .ok (.bipush 10, 2) := by decide +kernel
theorem dX10_findFault_78 : decode cX10_findFault 78 = .ok (.iload_n 1, 1) := by decide +kernel
theorem dX10_findFault_79 : decode cX10_findFault 79 = .ok (.imul, 1) := by decide +kernel
theorem dX10_findFault_80 : decode cX10_findFault 80 = .ok (.iload 4, 2) := by decide +kernel
theorem dX10_findFault_82 : decode cX10_findFault 82 = .ok (.iadd, 1) := by decide +kernel
theorem dX10_findFault_83 : decode cX10_findFault 83 = .ok (.sipush 999, 3) := by decide +kernel
theorem dX10_findFault_86 : decode cX10_findFault 86 = .ok (.if_icmp .gt 7, 3) := by decide +kernel
theorem dX10_findFault_89 : decode cX10_findFault 89 = .ok (.iconst 1, 1) := by decide +kernel
theorem dX10_findFault_90 : decode cX10_findFault 90 = .ok (.goto 4, 3) := by decide +kernel
theorem dX10_findFault_93 : decode cX10_findFault 93 = .ok (.iconst 0, 1) := by decide +kernel
theorem dX10_findFault_94 : decode cX10_findFault 94 = .ok (.istore 5, 2) := by decide +kernel
theorem dX10_findFault_96 : decode cX10_findFault 96 = .ok (.iload_n 1, 1) := by decide +kernel
theorem dX10_findFault_97 : decode cX10_findFault 97 = .ok (.bipush (-6), 2) := by decide +kernel
theorem dX10_findFault_99 : decode cX10_findFault 99 = .ok (.if_icmp .eq 19, 3) := by decide +kernel
theorem dX10_findFault_102 : decode cX10_findFault 102 = .ok (.iload_n 3, 1) := by decide +kernel
theorem dX10_findFault_103 : decode cX10_findFault 103 = .ok (.bipush 44, 2) := by decide +kernel
theorem dX10_findFault_105 : decode cX10_findFault 105 = .ok (.if_icmp .eq 9, 3) := by decide +kernel
theorem dX10_findFault_108 : decode cX10_findFault 108 = .ok (.iload_n 3, 1) := by decide +kernel
theorem dX10_findFault_109 : decode cX10_findFault 109 = .ok (.bipush 59, 2) := by decide +kernel
theorem dX10_findFault_111 : decode cX10_findFault 111 = .ok (.if_icmp .ne 7, 3) := by decide +kernel
theorem dX10_findFault_114 : decode cX10_findFault 114 = .ok (.iconst 1, 1) := by decide +kernel
theorem dX10_findFault_115 : decode cX10_findFault 115 = .ok (.goto 4, 3) := by decide +kernel
theorem dX10_findFault_118 : decode cX10_findFault 118 = .ok (.iconst 0, 1) := by decide +kernel
theorem dX10_findFault_119 : decode cX10_findFault 119 = .ok (.istore 6, 2) := by decide +kernel
theorem dX10_findFault_121 : decode cX10_findFault 121 = .ok (.iload 5, 2) := by decide +kernel
theorem dX10_findFault_123 : decode cX10_findFault 123 = .ok (.ifCond .ne 10, 3) := by decide +kernel
theorem dX10_findFault_126 : decode cX10_findFault 126 = .ok (.iload 6, 2) := by decide +kernel
theorem dX10_findFault_128 : decode cX10_findFault 128 = .ok (.ifCond .ne 5, 3) := by decide +kernel
theorem dX10_findFault_131 : decode cX10_findFault 131 = .ok (.iload_n 2, 1) := by decide +kernel
theorem dX10_findFault_132 : decode cX10_findFault 132 = .ok (.ireturn, 1) := by decide +kernel
theorem dX10_findFault_133 : decode cX10_findFault 133 = .ok (.iload 6, 2) := by decide +kernel
theorem dX10_findFault_135 : decode cX10_findFault 135 = .ok (.ifCond .eq 8, 3) := by decide +kernel
theorem dX10_findFault_138 : decode cX10_findFault 138 = .ok (.aload_n 0, 1) := by decide +kernel
theorem dX10_findFault_139 : decode cX10_findFault 139 = .ok (.iload_n 1, 1) := by decide +kernel
theorem dX10_findFault_140 : decode cX10_findFault 140 = .ok (.invokevirtual 225, 3) := by decide +kernel
theorem dX10_findFault_143 : decode cX10_findFault 143 = .ok (.iload_n 3, 1) := by decide +kernel
theorem dX10_findFault_144 : decode cX10_findFault 144 = .ok (.bipush 59, 2) := by decide +kernel
theorem dX10_findFault_146 : decode cX10_findFault 146 = .ok (.if_icmp .ne 23, 3) := by decide +kernel
theorem dX10_findFault_149 : decode cX10_findFault 149 = .ok (.aload_n 0, 1) := by decide +kernel
theorem dX10_findFault_150 : decode cX10_findFault 150 = .ok (.dup, 1) := by decide +kernel
theorem dX10_findFault_151 : decode cX10_findFault 151 = .ok (.getfield 84, 3) := by decide +kernel
theorem dX10_findFault_154 : decode cX10_findFault 154 = .ok (.iconst 1, 1) := by decide +kernel
theorem dX10_findFault_155 : decode cX10_findFault 155 = .ok (.iadd, 1) := by decide +kernel
theorem dX10_findFault_156 : decode cX10_findFault 156 = .ok (.putfield 84, 3) := by decide +kernel
theorem dX10_findFault_159 : decode cX10_findFault 159 = .ok (.aload_n 0, 1) := by decide +kernel
theorem dX10_findFault_160 : decode cX10_findFault 160 = .ok (.getfield 28, 3) := by decide +kernel
theorem dX10_findFault_163 : decode cX10_findFault 163 = .ok (.aload_n 0, 1) := by decide +kernel
theorem dX10_findFault_164 : decode cX10_findFault 164 = .ok (.getfield 84, 3) := by decide +kernel
theorem dX10_findFault_167 : decode cX10_findFault 167 = .ok (.iconst 0, 1) := by decide +kernel
theorem dX10_findFault_168 : decode cX10_findFault 168 = .ok (.iastore, 1) := by decide +kernel
theorem dX10_findFault_169 : decode cX10_findFault 169 = .ok (.iload 6, 2) := by decide +kernel
theorem dX10_findFault_171 : decode cX10_findFault 171 = .ok (.ifCond .eq 8, 3) := by decide +kernel
theorem dX10_findFault_174 : decode cX10_findFault 174 = .ok (.bipush (-6), 2) := by decide +kernel
theorem dX10_findFault_176 : decode cX10_findFault 176 = .ok (.goto 21, 3) := by decide +kernel
theorem dX10_findFault_179 : decode cX10_findFault 179 = .ok (.iload_n 1, 1) := by decide +kernel
theorem dX10_findFault_180 : decode cX10_findFault 180 = .ok (.bipush (-6), 2) := by decide +kernel
theorem dX10_findFault_182 : decode cX10_findFault 182 = .ok (.if_icmp .ne 8, 3) := by decide +kernel
theorem dX10_findFault_185 : decode cX10_findFault 185 = .ok (.iload 4, 2) := by decide +kernel
theorem dX10_findFault_187 : decode cX10_findFault 187 = .ok (.goto 10, 3) := by decide +kernel
theorem dX10_findFault_190 : decode cX10_findFault 190 = .ok (.bipush 10, 2) := by decide +kernel
theorem dX10_findFault_192 : decode cX10_findFault 192 = .ok (.iload_n 1, 1) := by decide +kernel
theorem dX10_findFault_193 : decode cX10_findFault 193 = .ok (.imul, 1) := by decide +kernel
theorem dX10_findFault_194 : decode cX10_findFault 194 = .ok (.iload 4, 2) := by decide +kernel
theorem dX10_findFault_196 : decode cX10_findFault 196 = .ok (.iadd, 1) := by decide +kernel
theorem dX10_findFault_197 : decode cX10_findFault 197 = .ok (.istore_n 1, 1) := by decide +kernel
theorem dX10_findFault_198 : decode cX10_findFault 198 = .ok (.iinc 2 1, 3) := by decide +kernel
theorem dX10_findFault_201 : decode cX10_findFault 201 = .ok (.goto (-179), 3) := by decide +kernel
theorem dX10_findFault_204 : decode cX10_findFault 204 = .ok (.iload_n 1, 1) := by decide +kernel
theorem dX10_findFault_205 : decode cX10_findFault 205 = .ok (.bipush (-6), 2) := by decide +kernel
theorem dX10_findFault_207 : decode cX10_findFault 207 = .ok (.if_icmp .ne 8, 3) := by decide +kernel
theorem dX10_findFault_210 : decode cX10_findFault 210 = .ok (.aload_n 0, 1) := by decide +kernel
theorem dX10_findFault_211 : decode cX10_findFault 211 = .ok (.getfield 108, 3) := by decide +kernel
theorem dX10_findFault_214 : decode cX10_findFault 214 = .ok (.ireturn, 1) := by decide +kernel
theorem dX10_findFault_215 : decode cX10_findFault 215 = .ok (.aload_n 0, 1) := by decide +kernel
theorem dX10_findFault_216 : decode cX10_findFault 216 = .ok (.iload_n 1, 1) := by decide +kernel
theorem dX10_findFault_217 : decode cX10_findFault 217 = .ok (.invokevirtual 225, 3) := by decide +kernel
theorem dX10_findFault_220 : decode cX10_findFault 220 = .ok (.aload_n 0, 1) := by decide +kernel
theorem dX10_findFault_221 : decode cX10_findFault 221 = .ok (.dup, 1) := by decide +kernel
theorem dX10_findFault_222 : decode cX10_findFault 222 = .ok (.getfield 84, 3) := by decide +kernel
theorem dX10_findFault_225 : decode cX10_findFault 225 = .ok (.iconst 1, 1) := by decide +kernel
theorem dX10_findFault_226 : decode cX10_findFault 226 = .ok (.iadd, 1) := by decide +kernel
theorem dX10_findFault_227 : decode cX10_findFault 227 = .ok (.putfield 84, 3) := by decide +kernel
theorem dX10_findFault_230 : decode cX10_findFault 230 = .ok (.bipush (-6), 2) := by decide +kernel
theorem dX10_findFault_232 : decode cX10_findFault 232 = .ok (.ireturn, 1) := by decide +kernel
theorem dX10_fault_0 : decode cX10_fault 0 = .ok (.aload_n 0, 1) := by decide +kernel
theorem dX10_fault_1 : decode cX10_fault 1 = .ok (.invokevirtual 90, 3) := by decide +kernel
theorem dX10_fault_4 : decode cX10_fault 4 = .ok (.ireturn, 1) := by decide +kernel
theorem dX10_undo_0 : decode cX10_undo 0 = .ok (.aload_n 0, 1) := by decide +kernel
theorem dX10_undo_1 : decode cX10_undo 1 = .ok (.getfield 46, 3) := by decide +kernel
theorem dX10_undo_4 : decode cX10_undo 4 = .ok (.ifCond .ne 6, 3) := by decide +kernel
theorem dX10_undo_7 : decode cX10_undo 7 = .ok (.bipush (-5), 2) := by decide +kernel
theorem dX10_undo_9 : decode cX10_undo 9 = .ok (.ireturn, 1) := by decide +kernel
theorem dX10_undo_10 : decode cX10_undo 10 = .ok (.aload_n 0, 1) := by decide +kernel
theorem dX10_undo_11 : decode cX10_undo 11 = .ok (.dup, 1) := by decide +kernel
theorem dX10_undo_12 : decode cX10_undo 12 = .ok (.getfield 46, 3) := by decide +kernel
theorem dX10_undo_15 : decode cX10_undo 15 = .ok (.iconst 1, 1) := by decide +kernel
theorem dX10_undo_16 : decode cX10_undo 16 = .ok (.isub, 1) := by decide +kernel
theorem dX10_undo_17 : decode cX10_undo 17 = .ok (.putfield 46, 3) := by decide +kernel
theorem dX10_undo_20 : decode cX10_undo 20 = .ok (.aload_n 0, 1) := by decide +kernel
theorem dX10_undo_21 : decode cX10_undo 21 = .ok (.getfield 13, 3) := by decide +kernel
theorem dX10_undo_24 : decode cX10_undo 24 = .ok (.aload_n 0, 1) := by decide +kernel
theorem dX10_undo_25 : decode cX10_undo 25 = .ok (.getfield 46, 3) := by decide +kernel
theorem dX10_undo_28 : decode cX10_undo 28 = .ok (.bipush 42, 2) := by decide +kernel
theorem dX10_undo_30 : decode cX10_undo 30 = .ok (.imul, 1) := by decide +kernel
theorem dX10_undo_31 : decode cX10_undo 31 = .ok (.aload_n 0, 1) := by decide +kernel
theorem dX10_undo_32 : decode cX10_undo 32 = .ok (.getfield 7, 3) := by decide +kernel
theorem dX10_undo_35 : decode cX10_undo 35 = .ok (.iconst 0, 1) := by decide +kernel
theorem dX10_undo_36 : decode cX10_undo 36 = .ok (.invokestatic 50, 3) := by decide +kernel
theorem dX10_undo_39 : decode cX10_undo 39 = .ok (.aload_n 0, 1) := by decide +kernel
theorem dX10_undo_40 : decode cX10_undo 40 = .ok (.getfield 46, 3) := by decide +kernel
theorem dX10_undo_43 : decode cX10_undo 43 = .ok (.ireturn, 1) := by decide +kernel
theorem dX10_save_0 : decode cX10_save 0 = .ok (.iload_n 1, 1) := by decide +kernel
theorem dX10_save_1 : decode cX10_save 1 = .ok (.iconst 0, 1) := by decide +kernel
theorem dX10_save_2 : decode cX10_save 2 = .ok (.iconst 1, 1) := by decide +kernel
theorem dX10_save_3 : decode cX10_save 3 = .ok (.invokestatic 54, 3) := by decide +kernel
theorem dX10_save_6 : decode cX10_save 6 = .ok (.ifCond .ne 6, 3) := by decide +kernel
theorem dX10_save_9 : decode cX10_save 9 = .ok (.bipush (-2), 2) := by decide +kernel
theorem dX10_save_11 : decode cX10_save 11 = .ok (.ireturn, 1) := by decide +kernel
theorem dX10_save_12 : decode cX10_save 12 = .ok (.aload_n 0, 1) := by decide +kernel
theorem dX10_save_13 : decode cX10_save 13 = .ok (.getfield 7, 3) := by decide +kernel
theorem dX10_save_16 : decode cX10_save 16 = .ok (.iconst 0, 1) := by decide +kernel
theorem dX10_save_17 : decode cX10_save 17 = .ok (.aload_n 0, 1) := by decide +kernel
theorem dX10_save_18 : decode cX10_save 18 = .ok (.getfield 16, 3) := by decide +kernel
theorem dX10_save_21 : decode cX10_save 21 = .ok (.bipush 42, 2) := by decide +kernel
theorem dX10_save_23 : decode cX10_save 23 = .ok (.iload_n 1, 1) := by decide +kernel
theorem dX10_save_24 : decode cX10_save 24 = .ok (.imul, 1) := by decide +kernel
theorem dX10_save_25 : decode cX10_save 25 = .ok (.invokestatic 50, 3) := by decide +kernel
theorem dX10_save_28 : decode cX10_save 28 = .ok (.aload_n 0, 1) := by decide +kernel
theorem dX10_save_29 : decode cX10_save 29 = .ok (.getfield 19, 3) := by decide +kernel
theorem dX10_save_32 : decode cX10_save 32 = .ok (.iload_n 1, 1) := by decide +kernel
theorem dX10_save_33 : decode cX10_save 33 = .ok (.iconst 1, 1) := by decide +kernel
theorem dX10_save_34 : decode cX10_save 34 = .ok (.iastore, 1) := by decide +kernel
theorem dX10_save_35 : decode cX10_save 35 = .ok (.aload_n 0, 1) := by decide +kernel
theorem dX10_save_36 : decode cX10_save 36 = .ok (.invokevirtual 213, 3) := by decide +kernel
theorem dX10_save_39 : decode cX10_save 39 = .ok (.ireturn, 1) := by decide +kernel
theorem dX10_restore_0 : decode cX10_restore 0 = .ok (.iload_n 1, 1) := by decide +kernel
theorem dX10_restore_1 : decode cX10_restore 1 = .ok (.iconst 0, 1) := by decide +kernel
theorem dX10_restore_2 : decode cX10_restore 2 = .ok (.iconst 1, 1) := by decide +kernel
theorem dX10_restore_3 : decode cX10_restore 3 = .ok (.invokestatic 54, 3) := by decide +kernel
theorem dX10_restore_6 : decode cX10_restore 6 = .ok (.ifCond .ne 6, 3) := by decide +kernel
theorem dX10_restore_9 : decode cX10_restore 9 = .ok (.bipush (-2), 2) := by decide +kernel
theorem dX10_restore_11 : decode cX10_restore 11 = .ok (.ireturn, 1) := by decide +kernel
theorem dX10_restore_12 : decode cX10_restore 12 = .ok (.aload_n 0, 1) := by decide +kernel
theorem dX10_restore_13 : decode cX10_restore 13 = .ok (.getfield 19, 3) := by decide +kernel
theorem dX10_restore_16 : decode cX10_restore 16 = .ok (.iload_n 1, 1) := by decide +kernel
theorem dX10_restore_17 : decode cX10_restore 17 = .ok (.iaload, 1) := by decide +kernel
theorem dX10_restore_18 : decode cX10_restore 18 = .ok (.ifCond .ne 6, 3) := by decide +kernel
theorem dX10_restore_21 : decode cX10_restore 21 = .ok (.bipush (-5), 2) := by decide +kernel
theorem dX10_restore_23 : decode cX10_restore 23 = .ok (.ireturn, 1) := by decide +kernel
theorem dX10_restore_24 : decode cX10_restore 24 = .ok (.aload_n 0, 1) := by decide +kernel
theorem dX10_restore_25 : decode cX10_restore 25 = .ok (.invokevirtual 101, 3) := by decide +kernel
theorem dX10_restore_28 : decode cX10_restore 28 = .ok (.aload_n 0, 1) := by decide +kernel
theorem dX10_restore_29 : decode cX10_restore 29 = .ok (.getfield 16, 3) := by decide +kernel
theorem dX10_restore_32 : decode cX10_restore 32 = .ok (.bipush 42, 2) := by decide +kernel
theorem dX10_restore_34 : decode cX10_restore 34 = .ok (.iload_n 1, 1) := by decide +kernel
theorem dX10_restore_35 : decode cX10_restore 35 = .ok (.imul, 1) := by decide +kernel
theorem dX10_restore_36 : decode cX10_restore 36 = .ok (.aload_n 0, 1) := by decide +kernel
theorem dX10_restore_37 : decode cX10_restore 37 = .ok (.getfield 7, 3) := by decide +kernel
theorem dX10_restore_40 : decode cX10_restore 40 = .ok (.iconst 0, 1) := by decide +kernel
theorem dX10_restore_41 : decode cX10_restore 41 = .ok (.invokestatic 50, 3) := by decide +kernel
theorem dX10_restore_44 : decode cX10_restore 44 = .ok (.aload_n 0, 1) := by decide +kernel
theorem dX10_restore_45 : decode cX10_restore 45 = .ok (.invokevirtual 213, 3) := by decide +kernel
theorem dX10_restore_48 : decode cX10_restore 48 = .ok (.ireturn, 1) := by decide +kernel
theorem dJ6_bitCount_0f7a4_0 : decode cJ6_bitCount_0f7a4 0 = .ok (.iload_n 0, 1) := by decide +kernel
theorem dJ6_bitCount_0f7a4_1 : decode cJ6_bitCount_0f7a4 1 = .ok (.iload_n 0, 1) := by decide +kernel
theorem dJ6_bitCount_0f7a4_2 : decode cJ6_bitCount_0f7a4 2 = .ok (.iconst 1, 1) := by decide +kernel
theorem dJ6_bitCount_0f7a4_3 : decode cJ6_bitCount_0f7a4 3 = .ok (.iushr, 1) := by decide +kernel
theorem dJ6_bitCount_0f7a4_4 : decode cJ6_bitCount_0f7a4 4 = .ok (.ldc_w 265, 3) := by decide +kernel
theorem dJ6_bitCount_0f7a4_7 : decode cJ6_bitCount_0f7a4 7 = .ok (.iand, 1) := by decide +kernel
theorem dJ6_bitCount_0f7a4_8 : decode cJ6_bitCount_0f7a4 8 = .ok (.isub, 1) := by decide +kernel
theorem dJ6_bitCount_0f7a4_9 : decode cJ6_bitCount_0f7a4 9 = .ok (.istore_n 0, 1) := by decide +kernel
theorem dJ6_bitCount_0f7a4_10 : decode cJ6_bitCount_0f7a4 10 = .ok (.iload_n 0, 1) := by decide +kernel
theorem dJ6_bitCount_0f7a4_11 : decode cJ6_bitCount_0f7a4 11 = .ok (.ldc_w 266, 3) := by decide +kernel
theorem dJ6_bitCount_0f7a4_14 : decode cJ6_bitCount_0f7a4 14 = .ok (.iand, 1) := by decide +kernel
theorem dJ6_bitCount_0f7a4_15 : decode cJ6_bitCount_0f7a4 15 = .ok (.iload_n 0, 1) := by decide +kernel
theorem dJ6_bitCount_0f7a4_16 : decode cJ6_bitCount_0f7a4 16 = .ok (.iconst 2, 1) := by decide +kernel
theorem dJ6_bitCount_0f7a4_17 : decode cJ6_bitCount_0f7a4 17 = .ok (.iushr, 1) := by decide +kernel
theorem dJ6_bitCount_0f7a4_18 : decode cJ6_bitCount_0f7a4 18 = .ok (.ldc_w 266, 3) := by decide +kernel
theorem dJ6_bitCount_0f7a4_21 : decode cJ6_bitCount_0f7a4 21 = .ok (.iand, 1) := by decide +kernel
theorem dJ6_bitCount_0f7a4_22 : decode cJ6_bitCount_0f7a4 22 = .ok (.iadd, 1) := by decide +kernel
theorem dJ6_bitCount_0f7a4_23 : decode cJ6_bitCount_0f7a4 23 = .ok (.istore_n 0, 1) := by decide +kernel
theorem dJ6_bitCount_0f7a4_24 : decode cJ6_bitCount_0f7a4 24 = .ok (.iload_n 0, 1) := by decide +kernel
theorem dJ6_bitCount_0f7a4_25 : decode cJ6_bitCount_0f7a4 25 = .ok (.iload_n 0, 1) := by decide +kernel
theorem dJ6_bitCount_0f7a4_26 : decode cJ6_bitCount_0f7a4 26 = .ok (.iconst 4, 1) := by decide +kernel
theorem dJ6_bitCount_0f7a4_27 : decode cJ6_bitCount_0f7a4 27 = .ok (.iushr, 1) := by decide +kernel
theorem dJ6_bitCount_0f7a4_28 : decode cJ6_bitCount_0f7a4 28 = .ok (.iadd, 1) := by decide +kernel
theorem dJ6_bitCount_0f7a4_29 : decode cJ6_bitCount_0f7a4 29 = .ok (.ldc_w 267, 3) := by decide +kernel
theorem dJ6_bitCount_0f7a4_32 : decode cJ6_bitCount_0f7a4 32 = .ok (.iand, 1) := by decide +kernel
theorem dJ6_bitCount_0f7a4_33 : decode cJ6_bitCount_0f7a4 33 = .ok (.istore_n 0, 1) := by decide +kernel
theorem dJ6_bitCount_0f7a4_34 : decode cJ6_bitCount_0f7a4 34 = .ok (.iload_n 0, 1) := by decide +kernel
theorem dJ6_bitCount_0f7a4_35 : decode cJ6_bitCount_0f7a4 35 = .ok (.iload_n 0, 1) := by decide +kernel
theorem dJ6_bitCount_0f7a4_36 : decode cJ6_bitCount_0f7a4 36 = .ok (.bipush 8, 2) := by decide +kernel
theorem dJ6_bitCount_0f7a4_38 : decode cJ6_bitCount_0f7a4 38 = .ok (.iushr, 1) := by decide +kernel
theorem dJ6_bitCount_0f7a4_39 : decode cJ6_bitCount_0f7a4 39 = .ok (.iadd, 1) := by decide +kernel
theorem dJ6_bitCount_0f7a4_40 : decode cJ6_bitCount_0f7a4 40 = .ok (.istore_n 0, 1) := by decide +kernel
theorem dJ6_bitCount_0f7a4_41 : decode cJ6_bitCount_0f7a4 41 = .ok (.iload_n 0, 1) := by decide +kernel
theorem dJ6_bitCount_0f7a4_42 : decode cJ6_bitCount_0f7a4 42 = .ok (.iload_n 0, 1) := by decide +kernel
theorem dJ6_bitCount_0f7a4_43 : decode cJ6_bitCount_0f7a4 43 = .ok (.bipush 16, 2) := by decide +kernel
theorem dJ6_bitCount_0f7a4_45 : decode cJ6_bitCount_0f7a4 45 = .ok (.iushr, 1) := by decide +kernel
theorem dJ6_bitCount_0f7a4_46 : decode cJ6_bitCount_0f7a4 46 = .ok (.iadd, 1) := by decide +kernel
theorem dJ6_bitCount_0f7a4_47 : decode cJ6_bitCount_0f7a4 47 = .ok (.istore_n 0, 1) := by decide +kernel
theorem dJ6_bitCount_0f7a4_48 : decode cJ6_bitCount_0f7a4 48 = .ok (.iload_n 0, 1) := by decide +kernel
theorem dJ6_bitCount_0f7a4_49 : decode cJ6_bitCount_0f7a4 49 = .ok (.bipush 63, 2) := by decide +kernel
theorem dJ6_bitCount_0f7a4_51 : decode cJ6_bitCount_0f7a4 51 = .ok (.iand, 1) := by decide +kernel
theorem dJ6_bitCount_0f7a4_52 : decode cJ6_bitCount_0f7a4 52 = .ok (.ireturn, 1) := by decide +kernel
theorem dJ13_bitCount_95d88_0 : decode cJ13_bitCount_95d88 0 = .ok (.lload_n 0, 1) := by decide +kernel
theorem dJ13_bitCount_95d88_1 : decode cJ13_bitCount_95d88 1 = .ok (.lload_n 0, 1) := by decide +kernel
theorem dJ13_bitCount_95d88_2 : decode cJ13_bitCount_95d88 2 = .ok (.iconst 1, 1) := by decide +kernel
theorem dJ13_bitCount_95d88_3 : decode cJ13_bitCount_95d88 3 = .ok (.lushr, 1) := by decide +kernel
theorem dJ13_bitCount_95d88_4 : decode cJ13_bitCount_95d88 4 = .ok (.ldc2_w 314, 3) := by decide +kernel
theorem dJ13_bitCount_95d88_7 : decode cJ13_bitCount_95d88 7 = .ok (.land, 1) := by decide +kernel
theorem dJ13_bitCount_95d88_8 : decode cJ13_bitCount_95d88 8 = .ok (.lsub, 1) := by decide +kernel
theorem dJ13_bitCount_95d88_9 : decode cJ13_bitCount_95d88 9 = .ok (.lstore_n 0, 1) := by decide +kernel
theorem dJ13_bitCount_95d88_10 : decode cJ13_bitCount_95d88 10 = .ok (.lload_n 0, 1) := by decide +kernel
theorem dJ13_bitCount_95d88_11 : decode cJ13_bitCount_95d88 11 = .ok (.ldc2_w 316, 3) := by decide +kernel
theorem dJ13_bitCount_95d88_14 : decode cJ13_bitCount_95d88 14 = .ok (.land, 1) := by decide +kernel
theorem dJ13_bitCount_95d88_15 : decode cJ13_bitCount_95d88 15 = .ok (.lload_n 0, 1) := by decide +kernel
theorem dJ13_bitCount_95d88_16 : decode cJ13_bitCount_95d88 16 = .ok (.iconst 2, 1) := by decide +kernel
theorem dJ13_bitCount_95d88_17 : decode cJ13_bitCount_95d88 17 = .ok (.lushr, 1) := by decide +kernel
theorem dJ13_bitCount_95d88_18 : decode cJ13_bitCount_95d88 18 = .ok (.ldc2_w 316, 3) := by decide +kernel
theorem dJ13_bitCount_95d88_21 : decode cJ13_bitCount_95d88 21 = .ok (.land, 1) := by decide +kernel
theorem dJ13_bitCount_95d88_22 : decode cJ13_bitCount_95d88 22 = .ok (.ladd, 1) := by decide +kernel
theorem dJ13_bitCount_95d88_23 : decode cJ13_bitCount_95d88 23 = .ok (.lstore_n 0, 1) := by decide +kernel
theorem dJ13_bitCount_95d88_24 : decode cJ13_bitCount_95d88 24 = .ok (.lload_n 0, 1) := by decide +kernel
theorem dJ13_bitCount_95d88_25 : decode cJ13_bitCount_95d88 25 = .ok (.lload_n 0, 1) := by decide +kernel
theorem dJ13_bitCount_95d88_26 : decode cJ13_bitCount_95d88 26 = .ok (.iconst 4, 1) := by decide +kernel
theorem dJ13_bitCount_95d88_27 : decode cJ13_bitCount_95d88 27 = .ok (.lushr, 1) := by decide +kernel
theorem dJ13_bitCount_95d88_28 : decode cJ13_bitCount_95d88 28 = .ok (.ladd, 1) := by decide +kernel
theorem dJ13_bitCount_95d88_29 : decode cJ13_bitCount_95d88 29 = .ok (.ldc2_w 318, 3) := by decide +kernel
theorem dJ13_bitCount_95d88_32 : decode cJ13_bitCount_95d88 32 = .ok (.land, 1) := by decide +kernel
theorem dJ13_bitCount_95d88_33 : decode cJ13_bitCount_95d88 33 = .ok (.lstore_n 0, 1) := by decide +kernel
theorem dJ13_bitCount_95d88_34 : decode cJ13_bitCount_95d88 34 = .ok (.lload_n 0, 1) := by decide +kernel
theorem dJ13_bitCount_95d88_35 : decode cJ13_bitCount_95d88 35 = .ok (.lload_n 0, 1) := by decide +kernel
theorem dJ13_bitCount_95d88_36 : decode cJ13_bitCount_95d88 36 = .ok (.bipush 8, 2) := by decide +kernel
theorem dJ13_bitCount_95d88_38 : decode cJ13_bitCount_95d88 38 = .ok (.lushr, 1) := by decide +kernel
theorem dJ13_bitCount_95d88_39 : decode cJ13_bitCount_95d88 39 = .ok (.ladd, 1) := by decide +kernel
theorem dJ13_bitCount_95d88_40 : decode cJ13_bitCount_95d88 40 = .ok (.lstore_n 0, 1) := by decide +kernel
theorem dJ13_bitCount_95d88_41 : decode cJ13_bitCount_95d88 41 = .ok (.lload_n 0, 1) := by decide +kernel
theorem dJ13_bitCount_95d88_42 : decode cJ13_bitCount_95d88 42 = .ok (.lload_n 0, 1) := by decide +kernel
theorem dJ13_bitCount_95d88_43 : decode cJ13_bitCount_95d88 43 = .ok (.bipush 16, 2) := by decide +kernel
theorem dJ13_bitCount_95d88_45 : decode cJ13_bitCount_95d88 45 = .ok (.lushr, 1) := by decide +kernel
theorem dJ13_bitCount_95d88_46 : decode cJ13_bitCount_95d88 46 = .ok (.ladd, 1) := by decide +kernel
theorem dJ13_bitCount_95d88_47 : decode cJ13_bitCount_95d88 47 = .ok (.lstore_n 0, 1) := by decide +kernel
theorem dJ13_bitCount_95d88_48 : decode cJ13_bitCount_95d88 48 = .ok (.lload_n 0, 1) := by decide +kernel
theorem dJ13_bitCount_95d88_49 : decode cJ13_bitCount_95d88 49 = .ok (.lload_n 0, 1) := by decide +kernel
theorem dJ13_bitCount_95d88_50 : decode cJ13_bitCount_95d88 50 = .ok (.bipush 32, 2) := by decide +kernel
theorem dJ13_bitCount_95d88_52 : decode cJ13_bitCount_95d88 52 = .ok (.lushr, 1) := by decide +kernel
theorem dJ13_bitCount_95d88_53 : decode cJ13_bitCount_95d88 53 = .ok (.ladd, 1) := by decide +kernel
theorem dJ13_bitCount_95d88_54 : decode cJ13_bitCount_95d88 54 = .ok (.lstore_n 0, 1) := by decide +kernel
theorem dJ13_bitCount_95d88_55 : decode cJ13_bitCount_95d88 55 = .ok (.lload_n 0, 1) := by decide +kernel
theorem dJ13_bitCount_95d88_56 : decode cJ13_bitCount_95d88 56 = .ok (.l2i, 1) := by decide +kernel
theorem dJ13_bitCount_95d88_57 : decode cJ13_bitCount_95d88 57 = .ok (.bipush 127, 2) := by decide +kernel
theorem dJ13_bitCount_95d88_59 : decode cJ13_bitCount_95d88 59 = .ok (.iand, 1) := by decide +kernel
theorem dJ13_bitCount_95d88_60 : decode cJ13_bitCount_95d88 60 = .ok (.ireturn, 1) := by decide +kernel
theorem dJ9_max_7cf53_0 : decode cJ9_max_7cf53 0 = .ok (.iload_n 0, 1) := by decide +kernel
theorem dJ9_max_7cf53_1 : decode cJ9_max_7cf53 1 = .ok (.iload_n 1, 1) := by decide +kernel
theorem dJ9_max_7cf53_2 : decode cJ9_max_7cf53 2 = .ok (.if_icmp .lt 7, 3) := by decide +kernel
theorem dJ9_max_7cf53_5 : decode cJ9_max_7cf53 5 = .ok (.iload_n 0, 1) := by decide +kernel
theorem dJ9_max_7cf53_6 : decode cJ9_max_7cf53 6 = .ok (.goto 4, 3) := by decide +kernel
theorem dJ9_max_7cf53_9 : decode cJ9_max_7cf53 9 = .ok (.iload_n 1, 1) := by decide +kernel
theorem dJ9_max_7cf53_10 : decode cJ9_max_7cf53 10 = .ok (.ireturn, 1) := by decide +kernel
theorem dJ9_min_7cf53_0 : decode cJ9_min_7cf53 0 = .ok (.iload_n 0, 1) := by decide +kernel
theorem dJ9_min_7cf53_1 : decode cJ9_min_7cf53 1 = .ok (.iload_n 1, 1) := by decide +kernel
theorem dJ9_min_7cf53_2 : decode cJ9_min_7cf53 2 = .ok (.if_icmp .gt 7, 3) := by decide +kernel
theorem dJ9_min_7cf53_5 : decode cJ9_min_7cf53 5 = .ok (.iload_n 0, 1) := by decide +kernel
theorem dJ9_min_7cf53_6 : decode cJ9_min_7cf53 6 = .ok (.goto 4, 3) := by decide +kernel
theorem dJ9_min_7cf53_9 : decode cJ9_min_7cf53 9 = .ok (.iload_n 1, 1) := by decide +kernel
theorem dJ9_min_7cf53_10 : decode cJ9_min_7cf53 10 = .ok (.ireturn, 1) := by decide +kernel
theorem dL_law_0 : decode cL_law 0 = .ok (.new 7, 3) := by decide +kernel
theorem dL_law_3 : decode cL_law 3 = .ok (.dup, 1) := by decide +kernel
theorem dL_law_4 : decode cL_law 4 = .ok (.invokespecial 9, 3) := by decide +kernel
theorem dL_law_7 : decode cL_law 7 = .ok (.astore_n 1, 1) := by decide +kernel
theorem dL_law_8 : decode cL_law 8 = .ok (.new 10, 3) := by decide +kernel
theorem dL_law_11 : decode cL_law 11 = .ok (.dup, 1) := by decide +kernel
theorem dL_law_12 : decode cL_law 12 = .ok (.invokespecial 12, 3) := by decide +kernel
theorem dL_law_15 : decode cL_law 15 = .ok (.astore_n 2, 1) := by decide +kernel
theorem dL_law_16 : decode cL_law 16 = .ok (.iconst 0, 1) := by decide +kernel
theorem dL_law_17 : decode cL_law 17 = .ok (.istore_n 3, 1) := by decide +kernel
theorem dL_law_18 : decode cL_law 18 = .ok (.iload_n 3, 1) := by decide +kernel
theorem dL_law_19 : decode cL_law 19 = .ok (.aload_n 0, 1) := by decide +kernel
theorem dL_law_20 : decode cL_law 20 = .ok (.arraylength, 1) := by decide +kernel
theorem dL_law_21 : decode cL_law 21 = .ok (.bipush 6, 2) := by decide +kernel
theorem dL_law_23 : decode cL_law 23 = .ok (.isub, 1) := by decide +kernel
theorem dL_law_24 : decode cL_law 24 = .ok (.if_icmp .gt 1200, 3) := by decide +kernel
theorem dL_law_27 : decode cL_law 27 = .ok (.aload_n 0, 1) := by decide +kernel
theorem dL_law_28 : decode cL_law 28 = .ok (.iload_n 3, 1) := by decide +kernel
theorem dL_law_29 : decode cL_law 29 = .ok (.iaload, 1) := by decide +kernel
theorem dL_law_30 : decode cL_law 30 = .ok (.bipush 31, 2) := by decide +kernel
theorem dL_law_32 : decode cL_law 32 = .ok (.iand, 1) := by decide +kernel
theorem dL_law_33 : decode cL_law 33 = .ok (.tableswitch 1185 0 27 #[127, 150, 203, 272, 341, 400, 423, 466, 489, 532, 585, 618, 651, 684, 717, 770, 813, 872, 905, 938, 961, 1024, 1047, 1100, 1113, 1126, 1139, 1162], 127) := by decide +kernel
theorem dL_law_160 : decode cL_law 160 = .ok (.aload_n 1, 1) := by decide +kernel
theorem dL_law_161 : decode cL_law 161 = .ok (.aload_n 0, 1) := by decide +kernel
theorem dL_law_162 : decode cL_law 162 = .ok (.iload_n 3, 1) := by decide +kernel
theorem dL_law_163 : decode cL_law 163 = .ok (.iconst 1, 1) := by decide +kernel
theorem dL_law_164 : decode cL_law 164 = .ok (.iadd, 1) := by decide +kernel
theorem dL_law_165 : decode cL_law 165 = .ok (.iaload, 1) := by decide +kernel
theorem dL_law_166 : decode cL_law 166 = .ok (.invokevirtual 13, 3) := by decide +kernel
theorem dL_law_169 : decode cL_law 169 = .ok (.aload_n 2, 1) := by decide +kernel
theorem dL_law_170 : decode cL_law 170 = .ok (.aload_n 0, 1) := by decide +kernel
theorem dL_law_171 : decode cL_law 171 = .ok (.iload_n 3, 1) := by decide +kernel
theorem dL_law_172 : decode cL_law 172 = .ok (.iconst 1, 1) := by decide +kernel
theorem dL_law_173 : decode cL_law 173 = .ok (.iadd, 1) := by decide +kernel
theorem dL_law_174 : decode cL_law 174 = .ok (.iaload, 1) := by decide +kernel
theorem dL_law_175 : decode cL_law 175 = .ok (.invokevirtual 17, 3) := by decide +kernel
theorem dL_law_178 : decode cL_law 178 = .ok (.if_icmp .eq 1040, 3) := by decide +kernel
theorem dL_law_181 : decode cL_law 181 = .ok (.iconst 0, 1) := by decide +kernel
theorem dL_law_182 : decode cL_law 182 = .ok (.ireturn, 1) := by decide +kernel
theorem dL_law_183 : decode cL_law 183 = .ok (.aload_n 1, 1) := by decide +kernel
theorem dL_law_184 : decode cL_law 184 = .ok (.aload_n 0, 1) := by decide +kernel
theorem dL_law_185 : decode cL_law 185 = .ok (.iload_n 3, 1) := by decide +kernel
theorem dL_law_186 : decode cL_law 186 = .ok (.iconst 1, 1) := by decide +kernel
theorem dL_law_187 : decode cL_law 187 = .ok (.iadd, 1) := by decide +kernel
theorem dL_law_188 : decode cL_law 188 = .ok (.iaload, 1) := by decide +kernel
theorem dL_law_189 : decode cL_law 189 = .ok (.aload_n 0, 1) := by decide +kernel
theorem dL_law_190 : decode cL_law 190 = .ok (.iload_n 3, 1) := by decide +kernel
theorem dL_law_191 : decode cL_law 191 = .ok (.iconst 2, 1) := by decide +kernel
theorem dL_law_192 : decode cL_law 192 = .ok (.iadd, 1) := by decide +kernel
theorem dL_law_193 : decode cL_law 193 = .ok (.iaload, 1) := by decide +kernel
theorem dL_law_194 : decode cL_law 194 = .ok (.aload_n 0, 1) := by decide +kernel
theorem dL_law_195 : decode cL_law 195 = .ok (.iload_n 3, 1) := by decide +kernel
theorem dL_law_196 : decode cL_law 196 = .ok (.iconst 3, 1) := by decide +kernel
theorem dL_law_197 : decode cL_law 197 = .ok (.iadd, 1) := by decide +kernel
theorem dL_law_198 : decode cL_law 198 = .ok (.iaload, 1) := by decide +kernel
theorem dL_law_199 : decode cL_law 199 = .ok (.aload_n 0, 1) := by decide +kernel
theorem dL_law_200 : decode cL_law 200 = .ok (.iload_n 3, 1) := by decide +kernel
theorem dL_law_201 : decode cL_law 201 = .ok (.iconst 4, 1) := by decide +kernel
theorem dL_law_202 : decode cL_law 202 = .ok (.iadd, 1) := by decide +kernel
theorem dL_law_203 : decode cL_law 203 = .ok (.iaload, 1) := by decide +kernel
theorem dL_law_204 : decode cL_law 204 = .ok (.invokevirtual 18, 3) := by decide +kernel
theorem dL_law_207 : decode cL_law 207 = .ok (.aload_n 2, 1) := by decide +kernel
theorem dL_law_208 : decode cL_law 208 = .ok (.aload_n 0, 1) := by decide +kernel
theorem dL_law_209 : decode cL_law 209 = .ok (.iload_n 3, 1) := by decide +kernel
theorem dL_law_210 : decode cL_law 210 = .ok (.iconst 1, 1) := by decide +kernel
theorem dL_law_211 : decode cL_law 211 = .ok (.iadd, 1) := by decide +kernel
theorem dL_law_212 : decode cL_law 212 = .ok (.iaload, 1) := by decide +kernel
theorem dL_law_213 : decode cL_law 213 = .ok (.aload_n 0, 1) := by decide +kernel
theorem dL_law_214 : decode cL_law 214 = .ok (.iload_n 3, 1) := by decide +kernel
theorem dL_law_215 : decode cL_law 215 = .ok (.iconst 2, 1) := by decide +kernel
theorem dL_law_216 : decode cL_law 216 = .ok (.iadd, 1) := by decide +kernel
theorem dL_law_217 : decode cL_law 217 = .ok (.iaload, 1) := by decide +kernel
theorem dL_law_218 : decode cL_law 218 = .ok (.aload_n 0, 1) := by decide +kernel
theorem dL_law_219 : decode cL_law 219 = .ok (.iload_n 3, 1) := by decide +kernel
theorem dL_law_220 : decode cL_law 220 = .ok (.iconst 3, 1) := by decide +kernel
theorem dL_law_221 : decode cL_law 221 = .ok (.iadd, 1) := by decide +kernel
theorem dL_law_222 : decode cL_law 222 = .ok (.iaload, 1) := by decide +kernel
theorem dL_law_223 : decode cL_law 223 = .ok (.aload_n 0, 1) := by decide +kernel
theorem dL_law_224 : decode cL_law 224 = .ok (.iload_n 3, 1) := by decide +kernel
theorem dL_law_225 : decode cL_law 225 = .ok (.iconst 4, 1) := by decide +kernel
theorem dL_law_226 : decode cL_law 226 = .ok (.iadd, 1) := by decide +kernel
theorem dL_law_227 : decode cL_law 227 = .ok (.iaload, 1) := by decide +kernel
theorem dL_law_228 : decode cL_law 228 = .ok (.invokevirtual 22, 3) := by decide +kernel
theorem dL_law_231 : decode cL_law 231 = .ok (.if_icmp .eq 987, 3) := by decide +kernel
theorem dL_law_234 : decode cL_law 234 = .ok (.iconst 0, 1) := by decide +kernel
theorem dL_law_235 : decode cL_law 235 = .ok (.ireturn, 1) := by decide +kernel
theorem dL_law_236 : decode cL_law 236 = .ok (.aload_n 1, 1) := by decide +kernel
theorem dL_law_237 : decode cL_law 237 = .ok (.aload_n 0, 1) := by decide +kernel
theorem dL_law_238 : decode cL_law 238 = .ok (.iload_n 3, 1) := by decide +kernel
theorem dL_law_239 : decode cL_law 239 = .ok (.iconst 1, 1) := by decide +kernel
theorem dL_law_240 : decode cL_law 240 = .ok (.iadd, 1) := by decide +kernel
theorem dL_law_241 : decode cL_law 241 = .ok (.iaload, 1) := by decide +kernel
theorem dL_law_242 : decode cL_law 242 = .ok (.aload_n 0, 1) := by decide +kernel
theorem dL_law_243 : decode cL_law 243 = .ok (.iload_n 3, 1) := by decide +kernel
theorem dL_law_244 : decode cL_law 244 = .ok (.iconst 2, 1) := by decide +kernel
theorem dL_law_245 : decode cL_law 245 = .ok (.iadd, 1) := by decide +kernel
theorem dL_law_246 : decode cL_law 246 = .ok (.iaload, 1) := by decide +kernel
theorem dL_law_247 : decode cL_law 247 = .ok (.ifCond .eq 7, 3) := by decide +kernel
theorem dL_law_250 : decode cL_law 250 = .ok (.iconst 1, 1) := by decide +kernel
theorem dL_law_251 : decode cL_law 251 = .ok (.goto 4, 3) := by decide +kernel
theorem dL_law_254 : decode cL_law 254 = .ok (.iconst 0, 1) := by decide +kernel
theorem dL_law_255 : decode cL_law 255 = .ok (.aload_n 0, 1) := by decide +kernel
theorem dL_law_256 : decode cL_law 256 = .ok (.iload_n 3, 1) := by decide +kernel
theorem dL_law_257 : decode cL_law 257 = .ok (.iconst 3, 1) := by decide +kernel
theorem dL_law_258 : decode cL_law 258 = .ok (.iadd, 1) := by decide +kernel
theorem dL_law_259 : decode cL_law 259 = .ok (.iaload, 1) := by decide +kernel
theorem dL_law_260 : decode cL_law 260 = .ok (.aload_n 0, 1) := by decide +kernel
theorem dL_law_261 : decode cL_law 261 = .ok (.iload_n 3, 1) := by decide +kernel
theorem dL_law_262 : decode cL_law 262 = .ok (.iconst 4, 1) := by decide +kernel
theorem dL_law_263 : decode cL_law 263 = .ok (.iadd, 1) := by decide +kernel
theorem dL_law_264 : decode cL_law 264 = .ok (.iaload, 1) := by decide +kernel
theorem dL_law_265 : decode cL_law 265 = .ok (.invokevirtual 23, 3) := by decide +kernel
theorem dL_law_268 : decode cL_law 268 = .ok (.aload_n 2, 1) := by decide +kernel
theorem dL_law_269 : decode cL_law 269 = .ok (.aload_n 0, 1) := by decide +kernel
theorem dL_law_270 : decode cL_law 270 = .ok (.iload_n 3, 1) := by decide +kernel
theorem dL_law_271 : decode cL_law 271 = .ok (.iconst 1, 1) := by decide +kernel
theorem dL_law_272 : decode cL_law 272 = .ok (.iadd, 1) := by decide +kernel
theorem dL_law_273 : decode cL_law 273 = .ok (.iaload, 1) := by decide +kernel
theorem dL_law_274 : decode cL_law 274 = .ok (.aload_n 0, 1) := by decide +kernel
theorem dL_law_275 : decode cL_law 275 = .ok (.iload_n 3, 1) := by decide +kernel
theorem dL_law_276 : decode cL_law 276 = .ok (.iconst 2, 1) := by decide +kernel
theorem dL_law_277 : decode cL_law 277 = .ok (.iadd, 1) := by decide +kernel
theorem dL_law_278 : decode cL_law 278 = .ok (.iaload, 1) := by decide +kernel
theorem dL_law_279 : decode cL_law 279 = .ok (.ifCond .eq 7, 3) := by decide +kernel
theorem dL_law_282 : decode cL_law 282 = .ok (.iconst 1, 1) := by decide +kernel
theorem dL_law_283 : decode cL_law 283 = .ok (.goto 4, 3) := by decide +kernel
theorem dL_law_286 : decode cL_law 286 = .ok (.iconst 0, 1) := by decide +kernel
theorem dL_law_287 : decode cL_law 287 = .ok (.aload_n 0, 1) := by decide +kernel
theorem dL_law_288 : decode cL_law 288 = .ok (.iload_n 3, 1) := by decide +kernel
theorem dL_law_289 : decode cL_law 289 = .ok (.iconst 3, 1) := by decide +kernel
theorem dL_law_290 : decode cL_law 290 = .ok (.iadd, 1) := by decide +kernel
theorem dL_law_291 : decode cL_law 291 = .ok (.iaload, 1) := by decide +kernel
theorem dL_law_292 : decode cL_law 292 = .ok (.aload_n 0, 1) := by decide +kernel
theorem dL_law_293 : decode cL_law 293 = .ok (.iload_n 3, 1) := by decide +kernel
theorem dL_law_294 : decode cL_law 294 = .ok (.iconst 4, 1) := by decide +kernel
theorem dL_law_295 : decode cL_law 295 = .ok (.iadd, 1) := by decide +kernel
theorem dL_law_296 : decode cL_law 296 = .ok (.iaload, 1) := by decide +kernel
theorem dL_law_297 : decode cL_law 297 = .ok (.invokevirtual 27, 3) := by decide +kernel
theorem dL_law_300 : decode cL_law 300 = .ok (.if_icmp .eq 918, 3) := by decide +kernel
theorem dL_law_303 : decode cL_law 303 = .ok (.iconst 0, 1) := by decide +kernel
theorem dL_law_304 : decode cL_law 304 = .ok (.ireturn, 1) := by decide +kernel
theorem dL_law_305 : decode cL_law 305 = .ok (.aload_n 1, 1) := by decide +kernel
theorem dL_law_306 : decode cL_law 306 = .ok (.aload_n 0, 1) := by decide +kernel
theorem dL_law_307 : decode cL_law 307 = .ok (.iload_n 3, 1) := by decide +kernel
theorem dL_law_308 : decode cL_law 308 = .ok (.iconst 1, 1) := by decide +kernel
theorem dL_law_309 : decode cL_law 309 = .ok (.iadd, 1) := by decide +kernel
theorem dL_law_310 : decode cL_law 310 = .ok (.iaload, 1) := by decide +kernel
theorem dL_law_311 : decode cL_law 311 = .ok (.aload_n 0, 1) := by decide +kernel
theorem dL_law_312 : decode cL_law 312 = .ok (.iload_n 3, 1) := by decide +kernel
theorem dL_law_313 : decode cL_law 313 = .ok (.iconst 2, 1) := by decide +kernel
theorem dL_law_314 : decode cL_law 314 = .ok (.iadd, 1) := by decide +kernel
theorem dL_law_315 : decode cL_law 315 = .ok (.iaload, 1) := by decide +kernel
theorem dL_law_316 : decode cL_law 316 = .ok (.ifCond .eq 7, 3) := by decide +kernel
theorem dL_law_319 : decode cL_law 319 = .ok (.iconst 1, 1) := by decide +kernel
theorem dL_law_320 : decode cL_law 320 = .ok (.goto 4, 3) := by decide +kernel
theorem dL_law_323 : decode cL_law 323 = .ok (.iconst 0, 1) := by decide +kernel
theorem dL_law_324 : decode cL_law 324 = .ok (.aload_n 0, 1) := by decide +kernel
theorem dL_law_325 : decode cL_law 325 = .ok (.iload_n 3, 1) := by decide +kernel
theorem dL_law_326 : decode cL_law 326 = .ok (.iconst 3, 1) := by decide +kernel
theorem dL_law_327 : decode cL_law 327 = .ok (.iadd, 1) := by decide +kernel
theorem dL_law_328 : decode cL_law 328 = .ok (.iaload, 1) := by decide +kernel
theorem dL_law_329 : decode cL_law 329 = .ok (.aload_n 0, 1) := by decide +kernel
theorem dL_law_330 : decode cL_law 330 = .ok (.iload_n 3, 1) := by decide +kernel
theorem dL_law_331 : decode cL_law 331 = .ok (.iconst 4, 1) := by decide +kernel
theorem dL_law_332 : decode cL_law 332 = .ok (.iadd, 1) := by decide +kernel
theorem dL_law_333 : decode cL_law 333 = .ok (.iaload, 1) := by decide +kernel
theorem dL_law_334 : decode cL_law 334 = .ok (.invokevirtual 28, 3) := by decide +kernel
theorem dL_law_337 : decode cL_law 337 = .ok (.aload_n 2, 1) := by decide +kernel
theorem dL_law_338 : decode cL_law 338 = .ok (.aload_n 0, 1) := by decide +kernel
theorem dL_law_339 : decode cL_law 339 = .ok (.iload_n 3, 1) := by decide +kernel
theorem dL_law_340 : decode cL_law 340 = .ok (.iconst 1, 1) := by decide +kernel
theorem dL_law_341 : decode cL_law 341 = .ok (.iadd, 1) := by decide +kernel
theorem dL_law_342 : decode cL_law 342 = .ok (.iaload, 1) := by decide +kernel
theorem dL_law_343 : decode cL_law 343 = .ok (.aload_n 0, 1) := by decide +kernel
theorem dL_law_344 : decode cL_law 344 = .ok (.iload_n 3, 1) := by decide +kernel
theorem dL_law_345 : decode cL_law 345 = .ok (.iconst 2, 1) := by decide +kernel
theorem dL_law_346 : decode cL_law 346 = .ok (.iadd, 1) := by decide +kernel
theorem dL_law_347 : decode cL_law 347 = .ok (.iaload, 1) := by decide +kernel
theorem dL_law_348 : decode cL_law 348 = .ok (.ifCond .eq 7, 3) := by decide +kernel
theorem dL_law_351 : decode cL_law 351 = .ok (.iconst 1, 1) := by decide +kernel
theorem dL_law_352 : decode cL_law 352 = .ok (.goto 4, 3) := by decide +kernel
theorem dL_law_355 : decode cL_law 355 = .ok (.iconst 0, 1) := by decide +kernel
theorem dL_law_356 : decode cL_law 356 = .ok (.aload_n 0, 1) := by decide +kernel
theorem dL_law_357 : decode cL_law 357 = .ok (.iload_n 3, 1) := by decide +kernel
theorem dL_law_358 : decode cL_law 358 = .ok (.iconst 3, 1) := by decide +kernel
theorem dL_law_359 : decode cL_law 359 = .ok (.iadd, 1) := by decide +kernel
theorem dL_law_360 : decode cL_law 360 = .ok (.iaload, 1) := by decide +kernel
theorem dL_law_361 : decode cL_law 361 = .ok (.aload_n 0, 1) := by decide +kernel
theorem dL_law_362 : decode cL_law 362 = .ok (.iload_n 3, 1) := by decide +kernel
theorem dL_law_363 : decode cL_law 363 = .ok (.iconst 4, 1) := by decide +kernel
theorem dL_law_364 : decode cL_law 364 = .ok (.iadd, 1) := by decide +kernel
theorem dL_law_365 : decode cL_law 365 = .ok (.iaload, 1) := by decide +kernel
theorem dL_law_366 : decode cL_law 366 = .ok (.invokevirtual 31, 3) := by decide +kernel
theorem dL_law_369 : decode cL_law 369 = .ok (.if_icmp .eq 849, 3) := by decide +kernel
theorem dL_law_372 : decode cL_law 372 = .ok (.iconst 0, 1) := by decide +kernel
theorem dL_law_373 : decode cL_law 373 = .ok (.ireturn, 1) := by decide +kernel
theorem dL_law_374 : decode cL_law 374 = .ok (.aload_n 1, 1) := by decide +kernel
theorem dL_law_375 : decode cL_law 375 = .ok (.aload_n 0, 1) := by decide +kernel
theorem dL_law_376 : decode cL_law 376 = .ok (.iload_n 3, 1) := by decide +kernel
theorem dL_law_377 : decode cL_law 377 = .ok (.iconst 1, 1) := by decide +kernel
theorem dL_law_378 : decode cL_law 378 = .ok (.iadd, 1) := by decide +kernel
theorem dL_law_379 : decode cL_law 379 = .ok (.iaload, 1) := by decide +kernel
theorem dL_law_380 : decode cL_law 380 = .ok (.aload_n 0, 1) := by decide +kernel
theorem dL_law_381 : decode cL_law 381 = .ok (.iload_n 3, 1) := by decide +kernel
theorem dL_law_382 : decode cL_law 382 = .ok (.iconst 2, 1) := by decide +kernel
theorem dL_law_383 : decode cL_law 383 = .ok (.iadd, 1) := by decide +kernel
theorem dL_law_384 : decode cL_law 384 = .ok (.iaload, 1) := by decide +kernel
theorem dL_law_385 : decode cL_law 385 = .ok (.ifCond .eq 7, 3) := by decide +kernel
theorem dL_law_388 : decode cL_law 388 = .ok (.iconst 1, 1) := by decide +kernel
theorem dL_law_389 : decode cL_law 389 = .ok (.goto 4, 3) := by decide +kernel
theorem dL_law_392 : decode cL_law 392 = .ok (.iconst 0, 1) := by decide +kernel
theorem dL_law_393 : decode cL_law 393 = .ok (.aload_n 0, 1) := by decide +kernel
theorem dL_law_394 : decode cL_law 394 = .ok (.iload_n 3, 1) := by decide +kernel
theorem dL_law_395 : decode cL_law 395 = .ok (.iconst 3, 1) := by decide +kernel
theorem dL_law_396 : decode cL_law 396 = .ok (.iadd, 1) := by decide +kernel
theorem dL_law_397 : decode cL_law 397 = .ok (.iaload, 1) := by decide +kernel
theorem dL_law_398 : decode cL_law 398 = .ok (.invokevirtual 32, 3) := by decide +kernel
theorem dL_law_401 : decode cL_law 401 = .ok (.aload_n 2, 1) := by decide +kernel
theorem dL_law_402 : decode cL_law 402 = .ok (.aload_n 0, 1) := by decide +kernel
theorem dL_law_403 : decode cL_law 403 = .ok (.iload_n 3, 1) := by decide +kernel
theorem dL_law_404 : decode cL_law 404 = .ok (.iconst 1, 1) := by decide +kernel
theorem dL_law_405 : decode cL_law 405 = .ok (.iadd, 1) := by decide +kernel
theorem dL_law_406 : decode cL_law 406 = .ok (.iaload, 1) := by decide +kernel
theorem dL_law_407 : decode cL_law 407 = .ok (.aload_n 0, 1) := by decide +kernel
theorem dL_law_408 : decode cL_law 408 = .ok (.iload_n 3, 1) := by decide +kernel
theorem dL_law_409 : decode cL_law 409 = .ok (.iconst 2, 1) := by decide +kernel
theorem dL_law_410 : decode cL_law 410 = .ok (.iadd, 1) := by decide +kernel
theorem dL_law_411 : decode cL_law 411 = .ok (.iaload, 1) := by decide +kernel
theorem dL_law_412 : decode cL_law 412 = .ok (.ifCond .eq 7, 3) := by decide +kernel
theorem dL_law_415 : decode cL_law 415 = .ok (.iconst 1, 1) := by decide +kernel
theorem dL_law_416 : decode cL_law 416 = .ok (.goto 4, 3) := by decide +kernel
theorem dL_law_419 : decode cL_law 419 = .ok (.iconst 0, 1) := by decide +kernel
theorem dL_law_420 : decode cL_law 420 = .ok (.aload_n 0, 1) := by decide +kernel
theorem dL_law_421 : decode cL_law 421 = .ok (.iload_n 3, 1) := by decide +kernel
theorem dL_law_422 : decode cL_law 422 = .ok (.iconst 3, 1) := by decide +kernel
theorem dL_law_423 : decode cL_law 423 = .ok (.iadd, 1) := by decide +kernel
theorem dL_law_424 : decode cL_law 424 = .ok (.iaload, 1) := by decide +kernel
theorem dL_law_425 : decode cL_law 425 = .ok (.invokevirtual 36, 3) := by decide +kernel
theorem dL_law_428 : decode cL_law 428 = .ok (.if_icmp .eq 790, 3) := by decide +kernel
theorem dL_law_431 : decode cL_law 431 = .ok (.iconst 0, 1) := by decide +kernel
theorem dL_law_432 : decode cL_law 432 = .ok (.ireturn, 1) := by decide +kernel
theorem dL_law_433 : decode cL_law 433 = .ok (.aload_n 1, 1) := by decide +kernel
theorem dL_law_434 : decode cL_law 434 = .ok (.aload_n 0, 1) := by decide +kernel
theorem dL_law_435 : decode cL_law 435 = .ok (.iload_n 3, 1) := by decide +kernel
theorem dL_law_436 : decode cL_law 436 = .ok (.iconst 1, 1) := by decide +kernel
theorem dL_law_437 : decode cL_law 437 = .ok (.iadd, 1) := by decide +kernel
theorem dL_law_438 : decode cL_law 438 = .ok (.iaload, 1) := by decide +kernel
theorem dL_law_439 : decode cL_law 439 = .ok (.invokevirtual 37, 3) := by decide +kernel
theorem dL_law_442 : decode cL_law 442 = .ok (.aload_n 2, 1) := by decide +kernel
theorem dL_law_443 : decode cL_law 443 = .ok (.aload_n 0, 1) := by decide +kernel
theorem dL_law_444 : decode cL_law 444 = .ok (.iload_n 3, 1) := by decide +kernel
theorem dL_law_445 : decode cL_law 445 = .ok (.iconst 1, 1) := by decide +kernel
theorem dL_law_446 : decode cL_law 446 = .ok (.iadd, 1) := by decide +kernel
theorem dL_law_447 : decode cL_law 447 = .ok (.iaload, 1) := by decide +kernel
theorem dL_law_448 : decode cL_law 448 = .ok (.invokevirtual 40, 3) := by decide +kernel
theorem dL_law_451 : decode cL_law 451 = .ok (.if_icmp .eq 767, 3) := by decide +kernel
theorem dL_law_454 : decode cL_law 454 = .ok (.iconst 0, 1) := by decide +kernel
theorem dL_law_455 : decode cL_law 455 = .ok (.ireturn, 1) := by decide +kernel
theorem dL_law_456 : decode cL_law 456 = .ok (.aload_n 1, 1) := by decide +kernel
theorem dL_law_457 : decode cL_law 457 = .ok (.aload_n 0, 1) := by decide +kernel
theorem dL_law_458 : decode cL_law 458 = .ok (.iload_n 3, 1) := by decide +kernel
theorem dL_law_459 : decode cL_law 459 = .ok (.iconst 1, 1) := by decide +kernel
theorem dL_law_460 : decode cL_law 460 = .ok (.iadd, 1) := by decide +kernel
theorem dL_law_461 : decode cL_law 461 = .ok (.iaload, 1) := by decide +kernel
theorem dL_law_462 : decode cL_law 462 = .ok (.aload_n 0, 1) := by decide +kernel
theorem dL_law_463 : decode cL_law 463 = .ok (.iload_n 3, 1) := by decide +kernel
theorem dL_law_464 : decode cL_law 464 = .ok (.iconst 2, 1) := by decide +kernel
theorem dL_law_465 : decode cL_law 465 = .ok (.iadd, 1) := by decide +kernel
theorem dL_law_466 : decode cL_law 466 = .ok (.iaload, 1) := by decide +kernel
theorem dL_law_467 : decode cL_law 467 = .ok (.aload_n 0, 1) := by decide +kernel
theorem dL_law_468 : decode cL_law 468 = .ok (.iload_n 3, 1) := by decide +kernel
theorem dL_law_469 : decode cL_law 469 = .ok (.iconst 3, 1) := by decide +kernel
theorem dL_law_470 : decode cL_law 470 = .ok (.iadd, 1) := by decide +kernel
theorem dL_law_471 : decode cL_law 471 = .ok (.iaload, 1) := by decide +kernel
theorem dL_law_472 : decode cL_law 472 = .ok (.invokevirtual 41, 3) := by decide +kernel
theorem dL_law_475 : decode cL_law 475 = .ok (.aload_n 2, 1) := by decide +kernel
theorem dL_law_476 : decode cL_law 476 = .ok (.aload_n 0, 1) := by decide +kernel
theorem dL_law_477 : decode cL_law 477 = .ok (.iload_n 3, 1) := by decide +kernel
theorem dL_law_478 : decode cL_law 478 = .ok (.iconst 1, 1) := by decide +kernel
theorem dL_law_479 : decode cL_law 479 = .ok (.iadd, 1) := by decide +kernel
theorem dL_law_480 : decode cL_law 480 = .ok (.iaload, 1) := by decide +kernel
theorem dL_law_481 : decode cL_law 481 = .ok (.aload_n 0, 1) := by decide +kernel
theorem dL_law_482 : decode cL_law 482 = .ok (.iload_n 3, 1) := by decide +kernel
theorem dL_law_483 : decode cL_law 483 = .ok (.iconst 2, 1) := by decide +kernel
theorem dL_law_484 : decode cL_law 484 = .ok (.iadd, 1) := by decide +kernel
theorem dL_law_485 : decode cL_law 485 = .ok (.iaload, 1) := by decide +kernel
theorem dL_law_486 : decode cL_law 486 = .ok (.aload_n 0, 1) := by decide +kernel
theorem dL_law_487 : decode cL_law 487 = .ok (.iload_n 3, 1) := by decide +kernel
theorem dL_law_488 : decode cL_law 488 = .ok (.iconst 3, 1) := by decide +kernel
theorem dL_law_489 : decode cL_law 489 = .ok (.iadd, 1) := by decide +kernel
theorem dL_law_490 : decode cL_law 490 = .ok (.iaload, 1) := by decide +kernel
theorem dL_law_491 : decode cL_law 491 = .ok (.invokevirtual 45, 3) := by decide +kernel
theorem dL_law_494 : decode cL_law 494 = .ok (.if_icmp .eq 724, 3) := by decide +kernel
theorem dL_law_497 : decode cL_law 497 = .ok (.iconst 0, 1) := by decide +kernel
theorem dL_law_498 : decode cL_law 498 = .ok (.ireturn, 1) := by decide +kernel
theorem dL_law_499 : decode cL_law 499 = .ok (.aload_n 1, 1) := by decide +kernel
theorem dL_law_500 : decode cL_law 500 = .ok (.aload_n 0, 1) := by decide +kernel
theorem dL_law_501 : decode cL_law 501 = .ok (.iload_n 3, 1) := by decide +kernel
theorem dL_law_502 : decode cL_law 502 = .ok (.iconst 1, 1) := by decide +kernel
theorem dL_law_503 : decode cL_law 503 = .ok (.iadd, 1) := by decide +kernel
theorem dL_law_504 : decode cL_law 504 = .ok (.iaload, 1) := by decide +kernel
theorem dL_law_505 : decode cL_law 505 = .ok (.invokevirtual 46, 3) := by decide +kernel
theorem dL_law_508 : decode cL_law 508 = .ok (.aload_n 2, 1) := by decide +kernel
theorem dL_law_509 : decode cL_law 509 = .ok (.aload_n 0, 1) := by decide +kernel
theorem dL_law_510 : decode cL_law 510 = .ok (.iload_n 3, 1) := by decide +kernel
theorem dL_law_511 : decode cL_law 511 = .ok (.iconst 1, 1) := by decide +kernel
theorem dL_law_512 : decode cL_law 512 = .ok (.iadd, 1) := by decide +kernel
theorem dL_law_513 : decode cL_law 513 = .ok (.iaload, 1) := by decide +kernel
theorem dL_law_514 : decode cL_law 514 = .ok (.invokevirtual 49, 3) := by decide +kernel
theorem dL_law_517 : decode cL_law 517 = .ok (.if_icmp .eq 701, 3) := by decide +kernel
theorem dL_law_520 : decode cL_law 520 = .ok (.iconst 0, 1) := by decide +kernel
theorem dL_law_521 : decode cL_law 521 = .ok (.ireturn, 1) := by decide +kernel
theorem dL_law_522 : decode cL_law 522 = .ok (.aload_n 1, 1) := by decide +kernel
theorem dL_law_523 : decode cL_law 523 = .ok (.aload_n 0, 1) := by decide +kernel
theorem dL_law_524 : decode cL_law 524 = .ok (.iload_n 3, 1) := by decide +kernel
theorem dL_law_525 : decode cL_law 525 = .ok (.iconst 1, 1) := by decide +kernel
theorem dL_law_526 : decode cL_law 526 = .ok (.iadd, 1) := by decide +kernel
theorem dL_law_527 : decode cL_law 527 = .ok (.iaload, 1) := by decide +kernel
theorem dL_law_528 : decode cL_law 528 = .ok (.aload_n 0, 1) := by decide +kernel
theorem dL_law_529 : decode cL_law 529 = .ok (.iload_n 3, 1) := by decide +kernel
theorem dL_law_530 : decode cL_law 530 = .ok (.iconst 2, 1) := by decide +kernel
theorem dL_law_531 : decode cL_law 531 = .ok (.iadd, 1) := by decide +kernel
theorem dL_law_532 : decode cL_law 532 = .ok (.iaload, 1) := by decide +kernel
theorem dL_law_533 : decode cL_law 533 = .ok (.aload_n 0, 1) := by decide +kernel
theorem dL_law_534 : decode cL_law 534 = .ok (.iload_n 3, 1) := by decide +kernel
theorem dL_law_535 : decode cL_law 535 = .ok (.iconst 3, 1) := by decide +kernel
theorem dL_law_536 : decode cL_law 536 = .ok (.iadd, 1) := by decide +kernel
theorem dL_law_537 : decode cL_law 537 = .ok (.iaload, 1) := by decide +kernel
theorem dL_law_538 : decode cL_law 538 = .ok (.invokevirtual 50, 3) := by decide +kernel
theorem dL_law_541 : decode cL_law 541 = .ok (.aload_n 2, 1) := by decide +kernel
theorem dL_law_542 : decode cL_law 542 = .ok (.aload_n 0, 1) := by decide +kernel
theorem dL_law_543 : decode cL_law 543 = .ok (.iload_n 3, 1) := by decide +kernel
theorem dL_law_544 : decode cL_law 544 = .ok (.iconst 1, 1) := by decide +kernel
theorem dL_law_545 : decode cL_law 545 = .ok (.iadd, 1) := by decide +kernel
theorem dL_law_546 : decode cL_law 546 = .ok (.iaload, 1) := by decide +kernel
theorem dL_law_547 : decode cL_law 547 = .ok (.aload_n 0, 1) := by decide +kernel
theorem dL_law_548 : decode cL_law 548 = .ok (.iload_n 3, 1) := by decide +kernel
theorem dL_law_549 : decode cL_law 549 = .ok (.iconst 2, 1) := by decide +kernel
theorem dL_law_550 : decode cL_law 550 = .ok (.iadd, 1) := by decide +kernel
theorem dL_law_551 : decode cL_law 551 = .ok (.iaload, 1) := by decide +kernel
theorem dL_law_552 : decode cL_law 552 = .ok (.aload_n 0, 1) := by decide +kernel
theorem dL_law_553 : decode cL_law 553 = .ok (.iload_n 3, 1) := by decide +kernel
theorem dL_law_554 : decode cL_law 554 = .ok (.iconst 3, 1) := by decide +kernel
theorem dL_law_555 : decode cL_law 555 = .ok (.iadd, 1) := by decide +kernel
theorem dL_law_556 : decode cL_law 556 = .ok (.iaload, 1) := by decide +kernel
theorem dL_law_557 : decode cL_law 557 = .ok (.invokevirtual 53, 3) := by decide +kernel
theorem dL_law_560 : decode cL_law 560 = .ok (.if_icmp .eq 658, 3) := by decide +kernel
theorem dL_law_563 : decode cL_law 563 = .ok (.iconst 0, 1) := by decide +kernel
theorem dL_law_564 : decode cL_law 564 = .ok (.ireturn, 1) := by decide +kernel
theorem dL_law_565 : decode cL_law 565 = .ok (.aload_n 1, 1) := by decide +kernel
theorem dL_law_566 : decode cL_law 566 = .ok (.aload_n 0, 1) := by decide +kernel
theorem dL_law_567 : decode cL_law 567 = .ok (.iload_n 3, 1) := by decide +kernel
theorem dL_law_568 : decode cL_law 568 = .ok (.iconst 1, 1) := by decide +kernel
theorem dL_law_569 : decode cL_law 569 = .ok (.iadd, 1) := by decide +kernel
theorem dL_law_570 : decode cL_law 570 = .ok (.iaload, 1) := by decide +kernel
theorem dL_law_571 : decode cL_law 571 = .ok (.aload_n 0, 1) := by decide +kernel
theorem dL_law_572 : decode cL_law 572 = .ok (.iload_n 3, 1) := by decide +kernel
theorem dL_law_573 : decode cL_law 573 = .ok (.iconst 2, 1) := by decide +kernel
theorem dL_law_574 : decode cL_law 574 = .ok (.iadd, 1) := by decide +kernel
theorem dL_law_575 : decode cL_law 575 = .ok (.iaload, 1) := by decide +kernel
theorem dL_law_576 : decode cL_law 576 = .ok (.aload_n 0, 1) := by decide +kernel
theorem dL_law_577 : decode cL_law 577 = .ok (.iload_n 3, 1) := by decide +kernel
theorem dL_law_578 : decode cL_law 578 = .ok (.iconst 3, 1) := by decide +kernel
theorem dL_law_579 : decode cL_law 579 = .ok (.iadd, 1) := by decide +kernel
theorem dL_law_580 : decode cL_law 580 = .ok (.iaload, 1) := by decide +kernel
theorem dL_law_581 : decode cL_law 581 = .ok (.aload_n 0, 1) := by decide +kernel
theorem dL_law_582 : decode cL_law 582 = .ok (.iload_n 3, 1) := by decide +kernel
theorem dL_law_583 : decode cL_law 583 = .ok (.iconst 4, 1) := by decide +kernel
theorem dL_law_584 : decode cL_law 584 = .ok (.iadd, 1) := by decide +kernel
theorem dL_law_585 : decode cL_law 585 = .ok (.iaload, 1) := by decide +kernel
theorem dL_law_586 : decode cL_law 586 = .ok (.invokevirtual 54, 3) := by decide +kernel
theorem dL_law_589 : decode cL_law 589 = .ok (.aload_n 2, 1) := by decide +kernel
theorem dL_law_590 : decode cL_law 590 = .ok (.aload_n 0, 1) := by decide +kernel
theorem dL_law_591 : decode cL_law 591 = .ok (.iload_n 3, 1) := by decide +kernel
theorem dL_law_592 : decode cL_law 592 = .ok (.iconst 1, 1) := by decide +kernel
theorem dL_law_593 : decode cL_law 593 = .ok (.iadd, 1) := by decide +kernel
theorem dL_law_594 : decode cL_law 594 = .ok (.iaload, 1) := by decide +kernel
theorem dL_law_595 : decode cL_law 595 = .ok (.aload_n 0, 1) := by decide +kernel
theorem dL_law_596 : decode cL_law 596 = .ok (.iload_n 3, 1) := by decide +kernel
theorem dL_law_597 : decode cL_law 597 = .ok (.iconst 2, 1) := by decide +kernel
theorem dL_law_598 : decode cL_law 598 = .ok (.iadd, 1) := by decide +kernel
theorem dL_law_599 : decode cL_law 599 = .ok (.iaload, 1) := by decide +kernel
theorem dL_law_600 : decode cL_law 600 = .ok (.aload_n 0, 1) := by decide +kernel
theorem dL_law_601 : decode cL_law 601 = .ok (.iload_n 3, 1) := by decide +kernel
theorem dL_law_602 : decode cL_law 602 = .ok (.iconst 3, 1) := by decide +kernel
theorem dL_law_603 : decode cL_law 603 = .ok (.iadd, 1) := by decide +kernel
theorem dL_law_604 : decode cL_law 604 = .ok (.iaload, 1) := by decide +kernel
theorem dL_law_605 : decode cL_law 605 = .ok (.aload_n 0, 1) := by decide +kernel
theorem dL_law_606 : decode cL_law 606 = .ok (.iload_n 3, 1) := by decide +kernel
theorem dL_law_607 : decode cL_law 607 = .ok (.iconst 4, 1) := by decide +kernel
theorem dL_law_608 : decode cL_law 608 = .ok (.iadd, 1) := by decide +kernel
theorem dL_law_609 : decode cL_law 609 = .ok (.iaload, 1) := by decide +kernel
theorem dL_law_610 : decode cL_law 610 = .ok (.invokevirtual 57, 3) := by decide +kernel
theorem dL_law_613 : decode cL_law 613 = .ok (.if_icmp .eq 605, 3) := by decide +kernel
theorem dL_law_616 : decode cL_law 616 = .ok (.iconst 0, 1) := by decide +kernel
theorem dL_law_617 : decode cL_law 617 = .ok (.ireturn, 1) := by decide +kernel
theorem dL_law_618 : decode cL_law 618 = .ok (.aload_n 1, 1) := by decide +kernel
theorem dL_law_619 : decode cL_law 619 = .ok (.aload_n 0, 1) := by decide +kernel
theorem dL_law_620 : decode cL_law 620 = .ok (.iload_n 3, 1) := by decide +kernel
theorem dL_law_621 : decode cL_law 621 = .ok (.iconst 1, 1) := by decide +kernel
theorem dL_law_622 : decode cL_law 622 = .ok (.iadd, 1) := by decide +kernel
theorem dL_law_623 : decode cL_law 623 = .ok (.iaload, 1) := by decide +kernel
theorem dL_law_624 : decode cL_law 624 = .ok (.aload_n 0, 1) := by decide +kernel
theorem dL_law_625 : decode cL_law 625 = .ok (.iload_n 3, 1) := by decide +kernel
theorem dL_law_626 : decode cL_law 626 = .ok (.iconst 2, 1) := by decide +kernel
theorem dL_law_627 : decode cL_law 627 = .ok (.iadd, 1) := by decide +kernel
theorem dL_law_628 : decode cL_law 628 = .ok (.iaload, 1) := by decide +kernel
theorem dL_law_629 : decode cL_law 629 = .ok (.invokevirtual 58, 3) := by decide +kernel
theorem dL_law_632 : decode cL_law 632 = .ok (.aload_n 2, 1) := by decide +kernel
theorem dL_law_633 : decode cL_law 633 = .ok (.aload_n 0, 1) := by decide +kernel
theorem dL_law_634 : decode cL_law 634 = .ok (.iload_n 3, 1) := by decide +kernel
theorem dL_law_635 : decode cL_law 635 = .ok (.iconst 1, 1) := by decide +kernel
theorem dL_law_636 : decode cL_law 636 = .ok (.iadd, 1) := by decide +kernel
theorem dL_law_637 : decode cL_law 637 = .ok (.iaload, 1) := by decide +kernel
theorem dL_law_638 : decode cL_law 638 = .ok (.aload_n 0, 1) := by decide +kernel
theorem dL_law_639 : decode cL_law 639 = .ok (.iload_n 3, 1) := by decide +kernel
theorem dL_law_640 : decode cL_law 640 = .ok (.iconst 2, 1) := by decide +kernel
theorem dL_law_641 : decode cL_law 641 = .ok (.iadd, 1) := by decide +kernel
theorem dL_law_642 : decode cL_law 642 = .ok (.iaload, 1) := by decide +kernel
theorem dL_law_643 : decode cL_law 643 = .ok (.invokevirtual 62, 3) := by decide +kernel
theorem dL_law_646 : decode cL_law 646 = .ok (.if_icmp .eq 572, 3) := by decide +kernel
theorem dL_law_649 : decode cL_law 649 = .ok (.iconst 0, 1) := by decide +kernel
theorem dL_law_650 : decode cL_law 650 = .ok (.ireturn, 1) := by decide +kernel
theorem dL_law_651 : decode cL_law 651 = .ok (.aload_n 1, 1) := by decide +kernel
theorem dL_law_652 : decode cL_law 652 = .ok (.aload_n 0, 1) := by decide +kernel
theorem dL_law_653 : decode cL_law 653 = .ok (.iload_n 3, 1) := by decide +kernel
theorem dL_law_654 : decode cL_law 654 = .ok (.iconst 1, 1) := by decide +kernel
theorem dL_law_655 : decode cL_law 655 = .ok (.iadd, 1) := by decide +kernel
theorem dL_law_656 : decode cL_law 656 = .ok (.iaload, 1) := by decide +kernel
theorem dL_law_657 : decode cL_law 657 = .ok (.aload_n 0, 1) := by decide +kernel
theorem dL_law_658 : decode cL_law 658 = .ok (.iload_n 3, 1) := by decide +kernel
theorem dL_law_659 : decode cL_law 659 = .ok (.iconst 2, 1) := by decide +kernel
theorem dL_law_660 : decode cL_law 660 = .ok (.iadd, 1) := by decide +kernel
theorem dL_law_661 : decode cL_law 661 = .ok (.iaload, 1) := by decide +kernel
theorem dL_law_662 : decode cL_law 662 = .ok (.invokevirtual 63, 3) := by decide +kernel
theorem dL_law_665 : decode cL_law 665 = .ok (.aload_n 2, 1) := by decide +kernel
theorem dL_law_666 : decode cL_law 666 = .ok (.aload_n 0, 1) := by decide +kernel
theorem dL_law_667 : decode cL_law 667 = .ok (.iload_n 3, 1) := by decide +kernel
theorem dL_law_668 : decode cL_law 668 = .ok (.iconst 1, 1) := by decide +kernel
theorem dL_law_669 : decode cL_law 669 = .ok (.iadd, 1) := by decide +kernel
theorem dL_law_670 : decode cL_law 670 = .ok (.iaload, 1) := by decide +kernel
theorem dL_law_671 : decode cL_law 671 = .ok (.aload_n 0, 1) := by decide +kernel
theorem dL_law_672 : decode cL_law 672 = .ok (.iload_n 3, 1) := by decide +kernel
theorem dL_law_673 : decode cL_law 673 = .ok (.iconst 2, 1) := by decide +kernel
theorem dL_law_674 : decode cL_law 674 = .ok (.iadd, 1) := by decide +kernel
theorem dL_law_675 : decode cL_law 675 = .ok (.iaload, 1) := by decide +kernel
theorem dL_law_676 : decode cL_law 676 = .ok (.invokevirtual 66, 3) := by decide +kernel
theorem dL_law_679 : decode cL_law 679 = .ok (.if_icmp .eq 539, 3) := by decide +kernel
theorem dL_law_682 : decode cL_law 682 = .ok (.iconst 0, 1) := by decide +kernel
theorem dL_law_683 : decode cL_law 683 = .ok (.ireturn, 1) := by decide +kernel
theorem dL_law_684 : decode cL_law 684 = .ok (.aload_n 1, 1) := by decide +kernel
theorem dL_law_685 : decode cL_law 685 = .ok (.aload_n 0, 1) := by decide +kernel
theorem dL_law_686 : decode cL_law 686 = .ok (.iload_n 3, 1) := by decide +kernel
theorem dL_law_687 : decode cL_law 687 = .ok (.iconst 1, 1) := by decide +kernel
theorem dL_law_688 : decode cL_law 688 = .ok (.iadd, 1) := by decide +kernel
theorem dL_law_689 : decode cL_law 689 = .ok (.iaload, 1) := by decide +kernel
theorem dL_law_690 : decode cL_law 690 = .ok (.aload_n 0, 1) := by decide +kernel
theorem dL_law_691 : decode cL_law 691 = .ok (.iload_n 3, 1) := by decide +kernel
theorem dL_law_692 : decode cL_law 692 = .ok (.iconst 2, 1) := by decide +kernel
theorem dL_law_693 : decode cL_law 693 = .ok (.iadd, 1) := by decide +kernel
theorem dL_law_694 : decode cL_law 694 = .ok (.iaload, 1) := by decide +kernel
theorem dL_law_695 : decode cL_law 695 = .ok (.invokevirtual 67, 3) := by decide +kernel
theorem dL_law_698 : decode cL_law 698 = .ok (.aload_n 2, 1) := by decide +kernel
theorem dL_law_699 : decode cL_law 699 = .ok (.aload_n 0, 1) := by decide +kernel
theorem dL_law_700 : decode cL_law 700 = .ok (.iload_n 3, 1) := by decide +kernel
theorem dL_law_701 : decode cL_law 701 = .ok (.iconst 1, 1) := by decide +kernel
theorem dL_law_702 : decode cL_law 702 = .ok (.iadd, 1) := by decide +kernel
theorem dL_law_703 : decode cL_law 703 = .ok (.iaload, 1) := by decide +kernel
theorem dL_law_704 : decode cL_law 704 = .ok (.aload_n 0, 1) := by decide +kernel
theorem dL_law_705 : decode cL_law 705 = .ok (.iload_n 3, 1) := by decide +kernel
theorem dL_law_706 : decode cL_law 706 = .ok (.iconst 2, 1) := by decide +kernel
theorem dL_law_707 : decode cL_law 707 = .ok (.iadd, 1) := by decide +kernel
theorem dL_law_708 : decode cL_law 708 = .ok (.iaload, 1) := by decide +kernel
theorem dL_law_709 : decode cL_law 709 = .ok (.invokevirtual 70, 3) := by decide +kernel
theorem dL_law_712 : decode cL_law 712 = .ok (.if_icmp .eq 506, 3) := by decide +kernel
theorem dL_law_715 : decode cL_law 715 = .ok (.iconst 0, 1) := by decide +kernel
theorem dL_law_716 : decode cL_law 716 = .ok (.ireturn, 1) := by decide +kernel
theorem dL_law_717 : decode cL_law 717 = .ok (.aload_n 1, 1) := by decide +kernel
theorem dL_law_718 : decode cL_law 718 = .ok (.aload_n 0, 1) := by decide +kernel
theorem dL_law_719 : decode cL_law 719 = .ok (.iload_n 3, 1) := by decide +kernel
theorem dL_law_720 : decode cL_law 720 = .ok (.iconst 1, 1) := by decide +kernel
theorem dL_law_721 : decode cL_law 721 = .ok (.iadd, 1) := by decide +kernel
theorem dL_law_722 : decode cL_law 722 = .ok (.iaload, 1) := by decide +kernel
theorem dL_law_723 : decode cL_law 723 = .ok (.aload_n 0, 1) := by decide +kernel
theorem dL_law_724 : decode cL_law 724 = .ok (.iload_n 3, 1) := by decide +kernel
theorem dL_law_725 : decode cL_law 725 = .ok (.iconst 2, 1) := by decide +kernel
theorem dL_law_726 : decode cL_law 726 = .ok (.iadd, 1) := by decide +kernel
theorem dL_law_727 : decode cL_law 727 = .ok (.iaload, 1) := by decide +kernel
theorem dL_law_728 : decode cL_law 728 = .ok (.invokevirtual 71, 3) := by decide +kernel
theorem dL_law_731 : decode cL_law 731 = .ok (.aload_n 2, 1) := by decide +kernel
theorem dL_law_732 : decode cL_law 732 = .ok (.aload_n 0, 1) := by decide +kernel
theorem dL_law_733 : decode cL_law 733 = .ok (.iload_n 3, 1) := by decide +kernel
theorem dL_law_734 : decode cL_law 734 = .ok (.iconst 1, 1) := by decide +kernel
theorem dL_law_735 : decode cL_law 735 = .ok (.iadd, 1) := by decide +kernel
theorem dL_law_736 : decode cL_law 736 = .ok (.iaload, 1) := by decide +kernel
theorem dL_law_737 : decode cL_law 737 = .ok (.aload_n 0, 1) := by decide +kernel
theorem dL_law_738 : decode cL_law 738 = .ok (.iload_n 3, 1) := by decide +kernel
theorem dL_law_739 : decode cL_law 739 = .ok (.iconst 2, 1) := by decide +kernel
theorem dL_law_740 : decode cL_law 740 = .ok (.iadd, 1) := by decide +kernel
theorem dL_law_741 : decode cL_law 741 = .ok (.iaload, 1) := by decide +kernel
theorem dL_law_742 : decode cL_law 742 = .ok (.invokevirtual 74, 3) := by decide +kernel
theorem dL_law_745 : decode cL_law 745 = .ok (.if_icmp .eq 473, 3) := by decide +kernel
theorem dL_law_748 : decode cL_law 748 = .ok (.iconst 0, 1) := by decide +kernel
theorem dL_law_749 : decode cL_law 749 = .ok (.ireturn, 1) := by decide +kernel
theorem dL_law_750 : decode cL_law 750 = .ok (.aload_n 1, 1) := by decide +kernel
theorem dL_law_751 : decode cL_law 751 = .ok (.aload_n 0, 1) := by decide +kernel
theorem dL_law_752 : decode cL_law 752 = .ok (.iload_n 3, 1) := by decide +kernel
theorem dL_law_753 : decode cL_law 753 = .ok (.iconst 1, 1) := by decide +kernel
theorem dL_law_754 : decode cL_law 754 = .ok (.iadd, 1) := by decide +kernel
theorem dL_law_755 : decode cL_law 755 = .ok (.iaload, 1) := by decide +kernel
theorem dL_law_756 : decode cL_law 756 = .ok (.aload_n 0, 1) := by decide +kernel
theorem dL_law_757 : decode cL_law 757 = .ok (.iload_n 3, 1) := by decide +kernel
theorem dL_law_758 : decode cL_law 758 = .ok (.iconst 2, 1) := by decide +kernel
theorem dL_law_759 : decode cL_law 759 = .ok (.iadd, 1) := by decide +kernel
theorem dL_law_760 : decode cL_law 760 = .ok (.iaload, 1) := by decide +kernel
theorem dL_law_761 : decode cL_law 761 = .ok (.aload_n 0, 1) := by decide +kernel
theorem dL_law_762 : decode cL_law 762 = .ok (.iload_n 3, 1) := by decide +kernel
theorem dL_law_763 : decode cL_law 763 = .ok (.iconst 3, 1) := by decide +kernel
theorem dL_law_764 : decode cL_law 764 = .ok (.iadd, 1) := by decide +kernel
theorem dL_law_765 : decode cL_law 765 = .ok (.iaload, 1) := by decide +kernel
theorem dL_law_766 : decode cL_law 766 = .ok (.aload_n 0, 1) := by decide +kernel
theorem dL_law_767 : decode cL_law 767 = .ok (.iload_n 3, 1) := by decide +kernel
theorem dL_law_768 : decode cL_law 768 = .ok (.iconst 4, 1) := by decide +kernel
theorem dL_law_769 : decode cL_law 769 = .ok (.iadd, 1) := by decide +kernel
theorem dL_law_770 : decode cL_law 770 = .ok (.iaload, 1) := by decide +kernel
theorem dL_law_771 : decode cL_law 771 = .ok (.invokevirtual 75, 3) := by decide +kernel
theorem dL_law_774 : decode cL_law 774 = .ok (.aload_n 2, 1) := by decide +kernel
theorem dL_law_775 : decode cL_law 775 = .ok (.aload_n 0, 1) := by decide +kernel
theorem dL_law_776 : decode cL_law 776 = .ok (.iload_n 3, 1) := by decide +kernel
theorem dL_law_777 : decode cL_law 777 = .ok (.iconst 1, 1) := by decide +kernel
theorem dL_law_778 : decode cL_law 778 = .ok (.iadd, 1) := by decide +kernel
theorem dL_law_779 : decode cL_law 779 = .ok (.iaload, 1) := by decide +kernel
theorem dL_law_780 : decode cL_law 780 = .ok (.aload_n 0, 1) := by decide +kernel
theorem dL_law_781 : decode cL_law 781 = .ok (.iload_n 3, 1) := by decide +kernel
theorem dL_law_782 : decode cL_law 782 = .ok (.iconst 2, 1) := by decide +kernel
theorem dL_law_783 : decode cL_law 783 = .ok (.iadd, 1) := by decide +kernel
theorem dL_law_784 : decode cL_law 784 = .ok (.iaload, 1) := by decide +kernel
theorem dL_law_785 : decode cL_law 785 = .ok (.aload_n 0, 1) := by decide +kernel
theorem dL_law_786 : decode cL_law 786 = .ok (.iload_n 3, 1) := by decide +kernel
theorem dL_law_787 : decode cL_law 787 = .ok (.iconst 3, 1) := by decide +kernel
theorem dL_law_788 : decode cL_law 788 = .ok (.iadd, 1) := by decide +kernel
theorem dL_law_789 : decode cL_law 789 = .ok (.iaload, 1) := by decide +kernel
theorem dL_law_790 : decode cL_law 790 = .ok (.aload_n 0, 1) := by decide +kernel
theorem dL_law_791 : decode cL_law 791 = .ok (.iload_n 3, 1) := by decide +kernel
theorem dL_law_792 : decode cL_law 792 = .ok (.iconst 4, 1) := by decide +kernel
theorem dL_law_793 : decode cL_law 793 = .ok (.iadd, 1) := by decide +kernel
theorem dL_law_794 : decode cL_law 794 = .ok (.iaload, 1) := by decide +kernel
theorem dL_law_795 : decode cL_law 795 = .ok (.invokevirtual 78, 3) := by decide +kernel
theorem dL_law_798 : decode cL_law 798 = .ok (.if_icmp .eq 420, 3) := by decide +kernel
theorem dL_law_801 : decode cL_law 801 = .ok (.iconst 0, 1) := by decide +kernel
theorem dL_law_802 : decode cL_law 802 = .ok (.ireturn, 1) := by decide +kernel
theorem dL_law_803 : decode cL_law 803 = .ok (.aload_n 1, 1) := by decide +kernel
theorem dL_law_804 : decode cL_law 804 = .ok (.aload_n 0, 1) := by decide +kernel
theorem dL_law_805 : decode cL_law 805 = .ok (.iload_n 3, 1) := by decide +kernel
theorem dL_law_806 : decode cL_law 806 = .ok (.iconst 1, 1) := by decide +kernel
theorem dL_law_807 : decode cL_law 807 = .ok (.iadd, 1) := by decide +kernel
theorem dL_law_808 : decode cL_law 808 = .ok (.iaload, 1) := by decide +kernel
theorem dL_law_809 : decode cL_law 809 = .ok (.aload_n 0, 1) := by decide +kernel
theorem dL_law_810 : decode cL_law 810 = .ok (.iload_n 3, 1) := by decide +kernel
theorem dL_law_811 : decode cL_law 811 = .ok (.iconst 2, 1) := by decide +kernel
theorem dL_law_812 : decode cL_law 812 = .ok (.iadd, 1) := by decide +kernel
theorem dL_law_813 : decode cL_law 813 = .ok (.iaload, 1) := by decide +kernel
theorem dL_law_814 : decode cL_law 814 = .ok (.aload_n 0, 1) := by decide +kernel
theorem dL_law_815 : decode cL_law 815 = .ok (.iload_n 3, 1) := by decide +kernel
theorem dL_law_816 : decode cL_law 816 = .ok (.iconst 3, 1) := by decide +kernel
theorem dL_law_817 : decode cL_law 817 = .ok (.iadd, 1) := by decide +kernel
theorem dL_law_818 : decode cL_law 818 = .ok (.iaload, 1) := by decide +kernel
theorem dL_law_819 : decode cL_law 819 = .ok (.invokevirtual 79, 3) := by decide +kernel
theorem dL_law_822 : decode cL_law 822 = .ok (.aload_n 2, 1) := by decide +kernel
theorem dL_law_823 : decode cL_law 823 = .ok (.aload_n 0, 1) := by decide +kernel
theorem dL_law_824 : decode cL_law 824 = .ok (.iload_n 3, 1) := by decide +kernel
theorem dL_law_825 : decode cL_law 825 = .ok (.iconst 1, 1) := by decide +kernel
theorem dL_law_826 : decode cL_law 826 = .ok (.iadd, 1) := by decide +kernel
theorem dL_law_827 : decode cL_law 827 = .ok (.iaload, 1) := by decide +kernel
theorem dL_law_828 : decode cL_law 828 = .ok (.aload_n 0, 1) := by decide +kernel
theorem dL_law_829 : decode cL_law 829 = .ok (.iload_n 3, 1) := by decide +kernel
theorem dL_law_830 : decode cL_law 830 = .ok (.iconst 2, 1) := by decide +kernel
theorem dL_law_831 : decode cL_law 831 = .ok (.iadd, 1) := by decide +kernel
theorem dL_law_832 : decode cL_law 832 = .ok (.iaload, 1) := by decide +kernel
theorem dL_law_833 : decode cL_law 833 = .ok (.aload_n 0, 1) := by decide +kernel
theorem dL_law_834 : decode cL_law 834 = .ok (.iload_n 3, 1) := by decide +kernel
theorem dL_law_835 : decode cL_law 835 = .ok (.iconst 3, 1) := by decide +kernel
theorem dL_law_836 : decode cL_law 836 = .ok (.iadd, 1) := by decide +kernel
theorem dL_law_837 : decode cL_law 837 = .ok (.iaload, 1) := by decide +kernel
theorem dL_law_838 : decode cL_law 838 = .ok (.invokevirtual 82, 3) := by decide +kernel
theorem dL_law_841 : decode cL_law 841 = .ok (.if_icmp .eq 377, 3) := by decide +kernel
theorem dL_law_844 : decode cL_law 844 = .ok (.iconst 0, 1) := by decide +kernel
theorem dL_law_845 : decode cL_law 845 = .ok (.ireturn, 1) := by decide +kernel
theorem dL_law_846 : decode cL_law 846 = .ok (.aload_n 1, 1) := by decide +kernel
theorem dL_law_847 : decode cL_law 847 = .ok (.aload_n 0, 1) := by decide +kernel
theorem dL_law_848 : decode cL_law 848 = .ok (.iload_n 3, 1) := by decide +kernel
theorem dL_law_849 : decode cL_law 849 = .ok (.iconst 1, 1) := by decide +kernel
theorem dL_law_850 : decode cL_law 850 = .ok (.iadd, 1) := by decide +kernel
theorem dL_law_851 : decode cL_law 851 = .ok (.iaload, 1) := by decide +kernel
theorem dL_law_852 : decode cL_law 852 = .ok (.aload_n 0, 1) := by decide +kernel
theorem dL_law_853 : decode cL_law 853 = .ok (.iload_n 3, 1) := by decide +kernel
theorem dL_law_854 : decode cL_law 854 = .ok (.iconst 2, 1) := by decide +kernel
theorem dL_law_855 : decode cL_law 855 = .ok (.iadd, 1) := by decide +kernel
theorem dL_law_856 : decode cL_law 856 = .ok (.iaload, 1) := by decide +kernel
theorem dL_law_857 : decode cL_law 857 = .ok (.ifCond .eq 7, 3) := by decide +kernel
theorem dL_law_860 : decode cL_law 860 = .ok (.iconst 1, 1) := by decide +kernel
theorem dL_law_861 : decode cL_law 861 = .ok (.goto 4, 3) := by decide +kernel
theorem dL_law_864 : decode cL_law 864 = .ok (.iconst 0, 1) := by decide +kernel
theorem dL_law_865 : decode cL_law 865 = .ok (.aload_n 0, 1) := by decide +kernel
theorem dL_law_866 : decode cL_law 866 = .ok (.iload_n 3, 1) := by decide +kernel
theorem dL_law_867 : decode cL_law 867 = .ok (.iconst 3, 1) := by decide +kernel
theorem dL_law_868 : decode cL_law 868 = .ok (.iadd, 1) := by decide +kernel
theorem dL_law_869 : decode cL_law 869 = .ok (.iaload, 1) := by decide +kernel
theorem dL_law_870 : decode cL_law 870 = .ok (.invokevirtual 83, 3) := by decide +kernel
theorem dL_law_873 : decode cL_law 873 = .ok (.aload_n 2, 1) := by decide +kernel
theorem dL_law_874 : decode cL_law 874 = .ok (.aload_n 0, 1) := by decide +kernel
theorem dL_law_875 : decode cL_law 875 = .ok (.iload_n 3, 1) := by decide +kernel
theorem dL_law_876 : decode cL_law 876 = .ok (.iconst 1, 1) := by decide +kernel
theorem dL_law_877 : decode cL_law 877 = .ok (.iadd, 1) := by decide +kernel
theorem dL_law_878 : decode cL_law 878 = .ok (.iaload, 1) := by decide +kernel
theorem dL_law_879 : decode cL_law 879 = .ok (.aload_n 0, 1) := by decide +kernel
theorem dL_law_880 : decode cL_law 880 = .ok (.iload_n 3, 1) := by decide +kernel
theorem dL_law_881 : decode cL_law 881 = .ok (.iconst 2, 1) := by decide +kernel
theorem dL_law_882 : decode cL_law 882 = .ok (.iadd, 1) := by decide +kernel
theorem dL_law_883 : decode cL_law 883 = .ok (.iaload, 1) := by decide +kernel
theorem dL_law_884 : decode cL_law 884 = .ok (.ifCond .eq 7, 3) := by decide +kernel
theorem dL_law_887 : decode cL_law 887 = .ok (.iconst 1, 1) := by decide +kernel
theorem dL_law_888 : decode cL_law 888 = .ok (.goto 4, 3) := by decide +kernel
theorem dL_law_891 : decode cL_law 891 = .ok (.iconst 0, 1) := by decide +kernel
theorem dL_law_892 : decode cL_law 892 = .ok (.aload_n 0, 1) := by decide +kernel
theorem dL_law_893 : decode cL_law 893 = .ok (.iload_n 3, 1) := by decide +kernel
theorem dL_law_894 : decode cL_law 894 = .ok (.iconst 3, 1) := by decide +kernel
theorem dL_law_895 : decode cL_law 895 = .ok (.iadd, 1) := by decide +kernel
theorem dL_law_896 : decode cL_law 896 = .ok (.iaload, 1) := by decide +kernel
theorem dL_law_897 : decode cL_law 897 = .ok (.invokevirtual 86, 3) := by decide +kernel
theorem dL_law_900 : decode cL_law 900 = .ok (.if_icmp .eq 318, 3) := by decide +kernel
theorem dL_law_903 : decode cL_law 903 = .ok (.iconst 0, 1) := by decide +kernel
theorem dL_law_904 : decode cL_law 904 = .ok (.ireturn, 1) := by decide +kernel
theorem dL_law_905 : decode cL_law 905 = .ok (.aload_n 1, 1) := by decide +kernel
theorem dL_law_906 : decode cL_law 906 = .ok (.aload_n 0, 1) := by decide +kernel
theorem dL_law_907 : decode cL_law 907 = .ok (.iload_n 3, 1) := by decide +kernel
theorem dL_law_908 : decode cL_law 908 = .ok (.iconst 1, 1) := by decide +kernel
theorem dL_law_909 : decode cL_law 909 = .ok (.iadd, 1) := by decide +kernel
theorem dL_law_910 : decode cL_law 910 = .ok (.iaload, 1) := by decide +kernel
theorem dL_law_911 : decode cL_law 911 = .ok (.aload_n 0, 1) := by decide +kernel
theorem dL_law_912 : decode cL_law 912 = .ok (.iload_n 3, 1) := by decide +kernel
theorem dL_law_913 : decode cL_law 913 = .ok (.iconst 2, 1) := by decide +kernel
theorem dL_law_914 : decode cL_law 914 = .ok (.iadd, 1) := by decide +kernel
theorem dL_law_915 : decode cL_law 915 = .ok (.iaload, 1) := by decide +kernel
theorem dL_law_916 : decode cL_law 916 = .ok (.invokevirtual 87, 3) := by decide +kernel
theorem dL_law_919 : decode cL_law 919 = .ok (.aload_n 2, 1) := by decide +kernel
theorem dL_law_920 : decode cL_law 920 = .ok (.aload_n 0, 1) := by decide +kernel
theorem dL_law_921 : decode cL_law 921 = .ok (.iload_n 3, 1) := by decide +kernel
theorem dL_law_922 : decode cL_law 922 = .ok (.iconst 1, 1) := by decide +kernel
theorem dL_law_923 : decode cL_law 923 = .ok (.iadd, 1) := by decide +kernel
theorem dL_law_924 : decode cL_law 924 = .ok (.iaload, 1) := by decide +kernel
theorem dL_law_925 : decode cL_law 925 = .ok (.aload_n 0, 1) := by decide +kernel
theorem dL_law_926 : decode cL_law 926 = .ok (.iload_n 3, 1) := by decide +kernel
theorem dL_law_927 : decode cL_law 927 = .ok (.iconst 2, 1) := by decide +kernel
theorem dL_law_928 : decode cL_law 928 = .ok (.iadd, 1) := by decide +kernel
theorem dL_law_929 : decode cL_law 929 = .ok (.iaload, 1) := by decide +kernel
theorem dL_law_930 : decode cL_law 930 = .ok (.invokevirtual 90, 3) := by decide +kernel
theorem dL_law_933 : decode cL_law 933 = .ok (.if_icmp .eq 285, 3) := by decide +kernel
theorem dL_law_936 : decode cL_law 936 = .ok (.iconst 0, 1) := by decide +kernel
theorem dL_law_937 : decode cL_law 937 = .ok (.ireturn, 1) := by decide +kernel
theorem dL_law_938 : decode cL_law 938 = .ok (.aload_n 1, 1) := by decide +kernel
theorem dL_law_939 : decode cL_law 939 = .ok (.aload_n 0, 1) := by decide +kernel
theorem dL_law_940 : decode cL_law 940 = .ok (.iload_n 3, 1) := by decide +kernel
theorem dL_law_941 : decode cL_law 941 = .ok (.iconst 1, 1) := by decide +kernel
theorem dL_law_942 : decode cL_law 942 = .ok (.iadd, 1) := by decide +kernel
theorem dL_law_943 : decode cL_law 943 = .ok (.iaload, 1) := by decide +kernel
theorem dL_law_944 : decode cL_law 944 = .ok (.aload_n 0, 1) := by decide +kernel
theorem dL_law_945 : decode cL_law 945 = .ok (.iload_n 3, 1) := by decide +kernel
theorem dL_law_946 : decode cL_law 946 = .ok (.iconst 2, 1) := by decide +kernel
theorem dL_law_947 : decode cL_law 947 = .ok (.iadd, 1) := by decide +kernel
theorem dL_law_948 : decode cL_law 948 = .ok (.iaload, 1) := by decide +kernel
theorem dL_law_949 : decode cL_law 949 = .ok (.invokevirtual 91, 3) := by decide +kernel
theorem dL_law_952 : decode cL_law 952 = .ok (.aload_n 2, 1) := by decide +kernel
theorem dL_law_953 : decode cL_law 953 = .ok (.aload_n 0, 1) := by decide +kernel
theorem dL_law_954 : decode cL_law 954 = .ok (.iload_n 3, 1) := by decide +kernel
theorem dL_law_955 : decode cL_law 955 = .ok (.iconst 1, 1) := by decide +kernel
theorem dL_law_956 : decode cL_law 956 = .ok (.iadd, 1) := by decide +kernel
theorem dL_law_957 : decode cL_law 957 = .ok (.iaload, 1) := by decide +kernel
theorem dL_law_958 : decode cL_law 958 = .ok (.aload_n 0, 1) := by decide +kernel
theorem dL_law_959 : decode cL_law 959 = .ok (.iload_n 3, 1) := by decide +kernel
theorem dL_law_960 : decode cL_law 960 = .ok (.iconst 2, 1) := by decide +kernel
theorem dL_law_961 : decode cL_law 961 = .ok (.iadd, 1) := by decide +kernel
theorem dL_law_962 : decode cL_law 962 = .ok (.iaload, 1) := by decide +kernel
theorem dL_law_963 : decode cL_law 963 = .ok (.invokevirtual 94, 3) := by decide +kernel
theorem dL_law_966 : decode cL_law 966 = .ok (.if_icmp .eq 252, 3) := by decide +kernel
theorem dL_law_969 : decode cL_law 969 = .ok (.iconst 0, 1) := by decide +kernel
theorem dL_law_970 : decode cL_law 970 = .ok (.ireturn, 1) := by decide +kernel
theorem dL_law_971 : decode cL_law 971 = .ok (.aload_n 1, 1) := by decide +kernel
theorem dL_law_972 : decode cL_law 972 = .ok (.aload_n 0, 1) := by decide +kernel
theorem dL_law_973 : decode cL_law 973 = .ok (.iload_n 3, 1) := by decide +kernel
theorem dL_law_974 : decode cL_law 974 = .ok (.iconst 1, 1) := by decide +kernel
theorem dL_law_975 : decode cL_law 975 = .ok (.iadd, 1) := by decide +kernel
theorem dL_law_976 : decode cL_law 976 = .ok (.iaload, 1) := by decide +kernel
theorem dL_law_977 : decode cL_law 977 = .ok (.invokevirtual 95, 3) := by decide +kernel
theorem dL_law_980 : decode cL_law 980 = .ok (.aload_n 2, 1) := by decide +kernel
theorem dL_law_981 : decode cL_law 981 = .ok (.aload_n 0, 1) := by decide +kernel
theorem dL_law_982 : decode cL_law 982 = .ok (.iload_n 3, 1) := by decide +kernel
theorem dL_law_983 : decode cL_law 983 = .ok (.iconst 1, 1) := by decide +kernel
theorem dL_law_984 : decode cL_law 984 = .ok (.iadd, 1) := by decide +kernel
theorem dL_law_985 : decode cL_law 985 = .ok (.iaload, 1) := by decide +kernel
theorem dL_law_986 : decode cL_law 986 = .ok (.invokevirtual 98, 3) := by decide +kernel
theorem dL_law_989 : decode cL_law 989 = .ok (.if_icmp .eq 229, 3) := by decide +kernel
theorem dL_law_992 : decode cL_law 992 = .ok (.iconst 0, 1) := by decide +kernel
theorem dL_law_993 : decode cL_law 993 = .ok (.ireturn, 1) := by decide +kernel
theorem dL_law_994 : decode cL_law 994 = .ok (.aload_n 1, 1) := by decide +kernel
theorem dL_law_995 : decode cL_law 995 = .ok (.aload_n 0, 1) := by decide +kernel
theorem dL_law_996 : decode cL_law 996 = .ok (.iload_n 3, 1) := by decide +kernel
theorem dL_law_997 : decode cL_law 997 = .ok (.iconst 1, 1) := by decide +kernel
theorem dL_law_998 : decode cL_law 998 = .ok (.iadd, 1) := by decide +kernel
theorem dL_law_999 : decode cL_law 999 = .ok (.iaload, 1) := by decide +kernel
theorem dL_law_1000 : decode cL_law 1000 = .ok (.aload_n 0, 1) := by decide +kernel
theorem dL_law_1001 : decode cL_law 1001 = .ok (.iload_n 3, 1) := by decide +kernel
theorem dL_law_1002 : decode cL_law 1002 = .ok (.iconst 2, 1) := by decide +kernel
theorem dL_law_1003 : decode cL_law 1003 = .ok (.iadd, 1) := by decide +kernel
theorem dL_law_1004 : decode cL_law 1004 = .ok (.iaload, 1) := by decide +kernel
theorem dL_law_1005 : decode cL_law 1005 = .ok (.aload_n 0, 1) := by decide +kernel
theorem dL_law_1006 : decode cL_law 1006 = .ok (.iload_n 3, 1) := by decide +kernel
theorem dL_law_1007 : decode cL_law 1007 = .ok (.iconst 3, 1) := by decide +kernel
theorem dL_law_1008 : decode cL_law 1008 = .ok (.iadd, 1) := by decide +kernel
theorem dL_law_1009 : decode cL_law 1009 = .ok (.iaload, 1) := by decide +kernel
theorem dL_law_1010 : decode cL_law 1010 = .ok (.aload_n 0, 1) := by decide +kernel
theorem dL_law_1011 : decode cL_law 1011 = .ok (.iload_n 3, 1) := by decide +kernel
theorem dL_law_1012 : decode cL_law 1012 = .ok (.iconst 4, 1) := by decide +kernel
theorem dL_law_1013 : decode cL_law 1013 = .ok (.iadd, 1) := by decide +kernel
theorem dL_law_1014 : decode cL_law 1014 = .ok (.iaload, 1) := by decide +kernel
theorem dL_law_1015 : decode cL_law 1015 = .ok (.aload_n 0, 1) := by decide +kernel
theorem dL_law_1016 : decode cL_law 1016 = .ok (.iload_n 3, 1) := by decide +kernel
theorem dL_law_1017 : decode cL_law 1017 = .ok (.iconst 5, 1) := by decide +kernel
theorem dL_law_1018 : decode cL_law 1018 = .ok (.iadd, 1) := by decide +kernel
theorem dL_law_1019 : decode cL_law 1019 = .ok (.iaload, 1) := by decide +kernel
theorem dL_law_1020 : decode cL_law 1020 = .ok (.invokevirtual 99, 3) := by decide +kernel
theorem dL_law_1023 : decode cL_law 1023 = .ok (.aload_n 2, 1) := by decide +kernel
theorem dL_law_1024 : decode cL_law 1024 = .ok (.aload_n 0, 1) := by decide +kernel
theorem dL_law_1025 : decode cL_law 1025 = .ok (.iload_n 3, 1) := by decide +kernel
theorem dL_law_1026 : decode cL_law 1026 = .ok (.iconst 1, 1) := by decide +kernel
theorem dL_law_1027 : decode cL_law 1027 = .ok (.iadd, 1) := by decide +kernel
theorem dL_law_1028 : decode cL_law 1028 = .ok (.iaload, 1) := by decide +kernel
theorem dL_law_1029 : decode cL_law 1029 = .ok (.aload_n 0, 1) := by decide +kernel
theorem dL_law_1030 : decode cL_law 1030 = .ok (.iload_n 3, 1) := by decide +kernel
theorem dL_law_1031 : decode cL_law 1031 = .ok (.iconst 2, 1) := by decide +kernel
theorem dL_law_1032 : decode cL_law 1032 = .ok (.iadd, 1) := by decide +kernel
theorem dL_law_1033 : decode cL_law 1033 = .ok (.iaload, 1) := by decide +kernel
theorem dL_law_1034 : decode cL_law 1034 = .ok (.aload_n 0, 1) := by decide +kernel
theorem dL_law_1035 : decode cL_law 1035 = .ok (.iload_n 3, 1) := by decide +kernel
theorem dL_law_1036 : decode cL_law 1036 = .ok (.iconst 3, 1) := by decide +kernel
theorem dL_law_1037 : decode cL_law 1037 = .ok (.iadd, 1) := by decide +kernel
theorem dL_law_1038 : decode cL_law 1038 = .ok (.iaload, 1) := by decide +kernel
theorem dL_law_1039 : decode cL_law 1039 = .ok (.aload_n 0, 1) := by decide +kernel
theorem dL_law_1040 : decode cL_law 1040 = .ok (.iload_n 3, 1) := by decide +kernel
theorem dL_law_1041 : decode cL_law 1041 = .ok (.iconst 4, 1) := by decide +kernel
theorem dL_law_1042 : decode cL_law 1042 = .ok (.iadd, 1) := by decide +kernel
theorem dL_law_1043 : decode cL_law 1043 = .ok (.iaload, 1) := by decide +kernel
theorem dL_law_1044 : decode cL_law 1044 = .ok (.aload_n 0, 1) := by decide +kernel
theorem dL_law_1045 : decode cL_law 1045 = .ok (.iload_n 3, 1) := by decide +kernel
theorem dL_law_1046 : decode cL_law 1046 = .ok (.iconst 5, 1) := by decide +kernel
theorem dL_law_1047 : decode cL_law 1047 = .ok (.iadd, 1) := by decide +kernel
theorem dL_law_1048 : decode cL_law 1048 = .ok (.iaload, 1) := by decide +kernel
theorem dL_law_1049 : decode cL_law 1049 = .ok (.invokevirtual 103, 3) := by decide +kernel
theorem dL_law_1052 : decode cL_law 1052 = .ok (.if_icmp .eq 166, 3) := by decide +kernel
theorem dL_law_1055 : decode cL_law 1055 = .ok (.iconst 0, 1) := by decide +kernel
theorem dL_law_1056 : decode cL_law 1056 = .ok (.ireturn, 1) := by decide +kernel
theorem dL_law_1057 : decode cL_law 1057 = .ok (.aload_n 1, 1) := by decide +kernel
theorem dL_law_1058 : decode cL_law 1058 = .ok (.aload_n 0, 1) := by decide +kernel
theorem dL_law_1059 : decode cL_law 1059 = .ok (.iload_n 3, 1) := by decide +kernel
theorem dL_law_1060 : decode cL_law 1060 = .ok (.iconst 1, 1) := by decide +kernel
theorem dL_law_1061 : decode cL_law 1061 = .ok (.iadd, 1) := by decide +kernel
theorem dL_law_1062 : decode cL_law 1062 = .ok (.iaload, 1) := by decide +kernel
theorem dL_law_1063 : decode cL_law 1063 = .ok (.invokevirtual 104, 3) := by decide +kernel
theorem dL_law_1066 : decode cL_law 1066 = .ok (.aload_n 2, 1) := by decide +kernel
theorem dL_law_1067 : decode cL_law 1067 = .ok (.aload_n 0, 1) := by decide +kernel
theorem dL_law_1068 : decode cL_law 1068 = .ok (.iload_n 3, 1) := by decide +kernel
theorem dL_law_1069 : decode cL_law 1069 = .ok (.iconst 1, 1) := by decide +kernel
theorem dL_law_1070 : decode cL_law 1070 = .ok (.iadd, 1) := by decide +kernel
theorem dL_law_1071 : decode cL_law 1071 = .ok (.iaload, 1) := by decide +kernel
theorem dL_law_1072 : decode cL_law 1072 = .ok (.invokevirtual 107, 3) := by decide +kernel
theorem dL_law_1075 : decode cL_law 1075 = .ok (.if_icmp .eq 143, 3) := by decide +kernel
theorem dL_law_1078 : decode cL_law 1078 = .ok (.iconst 0, 1) := by decide +kernel
theorem dL_law_1079 : decode cL_law 1079 = .ok (.ireturn, 1) := by decide +kernel
theorem dL_law_1080 : decode cL_law 1080 = .ok (.aload_n 1, 1) := by decide +kernel
theorem dL_law_1081 : decode cL_law 1081 = .ok (.aload_n 0, 1) := by decide +kernel
theorem dL_law_1082 : decode cL_law 1082 = .ok (.iload_n 3, 1) := by decide +kernel
theorem dL_law_1083 : decode cL_law 1083 = .ok (.iconst 1, 1) := by decide +kernel
theorem dL_law_1084 : decode cL_law 1084 = .ok (.iadd, 1) := by decide +kernel
theorem dL_law_1085 : decode cL_law 1085 = .ok (.iaload, 1) := by decide +kernel
theorem dL_law_1086 : decode cL_law 1086 = .ok (.i2l, 1) := by decide +kernel
theorem dL_law_1087 : decode cL_law 1087 = .ok (.bipush 32, 2) := by decide +kernel
theorem dL_law_1089 : decode cL_law 1089 = .ok (.lshl, 1) := by decide +kernel
theorem dL_law_1090 : decode cL_law 1090 = .ok (.aload_n 0, 1) := by decide +kernel
theorem dL_law_1091 : decode cL_law 1091 = .ok (.iload_n 3, 1) := by decide +kernel
theorem dL_law_1092 : decode cL_law 1092 = .ok (.iconst 2, 1) := by decide +kernel
theorem dL_law_1093 : decode cL_law 1093 = .ok (.iadd, 1) := by decide +kernel
theorem dL_law_1094 : decode cL_law 1094 = .ok (.iaload, 1) := by decide +kernel
theorem dL_law_1095 : decode cL_law 1095 = .ok (.i2l, 1) := by decide +kernel
theorem dL_law_1096 : decode cL_law 1096 = .ok (.ldc2_w 108, 3) := by decide +kernel
theorem dL_law_1099 : decode cL_law 1099 = .ok (.land, 1) := by decide +kernel
theorem dL_law_1100 : decode cL_law 1100 = .ok (.lor, 1) := by decide +kernel
theorem dL_law_1101 : decode cL_law 1101 = .ok (.invokevirtual 110, 3) := by decide +kernel
theorem dL_law_1104 : decode cL_law 1104 = .ok (.aload_n 2, 1) := by decide +kernel
theorem dL_law_1105 : decode cL_law 1105 = .ok (.aload_n 0, 1) := by decide +kernel
theorem dL_law_1106 : decode cL_law 1106 = .ok (.iload_n 3, 1) := by decide +kernel
theorem dL_law_1107 : decode cL_law 1107 = .ok (.iconst 1, 1) := by decide +kernel
theorem dL_law_1108 : decode cL_law 1108 = .ok (.iadd, 1) := by decide +kernel
theorem dL_law_1109 : decode cL_law 1109 = .ok (.iaload, 1) := by decide +kernel
theorem dL_law_1110 : decode cL_law 1110 = .ok (.i2l, 1) := by decide +kernel
theorem dL_law_1111 : decode cL_law 1111 = .ok (.bipush 32, 2) := by decide +kernel
theorem dL_law_1113 : decode cL_law 1113 = .ok (.lshl, 1) := by decide +kernel
theorem dL_law_1114 : decode cL_law 1114 = .ok (.aload_n 0, 1) := by decide +kernel
theorem dL_law_1115 : decode cL_law 1115 = .ok (.iload_n 3, 1) := by decide +kernel
theorem dL_law_1116 : decode cL_law 1116 = .ok (.iconst 2, 1) := by decide +kernel
theorem dL_law_1117 : decode cL_law 1117 = .ok (.iadd, 1) := by decide +kernel
theorem dL_law_1118 : decode cL_law 1118 = .ok (.iaload, 1) := by decide +kernel
theorem dL_law_1119 : decode cL_law 1119 = .ok (.i2l, 1) := by decide +kernel
theorem dL_law_1120 : decode cL_law 1120 = .ok (.ldc2_w 108, 3) := by decide +kernel
theorem dL_law_1123 : decode cL_law 1123 = .ok (.land, 1) := by decide +kernel
theorem dL_law_1124 : decode cL_law 1124 = .ok (.lor, 1) := by decide +kernel
theorem dL_law_1125 : decode cL_law 1125 = .ok (.invokevirtual 114, 3) := by decide +kernel
theorem dL_law_1128 : decode cL_law 1128 = .ok (.if_icmp .eq 90, 3) := by decide +kernel
theorem dL_law_1131 : decode cL_law 1131 = .ok (.iconst 0, 1) := by decide +kernel
theorem dL_law_1132 : decode cL_law 1132 = .ok (.ireturn, 1) := by decide +kernel
theorem dL_law_1133 : decode cL_law 1133 = .ok (.aload_n 1, 1) := by decide +kernel
theorem dL_law_1134 : decode cL_law 1134 = .ok (.invokevirtual 115, 3) := by decide +kernel
theorem dL_law_1137 : decode cL_law 1137 = .ok (.aload_n 2, 1) := by decide +kernel
theorem dL_law_1138 : decode cL_law 1138 = .ok (.invokevirtual 119, 3) := by decide +kernel
theorem dL_law_1141 : decode cL_law 1141 = .ok (.if_icmp .eq 77, 3) := by decide +kernel
theorem dL_law_1144 : decode cL_law 1144 = .ok (.iconst 0, 1) := by decide +kernel
theorem dL_law_1145 : decode cL_law 1145 = .ok (.ireturn, 1) := by decide +kernel
theorem dL_law_1146 : decode cL_law 1146 = .ok (.aload_n 1, 1) := by decide +kernel
theorem dL_law_1147 : decode cL_law 1147 = .ok (.invokevirtual 120, 3) := by decide +kernel
theorem dL_law_1150 : decode cL_law 1150 = .ok (.aload_n 2, 1) := by decide +kernel
theorem dL_law_1151 : decode cL_law 1151 = .ok (.invokevirtual 123, 3) := by decide +kernel
theorem dL_law_1154 : decode cL_law 1154 = .ok (.if_icmp .eq 64, 3) := by decide +kernel
theorem dL_law_1157 : decode cL_law 1157 = .ok (.iconst 0, 1) := by decide +kernel
theorem dL_law_1158 : decode cL_law 1158 = .ok (.ireturn, 1) := by decide +kernel
theorem dL_law_1159 : decode cL_law 1159 = .ok (.aload_n 1, 1) := by decide +kernel
theorem dL_law_1160 : decode cL_law 1160 = .ok (.invokevirtual 124, 3) := by decide +kernel
theorem dL_law_1163 : decode cL_law 1163 = .ok (.aload_n 2, 1) := by decide +kernel
theorem dL_law_1164 : decode cL_law 1164 = .ok (.invokevirtual 127, 3) := by decide +kernel
theorem dL_law_1167 : decode cL_law 1167 = .ok (.if_icmp .eq 51, 3) := by decide +kernel
theorem dL_law_1170 : decode cL_law 1170 = .ok (.iconst 0, 1) := by decide +kernel
theorem dL_law_1171 : decode cL_law 1171 = .ok (.ireturn, 1) := by decide +kernel
theorem dL_law_1172 : decode cL_law 1172 = .ok (.aload_n 1, 1) := by decide +kernel
theorem dL_law_1173 : decode cL_law 1173 = .ok (.aload_n 0, 1) := by decide +kernel
theorem dL_law_1174 : decode cL_law 1174 = .ok (.iload_n 3, 1) := by decide +kernel
theorem dL_law_1175 : decode cL_law 1175 = .ok (.iconst 1, 1) := by decide +kernel
theorem dL_law_1176 : decode cL_law 1176 = .ok (.iadd, 1) := by decide +kernel
theorem dL_law_1177 : decode cL_law 1177 = .ok (.iaload, 1) := by decide +kernel
theorem dL_law_1178 : decode cL_law 1178 = .ok (.invokevirtual 128, 3) := by decide +kernel
theorem dL_law_1181 : decode cL_law 1181 = .ok (.aload_n 2, 1) := by decide +kernel
theorem dL_law_1182 : decode cL_law 1182 = .ok (.aload_n 0, 1) := by decide +kernel
theorem dL_law_1183 : decode cL_law 1183 = .ok (.iload_n 3, 1) := by decide +kernel
theorem dL_law_1184 : decode cL_law 1184 = .ok (.iconst 1, 1) := by decide +kernel
theorem dL_law_1185 : decode cL_law 1185 = .ok (.iadd, 1) := by decide +kernel
theorem dL_law_1186 : decode cL_law 1186 = .ok (.iaload, 1) := by decide +kernel
theorem dL_law_1187 : decode cL_law 1187 = .ok (.invokevirtual 131, 3) := by decide +kernel
theorem dL_law_1190 : decode cL_law 1190 = .ok (.if_icmp .eq 28, 3) := by decide +kernel
theorem dL_law_1193 : decode cL_law 1193 = .ok (.iconst 0, 1) := by decide +kernel
theorem dL_law_1194 : decode cL_law 1194 = .ok (.ireturn, 1) := by decide +kernel
theorem dL_law_1195 : decode cL_law 1195 = .ok (.aload_n 1, 1) := by decide +kernel
theorem dL_law_1196 : decode cL_law 1196 = .ok (.aload_n 0, 1) := by decide +kernel
theorem dL_law_1197 : decode cL_law 1197 = .ok (.iload_n 3, 1) := by decide +kernel
theorem dL_law_1198 : decode cL_law 1198 = .ok (.iconst 1, 1) := by decide +kernel
theorem dL_law_1199 : decode cL_law 1199 = .ok (.iadd, 1) := by decide +kernel
theorem dL_law_1200 : decode cL_law 1200 = .ok (.iaload, 1) := by decide +kernel
theorem dL_law_1201 : decode cL_law 1201 = .ok (.invokevirtual 132, 3) := by decide +kernel
theorem dL_law_1204 : decode cL_law 1204 = .ok (.aload_n 2, 1) := by decide +kernel
theorem dL_law_1205 : decode cL_law 1205 = .ok (.aload_n 0, 1) := by decide +kernel
theorem dL_law_1206 : decode cL_law 1206 = .ok (.iload_n 3, 1) := by decide +kernel
theorem dL_law_1207 : decode cL_law 1207 = .ok (.iconst 1, 1) := by decide +kernel
theorem dL_law_1208 : decode cL_law 1208 = .ok (.iadd, 1) := by decide +kernel
theorem dL_law_1209 : decode cL_law 1209 = .ok (.iaload, 1) := by decide +kernel
theorem dL_law_1210 : decode cL_law 1210 = .ok (.invokevirtual 135, 3) := by decide +kernel
theorem dL_law_1213 : decode cL_law 1213 = .ok (.if_icmp .eq 5, 3) := by decide +kernel
theorem dL_law_1216 : decode cL_law 1216 = .ok (.iconst 0, 1) := by decide +kernel
theorem dL_law_1217 : decode cL_law 1217 = .ok (.ireturn, 1) := by decide +kernel
theorem dL_law_1218 : decode cL_law 1218 = .ok (.iinc 3 6, 3) := by decide +kernel
theorem dL_law_1221 : decode cL_law 1221 = .ok (.goto (-1203), 3) := by decide +kernel
theorem dL_law_1224 : decode cL_law 1224 = .ok (.iconst 1, 1) := by decide +kernel
theorem dL_law_1225 : decode cL_law 1225 = .ok (.ireturn, 1) := by decide +kernel
