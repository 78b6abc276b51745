theorem dX0_init_0 : decode cX0_init 0 = .ok (.aload_n 0, 1) := by decide +kernel
theorem dX0_init_1 : decode cX0_init 1 = .ok (.invokespecial 3, 3) := by decide +kernel
theorem dX0_init_4 : decode cX0_init 4 = .ok (.aload_n 0, 1) := by decide +kernel
theorem dX0_init_5 : decode cX0_init 5 = .ok (.bipush 96, 2) := by decide +kernel
theorem dX0_init_7 : decode cX0_init 7 = .ok (.newarray .int, 2) := by decide +kernel
theorem dX0_init_9 : decode cX0_init 9 = .ok (.putfield 9, 3) := by decide +kernel
theorem dX0_init_12 : decode cX0_init 12 = .ok (.aload_n 0, 1) := by decide +kernel
theorem dX0_init_13 : decode cX0_init 13 = .ok (.iconst 5, 1) := by decide +kernel
theorem dX0_init_14 : decode cX0_init 14 = .ok (.newarray .int, 2) := by decide +kernel
theorem dX0_init_16 : decode cX0_init 16 = .ok (.putfield 15, 3) := by decide +kernel
theorem dX0_init_19 : decode cX0_init 19 = .ok (.return_, 1) := by decide +kernel
theorem dX0_survey_0 : decode cX0_survey 0 = .ok (.iconst 0, 1) := by decide +kernel
theorem dX0_survey_1 : decode cX0_survey 1 = .ok (.istore_n 3, 1) := by decide +kernel
theorem dX0_survey_2 : decode cX0_survey 2 = .ok (.iload_n 3, 1) := by decide +kernel
theorem dX0_survey_3 : decode cX0_survey 3 = .ok (.aload_n 0, 1) := by decide +kernel
theorem dX0_survey_4 : decode cX0_survey 4 = .ok (.getfield 15, 3) := by decide +kernel
theorem dX0_survey_7 : decode cX0_survey 7 = .ok (.arraylength, 1) := by decide +kernel
theorem dX0_survey_8 : decode cX0_survey 8 = .ok (.if_icmp .ge 16, 3) := by decide +kernel
theorem dX0_survey_11 : decode cX0_survey 11 = .ok (.aload_n 0, 1) := by decide +kernel
theorem dX0_survey_12 : decode cX0_survey 12 = .ok (.getfield 15, 3) := by decide +kernel
theorem dX0_survey_15 : decode cX0_survey 15 = .ok (.iload_n 3, 1) := by decide +kernel
theorem dX0_survey_16 : decode cX0_survey 16 = .ok (.iconst 0, 1) := by decide +kernel
theorem dX0_survey_17 : decode cX0_survey 17 = .ok (.iastore, 1) := by decide +kernel
theorem dX0_survey_18 : decode cX0_survey 18 = .ok (.iinc 3 1, 3) := by decide +kernel
theorem dX0_survey_21 : decode cX0_survey 21 = .ok (.goto (-19), 3) := by decide +kernel
theorem dX0_survey_24 : decode cX0_survey 24 = .ok (.iconst 0, 1) := by decide +kernel
theorem dX0_survey_25 : decode cX0_survey 25 = .ok (.istore_n 3, 1) := by decide +kernel
theorem dX0_survey_26 : decode cX0_survey 26 = .ok (.iload_n 3, 1) := by decide +kernel
theorem dX0_survey_27 : decode cX0_survey 27 = .ok (.bipush 8, 2) := by decide +kernel
theorem dX0_survey_29 : decode cX0_survey 29 = .ok (.if_icmp .ge 74, 3) := by decide +kernel
theorem dX0_survey_32 : decode cX0_survey 32 = .ok (.iconst 0, 1) := by decide +kernel
theorem dX0_survey_33 : decode cX0_survey 33 = .ok (.istore 4, 2) := by decide +kernel
theorem dX0_survey_35 : decode cX0_survey 35 = .ok (.iload 4, 2) := by decide +kernel
theorem dX0_survey_37 : decode cX0_survey 37 = .ok (.bipush 12, 2) := by decide +kernel
theorem dX0_survey_39 : decode cX0_survey 39 = .ok (.if_icmp .ge 58, 3) := by decide +kernel
theorem dX0_survey_42 : decode cX0_survey 42 = .ok (.aload_n 1, 1) := by decide +kernel
theorem dX0_survey_43 : decode cX0_survey 43 = .ok (.iload 4, 2) := by decide +kernel
theorem dX0_survey_45 : decode cX0_survey 45 = .ok (.iload_n 3, 1) := by decide +kernel
theorem dX0_survey_46 : decode cX0_survey 46 = .ok (.iload_n 2, 1) := by decide +kernel
theorem dX0_survey_47 : decode cX0_survey 47 = .ok (.invokevirtual 18, 3) := by decide +kernel
theorem dX0_survey_50 : decode cX0_survey 50 = .ok (.istore 5, 2) := by decide +kernel
theorem dX0_survey_52 : decode cX0_survey 52 = .ok (.aload_n 0, 1) := by decide +kernel
theorem dX0_survey_53 : decode cX0_survey 53 = .ok (.getfield 9, 3) := by decide +kernel
theorem dX0_survey_56 : decode cX0_survey 56 = .ok (.iload_n 3, 1) := by decide +kernel
theorem dX0_survey_57 : decode cX0_survey 57 = .ok (.bipush 12, 2) := by decide +kernel
theorem dX0_survey_59 : decode cX0_survey 59 = .ok (.imul, 1) := by decide +kernel
theorem dX0_survey_60 : decode cX0_survey 60 = .ok (.iload 4, 2) := by decide +kernel
theorem dX0_survey_62 : decode cX0_survey 62 = .ok (.iadd, 1) := by decide +kernel
theorem dX0_survey_63 : decode cX0_survey 63 = .ok (.iload 5, 2) := by decide +kernel
theorem dX0_survey_65 : decode cX0_survey 65 = .ok (.invokestatic 24, 3) := by decide +kernel
theorem dX0_survey_68 : decode cX0_survey 68 = .ok (.iload 5, 2) := by decide +kernel
theorem dX0_survey_70 : decode cX0_survey 70 = .ok (.iconst (-1), 1) := by decide +kernel
theorem dX0_survey_71 : decode cX0_survey 71 = .ok (.if_icmp .eq 20, 3) := by decide +kernel
theorem dX0_survey_74 : decode cX0_survey 74 = .ok (.aload_n 0, 1) := by decide +kernel
theorem dX0_survey_75 : decode cX0_survey 75 = .ok (.getfield 15, 3) := by decide +kernel
theorem dX0_survey_78 : decode cX0_survey 78 = .ok (.iload 5, 2) := by decide +kernel
theorem dX0_survey_80 : decode cX0_survey 80 = .ok (.aload_n 0, 1) := by decide +kernel
theorem dX0_survey_81 : decode cX0_survey 81 = .ok (.iload 5, 2) := by decide +kernel
theorem dX0_survey_83 : decode cX0_survey 83 = .ok (.invokevirtual 28, 3) := by decide +kernel
theorem dX0_survey_86 : decode cX0_survey 86 = .ok (.iconst 1, 1) := by decide +kernel
theorem dX0_survey_87 : decode cX0_survey 87 = .ok (.iadd, 1) := by decide +kernel
theorem dX0_survey_88 : decode cX0_survey 88 = .ok (.invokestatic 24, 3) := by decide +kernel
theorem dX0_survey_91 : decode cX0_survey 91 = .ok (.iinc 4 1, 3) := by decide +kernel
theorem dX0_survey_94 : decode cX0_survey 94 = .ok (.goto (-59), 3) := by decide +kernel
theorem dX0_survey_97 : decode cX0_survey 97 = .ok (.iinc 3 1, 3) := by decide +kernel
theorem dX0_survey_100 : decode cX0_survey 100 = .ok (.goto (-74), 3) := by decide +kernel
theorem dX0_survey_103 : decode cX0_survey 103 = .ok (.return_, 1) := by decide +kernel
theorem dX0_ownerAt_0 : decode cX0_ownerAt 0 = .ok (.iload_n 1, 1) := by decide +kernel
theorem dX0_ownerAt_1 : decode cX0_ownerAt 1 = .ok (.iload_n 2, 1) := by decide +kernel
theorem dX0_ownerAt_2 : decode cX0_ownerAt 2 = .ok (.invokestatic 32, 3) := by decide +kernel
theorem dX0_ownerAt_5 : decode cX0_ownerAt 5 = .ok (.ifCond .eq 19, 3) := by decide +kernel
theorem dX0_ownerAt_8 : decode cX0_ownerAt 8 = .ok (.aload_n 0, 1) := by decide +kernel
theorem dX0_ownerAt_9 : decode cX0_ownerAt 9 = .ok (.getfield 9, 3) := by decide +kernel
theorem dX0_ownerAt_12 : decode cX0_ownerAt 12 = .ok (.iload_n 2, 1) := by decide +kernel
theorem dX0_ownerAt_13 : decode cX0_ownerAt 13 = .ok (.bipush 12, 2) := by decide +kernel
theorem dX0_ownerAt_15 : decode cX0_ownerAt 15 = .ok (.imul, 1) := by decide +kernel
theorem dX0_ownerAt_16 : decode cX0_ownerAt 16 = .ok (.iload_n 1, 1) := by decide +kernel
theorem dX0_ownerAt_17 : decode cX0_ownerAt 17 = .ok (.iadd, 1) := by decide +kernel
theorem dX0_ownerAt_18 : decode cX0_ownerAt 18 = .ok (.invokestatic 36, 3) := by decide +kernel
theorem dX0_ownerAt_21 : decode cX0_ownerAt 21 = .ok (.goto 4, 3) := by decide +kernel
theorem dX0_ownerAt_24 : decode cX0_ownerAt 24 = .ok (.iconst (-1), 1) := by decide +kernel
theorem dX0_ownerAt_25 : decode cX0_ownerAt 25 = .ok (.ireturn, 1) := by decide +kernel
theorem dX0_countOf_0 : decode cX0_countOf 0 = .ok (.aload_n 0, 1) := by decide +kernel
theorem dX0_countOf_1 : decode cX0_countOf 1 = .ok (.getfield 15, 3) := by decide +kernel
theorem dX0_countOf_4 : decode cX0_countOf 4 = .ok (.iload_n 1, 1) := by decide +kernel
theorem dX0_countOf_5 : decode cX0_countOf 5 = .ok (.invokestatic 36, 3) := by decide +kernel
theorem dX0_countOf_8 : decode cX0_countOf 8 = .ok (.ireturn, 1) := by decide +kernel
theorem dX0_countOwned_0 : decode cX0_countOwned 0 = .ok (.iconst 0, 1) := by decide +kernel
theorem dX0_countOwned_1 : decode cX0_countOwned 1 = .ok (.istore_n 1, 1) := by decide +kernel
theorem dX0_countOwned_2 : decode cX0_countOwned 2 = .ok (.iconst 0, 1) := by decide +kernel
theorem dX0_countOwned_3 : decode cX0_countOwned 3 = .ok (.istore_n 2, 1) := by decide +kernel
theorem dX0_countOwned_4 : decode cX0_countOwned 4 = .ok (.iload_n 2, 1) := by decide +kernel
theorem dX0_countOwned_5 : decode cX0_countOwned 5 = .ok (.aload_n 0, 1) := by decide +kernel
theorem dX0_countOwned_6 : decode cX0_countOwned 6 = .ok (.getfield 15, 3) := by decide +kernel
theorem dX0_countOwned_9 : decode cX0_countOwned 9 = .ok (.arraylength, 1) := by decide +kernel
theorem dX0_countOwned_10 : decode cX0_countOwned 10 = .ok (.if_icmp .ge 18, 3) := by decide +kernel
theorem dX0_countOwned_13 : decode cX0_countOwned 13 = .ok (.iload_n 1, 1) := by decide +kernel
theorem dX0_countOwned_14 : decode cX0_countOwned 14 = .ok (.aload_n 0, 1) := by decide +kernel
theorem dX0_countOwned_15 : decode cX0_countOwned 15 = .ok (.getfield 15, 3) := by decide +kernel
theorem dX0_countOwned_18 : decode cX0_countOwned 18 = .ok (.iload_n 2, 1) := by decide +kernel
theorem dX0_countOwned_19 : decode cX0_countOwned 19 = .ok (.iaload, 1) := by decide +kernel
theorem dX0_countOwned_20 : decode cX0_countOwned 20 = .ok (.iadd, 1) := by decide +kernel
theorem dX0_countOwned_21 : decode cX0_countOwned 21 = .ok (.istore_n 1, 1) := by decide +kernel
theorem dX0_countOwned_22 : decode cX0_countOwned 22 = .ok (.iinc 2 1, 3) := by decide +kernel
theorem dX0_countOwned_25 : decode cX0_countOwned 25 = .ok (.goto (-21), 3) := by decide +kernel
theorem dX0_countOwned_28 : decode cX0_countOwned 28 = .ok (.iload_n 1, 1) := by decide +kernel
theorem dX0_countOwned_29 : decode cX0_countOwned 29 = .ok (.ireturn, 1) := by decide +kernel
theorem dX0_borderByCells_0 : decode cX0_borderByCells 0 = .ok (.iconst 0, 1) := by decide +kernel
theorem dX0_borderByCells_1 : decode cX0_borderByCells 1 = .ok (.istore_n 3, 1) := by decide +kernel
theorem dX0_borderByCells_2 : decode cX0_borderByCells 2 = .ok (.iconst 0, 1) := by decide +kernel
theorem dX0_borderByCells_3 : decode cX0_borderByCells 3 = .ok (.istore 4, 2) := by decide +kernel
theorem dX0_borderByCells_5 : decode cX0_borderByCells 5 = .ok (.iload 4, 2) := by decide +kernel
theorem dX0_borderByCells_7 : decode cX0_borderByCells 7 = .ok (.bipush 8, 2) := by decide +kernel
theorem dX0_borderByCells_9 : decode cX0_borderByCells 9 = .ok (.if_icmp .ge 81, 3) := by decide +kernel
theorem dX0_borderByCells_12 : decode cX0_borderByCells 12 = .ok (.iconst 0, 1) := by decide +kernel
theorem dX0_borderByCells_13 : decode cX0_borderByCells 13 = .ok (.istore 5, 2) := by decide +kernel
theorem dX0_borderByCells_15 : decode cX0_borderByCells 15 = .ok (.iload 5, 2) := by decide +kernel
theorem dX0_borderByCells_17 : decode cX0_borderByCells 17 = .ok (.bipush 12, 2) := by decide +kernel
theorem dX0_borderByCells_19 : decode cX0_borderByCells 19 = .ok (.if_icmp .ge 65, 3) := by decide +kernel
theorem dX0_borderByCells_22 : decode cX0_borderByCells 22 = .ok (.aload_n 0, 1) := by decide +kernel
theorem dX0_borderByCells_23 : decode cX0_borderByCells 23 = .ok (.iload 5, 2) := by decide +kernel
theorem dX0_borderByCells_25 : decode cX0_borderByCells 25 = .ok (.iload 4, 2) := by decide +kernel
theorem dX0_borderByCells_27 : decode cX0_borderByCells 27 = .ok (.invokevirtual 40, 3) := by decide +kernel
theorem dX0_borderByCells_30 : decode cX0_borderByCells 30 = .ok (.istore 6, 2) := by decide +kernel
theorem dX0_borderByCells_32 : decode cX0_borderByCells 32 = .ok (.iload 6, 2) := by decide +kernel
theorem dX0_borderByCells_34 : decode cX0_borderByCells 34 = .ok (.aload_n 0, 1) := by decide +kernel
theorem dX0_borderByCells_35 : decode cX0_borderByCells 35 = .ok (.iload 5, 2) := by decide +kernel
theorem dX0_borderByCells_37 : decode cX0_borderByCells 37 = .ok (.iconst 1, 1) := by decide +kernel
theorem dX0_borderByCells_38 : decode cX0_borderByCells 38 = .ok (.iadd, 1) := by decide +kernel
theorem dX0_borderByCells_39 : decode cX0_borderByCells 39 = .ok (.iload 4, 2) := by decide +kernel
theorem dX0_borderByCells_41 : decode cX0_borderByCells 41 = .ok (.invokevirtual 40, 3) := by decide +kernel
theorem dX0_borderByCells_44 : decode cX0_borderByCells 44 = .ok (.iload_n 1, 1) := by decide +kernel
theorem dX0_borderByCells_45 : decode cX0_borderByCells 45 = .ok (.iload_n 2, 1) := by decide +kernel
theorem dX0_borderByCells_46 : decode cX0_borderByCells 46 = .ok (.invokestatic 44, 3) := by decide +kernel
theorem dX0_borderByCells_49 : decode cX0_borderByCells 49 = .ok (.ifCond .eq 6, 3) := by decide +kernel
theorem dX0_borderByCells_52 : decode cX0_borderByCells 52 = .ok (.iinc 3 1, 3) := by decide +kernel
theorem dX0_borderByCells_55 : decode cX0_borderByCells 55 = .ok (.iload 6, 2) := by decide +kernel
theorem dX0_borderByCells_57 : decode cX0_borderByCells 57 = .ok (.aload_n 0, 1) := by decide +kernel
theorem dX0_borderByCells_58 : decode cX0_borderByCells 58 = .ok (.iload 5, 2) := by decide +kernel
theorem dX0_borderByCells_60 : decode cX0_borderByCells 60 = .ok (.iload 4, 2) := by decide +kernel
theorem dX0_borderByCells_62 : decode cX0_borderByCells 62 = .ok (.iconst 1, 1) := by decide +kernel
theorem dX0_borderByCells_63 : decode cX0_borderByCells 63 = .ok (.iadd, 1) := by decide +kernel
theorem dX0_borderByCells_64 : decode cX0_borderByCells 64 = .ok (.invokevirtual 40, 3) := by decide +kernel
theorem dX0_borderByCells_67 : decode cX0_borderByCells 67 = .ok (.iload_n 1, 1) := by decide +kernel
theorem dX0_borderByCells_68 : decode cX0_borderByCells 68 = .ok (.iload_n 2, 1) := by decide +kernel
theorem dX0_borderByCells_69 : decode cX0_borderByCells 69 = .ok (.invokestatic 44, 3) := by decide +kernel
theorem dX0_borderByCells_72 : decode cX0_borderByCells 72 = .ok (.ifCond .eq 6, 3) := by decide +kernel
theorem dX0_borderByCells_75 : decode cX0_borderByCells 75 = .ok (.iinc 3 1, 3) := by decide +kernel
theorem dX0_borderByCells_78 : decode cX0_borderByCells 78 = .ok (.iinc 5 1, 3) := by decide +kernel
theorem dX0_borderByCells_81 : decode cX0_borderByCells 81 = .ok (.goto (-66), 3) := by decide +kernel
theorem dX0_borderByCells_84 : decode cX0_borderByCells 84 = .ok (.iinc 4 1, 3) := by decide +kernel
theorem dX0_borderByCells_87 : decode cX0_borderByCells 87 = .ok (.goto (-82), 3) := by decide +kernel
theorem dX0_borderByCells_90 : decode cX0_borderByCells 90 = .ok (.iload_n 3, 1) := by decide +kernel
theorem dX0_borderByCells_91 : decode cX0_borderByCells 91 = .ok (.ireturn, 1) := by decide +kernel
theorem dX0_areBoth_0 : decode cX0_areBoth 0 = .ok (.iload_n 0, 1) := by decide +kernel
theorem dX0_areBoth_1 : decode cX0_areBoth 1 = .ok (.iload_n 1, 1) := by decide +kernel
theorem dX0_areBoth_2 : decode cX0_areBoth 2 = .ok (.if_icmp .eq 27, 3) := by decide +kernel
theorem dX0_areBoth_5 : decode cX0_areBoth 5 = .ok (.iload_n 0, 1) := by decide +kernel
theorem dX0_areBoth_6 : decode cX0_areBoth 6 = .ok (.iload_n 2, 1) := by decide +kernel
theorem dX0_areBoth_7 : decode cX0_areBoth 7 = .ok (.if_icmp .ne 8, 3) := by decide +kernel
theorem dX0_areBoth_10 : decode cX0_areBoth 10 = .ok (.iload_n 1, 1) := by decide +kernel
theorem dX0_areBoth_11 : decode cX0_areBoth 11 = .ok (.iload_n 3, 1) := by decide +kernel
theorem dX0_areBoth_12 : decode cX0_areBoth 12 = .ok (.if_icmp .eq 13, 3) := by decide +kernel
theorem dX0_areBoth_15 : decode cX0_areBoth 15 = .ok (.iload_n 0, 1) := by decide +kernel
theorem dX0_areBoth_16 : decode cX0_areBoth 16 = .ok (.iload_n 3, 1) := by decide +kernel
theorem dX0_areBoth_17 : decode cX0_areBoth 17 = .ok (.if_icmp .ne 12, 3) := by decide +kernel
theorem dX0_areBoth_20 : decode cX0_areBoth 20 = .ok (.iload_n 1, 1) := by decide +kernel
theorem dX0_areBoth_21 : decode cX0_areBoth 21 = .ok (.iload_n 2, 1) := by decide +kernel
theorem dX0_areBoth_22 : decode cX0_areBoth 22 = .ok (.if_icmp .ne 7, 3) := by decide +kernel
theorem dX0_areBoth_25 : decode cX0_areBoth 25 = .ok (.iconst 1, 1) := by decide +kernel
theorem dX0_areBoth_26 : decode cX0_areBoth 26 = .ok (.goto 4, 3) := by decide +kernel
theorem dX0_areBoth_29 : decode cX0_areBoth 29 = .ok (.iconst 0, 1) := by decide +kernel
theorem dX0_areBoth_30 : decode cX0_areBoth 30 = .ok (.ireturn, 1) := by decide +kernel
theorem dX0_borderAround_0 : decode cX0_borderAround 0 = .ok (.iload_n 1, 1) := by decide +kernel
theorem dX0_borderAround_1 : decode cX0_borderAround 1 = .ok (.iload_n 2, 1) := by decide +kernel
theorem dX0_borderAround_2 : decode cX0_borderAround 2 = .ok (.if_icmp .ne 5, 3) := by decide +kernel
theorem dX0_borderAround_5 : decode cX0_borderAround 5 = .ok (.iconst 0, 1) := by decide +kernel
theorem dX0_borderAround_6 : decode cX0_borderAround 6 = .ok (.ireturn, 1) := by decide +kernel
theorem dX0_borderAround_7 : decode cX0_borderAround 7 = .ok (.iconst 0, 1) := by decide +kernel
theorem dX0_borderAround_8 : decode cX0_borderAround 8 = .ok (.istore_n 3, 1) := by decide +kernel
theorem dX0_borderAround_9 : decode cX0_borderAround 9 = .ok (.iconst 0, 1) := by decide +kernel
theorem dX0_borderAround_10 : decode cX0_borderAround 10 = .ok (.istore 4, 2) := by decide +kernel
theorem dX0_borderAround_12 : decode cX0_borderAround 12 = .ok (.iload 4, 2) := by decide +kernel
theorem dX0_borderAround_14 : decode cX0_borderAround 14 = .ok (.bipush 8, 2) := by decide +kernel
theorem dX0_borderAround_16 : decode cX0_borderAround 16 = .ok (.if_icmp .ge 49, 3) := by decide +kernel
theorem dX0_borderAround_19 : decode cX0_borderAround 19 = .ok (.iconst 0, 1) := by decide +kernel
theorem dX0_borderAround_20 : decode cX0_borderAround 20 = .ok (.istore 5, 2) := by decide +kernel
theorem dX0_borderAround_22 : decode cX0_borderAround 22 = .ok (.iload 5, 2) := by decide +kernel
theorem dX0_borderAround_24 : decode cX0_borderAround 24 = .ok (.bipush 12, 2) := by decide +kernel
theorem dX0_borderAround_26 : decode cX0_borderAround 26 = .ok (.if_icmp .ge 33, 3) := by decide +kernel
theorem dX0_borderAround_29 : decode cX0_borderAround 29 = .ok (.aload_n 0, 1) := by decide +kernel
theorem dX0_borderAround_30 : decode cX0_borderAround 30 = .ok (.iload 5, 2) := by decide +kernel
theorem dX0_borderAround_32 : decode cX0_borderAround 32 = .ok (.iload 4, 2) := by decide +kernel
theorem dX0_borderAround_34 : decode cX0_borderAround 34 = .ok (.invokevirtual 40, 3) := by decide +kernel
theorem dX0_borderAround_37 : decode cX0_borderAround 37 = .ok (.iload_n 2, 1) := by decide +kernel
theorem dX0_borderAround_38 : decode cX0_borderAround 38 = .ok (.if_icmp .ne 15, 3) := by decide +kernel
theorem dX0_borderAround_41 : decode cX0_borderAround 41 = .ok (.iload_n 3, 1) := by decide +kernel
theorem dX0_borderAround_42 : decode cX0_borderAround 42 = .ok (.aload_n 0, 1) := by decide +kernel
theorem dX0_borderAround_43 : decode cX0_borderAround 43 = .ok (.iload_n 1, 1) := by decide +kernel
theorem dX0_borderAround_44 : decode cX0_borderAround 44 = .ok (.iload 5, 2) := by decide +kernel
theorem dX0_borderAround_46 : decode cX0_borderAround 46 = .ok (.iload 4, 2) := by decide +kernel
theorem dX0_borderAround_48 : decode cX0_borderAround 48 = .ok (.invokevirtual 48, 3) := by decide +kernel
theorem dX0_borderAround_51 : decode cX0_borderAround 51 = .ok (.iadd, 1) := by decide +kernel
theorem dX0_borderAround_52 : decode cX0_borderAround 52 = .ok (.istore_n 3, 1) := by decide +kernel
theorem dX0_borderAround_53 : decode cX0_borderAround 53 = .ok (.iinc 5 1, 3) := by decide +kernel
theorem dX0_borderAround_56 : decode cX0_borderAround 56 = .ok (.goto (-34), 3) := by decide +kernel
theorem dX0_borderAround_59 : decode cX0_borderAround 59 = .ok (.iinc 4 1, 3) := by decide +kernel
theorem dX0_borderAround_62 : decode cX0_borderAround 62 = .ok (.goto (-50), 3) := by decide +kernel
theorem dX0_borderAround_65 : decode cX0_borderAround 65 = .ok (.iload_n 3, 1) := by decide +kernel
theorem dX0_borderAround_66 : decode cX0_borderAround 66 = .ok (.ireturn, 1) := by decide +kernel
theorem dX0_openSides_0 : decode cX0_openSides 0 = .ok (.iconst 0, 1) := by decide +kernel
theorem dX0_openSides_1 : decode cX0_openSides 1 = .ok (.istore_n 2, 1) := by decide +kernel
theorem dX0_openSides_2 : decode cX0_openSides 2 = .ok (.iconst 0, 1) := by decide +kernel
theorem dX0_openSides_3 : decode cX0_openSides 3 = .ok (.istore_n 3, 1) := by decide +kernel
theorem dX0_openSides_4 : decode cX0_openSides 4 = .ok (.iload_n 3, 1) := by decide +kernel
theorem dX0_openSides_5 : decode cX0_openSides 5 = .ok (.bipush 8, 2) := by decide +kernel
theorem dX0_openSides_7 : decode cX0_openSides 7 = .ok (.if_icmp .ge 49, 3) := by decide +kernel
theorem dX0_openSides_10 : decode cX0_openSides 10 = .ok (.iconst 0, 1) := by decide +kernel
theorem dX0_openSides_11 : decode cX0_openSides 11 = .ok (.istore 4, 2) := by decide +kernel
theorem dX0_openSides_13 : decode cX0_openSides 13 = .ok (.iload 4, 2) := by decide +kernel
theorem dX0_openSides_15 : decode cX0_openSides 15 = .ok (.bipush 12, 2) := by decide +kernel
theorem dX0_openSides_17 : decode cX0_openSides 17 = .ok (.if_icmp .ge 33, 3) := by decide +kernel
theorem dX0_openSides_20 : decode cX0_openSides 20 = .ok (.aload_n 0, 1) := by decide +kernel
theorem dX0_openSides_21 : decode cX0_openSides 21 = .ok (.iload 4, 2) := by decide +kernel
theorem dX0_openSides_23 : decode cX0_openSides 23 = .ok (.iload_n 3, 1) := by decide +kernel
theorem dX0_openSides_24 : decode cX0_openSides 24 = .ok (.invokevirtual 40, 3) := by decide +kernel
theorem dX0_openSides_27 : decode cX0_openSides 27 = .ok (.iload_n 1, 1) := by decide +kernel
theorem dX0_openSides_28 : decode cX0_openSides 28 = .ok (.if_icmp .ne 16, 3) := by decide +kernel
theorem dX0_openSides_31 : decode cX0_openSides 31 = .ok (.iload_n 2, 1) := by decide +kernel
theorem dX0_openSides_32 : decode cX0_openSides 32 = .ok (.iconst 4, 1) := by decide +kernel
theorem dX0_openSides_33 : decode cX0_openSides 33 = .ok (.aload_n 0, 1) := by decide +kernel
theorem dX0_openSides_34 : decode cX0_openSides 34 = .ok (.iload_n 1, 1) := by decide +kernel
theorem dX0_openSides_35 : decode cX0_openSides 35 = .ok (.iload 4, 2) := by decide +kernel
theorem dX0_openSides_37 : decode cX0_openSides 37 = .ok (.iload_n 3, 1) := by decide +kernel
theorem dX0_openSides_38 : decode cX0_openSides 38 = .ok (.invokevirtual 48, 3) := by decide +kernel
theorem dX0_openSides_41 : decode cX0_openSides 41 = .ok (.isub, 1) := by decide +kernel
theorem dX0_openSides_42 : decode cX0_openSides 42 = .ok (.iadd, 1) := by decide +kernel
theorem dX0_openSides_43 : decode cX0_openSides 43 = .ok (.istore_n 2, 1) := by decide +kernel
theorem dX0_openSides_44 : decode cX0_openSides 44 = .ok (.iinc 4 1, 3) := by decide +kernel
theorem dX0_openSides_47 : decode cX0_openSides 47 = .ok (.goto (-34), 3) := by decide +kernel
theorem dX0_openSides_50 : decode cX0_openSides 50 = .ok (.iinc 3 1, 3) := by decide +kernel
theorem dX0_openSides_53 : decode cX0_openSides 53 = .ok (.goto (-49), 3) := by decide +kernel
theorem dX0_openSides_56 : decode cX0_openSides 56 = .ok (.iload_n 2, 1) := by decide +kernel
theorem dX0_openSides_57 : decode cX0_openSides 57 = .ok (.ireturn, 1) := by decide +kernel
theorem dX0_sidesTowards_0 : decode cX0_sidesTowards 0 = .ok (.iconst 0, 1) := by decide +kernel
theorem dX0_sidesTowards_1 : decode cX0_sidesTowards 1 = .ok (.istore 4, 2) := by decide +kernel
theorem dX0_sidesTowards_3 : decode cX0_sidesTowards 3 = .ok (.iconst 0, 1) := by decide +kernel
theorem dX0_sidesTowards_4 : decode cX0_sidesTowards 4 = .ok (.istore 5, 2) := by decide +kernel
theorem dX0_sidesTowards_6 : decode cX0_sidesTowards 6 = .ok (.iload 5, 2) := by decide +kernel
theorem dX0_sidesTowards_8 : decode cX0_sidesTowards 8 = .ok (.iconst 3, 1) := by decide +kernel
theorem dX0_sidesTowards_9 : decode cX0_sidesTowards 9 = .ok (.if_icmp .gt 34, 3) := by decide +kernel
theorem dX0_sidesTowards_12 : decode cX0_sidesTowards 12 = .ok (.aload_n 0, 1) := by decide +kernel
theorem dX0_sidesTowards_13 : decode cX0_sidesTowards 13 = .ok (.iload_n 2, 1) := by decide +kernel
theorem dX0_sidesTowards_14 : decode cX0_sidesTowards 14 = .ok (.iload 5, 2) := by decide +kernel
theorem dX0_sidesTowards_16 : decode cX0_sidesTowards 16 = .ok (.invokestatic 51, 3) := by decide +kernel
theorem dX0_sidesTowards_19 : decode cX0_sidesTowards 19 = .ok (.iadd, 1) := by decide +kernel
theorem dX0_sidesTowards_20 : decode cX0_sidesTowards 20 = .ok (.iload_n 3, 1) := by decide +kernel
theorem dX0_sidesTowards_21 : decode cX0_sidesTowards 21 = .ok (.iload 5, 2) := by decide +kernel
theorem dX0_sidesTowards_23 : decode cX0_sidesTowards 23 = .ok (.invokestatic 54, 3) := by decide +kernel
theorem dX0_sidesTowards_26 : decode cX0_sidesTowards 26 = .ok (.iadd, 1) := by decide +kernel
theorem dX0_sidesTowards_27 : decode cX0_sidesTowards 27 = .ok (.invokevirtual 40, 3) := by decide +kernel
theorem dX0_sidesTowards_30 : decode cX0_sidesTowards 30 = .ok (.iload_n 1, 1) := by decide +kernel
theorem dX0_sidesTowards_31 : decode cX0_sidesTowards 31 = .ok (.if_icmp .ne 6, 3) := by decide +kernel
theorem dX0_sidesTowards_34 : decode cX0_sidesTowards 34 = .ok (.iinc 4 1, 3) := by decide +kernel
theorem dX0_sidesTowards_37 : decode cX0_sidesTowards 37 = .ok (.iinc 5 1, 3) := by decide +kernel
theorem dX0_sidesTowards_40 : decode cX0_sidesTowards 40 = .ok (.goto (-34), 3) := by decide +kernel
theorem dX0_sidesTowards_43 : decode cX0_sidesTowards 43 = .ok (.iload 4, 2) := by decide +kernel
theorem dX0_sidesTowards_45 : decode cX0_sidesTowards 45 = .ok (.ireturn, 1) := by decide +kernel
theorem dX1_init_0 : decode cX1_init 0 = .ok (.aload_n 0, 1) := by decide +kernel
theorem dX1_init_1 : decode cX1_init 1 = .ok (.invokespecial 3, 3) := by decide +kernel
theorem dX1_init_4 : decode cX1_init 4 = .ok (.aload_n 0, 1) := by decide +kernel
theorem dX1_init_5 : decode cX1_init 5 = .ok (.iconst 0, 1) := by decide +kernel
theorem dX1_init_6 : decode cX1_init 6 = .ok (.putfield 9, 3) := by decide +kernel
theorem dX1_init_9 : decode cX1_init 9 = .ok (.aload_n 0, 1) := by decide +kernel
theorem dX1_init_10 : decode cX1_init 10 = .ok (.bipush 10, 2) := by decide +kernel
theorem dX1_init_12 : decode cX1_init 12 = .ok (.newarray .int, 2) := by decide +kernel
theorem dX1_init_14 : decode cX1_init 14 = .ok (.putfield 15, 3) := by decide +kernel
theorem dX1_init_17 : decode cX1_init 17 = .ok (.aload_n 0, 1) := by decide +kernel
theorem dX1_init_18 : decode cX1_init 18 = .ok (.bipush 10, 2) := by decide +kernel
theorem dX1_init_20 : decode cX1_init 20 = .ok (.newarray .int, 2) := by decide +kernel
theorem dX1_init_22 : decode cX1_init 22 = .ok (.putfield 19, 3) := by decide +kernel
theorem dX1_init_25 : decode cX1_init 25 = .ok (.aload_n 0, 1) := by decide +kernel
theorem dX1_init_26 : decode cX1_init 26 = .ok (.bipush 10, 2) := by decide +kernel
theorem dX1_init_28 : decode cX1_init 28 = .ok (.newarray .int, 2) := by decide +kernel
theorem dX1_init_30 : decode cX1_init 30 = .ok (.putfield 22, 3) := by decide +kernel
theorem dX1_init_33 : decode cX1_init 33 = .ok (.aload_n 0, 1) := by decide +kernel
theorem dX1_init_34 : decode cX1_init 34 = .ok (.bipush 10, 2) := by decide +kernel
theorem dX1_init_36 : decode cX1_init 36 = .ok (.newarray .int, 2) := by decide +kernel
theorem dX1_init_38 : decode cX1_init 38 = .ok (.putfield 25, 3) := by decide +kernel
theorem dX1_init_41 : decode cX1_init 41 = .ok (.aload_n 0, 1) := by decide +kernel
theorem dX1_init_42 : decode cX1_init 42 = .ok (.iconst 3, 1) := by decide +kernel
theorem dX1_init_43 : decode cX1_init 43 = .ok (.newarray .int, 2) := by decide +kernel
theorem dX1_init_45 : decode cX1_init 45 = .ok (.putfield 28, 3) := by decide +kernel
theorem dX1_init_48 : decode cX1_init 48 = .ok (.return_, 1) := by decide +kernel
theorem dX1_understand_0 : decode cX1_understand 0 = .ok (.aload_n 0, 1) := by decide +kernel
theorem dX1_understand_1 : decode cX1_understand 1 = .ok (.iconst 0, 1) := by decide +kernel
theorem dX1_understand_2 : decode cX1_understand 2 = .ok (.putfield 9, 3) := by decide +kernel
theorem dX1_understand_5 : decode cX1_understand 5 = .ok (.iconst 0, 1) := by decide +kernel
theorem dX1_understand_6 : decode cX1_understand 6 = .ok (.istore_n 3, 1) := by decide +kernel
theorem dX1_understand_7 : decode cX1_understand 7 = .ok (.iconst 0, 1) := by decide +kernel
theorem dX1_understand_8 : decode cX1_understand 8 = .ok (.istore 4, 2) := by decide +kernel
theorem dX1_understand_10 : decode cX1_understand 10 = .ok (.iload 4, 2) := by decide +kernel
theorem dX1_understand_12 : decode cX1_understand 12 = .ok (.bipush 10, 2) := by decide +kernel
theorem dX1_understand_14 : decode cX1_understand 14 = .ok (.if_icmp .ge 56, 3) := by decide +kernel
theorem dX1_understand_17 : decode cX1_understand 17 = .ok (.aload_n 0, 1) := by decide +kernel
theorem dX1_understand_18 : decode cX1_understand 18 = .ok (.aload_n 1, 1) := by decide +kernel
theorem dX1_understand_19 : decode cX1_understand 19 = .ok (.iload_n 2, 1) := by decide +kernel
theorem dX1_understand_20 : decode cX1_understand 20 = .ok (.iload_n 3, 1) := by decide +kernel
theorem dX1_understand_21 : decode cX1_understand 21 = .ok (.invokevirtual 31, 3) := by decide +kernel
theorem dX1_understand_24 : decode cX1_understand 24 = .ok (.istore 5, 2) := by decide +kernel
theorem dX1_understand_26 : decode cX1_understand 26 = .ok (.iload 5, 2) := by decide +kernel
theorem dX1_understand_28 : decode cX1_understand 28 = .ok (.ifCond .ge 8, 3) := by decide +kernel
theorem dX1_understand_31 : decode cX1_understand 31 = .ok (.iconst (-1), 1) := by decide +kernel
theorem dX1_understand_32 : decode cX1_understand 32 = .ok (.iload 5, 2) := by decide +kernel
theorem dX1_understand_34 : decode cX1_understand 34 = .ok (.isub, 1) := by decide +kernel
theorem dX1_understand_35 : decode cX1_understand 35 = .ok (.ireturn, 1) := by decide +kernel
theorem dX1_understand_36 : decode cX1_understand 36 = .ok (.iload 5, 2) := by decide +kernel
theorem dX1_understand_38 : decode cX1_understand 38 = .ok (.iload_n 2, 1) := by decide +kernel
theorem dX1_understand_39 : decode cX1_understand 39 = .ok (.if_icmp .ne 5, 3) := by decide +kernel
theorem dX1_understand_42 : decode cX1_understand 42 = .ok (.iconst (-1), 1) := by decide +kernel
theorem dX1_understand_43 : decode cX1_understand 43 = .ok (.ireturn, 1) := by decide +kernel
theorem dX1_understand_44 : decode cX1_understand 44 = .ok (.aload_n 1, 1) := by decide +kernel
theorem dX1_understand_45 : decode cX1_understand 45 = .ok (.iload_n 2, 1) := by decide +kernel
theorem dX1_understand_46 : decode cX1_understand 46 = .ok (.iload 5, 2) := by decide +kernel
theorem dX1_understand_48 : decode cX1_understand 48 = .ok (.invokestatic 35, 3) := by decide +kernel
theorem dX1_understand_51 : decode cX1_understand 51 = .ok (.bipush 59, 2) := by decide +kernel
theorem dX1_understand_53 : decode cX1_understand 53 = .ok (.if_icmp .eq 6, 3) := by decide +kernel
theorem dX1_understand_56 : decode cX1_understand 56 = .ok (.iload 5, 2) := by decide +kernel
theorem dX1_understand_58 : decode cX1_understand 58 = .ok (.ireturn, 1) := by decide +kernel
theorem dX1_understand_59 : decode cX1_understand 59 = .ok (.iload 5, 2) := by decide +kernel
theorem dX1_understand_61 : decode cX1_understand 61 = .ok (.iconst 1, 1) := by decide +kernel
theorem dX1_understand_62 : decode cX1_understand 62 = .ok (.iadd, 1) := by decide +kernel
theorem dX1_understand_63 : decode cX1_understand 63 = .ok (.istore_n 3, 1) := by decide +kernel
theorem dX1_understand_64 : decode cX1_understand 64 = .ok (.iinc 4 1, 3) := by decide +kernel
theorem dX1_understand_67 : decode cX1_understand 67 = .ok (.goto (-57), 3) := by decide +kernel
theorem dX1_understand_70 : decode cX1_understand 70 = .ok (.iload_n 3, 1) := by decide +kernel
theorem dX1_understand_71 : decode cX1_understand 71 = .ok (.ireturn, 1) := by decide +kernel
theorem dX1_understandOne_0 : decode cX1_understandOne 0 = .ok (.iload_n 3, 1) := by decide +kernel
theorem dX1_understandOne_1 : decode cX1_understandOne 1 = .ok (.istore 4, 2) := by decide +kernel
theorem dX1_understandOne_3 : decode cX1_understandOne 3 = .ok (.iconst 0, 1) := by decide +kernel
theorem dX1_understandOne_4 : decode cX1_understandOne 4 = .ok (.istore 5, 2) := by decide +kernel
theorem dX1_understandOne_6 : decode cX1_understandOne 6 = .ok (.iload 5, 2) := by decide +kernel
theorem dX1_understandOne_8 : decode cX1_understandOne 8 = .ok (.bipush 8, 2) := by decide +kernel
theorem dX1_understandOne_10 : decode cX1_understandOne 10 = .ok (.if_icmp .ge 48, 3) := by decide +kernel
theorem dX1_understandOne_13 : decode cX1_understandOne 13 = .ok (.aload_n 0, 1) := by decide +kernel
theorem dX1_understandOne_14 : decode cX1_understandOne 14 = .ok (.iload 5, 2) := by decide +kernel
theorem dX1_understandOne_16 : decode cX1_understandOne 16 = .ok (.invokestatic 38, 3) := by decide +kernel
theorem dX1_understandOne_19 : decode cX1_understandOne 19 = .ok (.aload_n 1, 1) := by decide +kernel
theorem dX1_understandOne_20 : decode cX1_understandOne 20 = .ok (.iload_n 2, 1) := by decide +kernel
theorem dX1_understandOne_21 : decode cX1_understandOne 21 = .ok (.iload_n 3, 1) := by decide +kernel
theorem dX1_understandOne_22 : decode cX1_understandOne 22 = .ok (.invokevirtual 42, 3) := by decide +kernel
theorem dX1_understandOne_25 : decode cX1_understandOne 25 = .ok (.istore 6, 2) := by decide +kernel
theorem dX1_understandOne_27 : decode cX1_understandOne 27 = .ok (.iload 6, 2) := by decide +kernel
theorem dX1_understandOne_29 : decode cX1_understandOne 29 = .ok (.ifCond .lt 12, 3) := by decide +kernel
theorem dX1_understandOne_32 : decode cX1_understandOne 32 = .ok (.aload_n 0, 1) := by decide +kernel
theorem dX1_understandOne_33 : decode cX1_understandOne 33 = .ok (.iload 5, 2) := by decide +kernel
theorem dX1_understandOne_35 : decode cX1_understandOne 35 = .ok (.invokevirtual 46, 3) := by decide +kernel
theorem dX1_understandOne_38 : decode cX1_understandOne 38 = .ok (.iload 6, 2) := by decide +kernel
theorem dX1_understandOne_40 : decode cX1_understandOne 40 = .ok (.ireturn, 1) := by decide +kernel
theorem dX1_understandOne_41 : decode cX1_understandOne 41 = .ok (.iload 4, 2) := by decide +kernel
theorem dX1_understandOne_43 : decode cX1_understandOne 43 = .ok (.iconst (-1), 1) := by decide +kernel
theorem dX1_understandOne_44 : decode cX1_understandOne 44 = .ok (.iload 6, 2) := by decide +kernel
theorem dX1_understandOne_46 : decode cX1_understandOne 46 = .ok (.isub, 1) := by decide +kernel
theorem dX1_understandOne_47 : decode cX1_understandOne 47 = .ok (.invokestatic 50, 3) := by decide +kernel
theorem dX1_understandOne_50 : decode cX1_understandOne 50 = .ok (.istore 4, 2) := by decide +kernel
theorem dX1_understandOne_52 : decode cX1_understandOne 52 = .ok (.iinc 5 1, 3) := by decide +kernel
theorem dX1_understandOne_55 : decode cX1_understandOne 55 = .ok (.goto (-49), 3) := by decide +kernel
theorem dX1_understandOne_58 : decode cX1_understandOne 58 = .ok (.iconst (-1), 1) := by decide +kernel
theorem dX1_understandOne_59 : decode cX1_understandOne 59 = .ok (.iload 4, 2) := by decide +kernel
theorem dX1_understandOne_61 : decode cX1_understandOne 61 = .ok (.isub, 1) := by decide +kernel
theorem dX1_understandOne_62 : decode cX1_understandOne 62 = .ok (.ireturn, 1) := by decide +kernel
theorem dX1_add_0 : decode cX1_add 0 = .ok (.aload_n 0, 1) := by decide +kernel
theorem dX1_add_1 : decode cX1_add 1 = .ok (.getfield 15, 3) := by decide +kernel
theorem dX1_add_4 : decode cX1_add 4 = .ok (.aload_n 0, 1) := by decide +kernel
theorem dX1_add_5 : decode cX1_add 5 = .ok (.getfield 9, 3) := by decide +kernel
theorem dX1_add_8 : decode cX1_add 8 = .ok (.iload_n 1, 1) := by decide +kernel
theorem dX1_add_9 : decode cX1_add 9 = .ok (.invokestatic 56, 3) := by decide +kernel
theorem dX1_add_12 : decode cX1_add 12 = .ok (.aload_n 0, 1) := by decide +kernel
theorem dX1_add_13 : decode cX1_add 13 = .ok (.getfield 19, 3) := by decide +kernel
theorem dX1_add_16 : decode cX1_add 16 = .ok (.aload_n 0, 1) := by decide +kernel
theorem dX1_add_17 : decode cX1_add 17 = .ok (.getfield 9, 3) := by decide +kernel
theorem dX1_add_20 : decode cX1_add 20 = .ok (.aload_n 0, 1) := by decide +kernel
theorem dX1_add_21 : decode cX1_add 21 = .ok (.getfield 28, 3) := by decide +kernel
theorem dX1_add_24 : decode cX1_add 24 = .ok (.iconst 0, 1) := by decide +kernel
theorem dX1_add_25 : decode cX1_add 25 = .ok (.invokestatic 60, 3) := by decide +kernel
theorem dX1_add_28 : decode cX1_add 28 = .ok (.invokestatic 56, 3) := by decide +kernel
theorem dX1_add_31 : decode cX1_add 31 = .ok (.aload_n 0, 1) := by decide +kernel
theorem dX1_add_32 : decode cX1_add 32 = .ok (.getfield 22, 3) := by decide +kernel
theorem dX1_add_35 : decode cX1_add 35 = .ok (.aload_n 0, 1) := by decide +kernel
theorem dX1_add_36 : decode cX1_add 36 = .ok (.getfield 9, 3) := by decide +kernel
theorem dX1_add_39 : decode cX1_add 39 = .ok (.aload_n 0, 1) := by decide +kernel
theorem dX1_add_40 : decode cX1_add 40 = .ok (.getfield 28, 3) := by decide +kernel
theorem dX1_add_43 : decode cX1_add 43 = .ok (.iconst 1, 1) := by decide +kernel
theorem dX1_add_44 : decode cX1_add 44 = .ok (.invokestatic 60, 3) := by decide +kernel
theorem dX1_add_47 : decode cX1_add 47 = .ok (.invokestatic 56, 3) := by decide +kernel
theorem dX1_add_50 : decode cX1_add 50 = .ok (.aload_n 0, 1) := by decide +kernel
theorem dX1_add_51 : decode cX1_add 51 = .ok (.getfield 25, 3) := by decide +kernel
theorem dX1_add_54 : decode cX1_add 54 = .ok (.aload_n 0, 1) := by decide +kernel
theorem dX1_add_55 : decode cX1_add 55 = .ok (.getfield 9, 3) := by decide +kernel
theorem dX1_add_58 : decode cX1_add 58 = .ok (.aload_n 0, 1) := by decide +kernel
theorem dX1_add_59 : decode cX1_add 59 = .ok (.getfield 28, 3) := by decide +kernel
theorem dX1_add_62 : decode cX1_add 62 = .ok (.iconst 2, 1) := by decide +kernel
theorem dX1_add_63 : decode cX1_add 63 = .ok (.invokestatic 60, 3) := by decide +kernel
theorem dX1_add_66 : decode cX1_add 66 = .ok (.invokestatic 56, 3) := by decide +kernel
theorem dX1_add_69 : decode cX1_add 69 = .ok (.aload_n 0, 1) := by decide +kernel
theorem dX1_add_70 : decode cX1_add 70 = .ok (.dup, 1) := by decide +kernel
theorem dX1_add_71 : decode cX1_add 71 = .ok (.getfield 9, 3) := by decide +kernel
theorem dX1_add_74 : decode cX1_add 74 = .ok (.iconst 1, 1) := by decide +kernel
theorem dX1_add_75 : decode cX1_add 75 = .ok (.iadd, 1) := by decide +kernel
theorem dX1_add_76 : decode cX1_add 76 = .ok (.putfield 9, 3) := by decide +kernel
theorem dX1_add_79 : decode cX1_add 79 = .ok (.return_, 1) := by decide +kernel
theorem dX1_formOf_0 : decode cX1_formOf 0 = .ok (.iload_n 0, 1) := by decide +kernel
theorem dX1_formOf_1 : decode cX1_formOf 1 = .ok (.tableswitch 64 0 6 #[43, 46, 49, 52, 55, 58, 61], 43) := by decide +kernel
theorem dX1_formOf_44 : decode cX1_formOf 44 = .ok (.ldc 64, 2) := by decide +kernel
theorem dX1_formOf_46 : decode cX1_formOf 46 = .ok (.areturn, 1) := by decide +kernel
theorem dX1_formOf_47 : decode cX1_formOf 47 = .ok (.ldc 66, 2) := by decide +kernel
theorem dX1_formOf_49 : decode cX1_formOf 49 = .ok (.areturn, 1) := by decide +kernel
theorem dX1_formOf_50 : decode cX1_formOf 50 = .ok (.ldc 68, 2) := by decide +kernel
theorem dX1_formOf_52 : decode cX1_formOf 52 = .ok (.areturn, 1) := by decide +kernel
theorem dX1_formOf_53 : decode cX1_formOf 53 = .ok (.ldc 70, 2) := by decide +kernel
theorem dX1_formOf_55 : decode cX1_formOf 55 = .ok (.areturn, 1) := by decide +kernel
theorem dX1_formOf_56 : decode cX1_formOf 56 = .ok (.ldc 72, 2) := by decide +kernel
theorem dX1_formOf_58 : decode cX1_formOf 58 = .ok (.areturn, 1) := by decide +kernel
theorem dX1_formOf_59 : decode cX1_formOf 59 = .ok (.ldc 74, 2) := by decide +kernel
theorem dX1_formOf_61 : decode cX1_formOf 61 = .ok (.areturn, 1) := by decide +kernel
theorem dX1_formOf_62 : decode cX1_formOf 62 = .ok (.ldc 76, 2) := by decide +kernel
theorem dX1_formOf_64 : decode cX1_formOf 64 = .ok (.areturn, 1) := by decide +kernel
theorem dX1_formOf_65 : decode cX1_formOf 65 = .ok (.ldc 78, 2) := by decide +kernel
theorem dX1_formOf_67 : decode cX1_formOf 67 = .ok (.areturn, 1) := by decide +kernel
theorem dX1_match_0 : decode cX1_match 0 = .ok (.iload 4, 2) := by decide +kernel
theorem dX1_match_2 : decode cX1_match 2 = .ok (.istore 5, 2) := by decide +kernel
theorem dX1_match_4 : decode cX1_match 4 = .ok (.iconst 0, 1) := by decide +kernel
theorem dX1_match_5 : decode cX1_match 5 = .ok (.istore 6, 2) := by decide +kernel
theorem dX1_match_7 : decode cX1_match 7 = .ok (.iconst 1, 1) := by decide +kernel
theorem dX1_match_8 : decode cX1_match 8 = .ok (.istore 7, 2) := by decide +kernel
theorem dX1_match_10 : decode cX1_match 10 = .ok (.iconst 0, 1) := by decide +kernel
theorem dX1_match_11 : decode cX1_match 11 = .ok (.istore 8, 2) := by decide +kernel
theorem dX1_match_13 : decode cX1_match 13 = .ok (.iload 8, 2) := by decide +kernel
theorem dX1_match_15 : decode cX1_match 15 = .ok (.aload_n 1, 1) := by decide +kernel
theorem dX1_match_16 : decode cX1_match 16 = .ok (.invokevirtual 80, 3) := by decide +kernel
theorem dX1_match_19 : decode cX1_match 19 = .ok (.if_icmp .ge 170, 3) := by decide +kernel
theorem dX1_match_22 : decode cX1_match 22 = .ok (.aload_n 1, 1) := by decide +kernel
theorem dX1_match_23 : decode cX1_match 23 = .ok (.iload 8, 2) := by decide +kernel
theorem dX1_match_25 : decode cX1_match 25 = .ok (.invokevirtual 86, 3) := by decide +kernel
theorem dX1_match_28 : decode cX1_match 28 = .ok (.istore 9, 2) := by decide +kernel
theorem dX1_match_30 : decode cX1_match 30 = .ok (.aload_n 2, 1) := by decide +kernel
theorem dX1_match_31 : decode cX1_match 31 = .ok (.iload_n 3, 1) := by decide +kernel
theorem dX1_match_32 : decode cX1_match 32 = .ok (.iload 5, 2) := by decide +kernel
theorem dX1_match_34 : decode cX1_match 34 = .ok (.invokestatic 35, 3) := by decide +kernel
theorem dX1_match_37 : decode cX1_match 37 = .ok (.istore 10, 2) := by decide +kernel
theorem dX1_match_39 : decode cX1_match 39 = .ok (.iload 9, 2) := by decide +kernel
theorem dX1_match_41 : decode cX1_match 41 = .ok (.iload 10, 2) := by decide +kernel
theorem dX1_match_43 : decode cX1_match 43 = .ok (.invokestatic 90, 3) := by decide +kernel
theorem dX1_match_46 : decode cX1_match 46 = .ok (.ifCond .ne 8, 3) := by decide +kernel
theorem dX1_match_49 : decode cX1_match 49 = .ok (.iconst (-1), 1) := by decide +kernel
theorem dX1_match_50 : decode cX1_match 50 = .ok (.iload 5, 2) := by decide +kernel
theorem dX1_match_52 : decode cX1_match 52 = .ok (.isub, 1) := by decide +kernel
theorem dX1_match_53 : decode cX1_match 53 = .ok (.ireturn, 1) := by decide +kernel
theorem dX1_match_54 : decode cX1_match 54 = .ok (.iinc 5 1, 3) := by decide +kernel
theorem dX1_match_57 : decode cX1_match 57 = .ok (.iload 9, 2) := by decide +kernel
theorem dX1_match_59 : decode cX1_match 59 = .ok (.bipush 35, 2) := by decide +kernel
theorem dX1_match_61 : decode cX1_match 61 = .ok (.if_icmp .eq 10, 3) := by decide +kernel
theorem dX1_match_64 : decode cX1_match 64 = .ok (.iload 9, 2) := by decide +kernel
theorem dX1_match_66 : decode cX1_match 66 = .ok (.bipush 37, 2) := by decide +kernel
theorem dX1_match_68 : decode cX1_match 68 = .ok (.if_icmp .ne 70, 3) := by decide +kernel
theorem dX1_match_71 : decode cX1_match 71 = .ok (.iload 10, 2) := by decide +kernel
theorem dX1_match_73 : decode cX1_match 73 = .ok (.bipush 48, 2) := by decide +kernel
theorem dX1_match_75 : decode cX1_match 75 = .ok (.isub, 1) := by decide +kernel
theorem dX1_match_76 : decode cX1_match 76 = .ok (.istore 11, 2) := by decide +kernel
theorem dX1_match_78 : decode cX1_match 78 = .ok (.aload_n 2, 1) := by decide +kernel
theorem dX1_match_79 : decode cX1_match 79 = .ok (.iload_n 3, 1) := by decide +kernel
theorem dX1_match_80 : decode cX1_match 80 = .ok (.iload 5, 2) := by decide +kernel
theorem dX1_match_82 : decode cX1_match 82 = .ok (.invokestatic 35, 3) := by decide +kernel
theorem dX1_match_85 : decode cX1_match 85 = .ok (.istore 12, 2) := by decide +kernel
theorem dX1_match_87 : decode cX1_match 87 = .ok (.iload 9, 2) := by decide +kernel
theorem dX1_match_89 : decode cX1_match 89 = .ok (.bipush 37, 2) := by decide +kernel
theorem dX1_match_91 : decode cX1_match 91 = .ok (.if_icmp .ne 27, 3) := by decide +kernel
theorem dX1_match_94 : decode cX1_match 94 = .ok (.iload 12, 2) := by decide +kernel
theorem dX1_match_96 : decode cX1_match 96 = .ok (.invokestatic 94, 3) := by decide +kernel
theorem dX1_match_99 : decode cX1_match 99 = .ok (.ifCond .eq 19, 3) := by decide +kernel
theorem dX1_match_102 : decode cX1_match 102 = .ok (.iload 11, 2) := by decide +kernel
theorem dX1_match_104 : decode cX1_match 104 = .ok (.bipush 10, 2) := by decide +kernel
theorem dX1_match_106 : decode cX1_match 106 = .ok (.imul, 1) := by decide +kernel
theorem dX1_match_107 : decode cX1_match 107 = .ok (.iload 12, 2) := by decide +kernel
theorem dX1_match_109 : decode cX1_match 109 = .ok (.iadd, 1) := by decide +kernel
theorem dX1_match_110 : decode cX1_match 110 = .ok (.bipush 48, 2) := by decide +kernel
theorem dX1_match_112 : decode cX1_match 112 = .ok (.isub, 1) := by decide +kernel
theorem dX1_match_113 : decode cX1_match 113 = .ok (.istore 11, 2) := by decide +kernel
theorem dX1_match_115 : decode cX1_match 115 = .ok (.iinc 5 1, 3) := by decide +kernel
theorem dX1_match_118 : decode cX1_match 118 = .ok (.aload_n 0, 1) := by decide +kernel
theorem dX1_match_119 : decode cX1_match 119 = .ok (.getfield 28, 3) := by decide +kernel
theorem dX1_match_122 : decode cX1_match 122 = .ok (.iload 6, 2) := by decide +kernel
theorem dX1_match_124 : decode cX1_match 124 = .ok (.iload 11, 2) := by decide +kernel
theorem dX1_match_126 : decode cX1_match 126 = .ok (.iload 7, 2) := by decide +kernel
theorem dX1_match_128 : decode cX1_match 128 = .ok (.imul, 1) := by decide +kernel
theorem dX1_match_129 : decode cX1_match 129 = .ok (.invokestatic 56, 3) := by decide +kernel
theorem dX1_match_132 : decode cX1_match 132 = .ok (.iinc 6 1, 3) := by decide +kernel
theorem dX1_match_135 : decode cX1_match 135 = .ok (.goto 48, 3) := by decide +kernel
theorem dX1_match_138 : decode cX1_match 138 = .ok (.iload 9, 2) := by decide +kernel
theorem dX1_match_140 : decode cX1_match 140 = .ok (.bipush 64, 2) := by decide +kernel
theorem dX1_match_142 : decode cX1_match 142 = .ok (.if_icmp .ne 20, 3) := by decide +kernel
theorem dX1_match_145 : decode cX1_match 145 = .ok (.aload_n 0, 1) := by decide +kernel
theorem dX1_match_146 : decode cX1_match 146 = .ok (.getfield 28, 3) := by decide +kernel
theorem dX1_match_149 : decode cX1_match 149 = .ok (.iload 6, 2) := by decide +kernel
theorem dX1_match_151 : decode cX1_match 151 = .ok (.iload 10, 2) := by decide +kernel
theorem dX1_match_153 : decode cX1_match 153 = .ok (.invokestatic 56, 3) := by decide +kernel
theorem dX1_match_156 : decode cX1_match 156 = .ok (.iinc 6 1, 3) := by decide +kernel
theorem dX1_match_159 : decode cX1_match 159 = .ok (.goto 24, 3) := by decide +kernel
theorem dX1_match_162 : decode cX1_match 162 = .ok (.iload 9, 2) := by decide +kernel
theorem dX1_match_164 : decode cX1_match 164 = .ok (.bipush 126, 2) := by decide +kernel
theorem dX1_match_166 : decode cX1_match 166 = .ok (.if_icmp .ne 17, 3) := by decide +kernel
theorem dX1_match_169 : decode cX1_match 169 = .ok (.iload 10, 2) := by decide +kernel
theorem dX1_match_171 : decode cX1_match 171 = .ok (.bipush 45, 2) := by decide +kernel
theorem dX1_match_173 : decode cX1_match 173 = .ok (.if_icmp .ne 7, 3) := by decide +kernel
theorem dX1_match_176 : decode cX1_match 176 = .ok (.iconst (-1), 1) := by decide +kernel
theorem dX1_match_177 : decode cX1_match 177 = .ok (.goto 4, 3) := by decide +kernel
theorem dX1_match_180 : decode cX1_match 180 = .ok (.iconst 1, 1) := by decide +kernel
theorem dX1_match_181 : decode cX1_match 181 = .ok (.istore 7, 2) := by decide +kernel
theorem dX1_match_183 : decode cX1_match 183 = .ok (.iinc 8 1, 3) := by decide +kernel
theorem dX1_match_186 : decode cX1_match 186 = .ok (.goto (-173), 3) := by decide +kernel
theorem dX1_match_189 : decode cX1_match 189 = .ok (.iload 5, 2) := by decide +kernel
theorem dX1_match_191 : decode cX1_match 191 = .ok (.ireturn, 1) := by decide +kernel
theorem dX1_isFit_0 : decode cX1_isFit 0 = .ok (.iload_n 0, 1) := by decide +kernel
theorem dX1_isFit_1 : decode cX1_isFit 1 = .ok (.lookupswitch 80 #[(35, 43), (37, 43), (64, 48), (126, 62)], 43) := by decide +kernel
theorem dX1_isFit_44 : decode cX1_isFit 44 = .ok (.iload_n 1, 1) := by decide +kernel
theorem dX1_isFit_45 : decode cX1_isFit 45 = .ok (.invokestatic 94, 3) := by decide +kernel
theorem dX1_isFit_48 : decode cX1_isFit 48 = .ok (.ireturn, 1) := by decide +kernel
theorem dX1_isFit_49 : decode cX1_isFit 49 = .ok (.iload_n 1, 1) := by decide +kernel
theorem dX1_isFit_50 : decode cX1_isFit 50 = .ok (.invokestatic 98, 3) := by decide +kernel
theorem dX1_isFit_53 : decode cX1_isFit 53 = .ok (.iconst (-1), 1) := by decide +kernel
theorem dX1_isFit_54 : decode cX1_isFit 54 = .ok (.if_icmp .eq 7, 3) := by decide +kernel
theorem dX1_isFit_57 : decode cX1_isFit 57 = .ok (.iconst 1, 1) := by decide +kernel
theorem dX1_isFit_58 : decode cX1_isFit 58 = .ok (.goto 4, 3) := by decide +kernel
theorem dX1_isFit_61 : decode cX1_isFit 61 = .ok (.iconst 0, 1) := by decide +kernel
theorem dX1_isFit_62 : decode cX1_isFit 62 = .ok (.ireturn, 1) := by decide +kernel
theorem dX1_isFit_63 : decode cX1_isFit 63 = .ok (.iload_n 1, 1) := by decide +kernel
theorem dX1_isFit_64 : decode cX1_isFit 64 = .ok (.bipush 43, 2) := by decide +kernel
theorem dX1_isFit_66 : decode cX1_isFit 66 = .ok (.if_icmp .eq 9, 3) := by decide +kernel
theorem dX1_isFit_69 : decode cX1_isFit 69 = .ok (.iload_n 1, 1) := by decide +kernel
theorem dX1_isFit_70 : decode cX1_isFit 70 = .ok (.bipush 45, 2) := by decide +kernel
theorem dX1_isFit_72 : decode cX1_isFit 72 = .ok (.if_icmp .ne 7, 3) := by decide +kernel
theorem dX1_isFit_75 : decode cX1_isFit 75 = .ok (.iconst 1, 1) := by decide +kernel
theorem dX1_isFit_76 : decode cX1_isFit 76 = .ok (.goto 4, 3) := by decide +kernel
theorem dX1_isFit_79 : decode cX1_isFit 79 = .ok (.iconst 0, 1) := by decide +kernel
theorem dX1_isFit_80 : decode cX1_isFit 80 = .ok (.ireturn, 1) := by decide +kernel
theorem dX1_isFit_81 : decode cX1_isFit 81 = .ok (.iload_n 1, 1) := by decide +kernel
theorem dX1_isFit_82 : decode cX1_isFit 82 = .ok (.iload_n 0, 1) := by decide +kernel
theorem dX1_isFit_83 : decode cX1_isFit 83 = .ok (.if_icmp .ne 7, 3) := by decide +kernel
theorem dX1_isFit_86 : decode cX1_isFit 86 = .ok (.iconst 1, 1) := by decide +kernel
theorem dX1_isFit_87 : decode cX1_isFit 87 = .ok (.goto 4, 3) := by decide +kernel
theorem dX1_isFit_90 : decode cX1_isFit 90 = .ok (.iconst 0, 1) := by decide +kernel
theorem dX1_isFit_91 : decode cX1_isFit 91 = .ok (.ireturn, 1) := by decide +kernel
theorem dX1_isDigit_0 : decode cX1_isDigit 0 = .ok (.iload_n 0, 1) := by decide +kernel
theorem dX1_isDigit_1 : decode cX1_isDigit 1 = .ok (.bipush 48, 2) := by decide +kernel
theorem dX1_isDigit_3 : decode cX1_isDigit 3 = .ok (.bipush 57, 2) := by decide +kernel
theorem dX1_isDigit_5 : decode cX1_isDigit 5 = .ok (.invokestatic 102, 3) := by decide +kernel
theorem dX1_isDigit_8 : decode cX1_isDigit 8 = .ok (.ireturn, 1) := by decide +kernel
theorem dX1_characterAt_0 : decode cX1_characterAt 0 = .ok (.iload_n 2, 1) := by decide +kernel
theorem dX1_characterAt_1 : decode cX1_characterAt 1 = .ok (.ifCond .lt 20, 3) := by decide +kernel
theorem dX1_characterAt_4 : decode cX1_characterAt 4 = .ok (.iload_n 2, 1) := by decide +kernel
theorem dX1_characterAt_5 : decode cX1_characterAt 5 = .ok (.iload_n 1, 1) := by decide +kernel
theorem dX1_characterAt_6 : decode cX1_characterAt 6 = .ok (.if_icmp .ge 15, 3) := by decide +kernel
theorem dX1_characterAt_9 : decode cX1_characterAt 9 = .ok (.iload_n 2, 1) := by decide +kernel
theorem dX1_characterAt_10 : decode cX1_characterAt 10 = .ok (.aload_n 0, 1) := by decide +kernel
theorem dX1_characterAt_11 : decode cX1_characterAt 11 = .ok (.arraylength, 1) := by decide +kernel
theorem dX1_characterAt_12 : decode cX1_characterAt 12 = .ok (.if_icmp .ge 9, 3) := by decide +kernel
theorem dX1_characterAt_15 : decode cX1_characterAt 15 = .ok (.aload_n 0, 1) := by decide +kernel
theorem dX1_characterAt_16 : decode cX1_characterAt 16 = .ok (.iload_n 2, 1) := by decide +kernel
theorem dX1_characterAt_17 : decode cX1_characterAt 17 = .ok (.caload, 1) := by decide +kernel
theorem dX1_characterAt_18 : decode cX1_characterAt 18 = .ok (.goto 4, 3) := by decide +kernel
theorem dX1_characterAt_21 : decode cX1_characterAt 21 = .ok (.iconst (-1), 1) := by decide +kernel
theorem dX1_characterAt_22 : decode cX1_characterAt 22 = .ok (.ireturn, 1) := by decide +kernel
theorem dX2_init_0 : decode cX2_init 0 = .ok (.aload_n 0, 1) := by decide +kernel
theorem dX2_init_1 : decode cX2_init 1 = .ok (.invokespecial 3, 3) := by decide +kernel
theorem dX2_init_4 : decode cX2_init 4 = .ok (.aload_n 0, 1) := by decide +kernel
theorem dX2_init_5 : decode cX2_init 5 = .ok (.iconst 0, 1) := by decide +kernel
theorem dX2_init_6 : decode cX2_init 6 = .ok (.putfield 9, 3) := by decide +kernel
theorem dX2_init_9 : decode cX2_init 9 = .ok (.aload_n 0, 1) := by decide +kernel
theorem dX2_init_10 : decode cX2_init 10 = .ok (.iconst 5, 1) := by decide +kernel
theorem dX2_init_11 : decode cX2_init 11 = .ok (.newarray .int, 2) := by decide +kernel
theorem dX2_init_13 : decode cX2_init 13 = .ok (.putfield 15, 3) := by decide +kernel
theorem dX2_init_16 : decode cX2_init 16 = .ok (.aload_n 0, 1) := by decide +kernel
theorem dX2_init_17 : decode cX2_init 17 = .ok (.iconst 5, 1) := by decide +kernel
theorem dX2_init_18 : decode cX2_init 18 = .ok (.anewarray 19, 3) := by decide +kernel
theorem dX2_init_21 : decode cX2_init 21 = .ok (.putfield 21, 3) := by decide +kernel
theorem dX2_init_24 : decode cX2_init 24 = .ok (.aload_n 0, 1) := by decide +kernel
theorem dX2_init_25 : decode cX2_init 25 = .ok (.new 19, 3) := by decide +kernel
theorem dX2_init_28 : decode cX2_init 28 = .ok (.dup, 1) := by decide +kernel
theorem dX2_init_29 : decode cX2_init 29 = .ok (.invokespecial 25, 3) := by decide +kernel
theorem dX2_init_32 : decode cX2_init 32 = .ok (.putfield 26, 3) := by decide +kernel
theorem dX2_init_35 : decode cX2_init 35 = .ok (.aload_n 0, 1) := by decide +kernel
theorem dX2_init_36 : decode cX2_init 36 = .ok (.new 30, 3) := by decide +kernel
theorem dX2_init_39 : decode cX2_init 39 = .ok (.dup, 1) := by decide +kernel
theorem dX2_init_40 : decode cX2_init 40 = .ok (.invokespecial 32, 3) := by decide +kernel
theorem dX2_init_43 : decode cX2_init 43 = .ok (.putfield 33, 3) := by decide +kernel
theorem dX2_init_46 : decode cX2_init 46 = .ok (.aload_n 0, 1) := by decide +kernel
theorem dX2_init_47 : decode cX2_init 47 = .ok (.iconst 0, 1) := by decide +kernel
theorem dX2_init_48 : decode cX2_init 48 = .ok (.putfield 37, 3) := by decide +kernel
theorem dX2_init_51 : decode cX2_init 51 = .ok (.aload_n 0, 1) := by decide +kernel
theorem dX2_init_52 : decode cX2_init 52 = .ok (.iconst 0, 1) := by decide +kernel
theorem dX2_init_53 : decode cX2_init 53 = .ok (.putfield 40, 3) := by decide +kernel
theorem dX2_init_56 : decode cX2_init 56 = .ok (.iconst 0, 1) := by decide +kernel
theorem dX2_init_57 : decode cX2_init 57 = .ok (.istore_n 1, 1) := by decide +kernel
theorem dX2_init_58 : decode cX2_init 58 = .ok (.iload_n 1, 1) := by decide +kernel
theorem dX2_init_59 : decode cX2_init 59 = .ok (.aload_n 0, 1) := by decide +kernel
theorem dX2_init_60 : decode cX2_init 60 = .ok (.getfield 21, 3) := by decide +kernel
theorem dX2_init_63 : decode cX2_init 63 = .ok (.arraylength, 1) := by decide +kernel
theorem dX2_init_64 : decode cX2_init 64 = .ok (.if_icmp .ge 22, 3) := by decide +kernel
theorem dX2_init_67 : decode cX2_init 67 = .ok (.aload_n 0, 1) := by decide +kernel
theorem dX2_init_68 : decode cX2_init 68 = .ok (.getfield 21, 3) := by decide +kernel
theorem dX2_init_71 : decode cX2_init 71 = .ok (.iload_n 1, 1) := by decide +kernel
theorem dX2_init_72 : decode cX2_init 72 = .ok (.new 19, 3) := by decide +kernel
theorem dX2_init_75 : decode cX2_init 75 = .ok (.dup, 1) := by decide +kernel
theorem dX2_init_76 : decode cX2_init 76 = .ok (.invokespecial 25, 3) := by decide +kernel
theorem dX2_init_79 : decode cX2_init 79 = .ok (.aastore, 1) := by decide +kernel
theorem dX2_init_80 : decode cX2_init 80 = .ok (.iinc 1 1, 3) := by decide +kernel
theorem dX2_init_83 : decode cX2_init 83 = .ok (.goto (-25), 3) := by decide +kernel
theorem dX2_init_86 : decode cX2_init 86 = .ok (.return_, 1) := by decide +kernel
theorem dX2_copyFrom_0 : decode cX2_copyFrom 0 = .ok (.aload_n 0, 1) := by decide +kernel
theorem dX2_copyFrom_1 : decode cX2_copyFrom 1 = .ok (.aload_n 1, 1) := by decide +kernel
theorem dX2_copyFrom_2 : decode cX2_copyFrom 2 = .ok (.getfield 9, 3) := by decide +kernel
theorem dX2_copyFrom_5 : decode cX2_copyFrom 5 = .ok (.putfield 9, 3) := by decide +kernel
theorem dX2_copyFrom_8 : decode cX2_copyFrom 8 = .ok (.aload_n 1, 1) := by decide +kernel
theorem dX2_copyFrom_9 : decode cX2_copyFrom 9 = .ok (.getfield 15, 3) := by decide +kernel
theorem dX2_copyFrom_12 : decode cX2_copyFrom 12 = .ok (.aload_n 0, 1) := by decide +kernel
theorem dX2_copyFrom_13 : decode cX2_copyFrom 13 = .ok (.getfield 15, 3) := by decide +kernel
theorem dX2_copyFrom_16 : decode cX2_copyFrom 16 = .ok (.invokestatic 43, 3) := by decide +kernel
theorem dX2_copyFrom_19 : decode cX2_copyFrom 19 = .ok (.iconst 0, 1) := by decide +kernel
theorem dX2_copyFrom_20 : decode cX2_copyFrom 20 = .ok (.istore_n 2, 1) := by decide +kernel
theorem dX2_copyFrom_21 : decode cX2_copyFrom 21 = .ok (.iload_n 2, 1) := by decide +kernel
theorem dX2_copyFrom_22 : decode cX2_copyFrom 22 = .ok (.iconst 5, 1) := by decide +kernel
theorem dX2_copyFrom_23 : decode cX2_copyFrom 23 = .ok (.if_icmp .ge 22, 3) := by decide +kernel
theorem dX2_copyFrom_26 : decode cX2_copyFrom 26 = .ok (.aload_n 0, 1) := by decide +kernel
theorem dX2_copyFrom_27 : decode cX2_copyFrom 27 = .ok (.iload_n 2, 1) := by decide +kernel
theorem dX2_copyFrom_28 : decode cX2_copyFrom 28 = .ok (.invokevirtual 47, 3) := by decide +kernel
theorem dX2_copyFrom_31 : decode cX2_copyFrom 31 = .ok (.aload_n 1, 1) := by decide +kernel
theorem dX2_copyFrom_32 : decode cX2_copyFrom 32 = .ok (.iload_n 2, 1) := by decide +kernel
theorem dX2_copyFrom_33 : decode cX2_copyFrom 33 = .ok (.invokevirtual 47, 3) := by decide +kernel
theorem dX2_copyFrom_36 : decode cX2_copyFrom 36 = .ok (.invokevirtual 51, 3) := by decide +kernel
theorem dX2_copyFrom_39 : decode cX2_copyFrom 39 = .ok (.iinc 2 1, 3) := by decide +kernel
theorem dX2_copyFrom_42 : decode cX2_copyFrom 42 = .ok (.goto (-21), 3) := by decide +kernel
theorem dX2_copyFrom_45 : decode cX2_copyFrom 45 = .ok (.aload_n 0, 1) := by decide +kernel
theorem dX2_copyFrom_46 : decode cX2_copyFrom 46 = .ok (.getfield 33, 3) := by decide +kernel
theorem dX2_copyFrom_49 : decode cX2_copyFrom 49 = .ok (.aload_n 1, 1) := by decide +kernel
theorem dX2_copyFrom_50 : decode cX2_copyFrom 50 = .ok (.getfield 33, 3) := by decide +kernel
theorem dX2_copyFrom_53 : decode cX2_copyFrom 53 = .ok (.invokevirtual 55, 3) := by decide +kernel
theorem dX2_copyFrom_56 : decode cX2_copyFrom 56 = .ok (.aload_n 0, 1) := by decide +kernel
theorem dX2_copyFrom_57 : decode cX2_copyFrom 57 = .ok (.aload_n 1, 1) := by decide +kernel
theorem dX2_copyFrom_58 : decode cX2_copyFrom 58 = .ok (.getfield 37, 3) := by decide +kernel
theorem dX2_copyFrom_61 : decode cX2_copyFrom 61 = .ok (.putfield 37, 3) := by decide +kernel
theorem dX2_copyFrom_64 : decode cX2_copyFrom 64 = .ok (.aload_n 0, 1) := by decide +kernel
theorem dX2_copyFrom_65 : decode cX2_copyFrom 65 = .ok (.aload_n 1, 1) := by decide +kernel
theorem dX2_copyFrom_66 : decode cX2_copyFrom 66 = .ok (.getfield 40, 3) := by decide +kernel
theorem dX2_copyFrom_69 : decode cX2_copyFrom 69 = .ok (.putfield 40, 3) := by decide +kernel
theorem dX2_copyFrom_72 : decode cX2_copyFrom 72 = .ok (.return_, 1) := by decide +kernel
theorem dX2_hasSleeper_0 : decode cX2_hasSleeper 0 = .ok (.iload_n 1, 1) := by decide +kernel
theorem dX2_hasSleeper_1 : decode cX2_hasSleeper 1 = .ok (.ifCond .lt 15, 3) := by decide +kernel
theorem dX2_hasSleeper_4 : decode cX2_hasSleeper 4 = .ok (.iload_n 1, 1) := by decide +kernel
theorem dX2_hasSleeper_5 : decode cX2_hasSleeper 5 = .ok (.aload_n 0, 1) := by decide +kernel
theorem dX2_hasSleeper_6 : decode cX2_hasSleeper 6 = .ok (.getfield 9, 3) := by decide +kernel
theorem dX2_hasSleeper_9 : decode cX2_hasSleeper 9 = .ok (.if_icmp .ge 7, 3) := by decide +kernel
theorem dX2_hasSleeper_12 : decode cX2_hasSleeper 12 = .ok (.iconst 1, 1) := by decide +kernel
theorem dX2_hasSleeper_13 : decode cX2_hasSleeper 13 = .ok (.goto 4, 3) := by decide +kernel
theorem dX2_hasSleeper_16 : decode cX2_hasSleeper 16 = .ok (.iconst 0, 1) := by decide +kernel
theorem dX2_hasSleeper_17 : decode cX2_hasSleeper 17 = .ok (.ireturn, 1) := by decide +kernel
theorem dX2_depthOf_0 : decode cX2_depthOf 0 = .ok (.aload_n 0, 1) := by decide +kernel
theorem dX2_depthOf_1 : decode cX2_depthOf 1 = .ok (.getfield 15, 3) := by decide +kernel
theorem dX2_depthOf_4 : decode cX2_depthOf 4 = .ok (.iload_n 1, 1) := by decide +kernel
theorem dX2_depthOf_5 : decode cX2_depthOf 5 = .ok (.invokestatic 58, 3) := by decide +kernel
theorem dX2_depthOf_8 : decode cX2_depthOf 8 = .ok (.ireturn, 1) := by decide +kernel
theorem dX2_plotOf_0 : decode cX2_plotOf 0 = .ok (.iload_n 1, 1) := by decide +kernel
theorem dX2_plotOf_1 : decode cX2_plotOf 1 = .ok (.ifCond .lt 21, 3) := by decide +kernel
theorem dX2_plotOf_4 : decode cX2_plotOf 4 = .ok (.iload_n 1, 1) := by decide +kernel
theorem dX2_plotOf_5 : decode cX2_plotOf 5 = .ok (.aload_n 0, 1) := by decide +kernel
theorem dX2_plotOf_6 : decode cX2_plotOf 6 = .ok (.getfield 21, 3) := by decide +kernel
theorem dX2_plotOf_9 : decode cX2_plotOf 9 = .ok (.arraylength, 1) := by decide +kernel
theorem dX2_plotOf_10 : decode cX2_plotOf 10 = .ok (.if_icmp .ge 12, 3) := by decide +kernel
theorem dX2_plotOf_13 : decode cX2_plotOf 13 = .ok (.aload_n 0, 1) := by decide +kernel
theorem dX2_plotOf_14 : decode cX2_plotOf 14 = .ok (.getfield 21, 3) := by decide +kernel
theorem dX2_plotOf_17 : decode cX2_plotOf 17 = .ok (.iload_n 1, 1) := by decide +kernel
theorem dX2_plotOf_18 : decode cX2_plotOf 18 = .ok (.aaload, 1) := by decide +kernel
theorem dX2_plotOf_19 : decode cX2_plotOf 19 = .ok (.goto 7, 3) := by decide +kernel
theorem dX2_plotOf_22 : decode cX2_plotOf 22 = .ok (.aload_n 0, 1) := by decide +kernel
theorem dX2_plotOf_23 : decode cX2_plotOf 23 = .ok (.getfield 26, 3) := by decide +kernel
theorem dX2_plotOf_26 : decode cX2_plotOf 26 = .ok (.astore_n 2, 1) := by decide +kernel
theorem dX2_plotOf_27 : decode cX2_plotOf 27 = .ok (.aload_n 2, 1) := by decide +kernel
theorem dX2_plotOf_28 : decode cX2_plotOf 28 = .ok (.ifnull 7, 3) := by decide +kernel
theorem dX2_plotOf_31 : decode cX2_plotOf 31 = .ok (.aload_n 2, 1) := by decide +kernel
theorem dX2_plotOf_32 : decode cX2_plotOf 32 = .ok (.goto 7, 3) := by decide +kernel
theorem dX2_plotOf_35 : decode cX2_plotOf 35 = .ok (.aload_n 0, 1) := by decide +kernel
theorem dX2_plotOf_36 : decode cX2_plotOf 36 = .ok (.getfield 26, 3) := by decide +kernel
theorem dX2_plotOf_39 : decode cX2_plotOf 39 = .ok (.areturn, 1) := by decide +kernel
theorem dX2_deepestAt_0 : decode cX2_deepestAt 0 = .ok (.iconst (-1), 1) := by decide +kernel
theorem dX2_deepestAt_1 : decode cX2_deepestAt 1 = .ok (.istore 4, 2) := by decide +kernel
theorem dX2_deepestAt_3 : decode cX2_deepestAt 3 = .ok (.iconst 0, 1) := by decide +kernel
theorem dX2_deepestAt_4 : decode cX2_deepestAt 4 = .ok (.istore 5, 2) := by decide +kernel
theorem dX2_deepestAt_6 : decode cX2_deepestAt 6 = .ok (.iconst 0, 1) := by decide +kernel
theorem dX2_deepestAt_7 : decode cX2_deepestAt 7 = .ok (.istore 6, 2) := by decide +kernel
theorem dX2_deepestAt_9 : decode cX2_deepestAt 9 = .ok (.iload 6, 2) := by decide +kernel
theorem dX2_deepestAt_11 : decode cX2_deepestAt 11 = .ok (.aload_n 0, 1) := by decide +kernel
theorem dX2_deepestAt_12 : decode cX2_deepestAt 12 = .ok (.getfield 9, 3) := by decide +kernel
theorem dX2_deepestAt_15 : decode cX2_deepestAt 15 = .ok (.if_icmp .ge 48, 3) := by decide +kernel
theorem dX2_deepestAt_18 : decode cX2_deepestAt 18 = .ok (.aload_n 0, 1) := by decide +kernel
theorem dX2_deepestAt_19 : decode cX2_deepestAt 19 = .ok (.iload 6, 2) := by decide +kernel
theorem dX2_deepestAt_21 : decode cX2_deepestAt 21 = .ok (.invokevirtual 62, 3) := by decide +kernel
theorem dX2_deepestAt_24 : decode cX2_deepestAt 24 = .ok (.iload_n 3, 1) := by decide +kernel
theorem dX2_deepestAt_25 : decode cX2_deepestAt 25 = .ok (.isub, 1) := by decide +kernel
theorem dX2_deepestAt_26 : decode cX2_deepestAt 26 = .ok (.istore 7, 2) := by decide +kernel
theorem dX2_deepestAt_28 : decode cX2_deepestAt 28 = .ok (.iload 7, 2) := by decide +kernel
theorem dX2_deepestAt_30 : decode cX2_deepestAt 30 = .ok (.iload 5, 2) := by decide +kernel
theorem dX2_deepestAt_32 : decode cX2_deepestAt 32 = .ok (.if_icmp .le 25, 3) := by decide +kernel
theorem dX2_deepestAt_35 : decode cX2_deepestAt 35 = .ok (.aload_n 0, 1) := by decide +kernel
theorem dX2_deepestAt_36 : decode cX2_deepestAt 36 = .ok (.iload 6, 2) := by decide +kernel
theorem dX2_deepestAt_38 : decode cX2_deepestAt 38 = .ok (.invokevirtual 47, 3) := by decide +kernel
theorem dX2_deepestAt_41 : decode cX2_deepestAt 41 = .ok (.iload_n 1, 1) := by decide +kernel
theorem dX2_deepestAt_42 : decode cX2_deepestAt 42 = .ok (.iload_n 2, 1) := by decide +kernel
theorem dX2_deepestAt_43 : decode cX2_deepestAt 43 = .ok (.invokevirtual 66, 3) := by decide +kernel
theorem dX2_deepestAt_46 : decode cX2_deepestAt 46 = .ok (.ifCond .eq 11, 3) := by decide +kernel
theorem dX2_deepestAt_49 : decode cX2_deepestAt 49 = .ok (.iload 6, 2) := by decide +kernel
theorem dX2_deepestAt_51 : decode cX2_deepestAt 51 = .ok (.istore 4, 2) := by decide +kernel
theorem dX2_deepestAt_53 : decode cX2_deepestAt 53 = .ok (.iload 7, 2) := by decide +kernel
theorem dX2_deepestAt_55 : decode cX2_deepestAt 55 = .ok (.istore 5, 2) := by decide +kernel
theorem dX2_deepestAt_57 : decode cX2_deepestAt 57 = .ok (.iinc 6 1, 3) := by decide +kernel
theorem dX2_deepestAt_60 : decode cX2_deepestAt 60 = .ok (.goto (-51), 3) := by decide +kernel
theorem dX2_deepestAt_63 : decode cX2_deepestAt 63 = .ok (.iload 4, 2) := by decide +kernel
theorem dX2_deepestAt_65 : decode cX2_deepestAt 65 = .ok (.ireturn, 1) := by decide +kernel
theorem dX2_countAwake_0 : decode cX2_countAwake 0 = .ok (.iconst 0, 1) := by decide +kernel
theorem dX2_countAwake_1 : decode cX2_countAwake 1 = .ok (.istore_n 1, 1) := by decide +kernel
theorem dX2_countAwake_2 : decode cX2_countAwake 2 = .ok (.iconst 0, 1) := by decide +kernel
theorem dX2_countAwake_3 : decode cX2_countAwake 3 = .ok (.istore_n 2, 1) := by decide +kernel
theorem dX2_countAwake_4 : decode cX2_countAwake 4 = .ok (.iload_n 2, 1) := by decide +kernel
theorem dX2_countAwake_5 : decode cX2_countAwake 5 = .ok (.aload_n 0, 1) := by decide +kernel
theorem dX2_countAwake_6 : decode cX2_countAwake 6 = .ok (.getfield 9, 3) := by decide +kernel
theorem dX2_countAwake_9 : decode cX2_countAwake 9 = .ok (.if_icmp .ge 20, 3) := by decide +kernel
theorem dX2_countAwake_12 : decode cX2_countAwake 12 = .ok (.aload_n 0, 1) := by decide +kernel
theorem dX2_countAwake_13 : decode cX2_countAwake 13 = .ok (.iload_n 2, 1) := by decide +kernel
theorem dX2_countAwake_14 : decode cX2_countAwake 14 = .ok (.invokevirtual 62, 3) := by decide +kernel
theorem dX2_countAwake_17 : decode cX2_countAwake 17 = .ok (.ifCond .ne 6, 3) := by decide +kernel
theorem dX2_countAwake_20 : decode cX2_countAwake 20 = .ok (.iinc 1 1, 3) := by decide +kernel
theorem dX2_countAwake_23 : decode cX2_countAwake 23 = .ok (.iinc 2 1, 3) := by decide +kernel
theorem dX2_countAwake_26 : decode cX2_countAwake 26 = .ok (.goto (-22), 3) := by decide +kernel
theorem dX2_countAwake_29 : decode cX2_countAwake 29 = .ok (.iload_n 1, 1) := by decide +kernel
theorem dX2_countAwake_30 : decode cX2_countAwake 30 = .ok (.ireturn, 1) := by decide +kernel
theorem dX2_sumOfDepths_0 : decode cX2_sumOfDepths 0 = .ok (.iconst 0, 1) := by decide +kernel
theorem dX2_sumOfDepths_1 : decode cX2_sumOfDepths 1 = .ok (.istore_n 1, 1) := by decide +kernel
theorem dX2_sumOfDepths_2 : decode cX2_sumOfDepths 2 = .ok (.iconst 0, 1) := by decide +kernel
theorem dX2_sumOfDepths_3 : decode cX2_sumOfDepths 3 = .ok (.istore_n 2, 1) := by decide +kernel
theorem dX2_sumOfDepths_4 : decode cX2_sumOfDepths 4 = .ok (.iload_n 2, 1) := by decide +kernel
theorem dX2_sumOfDepths_5 : decode cX2_sumOfDepths 5 = .ok (.aload_n 0, 1) := by decide +kernel
theorem dX2_sumOfDepths_6 : decode cX2_sumOfDepths 6 = .ok (.getfield 9, 3) := by decide +kernel
theorem dX2_sumOfDepths_9 : decode cX2_sumOfDepths 9 = .ok (.if_icmp .ge 17, 3) := by decide +kernel
theorem dX2_sumOfDepths_12 : decode cX2_sumOfDepths 12 = .ok (.iload_n 1, 1) := by decide +kernel
theorem dX2_sumOfDepths_13 : decode cX2_sumOfDepths 13 = .ok (.aload_n 0, 1) := by decide +kernel
theorem dX2_sumOfDepths_14 : decode cX2_sumOfDepths 14 = .ok (.iload_n 2, 1) := by decide +kernel
theorem dX2_sumOfDepths_15 : decode cX2_sumOfDepths 15 = .ok (.invokevirtual 62, 3) := by decide +kernel
theorem dX2_sumOfDepths_18 : decode cX2_sumOfDepths 18 = .ok (.iadd, 1) := by decide +kernel
theorem dX2_sumOfDepths_19 : decode cX2_sumOfDepths 19 = .ok (.istore_n 1, 1) := by decide +kernel
theorem dX2_sumOfDepths_20 : decode cX2_sumOfDepths 20 = .ok (.iinc 2 1, 3) := by decide +kernel
theorem dX2_sumOfDepths_23 : decode cX2_sumOfDepths 23 = .ok (.goto (-19), 3) := by decide +kernel
theorem dX2_sumOfDepths_26 : decode cX2_sumOfDepths 26 = .ok (.iload_n 1, 1) := by decide +kernel
theorem dX2_sumOfDepths_27 : decode cX2_sumOfDepths 27 = .ok (.ireturn, 1) := by decide +kernel
theorem dX2_countPlots_0 : decode cX2_countPlots 0 = .ok (.iconst 0, 1) := by decide +kernel
theorem dX2_countPlots_1 : decode cX2_countPlots 1 = .ok (.istore_n 1, 1) := by decide +kernel
theorem dX2_countPlots_2 : decode cX2_countPlots 2 = .ok (.iconst 0, 1) := by decide +kernel
theorem dX2_countPlots_3 : decode cX2_countPlots 3 = .ok (.istore_n 2, 1) := by decide +kernel
theorem dX2_countPlots_4 : decode cX2_countPlots 4 = .ok (.iload_n 2, 1) := by decide +kernel
theorem dX2_countPlots_5 : decode cX2_countPlots 5 = .ok (.aload_n 0, 1) := by decide +kernel
theorem dX2_countPlots_6 : decode cX2_countPlots 6 = .ok (.getfield 9, 3) := by decide +kernel
theorem dX2_countPlots_9 : decode cX2_countPlots 9 = .ok (.if_icmp .ge 23, 3) := by decide +kernel
theorem dX2_countPlots_12 : decode cX2_countPlots 12 = .ok (.aload_n 0, 1) := by decide +kernel
theorem dX2_countPlots_13 : decode cX2_countPlots 13 = .ok (.iload_n 2, 1) := by decide +kernel
theorem dX2_countPlots_14 : decode cX2_countPlots 14 = .ok (.invokevirtual 47, 3) := by decide +kernel
theorem dX2_countPlots_17 : decode cX2_countPlots 17 = .ok (.getfield 70, 3) := by decide +kernel
theorem dX2_countPlots_20 : decode cX2_countPlots 20 = .ok (.ifCond .eq 6, 3) := by decide +kernel
theorem dX2_countPlots_23 : decode cX2_countPlots 23 = .ok (.iinc 1 1, 3) := by decide +kernel
theorem dX2_countPlots_26 : decode cX2_countPlots 26 = .ok (.iinc 2 1, 3) := by decide +kernel
theorem dX2_countPlots_29 : decode cX2_countPlots 29 = .ok (.goto (-25), 3) := by decide +kernel
theorem dX2_countPlots_32 : decode cX2_countPlots 32 = .ok (.iload_n 1, 1) := by decide +kernel
theorem dX2_countPlots_33 : decode cX2_countPlots 33 = .ok (.ireturn, 1) := by decide +kernel
theorem dX2_countClosed_0 : decode cX2_countClosed 0 = .ok (.iconst 0, 1) := by decide +kernel
theorem dX2_countClosed_1 : decode cX2_countClosed 1 = .ok (.istore_n 1, 1) := by decide +kernel
theorem dX2_countClosed_2 : decode cX2_countClosed 2 = .ok (.iconst 0, 1) := by decide +kernel
theorem dX2_countClosed_3 : decode cX2_countClosed 3 = .ok (.istore_n 2, 1) := by decide +kernel
theorem dX2_countClosed_4 : decode cX2_countClosed 4 = .ok (.iload_n 2, 1) := by decide +kernel
theorem dX2_countClosed_5 : decode cX2_countClosed 5 = .ok (.aload_n 0, 1) := by decide +kernel
theorem dX2_countClosed_6 : decode cX2_countClosed 6 = .ok (.getfield 9, 3) := by decide +kernel
theorem dX2_countClosed_9 : decode cX2_countClosed 9 = .ok (.if_icmp .ge 23, 3) := by decide +kernel
theorem dX2_countClosed_12 : decode cX2_countClosed 12 = .ok (.aload_n 0, 1) := by decide +kernel
theorem dX2_countClosed_13 : decode cX2_countClosed 13 = .ok (.iload_n 2, 1) := by decide +kernel
theorem dX2_countClosed_14 : decode cX2_countClosed 14 = .ok (.invokevirtual 47, 3) := by decide +kernel
theorem dX2_countClosed_17 : decode cX2_countClosed 17 = .ok (.getfield 74, 3) := by decide +kernel
theorem dX2_countClosed_20 : decode cX2_countClosed 20 = .ok (.ifCond .eq 6, 3) := by decide +kernel
theorem dX2_countClosed_23 : decode cX2_countClosed 23 = .ok (.iinc 1 1, 3) := by decide +kernel
theorem dX2_countClosed_26 : decode cX2_countClosed 26 = .ok (.iinc 2 1, 3) := by decide +kernel
theorem dX2_countClosed_29 : decode cX2_countClosed 29 = .ok (.goto (-25), 3) := by decide +kernel
theorem dX2_countClosed_32 : decode cX2_countClosed 32 = .ok (.iload_n 1, 1) := by decide +kernel
theorem dX2_countClosed_33 : decode cX2_countClosed 33 = .ok (.ireturn, 1) := by decide +kernel
theorem dX2_countChains_0 : decode cX2_countChains 0 = .ok (.iconst 0, 1) := by decide +kernel
theorem dX2_countChains_1 : decode cX2_countChains 1 = .ok (.istore_n 1, 1) := by decide +kernel
theorem dX2_countChains_2 : decode cX2_countChains 2 = .ok (.iconst 0, 1) := by decide +kernel
theorem dX2_countChains_3 : decode cX2_countChains 3 = .ok (.istore_n 2, 1) := by decide +kernel
theorem dX2_countChains_4 : decode cX2_countChains 4 = .ok (.iload_n 2, 1) := by decide +kernel
theorem dX2_countChains_5 : decode cX2_countChains 5 = .ok (.aload_n 0, 1) := by decide +kernel
theorem dX2_countChains_6 : decode cX2_countChains 6 = .ok (.getfield 9, 3) := by decide +kernel
theorem dX2_countChains_9 : decode cX2_countChains 9 = .ok (.if_icmp .ge 20, 3) := by decide +kernel
theorem dX2_countChains_12 : decode cX2_countChains 12 = .ok (.iload_n 1, 1) := by decide +kernel
theorem dX2_countChains_13 : decode cX2_countChains 13 = .ok (.aload_n 0, 1) := by decide +kernel
theorem dX2_countChains_14 : decode cX2_countChains 14 = .ok (.iload_n 2, 1) := by decide +kernel
theorem dX2_countChains_15 : decode cX2_countChains 15 = .ok (.invokevirtual 47, 3) := by decide +kernel
theorem dX2_countChains_18 : decode cX2_countChains 18 = .ok (.getfield 77, 3) := by decide +kernel
theorem dX2_countChains_21 : decode cX2_countChains 21 = .ok (.iadd, 1) := by decide +kernel
theorem dX2_countChains_22 : decode cX2_countChains 22 = .ok (.istore_n 1, 1) := by decide +kernel
theorem dX2_countChains_23 : decode cX2_countChains 23 = .ok (.iinc 2 1, 3) := by decide +kernel
theorem dX2_countChains_26 : decode cX2_countChains 26 = .ok (.goto (-22), 3) := by decide +kernel
theorem dX2_countChains_29 : decode cX2_countChains 29 = .ok (.iload_n 1, 1) := by decide +kernel
theorem dX2_countChains_30 : decode cX2_countChains 30 = .ok (.ireturn, 1) := by decide +kernel
theorem dX3_init_0 : decode cX3_init 0 = .ok (.aload_n 0, 1) := by decide +kernel
theorem dX3_init_1 : decode cX3_init 1 = .ok (.invokespecial 3, 3) := by decide +kernel
theorem dX3_init_4 : decode cX3_init 4 = .ok (.aload_n 0, 1) := by decide +kernel
theorem dX3_init_5 : decode cX3_init 5 = .ok (.bipush 8, 2) := by decide +kernel
theorem dX3_init_7 : decode cX3_init 7 = .ok (.anewarray 9, 3) := by decide +kernel
theorem dX3_init_10 : decode cX3_init 10 = .ok (.putfield 11, 3) := by decide +kernel
theorem dX3_init_13 : decode cX3_init 13 = .ok (.aload_n 0, 1) := by decide +kernel
theorem dX3_init_14 : decode cX3_init 14 = .ok (.new 9, 3) := by decide +kernel
theorem dX3_init_17 : decode cX3_init 17 = .ok (.dup, 1) := by decide +kernel
theorem dX3_init_18 : decode cX3_init 18 = .ok (.invokespecial 17, 3) := by decide +kernel
theorem dX3_init_21 : decode cX3_init 21 = .ok (.putfield 18, 3) := by decide +kernel
theorem dX3_init_24 : decode cX3_init 24 = .ok (.aload_n 0, 1) := by decide +kernel
theorem dX3_init_25 : decode cX3_init 25 = .ok (.iconst 0, 1) := by decide +kernel
theorem dX3_init_26 : decode cX3_init 26 = .ok (.putfield 22, 3) := by decide +kernel
theorem dX3_init_29 : decode cX3_init 29 = .ok (.aload_n 0, 1) := by decide +kernel
theorem dX3_init_30 : decode cX3_init 30 = .ok (.iconst 0, 1) := by decide +kernel
theorem dX3_init_31 : decode cX3_init 31 = .ok (.putfield 26, 3) := by decide +kernel
theorem dX3_init_34 : decode cX3_init 34 = .ok (.iconst 0, 1) := by decide +kernel
theorem dX3_init_35 : decode cX3_init 35 = .ok (.istore_n 1, 1) := by decide +kernel
theorem dX3_init_36 : decode cX3_init 36 = .ok (.iload_n 1, 1) := by decide +kernel
theorem dX3_init_37 : decode cX3_init 37 = .ok (.aload_n 0, 1) := by decide +kernel
theorem dX3_init_38 : decode cX3_init 38 = .ok (.getfield 11, 3) := by decide +kernel
theorem dX3_init_41 : decode cX3_init 41 = .ok (.arraylength, 1) := by decide +kernel
theorem dX3_init_42 : decode cX3_init 42 = .ok (.if_icmp .ge 22, 3) := by decide +kernel
theorem dX3_init_45 : decode cX3_init 45 = .ok (.aload_n 0, 1) := by decide +kernel
theorem dX3_init_46 : decode cX3_init 46 = .ok (.getfield 11, 3) := by decide +kernel
theorem dX3_init_49 : decode cX3_init 49 = .ok (.iload_n 1, 1) := by decide +kernel
theorem dX3_init_50 : decode cX3_init 50 = .ok (.new 9, 3) := by decide +kernel
theorem dX3_init_53 : decode cX3_init 53 = .ok (.dup, 1) := by decide +kernel
theorem dX3_init_54 : decode cX3_init 54 = .ok (.invokespecial 17, 3) := by decide +kernel
theorem dX3_init_57 : decode cX3_init 57 = .ok (.aastore, 1) := by decide +kernel
theorem dX3_init_58 : decode cX3_init 58 = .ok (.iinc 1 1, 3) := by decide +kernel
theorem dX3_init_61 : decode cX3_init 61 = .ok (.goto (-25), 3) := by decide +kernel
theorem dX3_init_64 : decode cX3_init 64 = .ok (.return_, 1) := by decide +kernel
theorem dX3_clear_0 : decode cX3_clear 0 = .ok (.aload_n 0, 1) := by decide +kernel
theorem dX3_clear_1 : decode cX3_clear 1 = .ok (.iconst 0, 1) := by decide +kernel
theorem dX3_clear_2 : decode cX3_clear 2 = .ok (.putfield 26, 3) := by decide +kernel
theorem dX3_clear_5 : decode cX3_clear 5 = .ok (.return_, 1) := by decide +kernel
theorem dX3_note_0 : decode cX3_note 0 = .ok (.aload_n 0, 1) := by decide +kernel
theorem dX3_note_1 : decode cX3_note 1 = .ok (.getfield 18, 3) := by decide +kernel
theorem dX3_note_4 : decode cX3_note 4 = .ok (.aload_n 1, 1) := by decide +kernel
theorem dX3_note_5 : decode cX3_note 5 = .ok (.invokevirtual 29, 3) := by decide +kernel
theorem dX3_note_8 : decode cX3_note 8 = .ok (.return_, 1) := by decide +kernel
theorem dX3_keep_0 : decode cX3_keep 0 = .ok (.aload_n 0, 1) := by decide +kernel
theorem dX3_keep_1 : decode cX3_keep 1 = .ok (.aload_n 0, 1) := by decide +kernel
theorem dX3_keep_2 : decode cX3_keep 2 = .ok (.getfield 22, 3) := by decide +kernel
theorem dX3_keep_5 : decode cX3_keep 5 = .ok (.invokevirtual 33, 3) := by decide +kernel
theorem dX3_keep_8 : decode cX3_keep 8 = .ok (.aload_n 0, 1) := by decide +kernel
theorem dX3_keep_9 : decode cX3_keep 9 = .ok (.getfield 18, 3) := by decide +kernel
theorem dX3_keep_12 : decode cX3_keep 12 = .ok (.invokevirtual 29, 3) := by decide +kernel
theorem dX3_keep_15 : decode cX3_keep 15 = .ok (.aload_n 0, 1) := by decide +kernel
theorem dX3_keep_16 : decode cX3_keep 16 = .ok (.aload_n 0, 1) := by decide +kernel
theorem dX3_keep_17 : decode cX3_keep 17 = .ok (.getfield 22, 3) := by decide +kernel
theorem dX3_keep_20 : decode cX3_keep 20 = .ok (.iconst 1, 1) := by decide +kernel
theorem dX3_keep_21 : decode cX3_keep 21 = .ok (.iadd, 1) := by decide +kernel
theorem dX3_keep_22 : decode cX3_keep 22 = .ok (.bipush 8, 2) := by decide +kernel
theorem dX3_keep_24 : decode cX3_keep 24 = .ok (.irem, 1) := by decide +kernel
theorem dX3_keep_25 : decode cX3_keep 25 = .ok (.putfield 22, 3) := by decide +kernel
theorem dX3_keep_28 : decode cX3_keep 28 = .ok (.aload_n 0, 1) := by decide +kernel
theorem dX3_keep_29 : decode cX3_keep 29 = .ok (.aload_n 0, 1) := by decide +kernel
theorem dX3_keep_30 : decode cX3_keep 30 = .ok (.getfield 26, 3) := by decide +kernel
theorem dX3_keep_33 : decode cX3_keep 33 = .ok (.iconst 1, 1) := by decide +kernel
theorem dX3_keep_34 : decode cX3_keep 34 = .ok (.iadd, 1) := by decide +kernel
theorem dX3_keep_35 : decode cX3_keep 35 = .ok (.bipush 8, 2) := by decide +kernel
theorem dX3_keep_37 : decode cX3_keep 37 = .ok (.invokestatic 37, 3) := by decide +kernel
theorem dX3_keep_40 : decode cX3_keep 40 = .ok (.putfield 26, 3) := by decide +kernel
theorem dX3_keep_43 : decode cX3_keep 43 = .ok (.return_, 1) := by decide +kernel
theorem dX3_takeBack_0 : decode cX3_takeBack 0 = .ok (.aload_n 1, 1) := by decide +kernel
theorem dX3_takeBack_1 : decode cX3_takeBack 1 = .ok (.aload_n 0, 1) := by decide +kernel
theorem dX3_takeBack_2 : decode cX3_takeBack 2 = .ok (.getfield 18, 3) := by decide +kernel
theorem dX3_takeBack_5 : decode cX3_takeBack 5 = .ok (.invokevirtual 29, 3) := by decide +kernel
theorem dX3_takeBack_8 : decode cX3_takeBack 8 = .ok (.return_, 1) := by decide +kernel
theorem dX3_bringBack_0 : decode cX3_bringBack 0 = .ok (.aload_n 0, 1) := by decide +kernel
theorem dX3_bringBack_1 : decode cX3_bringBack 1 = .ok (.aload_n 0, 1) := by decide +kernel
theorem dX3_bringBack_2 : decode cX3_bringBack 2 = .ok (.getfield 22, 3) := by decide +kernel
theorem dX3_bringBack_5 : decode cX3_bringBack 5 = .ok (.bipush 8, 2) := by decide +kernel
theorem dX3_bringBack_7 : decode cX3_bringBack 7 = .ok (.iadd, 1) := by decide +kernel
theorem dX3_bringBack_8 : decode cX3_bringBack 8 = .ok (.iconst 1, 1) := by decide +kernel
theorem dX3_bringBack_9 : decode cX3_bringBack 9 = .ok (.isub, 1) := by decide +kernel
theorem dX3_bringBack_10 : decode cX3_bringBack 10 = .ok (.bipush 8, 2) := by decide +kernel
theorem dX3_bringBack_12 : decode cX3_bringBack 12 = .ok (.irem, 1) := by decide +kernel
theorem dX3_bringBack_13 : decode cX3_bringBack 13 = .ok (.putfield 22, 3) := by decide +kernel
theorem dX3_bringBack_16 : decode cX3_bringBack 16 = .ok (.aload_n 0, 1) := by decide +kernel
theorem dX3_bringBack_17 : decode cX3_bringBack 17 = .ok (.dup, 1) := by decide +kernel
theorem dX3_bringBack_18 : decode cX3_bringBack 18 = .ok (.getfield 26, 3) := by decide +kernel
theorem dX3_bringBack_21 : decode cX3_bringBack 21 = .ok (.iconst 1, 1) := by decide +kernel
theorem dX3_bringBack_22 : decode cX3_bringBack 22 = .ok (.isub, 1) := by decide +kernel
theorem dX3_bringBack_23 : decode cX3_bringBack 23 = .ok (.putfield 26, 3) := by decide +kernel
theorem dX3_bringBack_26 : decode cX3_bringBack 26 = .ok (.aload_n 1, 1) := by decide +kernel
theorem dX3_bringBack_27 : decode cX3_bringBack 27 = .ok (.aload_n 0, 1) := by decide +kernel
theorem dX3_bringBack_28 : decode cX3_bringBack 28 = .ok (.aload_n 0, 1) := by decide +kernel
theorem dX3_bringBack_29 : decode cX3_bringBack 29 = .ok (.getfield 22, 3) := by decide +kernel
theorem dX3_bringBack_32 : decode cX3_bringBack 32 = .ok (.invokevirtual 33, 3) := by decide +kernel
theorem dX3_bringBack_35 : decode cX3_bringBack 35 = .ok (.invokevirtual 29, 3) := by decide +kernel
theorem dX3_bringBack_38 : decode cX3_bringBack 38 = .ok (.return_, 1) := by decide +kernel
theorem dX3_pastAt_0 : decode cX3_pastAt 0 = .ok (.iload_n 1, 1) := by decide +kernel
theorem dX3_pastAt_1 : decode cX3_pastAt 1 = .ok (.ifCond .lt 21, 3) := by decide +kernel
theorem dX3_pastAt_4 : decode cX3_pastAt 4 = .ok (.iload_n 1, 1) := by decide +kernel
theorem dX3_pastAt_5 : decode cX3_pastAt 5 = .ok (.aload_n 0, 1) := by decide +kernel
theorem dX3_pastAt_6 : decode cX3_pastAt 6 = .ok (.getfield 11, 3) := by decide +kernel
theorem dX3_pastAt_9 : decode cX3_pastAt 9 = .ok (.arraylength, 1) := by decide +kernel
theorem dX3_pastAt_10 : decode cX3_pastAt 10 = .ok (.if_icmp .ge 12, 3) := by decide +kernel
theorem dX3_pastAt_13 : decode cX3_pastAt 13 = .ok (.aload_n 0, 1) := by decide +kernel
theorem dX3_pastAt_14 : decode cX3_pastAt 14 = .ok (.getfield 11, 3) := by decide +kernel
theorem dX3_pastAt_17 : decode cX3_pastAt 17 = .ok (.iload_n 1, 1) := by decide +kernel
theorem dX3_pastAt_18 : decode cX3_pastAt 18 = .ok (.aaload, 1) := by decide +kernel
theorem dX3_pastAt_19 : decode cX3_pastAt 19 = .ok (.goto 7, 3) := by decide +kernel
theorem dX3_pastAt_22 : decode cX3_pastAt 22 = .ok (.aload_n 0, 1) := by decide +kernel
theorem dX3_pastAt_23 : decode cX3_pastAt 23 = .ok (.getfield 18, 3) := by decide +kernel
theorem dX3_pastAt_26 : decode cX3_pastAt 26 = .ok (.astore_n 2, 1) := by decide +kernel
theorem dX3_pastAt_27 : decode cX3_pastAt 27 = .ok (.aload_n 2, 1) := by decide +kernel
theorem dX3_pastAt_28 : decode cX3_pastAt 28 = .ok (.ifnull 7, 3) := by decide +kernel
theorem dX3_pastAt_31 : decode cX3_pastAt 31 = .ok (.aload_n 2, 1) := by decide +kernel
theorem dX3_pastAt_32 : decode cX3_pastAt 32 = .ok (.goto 7, 3) := by decide +kernel
theorem dX3_pastAt_35 : decode cX3_pastAt 35 = .ok (.aload_n 0, 1) := by decide +kernel
theorem dX3_pastAt_36 : decode cX3_pastAt 36 = .ok (.getfield 18, 3) := by decide +kernel
theorem dX3_pastAt_39 : decode cX3_pastAt 39 = .ok (.areturn, 1) := by decide +kernel
theorem dX4_init_0 : decode cX4_init 0 = .ok (.aload_n 0, 1) := by decide +kernel
theorem dX4_init_1 : decode cX4_init 1 = .ok (.invokespecial 3, 3) := by decide +kernel
theorem dX4_init_4 : decode cX4_init 4 = .ok (.aload_n 0, 1) := by decide +kernel
theorem dX4_init_5 : decode cX4_init 5 = .ok (.bipush 39, 2) := by decide +kernel
theorem dX4_init_7 : decode cX4_init 7 = .ok (.newarray .char, 2) := by decide +kernel
theorem dX4_init_9 : decode cX4_init 9 = .ok (.putfield 9, 3) := by decide +kernel
theorem dX4_init_12 : decode cX4_init 12 = .ok (.aload_n 0, 1) := by decide +kernel
theorem dX4_init_13 : decode cX4_init 13 = .ok (.iconst 0, 1) := by decide +kernel
theorem dX4_init_14 : decode cX4_init 14 = .ok (.putfield 15, 3) := by decide +kernel
theorem dX4_init_17 : decode cX4_init 17 = .ok (.return_, 1) := by decide +kernel
theorem dX4_clear_0 : decode cX4_clear 0 = .ok (.aload_n 0, 1) := by decide +kernel
theorem dX4_clear_1 : decode cX4_clear 1 = .ok (.iconst 0, 1) := by decide +kernel
theorem dX4_clear_2 : decode cX4_clear 2 = .ok (.putfield 15, 3) := by decide +kernel
theorem dX4_clear_5 : decode cX4_clear 5 = .ok (.return_, 1) := by decide +kernel
theorem dX4_put_0 : decode cX4_put 0 = .ok (.aload_n 0, 1) := by decide +kernel
theorem dX4_put_1 : decode cX4_put 1 = .ok (.getfield 15, 3) := by decide +kernel
theorem dX4_put_4 : decode cX4_put 4 = .ok (.ifCond .lt 35, 3) := by decide +kernel
theorem dX4_put_7 : decode cX4_put 7 = .ok (.aload_n 0, 1) := by decide +kernel
theorem dX4_put_8 : decode cX4_put 8 = .ok (.getfield 15, 3) := by decide +kernel
theorem dX4_put_11 : decode cX4_put 11 = .ok (.aload_n 0, 1) := by decide +kernel
theorem dX4_put_12 : decode cX4_put 12 = .ok (.getfield 9, 3) := by decide +kernel
theorem dX4_put_15 : decode cX4_put 15 = .ok (.arraylength, 1) := by decide +kernel
theorem dX4_put_16 : decode cX4_put 16 = .ok (.if_icmp .ge 23, 3) := by decide +kernel
theorem dX4_put_19 : decode cX4_put 19 = .ok (.aload_n 0, 1) := by decide +kernel
theorem dX4_put_20 : decode cX4_put 20 = .ok (.getfield 9, 3) := by decide +kernel
theorem dX4_put_23 : decode cX4_put 23 = .ok (.aload_n 0, 1) := by decide +kernel
theorem dX4_put_24 : decode cX4_put 24 = .ok (.getfield 15, 3) := by decide +kernel
theorem dX4_put_27 : decode cX4_put 27 = .ok (.iload_n 1, 1) := by decide +kernel
theorem dX4_put_28 : decode cX4_put 28 = .ok (.castore, 1) := by decide +kernel
theorem dX4_put_29 : decode cX4_put 29 = .ok (.aload_n 0, 1) := by decide +kernel
theorem dX4_put_30 : decode cX4_put 30 = .ok (.dup, 1) := by decide +kernel
theorem dX4_put_31 : decode cX4_put 31 = .ok (.getfield 15, 3) := by decide +kernel
theorem dX4_put_34 : decode cX4_put 34 = .ok (.iconst 1, 1) := by decide +kernel
theorem dX4_put_35 : decode cX4_put 35 = .ok (.iadd, 1) := by decide +kernel
theorem dX4_put_36 : decode cX4_put 36 = .ok (.putfield 15, 3) := by decide +kernel
theorem dX4_put_39 : decode cX4_put 39 = .ok (.return_, 1) := by decide +kernel
theorem dX4_putNumber_0 : decode cX4_putNumber 0 = .ok (.iload_n 1, 1) := by decide +kernel
theorem dX4_putNumber_1 : decode cX4_putNumber 1 = .ok (.bipush 10, 2) := by decide +kernel
theorem dX4_putNumber_3 : decode cX4_putNumber 3 = .ok (.if_icmp .lt 15, 3) := by decide +kernel
theorem dX4_putNumber_6 : decode cX4_putNumber 6 = .ok (.aload_n 0, 1) := by decide +kernel
theorem dX4_putNumber_7 : decode cX4_putNumber 7 = .ok (.bipush 48, 2) := by decide +kernel
theorem dX4_putNumber_9 : decode cX4_putNumber 9 = .ok (.iload_n 1, 1) := by decide +kernel
theorem dX4_putNumber_10 : decode cX4_putNumber 10 = .ok (.bipush 10, 2) := by decide +kernel
theorem dX4_putNumber_12 : decode cX4_putNumber 12 = .ok (.idiv, 1) := by decide +kernel
theorem dX4_putNumber_13 : decode cX4_putNumber 13 = .ok (.iadd, 1) := by decide +kernel
theorem dX4_putNumber_14 : decode cX4_putNumber 14 = .ok (.i2c, 1) := by decide +kernel
theorem dX4_putNumber_15 : decode cX4_putNumber 15 = .ok (.invokevirtual 19, 3) := by decide +kernel
theorem dX4_putNumber_18 : decode cX4_putNumber 18 = .ok (.aload_n 0, 1) := by decide +kernel
theorem dX4_putNumber_19 : decode cX4_putNumber 19 = .ok (.bipush 48, 2) := by decide +kernel
theorem dX4_putNumber_21 : decode cX4_putNumber 21 = .ok (.iload_n 1, 1) := by decide +kernel
theorem dX4_putNumber_22 : decode cX4_putNumber 22 = .ok (.bipush 10, 2) := by decide +kernel
theorem dX4_putNumber_24 : decode cX4_putNumber 24 = .ok (.irem, 1) := by decide +kernel
theorem dX4_putNumber_25 : decode cX4_putNumber 25 = .ok (.iadd, 1) := by decide +kernel
theorem dX4_putNumber_26 : decode cX4_putNumber 26 = .ok (.i2c, 1) := by decide +kernel
theorem dX4_putNumber_27 : decode cX4_putNumber 27 = .ok (.invokevirtual 19, 3) := by decide +kernel
theorem dX4_putNumber_30 : decode cX4_putNumber 30 = .ok (.return_, 1) := by decide +kernel
theorem dX4_putPlot_0 : decode cX4_putPlot 0 = .ok (.aload_n 0, 1) := by decide +kernel
theorem dX4_putPlot_1 : decode cX4_putPlot 1 = .ok (.bipush 40, 2) := by decide +kernel
theorem dX4_putPlot_3 : decode cX4_putPlot 3 = .ok (.invokevirtual 19, 3) := by decide +kernel
theorem dX4_putPlot_6 : decode cX4_putPlot 6 = .ok (.aload_n 0, 1) := by decide +kernel
theorem dX4_putPlot_7 : decode cX4_putPlot 7 = .ok (.aload_n 1, 1) := by decide +kernel
theorem dX4_putPlot_8 : decode cX4_putPlot 8 = .ok (.getfield 23, 3) := by decide +kernel
theorem dX4_putPlot_11 : decode cX4_putPlot 11 = .ok (.invokevirtual 28, 3) := by decide +kernel
theorem dX4_putPlot_14 : decode cX4_putPlot 14 = .ok (.aload_n 0, 1) := by decide +kernel
theorem dX4_putPlot_15 : decode cX4_putPlot 15 = .ok (.bipush 44, 2) := by decide +kernel
theorem dX4_putPlot_17 : decode cX4_putPlot 17 = .ok (.invokevirtual 19, 3) := by decide +kernel
theorem dX4_putPlot_20 : decode cX4_putPlot 20 = .ok (.aload_n 0, 1) := by decide +kernel
theorem dX4_putPlot_21 : decode cX4_putPlot 21 = .ok (.aload_n 1, 1) := by decide +kernel
theorem dX4_putPlot_22 : decode cX4_putPlot 22 = .ok (.getfield 32, 3) := by decide +kernel
theorem dX4_putPlot_25 : decode cX4_putPlot 25 = .ok (.invokevirtual 28, 3) := by decide +kernel
theorem dX4_putPlot_28 : decode cX4_putPlot 28 = .ok (.aload_n 0, 1) := by decide +kernel
theorem dX4_putPlot_29 : decode cX4_putPlot 29 = .ok (.bipush 41, 2) := by decide +kernel
theorem dX4_putPlot_31 : decode cX4_putPlot 31 = .ok (.invokevirtual 19, 3) := by decide +kernel
theorem dX4_putPlot_34 : decode cX4_putPlot 34 = .ok (.iconst 0, 1) := by decide +kernel
theorem dX4_putPlot_35 : decode cX4_putPlot 35 = .ok (.istore_n 2, 1) := by decide +kernel
theorem dX4_putPlot_36 : decode cX4_putPlot 36 = .ok (.iload_n 2, 1) := by decide +kernel
theorem dX4_putPlot_37 : decode cX4_putPlot 37 = .ok (.aload_n 1, 1) := by decide +kernel
theorem dX4_putPlot_38 : decode cX4_putPlot 38 = .ok (.getfield 35, 3) := by decide +kernel
theorem dX4_putPlot_41 : decode cX4_putPlot 41 = .ok (.if_icmp .ge 30, 3) := by decide +kernel
theorem dX4_putPlot_44 : decode cX4_putPlot 44 = .ok (.aload_n 0, 1) := by decide +kernel
theorem dX4_putPlot_45 : decode cX4_putPlot 45 = .ok (.aload_n 1, 1) := by decide +kernel
theorem dX4_putPlot_46 : decode cX4_putPlot 46 = .ok (.iload_n 2, 1) := by decide +kernel
theorem dX4_putPlot_47 : decode cX4_putPlot 47 = .ok (.invokevirtual 38, 3) := by decide +kernel
theorem dX4_putPlot_50 : decode cX4_putPlot 50 = .ok (.invokestatic 42, 3) := by decide +kernel
theorem dX4_putPlot_53 : decode cX4_putPlot 53 = .ok (.invokevirtual 19, 3) := by decide +kernel
theorem dX4_putPlot_56 : decode cX4_putPlot 56 = .ok (.aload_n 0, 1) := by decide +kernel
theorem dX4_putPlot_57 : decode cX4_putPlot 57 = .ok (.aload_n 1, 1) := by decide +kernel
theorem dX4_putPlot_58 : decode cX4_putPlot 58 = .ok (.iload_n 2, 1) := by decide +kernel
theorem dX4_putPlot_59 : decode cX4_putPlot 59 = .ok (.invokevirtual 46, 3) := by decide +kernel
theorem dX4_putPlot_62 : decode cX4_putPlot 62 = .ok (.invokevirtual 28, 3) := by decide +kernel
theorem dX4_putPlot_65 : decode cX4_putPlot 65 = .ok (.iinc 2 1, 3) := by decide +kernel
theorem dX4_putPlot_68 : decode cX4_putPlot 68 = .ok (.goto (-32), 3) := by decide +kernel
theorem dX4_putPlot_71 : decode cX4_putPlot 71 = .ok (.aload_n 1, 1) := by decide +kernel
theorem dX4_putPlot_72 : decode cX4_putPlot 72 = .ok (.getfield 49, 3) := by decide +kernel
theorem dX4_putPlot_75 : decode cX4_putPlot 75 = .ok (.ifCond .eq 9, 3) := by decide +kernel
theorem dX4_putPlot_78 : decode cX4_putPlot 78 = .ok (.aload_n 0, 1) := by decide +kernel
theorem dX4_putPlot_79 : decode cX4_putPlot 79 = .ok (.bipush 33, 2) := by decide +kernel
theorem dX4_putPlot_81 : decode cX4_putPlot 81 = .ok (.invokevirtual 19, 3) := by decide +kernel
theorem dX4_putPlot_84 : decode cX4_putPlot 84 = .ok (.return_, 1) := by decide +kernel
theorem dX5_init_0 : decode cX5_init 0 = .ok (.aload_n 0, 1) := by decide +kernel
theorem dX5_init_1 : decode cX5_init 1 = .ok (.invokespecial 3, 3) := by decide +kernel
theorem dX5_init_4 : decode cX5_init 4 = .ok (.aload_n 0, 1) := by decide +kernel
theorem dX5_init_5 : decode cX5_init 5 = .ok (.iconst 0, 1) := by decide +kernel
theorem dX5_init_6 : decode cX5_init 6 = .ok (.putfield 9, 3) := by decide +kernel
theorem dX5_init_9 : decode cX5_init 9 = .ok (.aload_n 0, 1) := by decide +kernel
theorem dX5_init_10 : decode cX5_init 10 = .ok (.bipush 8, 2) := by decide +kernel
theorem dX5_init_12 : decode cX5_init 12 = .ok (.newarray .int, 2) := by decide +kernel
theorem dX5_init_14 : decode cX5_init 14 = .ok (.putfield 15, 3) := by decide +kernel
theorem dX5_init_17 : decode cX5_init 17 = .ok (.aload_n 0, 1) := by decide +kernel
theorem dX5_init_18 : decode cX5_init 18 = .ok (.bipush 8, 2) := by decide +kernel
theorem dX5_init_20 : decode cX5_init 20 = .ok (.newarray .int, 2) := by decide +kernel
theorem dX5_init_22 : decode cX5_init 22 = .ok (.putfield 19, 3) := by decide +kernel
theorem dX5_init_25 : decode cX5_init 25 = .ok (.aload_n 0, 1) := by decide +kernel
theorem dX5_init_26 : decode cX5_init 26 = .ok (.bipush 8, 2) := by decide +kernel
theorem dX5_init_28 : decode cX5_init 28 = .ok (.newarray .int, 2) := by decide +kernel
theorem dX5_init_30 : decode cX5_init 30 = .ok (.putfield 22, 3) := by decide +kernel
theorem dX5_init_33 : decode cX5_init 33 = .ok (.return_, 1) := by decide +kernel
theorem dX5_copyFrom_0 : decode cX5_copyFrom 0 = .ok (.aload_n 0, 1) := by decide +kernel
theorem dX5_copyFrom_1 : decode cX5_copyFrom 1 = .ok (.aload_n 1, 1) := by decide +kernel
theorem dX5_copyFrom_2 : decode cX5_copyFrom 2 = .ok (.getfield 9, 3) := by decide +kernel
theorem dX5_copyFrom_5 : decode cX5_copyFrom 5 = .ok (.putfield 9, 3) := by decide +kernel
theorem dX5_copyFrom_8 : decode cX5_copyFrom 8 = .ok (.aload_n 1, 1) := by decide +kernel
theorem dX5_copyFrom_9 : decode cX5_copyFrom 9 = .ok (.getfield 15, 3) := by decide +kernel
theorem dX5_copyFrom_12 : decode cX5_copyFrom 12 = .ok (.aload_n 0, 1) := by decide +kernel
theorem dX5_copyFrom_13 : decode cX5_copyFrom 13 = .ok (.getfield 15, 3) := by decide +kernel
theorem dX5_copyFrom_16 : decode cX5_copyFrom 16 = .ok (.invokestatic 25, 3) := by decide +kernel
theorem dX5_copyFrom_19 : decode cX5_copyFrom 19 = .ok (.aload_n 1, 1) := by decide +kernel
theorem dX5_copyFrom_20 : decode cX5_copyFrom 20 = .ok (.getfield 19, 3) := by decide +kernel
theorem dX5_copyFrom_23 : decode cX5_copyFrom 23 = .ok (.aload_n 0, 1) := by decide +kernel
theorem dX5_copyFrom_24 : decode cX5_copyFrom 24 = .ok (.getfield 19, 3) := by decide +kernel
theorem dX5_copyFrom_27 : decode cX5_copyFrom 27 = .ok (.invokestatic 25, 3) := by decide +kernel
theorem dX5_copyFrom_30 : decode cX5_copyFrom 30 = .ok (.aload_n 1, 1) := by decide +kernel
theorem dX5_copyFrom_31 : decode cX5_copyFrom 31 = .ok (.getfield 22, 3) := by decide +kernel
theorem dX5_copyFrom_34 : decode cX5_copyFrom 34 = .ok (.aload_n 0, 1) := by decide +kernel
theorem dX5_copyFrom_35 : decode cX5_copyFrom 35 = .ok (.getfield 22, 3) := by decide +kernel
theorem dX5_copyFrom_38 : decode cX5_copyFrom 38 = .ok (.invokestatic 25, 3) := by decide +kernel
theorem dX5_copyFrom_41 : decode cX5_copyFrom 41 = .ok (.return_, 1) := by decide +kernel
theorem dX5_add_0 : decode cX5_add 0 = .ok (.aload_n 0, 1) := by decide +kernel
theorem dX5_add_1 : decode cX5_add 1 = .ok (.getfield 15, 3) := by decide +kernel
theorem dX5_add_4 : decode cX5_add 4 = .ok (.aload_n 0, 1) := by decide +kernel
theorem dX5_add_5 : decode cX5_add 5 = .ok (.getfield 9, 3) := by decide +kernel
theorem dX5_add_8 : decode cX5_add 8 = .ok (.iload_n 1, 1) := by decide +kernel
theorem dX5_add_9 : decode cX5_add 9 = .ok (.invokestatic 29, 3) := by decide +kernel
theorem dX5_add_12 : decode cX5_add 12 = .ok (.aload_n 0, 1) := by decide +kernel
theorem dX5_add_13 : decode cX5_add 13 = .ok (.getfield 19, 3) := by decide +kernel
theorem dX5_add_16 : decode cX5_add 16 = .ok (.aload_n 0, 1) := by decide +kernel
theorem dX5_add_17 : decode cX5_add 17 = .ok (.getfield 9, 3) := by decide +kernel
theorem dX5_add_20 : decode cX5_add 20 = .ok (.iload_n 2, 1) := by decide +kernel
theorem dX5_add_21 : decode cX5_add 21 = .ok (.invokestatic 29, 3) := by decide +kernel
theorem dX5_add_24 : decode cX5_add 24 = .ok (.aload_n 0, 1) := by decide +kernel
theorem dX5_add_25 : decode cX5_add 25 = .ok (.getfield 22, 3) := by decide +kernel
theorem dX5_add_28 : decode cX5_add 28 = .ok (.aload_n 0, 1) := by decide +kernel
theorem dX5_add_29 : decode cX5_add 29 = .ok (.getfield 9, 3) := by decide +kernel
theorem dX5_add_32 : decode cX5_add 32 = .ok (.iload_n 3, 1) := by decide +kernel
theorem dX5_add_33 : decode cX5_add 33 = .ok (.invokestatic 29, 3) := by decide +kernel
theorem dX5_add_36 : decode cX5_add 36 = .ok (.aload_n 0, 1) := by decide +kernel
theorem dX5_add_37 : decode cX5_add 37 = .ok (.dup, 1) := by decide +kernel
theorem dX5_add_38 : decode cX5_add 38 = .ok (.getfield 9, 3) := by decide +kernel
theorem dX5_add_41 : decode cX5_add 41 = .ok (.iconst 1, 1) := by decide +kernel
theorem dX5_add_42 : decode cX5_add 42 = .ok (.iadd, 1) := by decide +kernel
theorem dX5_add_43 : decode cX5_add 43 = .ok (.putfield 9, 3) := by decide +kernel
theorem dX5_add_46 : decode cX5_add 46 = .ok (.return_, 1) := by decide +kernel
theorem dX5_findAt_0 : decode cX5_findAt 0 = .ok (.iconst 0, 1) := by decide +kernel
theorem dX5_findAt_1 : decode cX5_findAt 1 = .ok (.istore_n 3, 1) := by decide +kernel
theorem dX5_findAt_2 : decode cX5_findAt 2 = .ok (.iload_n 3, 1) := by decide +kernel
theorem dX5_findAt_3 : decode cX5_findAt 3 = .ok (.aload_n 0, 1) := by decide +kernel
theorem dX5_findAt_4 : decode cX5_findAt 4 = .ok (.getfield 9, 3) := by decide +kernel
theorem dX5_findAt_7 : decode cX5_findAt 7 = .ok (.if_icmp .ge 35, 3) := by decide +kernel
theorem dX5_findAt_10 : decode cX5_findAt 10 = .ok (.aload_n 0, 1) := by decide +kernel
theorem dX5_findAt_11 : decode cX5_findAt 11 = .ok (.getfield 15, 3) := by decide +kernel
theorem dX5_findAt_14 : decode cX5_findAt 14 = .ok (.iload_n 3, 1) := by decide +kernel
theorem dX5_findAt_15 : decode cX5_findAt 15 = .ok (.invokestatic 33, 3) := by decide +kernel
theorem dX5_findAt_18 : decode cX5_findAt 18 = .ok (.iload_n 1, 1) := by decide +kernel
theorem dX5_findAt_19 : decode cX5_findAt 19 = .ok (.if_icmp .ne 17, 3) := by decide +kernel
theorem dX5_findAt_22 : decode cX5_findAt 22 = .ok (.aload_n 0, 1) := by decide +kernel
theorem dX5_findAt_23 : decode cX5_findAt 23 = .ok (.getfield 19, 3) := by decide +kernel
theorem dX5_findAt_26 : decode cX5_findAt 26 = .ok (.iload_n 3, 1) := by decide +kernel
theorem dX5_findAt_27 : decode cX5_findAt 27 = .ok (.invokestatic 33, 3) := by decide +kernel
theorem dX5_findAt_30 : decode cX5_findAt 30 = .ok (.iload_n 2, 1) := by decide +kernel
theorem dX5_findAt_31 : decode cX5_findAt 31 = .ok (.if_icmp .ne 5, 3) := by decide +kernel
theorem dX5_findAt_34 : decode cX5_findAt 34 = .ok (.iload_n 3, 1) := by decide +kernel
theorem dX5_findAt_35 : decode cX5_findAt 35 = .ok (.ireturn, 1) := by decide +kernel
theorem dX5_findAt_36 : decode cX5_findAt 36 = .ok (.iinc 3 1, 3) := by decide +kernel
theorem dX5_findAt_39 : decode cX5_findAt 39 = .ok (.goto (-37), 3) := by decide +kernel
theorem dX5_findAt_42 : decode cX5_findAt 42 = .ok (.iconst (-1), 1) := by decide +kernel
theorem dX5_findAt_43 : decode cX5_findAt 43 = .ok (.ireturn, 1) := by decide +kernel
theorem dX5_hoursUntilLit_0 : decode cX5_hoursUntilLit 0 = .ok (.aload_n 0, 1) := by decide +kernel
theorem dX5_hoursUntilLit_1 : decode cX5_hoursUntilLit 1 = .ok (.getfield 22, 3) := by decide +kernel
theorem dX5_hoursUntilLit_4 : decode cX5_hoursUntilLit 4 = .ok (.iload_n 1, 1) := by decide +kernel
theorem dX5_hoursUntilLit_5 : decode cX5_hoursUntilLit 5 = .ok (.invokestatic 33, 3) := by decide +kernel
theorem dX5_hoursUntilLit_8 : decode cX5_hoursUntilLit 8 = .ok (.istore_n 3, 1) := by decide +kernel
theorem dX5_hoursUntilLit_9 : decode cX5_hoursUntilLit 9 = .ok (.iload_n 3, 1) := by decide +kernel
theorem dX5_hoursUntilLit_10 : decode cX5_hoursUntilLit 10 = .ok (.ifCond .gt 5, 3) := by decide +kernel
theorem dX5_hoursUntilLit_13 : decode cX5_hoursUntilLit 13 = .ok (.iconst 0, 1) := by decide +kernel
theorem dX5_hoursUntilLit_14 : decode cX5_hoursUntilLit 14 = .ok (.ireturn, 1) := by decide +kernel
theorem dX5_hoursUntilLit_15 : decode cX5_hoursUntilLit 15 = .ok (.iload_n 2, 1) := by decide +kernel
theorem dX5_hoursUntilLit_16 : decode cX5_hoursUntilLit 16 = .ok (.iload_n 3, 1) := by decide +kernel
theorem dX5_hoursUntilLit_17 : decode cX5_hoursUntilLit 17 = .ok (.irem, 1) := by decide +kernel
theorem dX5_hoursUntilLit_18 : decode cX5_hoursUntilLit 18 = .ok (.istore 4, 2) := by decide +kernel
theorem dX5_hoursUntilLit_20 : decode cX5_hoursUntilLit 20 = .ok (.iload 4, 2) := by decide +kernel
theorem dX5_hoursUntilLit_22 : decode cX5_hoursUntilLit 22 = .ok (.ifCond .ne 7, 3) := by decide +kernel
theorem dX5_hoursUntilLit_25 : decode cX5_hoursUntilLit 25 = .ok (.iconst 0, 1) := by decide +kernel
theorem dX5_hoursUntilLit_26 : decode cX5_hoursUntilLit 26 = .ok (.goto 7, 3) := by decide +kernel
theorem dX5_hoursUntilLit_29 : decode cX5_hoursUntilLit 29 = .ok (.iload_n 3, 1) := by decide +kernel
theorem dX5_hoursUntilLit_30 : decode cX5_hoursUntilLit 30 = .ok (.iload 4, 2) := by decide +kernel
theorem dX5_hoursUntilLit_32 : decode cX5_hoursUntilLit 32 = .ok (.isub, 1) := by decide +kernel
theorem dX5_hoursUntilLit_33 : decode cX5_hoursUntilLit 33 = .ok (.ireturn, 1) := by decide +kernel
theorem dX5_hoursUntilAnyLit_0 : decode cX5_hoursUntilAnyLit 0 = .ok (.aload_n 0, 1) := by decide +kernel
theorem dX5_hoursUntilAnyLit_1 : decode cX5_hoursUntilAnyLit 1 = .ok (.iconst 0, 1) := by decide +kernel
theorem dX5_hoursUntilAnyLit_2 : decode cX5_hoursUntilAnyLit 2 = .ok (.iload_n 1, 1) := by decide +kernel
theorem dX5_hoursUntilAnyLit_3 : decode cX5_hoursUntilAnyLit 3 = .ok (.invokevirtual 37, 3) := by decide +kernel
theorem dX5_hoursUntilAnyLit_6 : decode cX5_hoursUntilAnyLit 6 = .ok (.istore_n 2, 1) := by decide +kernel
theorem dX5_hoursUntilAnyLit_7 : decode cX5_hoursUntilAnyLit 7 = .ok (.iconst 1, 1) := by decide +kernel
theorem dX5_hoursUntilAnyLit_8 : decode cX5_hoursUntilAnyLit 8 = .ok (.istore_n 3, 1) := by decide +kernel
theorem dX5_hoursUntilAnyLit_9 : decode cX5_hoursUntilAnyLit 9 = .ok (.iload_n 3, 1) := by decide +kernel
theorem dX5_hoursUntilAnyLit_10 : decode cX5_hoursUntilAnyLit 10 = .ok (.aload_n 0, 1) := by decide +kernel
theorem dX5_hoursUntilAnyLit_11 : decode cX5_hoursUntilAnyLit 11 = .ok (.getfield 9, 3) := by decide +kernel
theorem dX5_hoursUntilAnyLit_14 : decode cX5_hoursUntilAnyLit 14 = .ok (.if_icmp .ge 20, 3) := by decide +kernel
theorem dX5_hoursUntilAnyLit_17 : decode cX5_hoursUntilAnyLit 17 = .ok (.iload_n 2, 1) := by decide +kernel
theorem dX5_hoursUntilAnyLit_18 : decode cX5_hoursUntilAnyLit 18 = .ok (.aload_n 0, 1) := by decide +kernel
theorem dX5_hoursUntilAnyLit_19 : decode cX5_hoursUntilAnyLit 19 = .ok (.iload_n 3, 1) := by decide +kernel
theorem dX5_hoursUntilAnyLit_20 : decode cX5_hoursUntilAnyLit 20 = .ok (.iload_n 1, 1) := by decide +kernel
theorem dX5_hoursUntilAnyLit_21 : decode cX5_hoursUntilAnyLit 21 = .ok (.invokevirtual 37, 3) := by decide +kernel
theorem dX5_hoursUntilAnyLit_24 : decode cX5_hoursUntilAnyLit 24 = .ok (.invokestatic 41, 3) := by decide +kernel
theorem dX5_hoursUntilAnyLit_27 : decode cX5_hoursUntilAnyLit 27 = .ok (.istore_n 2, 1) := by decide +kernel
theorem dX5_hoursUntilAnyLit_28 : decode cX5_hoursUntilAnyLit 28 = .ok (.iinc 3 1, 3) := by decide +kernel
theorem dX5_hoursUntilAnyLit_31 : decode cX5_hoursUntilAnyLit 31 = .ok (.goto (-22), 3) := by decide +kernel
theorem dX5_hoursUntilAnyLit_34 : decode cX5_hoursUntilAnyLit 34 = .ok (.iload_n 2, 1) := by decide +kernel
theorem dX5_hoursUntilAnyLit_35 : decode cX5_hoursUntilAnyLit 35 = .ok (.ireturn, 1) := by decide +kernel
theorem dX5_countLit_0 : decode cX5_countLit 0 = .ok (.iconst 0, 1) := by decide +kernel
theorem dX5_countLit_1 : decode cX5_countLit 1 = .ok (.istore_n 2, 1) := by decide +kernel
theorem dX5_countLit_2 : decode cX5_countLit 2 = .ok (.iconst 0, 1) := by decide +kernel
theorem dX5_countLit_3 : decode cX5_countLit 3 = .ok (.istore_n 3, 1) := by decide +kernel
theorem dX5_countLit_4 : decode cX5_countLit 4 = .ok (.iload_n 3, 1) := by decide +kernel
theorem dX5_countLit_5 : decode cX5_countLit 5 = .ok (.aload_n 0, 1) := by decide +kernel
theorem dX5_countLit_6 : decode cX5_countLit 6 = .ok (.getfield 9, 3) := by decide +kernel
theorem dX5_countLit_9 : decode cX5_countLit 9 = .ok (.if_icmp .ge 21, 3) := by decide +kernel
theorem dX5_countLit_12 : decode cX5_countLit 12 = .ok (.aload_n 0, 1) := by decide +kernel
theorem dX5_countLit_13 : decode cX5_countLit 13 = .ok (.iload_n 3, 1) := by decide +kernel
theorem dX5_countLit_14 : decode cX5_countLit 14 = .ok (.iload_n 1, 1) := by decide +kernel
theorem dX5_countLit_15 : decode cX5_countLit 15 = .ok (.invokevirtual 37, 3) := by decide +kernel
theorem dX5_countLit_18 : decode cX5_countLit 18 = .ok (.ifCond .ne 6, 3) := by decide +kernel
theorem dX5_countLit_21 : decode cX5_countLit 21 = .ok (.iinc 2 1, 3) := by decide +kernel
theorem dX5_countLit_24 : decode cX5_countLit 24 = .ok (.iinc 3 1, 3) := by decide +kernel
theorem dX5_countLit_27 : decode cX5_countLit 27 = .ok (.goto (-23), 3) := by decide +kernel
theorem dX5_countLit_30 : decode cX5_countLit 30 = .ok (.iload_n 2, 1) := by decide +kernel
theorem dX5_countLit_31 : decode cX5_countLit 31 = .ok (.ireturn, 1) := by decide +kernel
theorem dX6_init_0 : decode cX6_init 0 = .ok (.aload_n 0, 1) := by decide +kernel
theorem dX6_init_1 : decode cX6_init 1 = .ok (.invokespecial 3, 3) := by decide +kernel
theorem dX6_init_4 : decode cX6_init 4 = .ok (.aload_n 0, 1) := by decide +kernel
theorem dX6_init_5 : decode cX6_init 5 = .ok (.iconst 0, 1) := by decide +kernel
theorem dX6_init_6 : decode cX6_init 6 = .ok (.putfield 9, 3) := by decide +kernel
theorem dX6_init_9 : decode cX6_init 9 = .ok (.aload_n 0, 1) := by decide +kernel
theorem dX6_init_10 : decode cX6_init 10 = .ok (.iconst 0, 1) := by decide +kernel
theorem dX6_init_11 : decode cX6_init 11 = .ok (.putfield 15, 3) := by decide +kernel
theorem dX6_init_14 : decode cX6_init 14 = .ok (.aload_n 0, 1) := by decide +kernel
theorem dX6_init_15 : decode cX6_init 15 = .ok (.iconst 0, 1) := by decide +kernel
theorem dX6_init_16 : decode cX6_init 16 = .ok (.putfield 18, 3) := by decide +kernel
theorem dX6_init_19 : decode cX6_init 19 = .ok (.aload_n 0, 1) := by decide +kernel
theorem dX6_init_20 : decode cX6_init 20 = .ok (.iconst 0, 1) := by decide +kernel
theorem dX6_init_21 : decode cX6_init 21 = .ok (.putfield 22, 3) := by decide +kernel
theorem dX6_init_24 : decode cX6_init 24 = .ok (.aload_n 0, 1) := by decide +kernel
theorem dX6_init_25 : decode cX6_init 25 = .ok (.iconst 0, 1) := by decide +kernel
theorem dX6_init_26 : decode cX6_init 26 = .ok (.putfield 25, 3) := by decide +kernel
theorem dX6_init_29 : decode cX6_init 29 = .ok (.aload_n 0, 1) := by decide +kernel
theorem dX6_init_30 : decode cX6_init 30 = .ok (.iconst 0, 1) := by decide +kernel
theorem dX6_init_31 : decode cX6_init 31 = .ok (.putfield 28, 3) := by decide +kernel
theorem dX6_init_34 : decode cX6_init 34 = .ok (.aload_n 0, 1) := by decide +kernel
theorem dX6_init_35 : decode cX6_init 35 = .ok (.iconst 0, 1) := by decide +kernel
theorem dX6_init_36 : decode cX6_init 36 = .ok (.putfield 31, 3) := by decide +kernel
theorem dX6_init_39 : decode cX6_init 39 = .ok (.aload_n 0, 1) := by decide +kernel
theorem dX6_init_40 : decode cX6_init 40 = .ok (.bipush 16, 2) := by decide +kernel
theorem dX6_init_42 : decode cX6_init 42 = .ok (.newarray .int, 2) := by decide +kernel
theorem dX6_init_44 : decode cX6_init 44 = .ok (.putfield 34, 3) := by decide +kernel
theorem dX6_init_47 : decode cX6_init 47 = .ok (.aload_n 0, 1) := by decide +kernel
theorem dX6_init_48 : decode cX6_init 48 = .ok (.bipush 16, 2) := by decide +kernel
theorem dX6_init_50 : decode cX6_init 50 = .ok (.newarray .int, 2) := by decide +kernel
theorem dX6_init_52 : decode cX6_init 52 = .ok (.putfield 38, 3) := by decide +kernel
theorem dX6_init_55 : decode cX6_init 55 = .ok (.return_, 1) := by decide +kernel
theorem dX6_copyFrom_0 : decode cX6_copyFrom 0 = .ok (.aload_n 0, 1) := by decide +kernel
theorem dX6_copyFrom_1 : decode cX6_copyFrom 1 = .ok (.aload_n 1, 1) := by decide +kernel
theorem dX6_copyFrom_2 : decode cX6_copyFrom 2 = .ok (.getfield 9, 3) := by decide +kernel
theorem dX6_copyFrom_5 : decode cX6_copyFrom 5 = .ok (.putfield 9, 3) := by decide +kernel
theorem dX6_copyFrom_8 : decode cX6_copyFrom 8 = .ok (.aload_n 0, 1) := by decide +kernel
theorem dX6_copyFrom_9 : decode cX6_copyFrom 9 = .ok (.aload_n 1, 1) := by decide +kernel
theorem dX6_copyFrom_10 : decode cX6_copyFrom 10 = .ok (.getfield 15, 3) := by decide +kernel
theorem dX6_copyFrom_13 : decode cX6_copyFrom 13 = .ok (.putfield 15, 3) := by decide +kernel
theorem dX6_copyFrom_16 : decode cX6_copyFrom 16 = .ok (.aload_n 0, 1) := by decide +kernel
theorem dX6_copyFrom_17 : decode cX6_copyFrom 17 = .ok (.aload_n 1, 1) := by decide +kernel
theorem dX6_copyFrom_18 : decode cX6_copyFrom 18 = .ok (.getfield 18, 3) := by decide +kernel
theorem dX6_copyFrom_21 : decode cX6_copyFrom 21 = .ok (.putfield 18, 3) := by decide +kernel
theorem dX6_copyFrom_24 : decode cX6_copyFrom 24 = .ok (.aload_n 0, 1) := by decide +kernel
theorem dX6_copyFrom_25 : decode cX6_copyFrom 25 = .ok (.aload_n 1, 1) := by decide +kernel
theorem dX6_copyFrom_26 : decode cX6_copyFrom 26 = .ok (.getfield 22, 3) := by decide +kernel
theorem dX6_copyFrom_29 : decode cX6_copyFrom 29 = .ok (.putfield 22, 3) := by decide +kernel
theorem dX6_copyFrom_32 : decode cX6_copyFrom 32 = .ok (.aload_n 0, 1) := by decide +kernel
theorem dX6_copyFrom_33 : decode cX6_copyFrom 33 = .ok (.aload_n 1, 1) := by decide +kernel
theorem dX6_copyFrom_34 : decode cX6_copyFrom 34 = .ok (.getfield 25, 3) := by decide +kernel
theorem dX6_copyFrom_37 : decode cX6_copyFrom 37 = .ok (.putfield 25, 3) := by decide +kernel
theorem dX6_copyFrom_40 : decode cX6_copyFrom 40 = .ok (.aload_n 0, 1) := by decide +kernel
theorem dX6_copyFrom_41 : decode cX6_copyFrom 41 = .ok (.aload_n 1, 1) := by decide +kernel
theorem dX6_copyFrom_42 : decode cX6_copyFrom 42 = .ok (.getfield 28, 3) := by decide +kernel
theorem dX6_copyFrom_45 : decode cX6_copyFrom 45 = .ok (.putfield 28, 3) := by decide +kernel
theorem dX6_copyFrom_48 : decode cX6_copyFrom 48 = .ok (.aload_n 0, 1) := by decide +kernel
theorem dX6_copyFrom_49 : decode cX6_copyFrom 49 = .ok (.aload_n 1, 1) := by decide +kernel
theorem dX6_copyFrom_50 : decode cX6_copyFrom 50 = .ok (.getfield 31, 3) := by decide +kernel
theorem dX6_copyFrom_53 : decode cX6_copyFrom 53 = .ok (.putfield 31, 3) := by decide +kernel
theorem dX6_copyFrom_56 : decode cX6_copyFrom 56 = .ok (.aload_n 1, 1) := by decide +kernel
theorem dX6_copyFrom_57 : decode cX6_copyFrom 57 = .ok (.getfield 34, 3) := by decide +kernel
theorem dX6_copyFrom_60 : decode cX6_copyFrom 60 = .ok (.aload_n 0, 1) := by decide +kernel
theorem dX6_copyFrom_61 : decode cX6_copyFrom 61 = .ok (.getfield 34, 3) := by decide +kernel
theorem dX6_copyFrom_64 : decode cX6_copyFrom 64 = .ok (.invokestatic 41, 3) := by decide +kernel
theorem dX6_copyFrom_67 : decode cX6_copyFrom 67 = .ok (.aload_n 1, 1) := by decide +kernel
theorem dX6_copyFrom_68 : decode cX6_copyFrom 68 = .ok (.getfield 38, 3) := by decide +kernel
theorem dX6_copyFrom_71 : decode cX6_copyFrom 71 = .ok (.aload_n 0, 1) := by decide +kernel
theorem dX6_copyFrom_72 : decode cX6_copyFrom 72 = .ok (.getfield 38, 3) := by decide +kernel
theorem dX6_copyFrom_75 : decode cX6_copyFrom 75 = .ok (.invokestatic 41, 3) := by decide +kernel
theorem dX6_copyFrom_78 : decode cX6_copyFrom 78 = .ok (.return_, 1) := by decide +kernel
theorem dX6_begin_0 : decode cX6_begin 0 = .ok (.aload_n 0, 1) := by decide +kernel
theorem dX6_begin_1 : decode cX6_begin 1 = .ok (.iconst 1, 1) := by decide +kernel
theorem dX6_begin_2 : decode cX6_begin 2 = .ok (.putfield 9, 3) := by decide +kernel
theorem dX6_begin_5 : decode cX6_begin 5 = .ok (.aload_n 0, 1) := by decide +kernel
theorem dX6_begin_6 : decode cX6_begin 6 = .ok (.iconst 0, 1) := by decide +kernel
theorem dX6_begin_7 : decode cX6_begin 7 = .ok (.putfield 15, 3) := by decide +kernel
theorem dX6_begin_10 : decode cX6_begin 10 = .ok (.aload_n 0, 1) := by decide +kernel
theorem dX6_begin_11 : decode cX6_begin 11 = .ok (.iload_n 1, 1) := by decide +kernel
theorem dX6_begin_12 : decode cX6_begin 12 = .ok (.putfield 18, 3) := by decide +kernel
theorem dX6_begin_15 : decode cX6_begin 15 = .ok (.aload_n 0, 1) := by decide +kernel
theorem dX6_begin_16 : decode cX6_begin 16 = .ok (.iload_n 2, 1) := by decide +kernel
theorem dX6_begin_17 : decode cX6_begin 17 = .ok (.putfield 22, 3) := by decide +kernel
theorem dX6_begin_20 : decode cX6_begin 20 = .ok (.aload_n 0, 1) := by decide +kernel
theorem dX6_begin_21 : decode cX6_begin 21 = .ok (.iload_n 1, 1) := by decide +kernel
theorem dX6_begin_22 : decode cX6_begin 22 = .ok (.putfield 25, 3) := by decide +kernel
theorem dX6_begin_25 : decode cX6_begin 25 = .ok (.aload_n 0, 1) := by decide +kernel
theorem dX6_begin_26 : decode cX6_begin 26 = .ok (.iload_n 2, 1) := by decide +kernel
theorem dX6_begin_27 : decode cX6_begin 27 = .ok (.putfield 28, 3) := by decide +kernel
theorem dX6_begin_30 : decode cX6_begin 30 = .ok (.aload_n 0, 1) := by decide +kernel
theorem dX6_begin_31 : decode cX6_begin 31 = .ok (.iconst 0, 1) := by decide +kernel
theorem dX6_begin_32 : decode cX6_begin 32 = .ok (.putfield 31, 3) := by decide +kernel
theorem dX6_begin_35 : decode cX6_begin 35 = .ok (.return_, 1) := by decide +kernel
theorem dX6_end_0 : decode cX6_end 0 = .ok (.aload_n 0, 1) := by decide +kernel
theorem dX6_end_1 : decode cX6_end 1 = .ok (.iconst 0, 1) := by decide +kernel
theorem dX6_end_2 : decode cX6_end 2 = .ok (.putfield 9, 3) := by decide +kernel
theorem dX6_end_5 : decode cX6_end 5 = .ok (.aload_n 0, 1) := by decide +kernel
theorem dX6_end_6 : decode cX6_end 6 = .ok (.iconst 0, 1) := by decide +kernel
theorem dX6_end_7 : decode cX6_end 7 = .ok (.putfield 15, 3) := by decide +kernel
theorem dX6_end_10 : decode cX6_end 10 = .ok (.aload_n 0, 1) := by decide +kernel
theorem dX6_end_11 : decode cX6_end 11 = .ok (.iconst 0, 1) := by decide +kernel
theorem dX6_end_12 : decode cX6_end 12 = .ok (.putfield 31, 3) := by decide +kernel
theorem dX6_end_15 : decode cX6_end 15 = .ok (.return_, 1) := by decide +kernel
theorem dX6_add_0 : decode cX6_add 0 = .ok (.aload_n 0, 1) := by decide +kernel
theorem dX6_add_1 : decode cX6_add 1 = .ok (.aload_n 0, 1) := by decide +kernel
theorem dX6_add_2 : decode cX6_add 2 = .ok (.getfield 31, 3) := by decide +kernel
theorem dX6_add_5 : decode cX6_add 5 = .ok (.iload_n 1, 1) := by decide +kernel
theorem dX6_add_6 : decode cX6_add 6 = .ok (.iload_n 2, 1) := by decide +kernel
theorem dX6_add_7 : decode cX6_add 7 = .ok (.invokevirtual 45, 3) := by decide +kernel
theorem dX6_add_10 : decode cX6_add 10 = .ok (.aload_n 0, 1) := by decide +kernel
theorem dX6_add_11 : decode cX6_add 11 = .ok (.dup, 1) := by decide +kernel
theorem dX6_add_12 : decode cX6_add 12 = .ok (.getfield 31, 3) := by decide +kernel
theorem dX6_add_15 : decode cX6_add 15 = .ok (.iconst 1, 1) := by decide +kernel
theorem dX6_add_16 : decode cX6_add 16 = .ok (.iadd, 1) := by decide +kernel
theorem dX6_add_17 : decode cX6_add 17 = .ok (.putfield 31, 3) := by decide +kernel
theorem dX6_add_20 : decode cX6_add 20 = .ok (.aload_n 0, 1) := by decide +kernel
theorem dX6_add_21 : decode cX6_add 21 = .ok (.dup, 1) := by decide +kernel
theorem dX6_add_22 : decode cX6_add 22 = .ok (.getfield 25, 3) := by decide +kernel
theorem dX6_add_25 : decode cX6_add 25 = .ok (.iload_n 1, 1) := by decide +kernel
theorem dX6_add_26 : decode cX6_add 26 = .ok (.invokestatic 49, 3) := by decide +kernel
theorem dX6_add_29 : decode cX6_add 29 = .ok (.iload_n 2, 1) := by decide +kernel
theorem dX6_add_30 : decode cX6_add 30 = .ok (.imul, 1) := by decide +kernel
theorem dX6_add_31 : decode cX6_add 31 = .ok (.iadd, 1) := by decide +kernel
theorem dX6_add_32 : decode cX6_add 32 = .ok (.putfield 25, 3) := by decide +kernel
theorem dX6_add_35 : decode cX6_add 35 = .ok (.aload_n 0, 1) := by decide +kernel
theorem dX6_add_36 : decode cX6_add 36 = .ok (.dup, 1) := by decide +kernel
theorem dX6_add_37 : decode cX6_add 37 = .ok (.getfield 28, 3) := by decide +kernel
theorem dX6_add_40 : decode cX6_add 40 = .ok (.iload_n 1, 1) := by decide +kernel
theorem dX6_add_41 : decode cX6_add 41 = .ok (.invokestatic 53, 3) := by decide +kernel
theorem dX6_add_44 : decode cX6_add 44 = .ok (.iload_n 2, 1) := by decide +kernel
theorem dX6_add_45 : decode cX6_add 45 = .ok (.imul, 1) := by decide +kernel
theorem dX6_add_46 : decode cX6_add 46 = .ok (.iadd, 1) := by decide +kernel
theorem dX6_add_47 : decode cX6_add 47 = .ok (.putfield 28, 3) := by decide +kernel
theorem dX6_add_50 : decode cX6_add 50 = .ok (.aload_n 0, 1) := by decide +kernel
theorem dX6_add_51 : decode cX6_add 51 = .ok (.aload_n 0, 1) := by decide +kernel
theorem dX6_add_52 : decode cX6_add 52 = .ok (.getfield 25, 3) := by decide +kernel
theorem dX6_add_55 : decode cX6_add 55 = .ok (.aload_n 0, 1) := by decide +kernel
theorem dX6_add_56 : decode cX6_add 56 = .ok (.getfield 18, 3) := by decide +kernel
theorem dX6_add_59 : decode cX6_add 59 = .ok (.if_icmp .ne 18, 3) := by decide +kernel
theorem dX6_add_62 : decode cX6_add 62 = .ok (.aload_n 0, 1) := by decide +kernel
theorem dX6_add_63 : decode cX6_add 63 = .ok (.getfield 28, 3) := by decide +kernel
theorem dX6_add_66 : decode cX6_add 66 = .ok (.aload_n 0, 1) := by decide +kernel
theorem dX6_add_67 : decode cX6_add 67 = .ok (.getfield 22, 3) := by decide +kernel
theorem dX6_add_70 : decode cX6_add 70 = .ok (.if_icmp .ne 7, 3) := by decide +kernel
theorem dX6_add_73 : decode cX6_add 73 = .ok (.iconst 1, 1) := by decide +kernel
theorem dX6_add_74 : decode cX6_add 74 = .ok (.goto 4, 3) := by decide +kernel
theorem dX6_add_77 : decode cX6_add 77 = .ok (.iconst 0, 1) := by decide +kernel
theorem dX6_add_78 : decode cX6_add 78 = .ok (.putfield 15, 3) := by decide +kernel
theorem dX6_add_81 : decode cX6_add 81 = .ok (.return_, 1) := by decide +kernel
theorem dX6_replaceByThree_0 : decode cX6_replaceByThree 0 = .ok (.aload_n 0, 1) := by decide +kernel
theorem dX6_replaceByThree_1 : decode cX6_replaceByThree 1 = .ok (.iload_n 1, 1) := by decide +kernel
theorem dX6_replaceByThree_2 : decode cX6_replaceByThree 2 = .ok (.invokevirtual 56, 3) := by decide +kernel
theorem dX6_replaceByThree_5 : decode cX6_replaceByThree 5 = .ok (.istore 4, 2) := by decide +kernel
theorem dX6_replaceByThree_7 : decode cX6_replaceByThree 7 = .ok (.aload_n 0, 1) := by decide +kernel
theorem dX6_replaceByThree_8 : decode cX6_replaceByThree 8 = .ok (.iload_n 1, 1) := by decide +kernel
theorem dX6_replaceByThree_9 : decode cX6_replaceByThree 9 = .ok (.invokevirtual 59, 3) := by decide +kernel
theorem dX6_replaceByThree_12 : decode cX6_replaceByThree 12 = .ok (.istore 5, 2) := by decide +kernel
theorem dX6_replaceByThree_14 : decode cX6_replaceByThree 14 = .ok (.aload_n 0, 1) := by decide +kernel
theorem dX6_replaceByThree_15 : decode cX6_replaceByThree 15 = .ok (.getfield 31, 3) := by decide +kernel
theorem dX6_replaceByThree_18 : decode cX6_replaceByThree 18 = .ok (.iconst 1, 1) := by decide +kernel
theorem dX6_replaceByThree_19 : decode cX6_replaceByThree 19 = .ok (.isub, 1) := by decide +kernel
theorem dX6_replaceByThree_20 : decode cX6_replaceByThree 20 = .ok (.istore 6, 2) := by decide +kernel
theorem dX6_replaceByThree_22 : decode cX6_replaceByThree 22 = .ok (.iload 6, 2) := by decide +kernel
theorem dX6_replaceByThree_24 : decode cX6_replaceByThree 24 = .ok (.iload_n 1, 1) := by decide +kernel
theorem dX6_replaceByThree_25 : decode cX6_replaceByThree 25 = .ok (.if_icmp .le 29, 3) := by decide +kernel
theorem dX6_replaceByThree_28 : decode cX6_replaceByThree 28 = .ok (.aload_n 0, 1) := by decide +kernel
theorem dX6_replaceByThree_29 : decode cX6_replaceByThree 29 = .ok (.iload 6, 2) := by decide +kernel
theorem dX6_replaceByThree_31 : decode cX6_replaceByThree 31 = .ok (.iconst 2, 1) := by decide +kernel
theorem dX6_replaceByThree_32 : decode cX6_replaceByThree 32 = .ok (.iadd, 1) := by decide +kernel
theorem dX6_replaceByThree_33 : decode cX6_replaceByThree 33 = .ok (.aload_n 0, 1) := by decide +kernel
theorem dX6_replaceByThree_34 : decode cX6_replaceByThree 34 = .ok (.iload 6, 2) := by decide +kernel
theorem dX6_replaceByThree_36 : decode cX6_replaceByThree 36 = .ok (.invokevirtual 56, 3) := by decide +kernel
theorem dX6_replaceByThree_39 : decode cX6_replaceByThree 39 = .ok (.aload_n 0, 1) := by decide +kernel
theorem dX6_replaceByThree_40 : decode cX6_replaceByThree 40 = .ok (.iload 6, 2) := by decide +kernel
theorem dX6_replaceByThree_42 : decode cX6_replaceByThree 42 = .ok (.invokevirtual 59, 3) := by decide +kernel
theorem dX6_replaceByThree_45 : decode cX6_replaceByThree 45 = .ok (.invokevirtual 45, 3) := by decide +kernel
theorem dX6_replaceByThree_48 : decode cX6_replaceByThree 48 = .ok (.iinc 6 (-1), 3) := by decide +kernel
theorem dX6_replaceByThree_51 : decode cX6_replaceByThree 51 = .ok (.goto (-29), 3) := by decide +kernel
theorem dX6_replaceByThree_54 : decode cX6_replaceByThree 54 = .ok (.aload_n 0, 1) := by decide +kernel
theorem dX6_replaceByThree_55 : decode cX6_replaceByThree 55 = .ok (.iload_n 1, 1) := by decide +kernel
theorem dX6_replaceByThree_56 : decode cX6_replaceByThree 56 = .ok (.iload_n 2, 1) := by decide +kernel
theorem dX6_replaceByThree_57 : decode cX6_replaceByThree 57 = .ok (.iload_n 3, 1) := by decide +kernel
theorem dX6_replaceByThree_58 : decode cX6_replaceByThree 58 = .ok (.invokevirtual 45, 3) := by decide +kernel
theorem dX6_replaceByThree_61 : decode cX6_replaceByThree 61 = .ok (.aload_n 0, 1) := by decide +kernel
theorem dX6_replaceByThree_62 : decode cX6_replaceByThree 62 = .ok (.iload_n 1, 1) := by decide +kernel
theorem dX6_replaceByThree_63 : decode cX6_replaceByThree 63 = .ok (.iconst 1, 1) := by decide +kernel
theorem dX6_replaceByThree_64 : decode cX6_replaceByThree 64 = .ok (.iadd, 1) := by decide +kernel
theorem dX6_replaceByThree_65 : decode cX6_replaceByThree 65 = .ok (.iload 4, 2) := by decide +kernel
theorem dX6_replaceByThree_67 : decode cX6_replaceByThree 67 = .ok (.iload 5, 2) := by decide +kernel
theorem dX6_replaceByThree_69 : decode cX6_replaceByThree 69 = .ok (.invokevirtual 45, 3) := by decide +kernel
theorem dX6_replaceByThree_72 : decode cX6_replaceByThree 72 = .ok (.aload_n 0, 1) := by decide +kernel
theorem dX6_replaceByThree_73 : decode cX6_replaceByThree 73 = .ok (.iload_n 1, 1) := by decide +kernel
theorem dX6_replaceByThree_74 : decode cX6_replaceByThree 74 = .ok (.iconst 2, 1) := by decide +kernel
theorem dX6_replaceByThree_75 : decode cX6_replaceByThree 75 = .ok (.iadd, 1) := by decide +kernel
theorem dX6_replaceByThree_76 : decode cX6_replaceByThree 76 = .ok (.iload_n 2, 1) := by decide +kernel
theorem dX6_replaceByThree_77 : decode cX6_replaceByThree 77 = .ok (.invokestatic 62, 3) := by decide +kernel
theorem dX6_replaceByThree_80 : decode cX6_replaceByThree 80 = .ok (.iload_n 3, 1) := by decide +kernel
theorem dX6_replaceByThree_81 : decode cX6_replaceByThree 81 = .ok (.invokevirtual 45, 3) := by decide +kernel
theorem dX6_replaceByThree_84 : decode cX6_replaceByThree 84 = .ok (.aload_n 0, 1) := by decide +kernel
theorem dX6_replaceByThree_85 : decode cX6_replaceByThree 85 = .ok (.dup, 1) := by decide +kernel
theorem dX6_replaceByThree_86 : decode cX6_replaceByThree 86 = .ok (.getfield 31, 3) := by decide +kernel
theorem dX6_replaceByThree_89 : decode cX6_replaceByThree 89 = .ok (.iconst 2, 1) := by decide +kernel
theorem dX6_replaceByThree_90 : decode cX6_replaceByThree 90 = .ok (.iadd, 1) := by decide +kernel
theorem dX6_replaceByThree_91 : decode cX6_replaceByThree 91 = .ok (.putfield 31, 3) := by decide +kernel
theorem dX6_replaceByThree_94 : decode cX6_replaceByThree 94 = .ok (.return_, 1) := by decide +kernel
theorem dX6_setChain_0 : decode cX6_setChain 0 = .ok (.aload_n 0, 1) := by decide +kernel
theorem dX6_setChain_1 : decode cX6_setChain 1 = .ok (.getfield 34, 3) := by decide +kernel
theorem dX6_setChain_4 : decode cX6_setChain 4 = .ok (.iload_n 1, 1) := by decide +kernel
theorem dX6_setChain_5 : decode cX6_setChain 5 = .ok (.iload_n 2, 1) := by decide +kernel
theorem dX6_setChain_6 : decode cX6_setChain 6 = .ok (.invokestatic 65, 3) := by decide +kernel
theorem dX6_setChain_9 : decode cX6_setChain 9 = .ok (.aload_n 0, 1) := by decide +kernel
theorem dX6_setChain_10 : decode cX6_setChain 10 = .ok (.getfield 38, 3) := by decide +kernel
theorem dX6_setChain_13 : decode cX6_setChain 13 = .ok (.iload_n 1, 1) := by decide +kernel
theorem dX6_setChain_14 : decode cX6_setChain 14 = .ok (.iload_n 3, 1) := by decide +kernel
theorem dX6_setChain_15 : decode cX6_setChain 15 = .ok (.invokestatic 65, 3) := by decide +kernel
theorem dX6_setChain_18 : decode cX6_setChain 18 = .ok (.return_, 1) := by decide +kernel
theorem dX6_hasChain_0 : decode cX6_hasChain 0 = .ok (.iload_n 1, 1) := by decide +kernel
theorem dX6_hasChain_1 : decode cX6_hasChain 1 = .ok (.ifCond .lt 15, 3) := by decide +kernel
theorem dX6_hasChain_4 : decode cX6_hasChain 4 = .ok (.iload_n 1, 1) := by decide +kernel
theorem dX6_hasChain_5 : decode cX6_hasChain 5 = .ok (.aload_n 0, 1) := by decide +kernel
theorem dX6_hasChain_6 : decode cX6_hasChain 6 = .ok (.getfield 31, 3) := by decide +kernel
theorem dX6_hasChain_9 : decode cX6_hasChain 9 = .ok (.if_icmp .ge 7, 3) := by decide +kernel
theorem dX6_hasChain_12 : decode cX6_hasChain 12 = .ok (.iconst 1, 1) := by decide +kernel
theorem dX6_hasChain_13 : decode cX6_hasChain 13 = .ok (.goto 4, 3) := by decide +kernel
theorem dX6_hasChain_16 : decode cX6_hasChain 16 = .ok (.iconst 0, 1) := by decide +kernel
theorem dX6_hasChain_17 : decode cX6_hasChain 17 = .ok (.ireturn, 1) := by decide +kernel
theorem dX6_directionOf_0 : decode cX6_directionOf 0 = .ok (.aload_n 0, 1) := by decide +kernel
theorem dX6_directionOf_1 : decode cX6_directionOf 1 = .ok (.getfield 34, 3) := by decide +kernel
theorem dX6_directionOf_4 : decode cX6_directionOf 4 = .ok (.iload_n 1, 1) := by decide +kernel
theorem dX6_directionOf_5 : decode cX6_directionOf 5 = .ok (.invokestatic 69, 3) := by decide +kernel
theorem dX6_directionOf_8 : decode cX6_directionOf 8 = .ok (.ireturn, 1) := by decide +kernel
theorem dX6_lengthOf_0 : decode cX6_lengthOf 0 = .ok (.aload_n 0, 1) := by decide +kernel
theorem dX6_lengthOf_1 : decode cX6_lengthOf 1 = .ok (.getfield 38, 3) := by decide +kernel
theorem dX6_lengthOf_4 : decode cX6_lengthOf 4 = .ok (.iload_n 1, 1) := by decide +kernel
theorem dX6_lengthOf_5 : decode cX6_lengthOf 5 = .ok (.invokestatic 69, 3) := by decide +kernel
theorem dX6_lengthOf_8 : decode cX6_lengthOf 8 = .ok (.ireturn, 1) := by decide +kernel
theorem dX6_startX_0 : decode cX6_startX 0 = .ok (.aload_n 0, 1) := by decide +kernel
theorem dX6_startX_1 : decode cX6_startX 1 = .ok (.getfield 18, 3) := by decide +kernel
theorem dX6_startX_4 : decode cX6_startX 4 = .ok (.istore_n 2, 1) := by decide +kernel
theorem dX6_startX_5 : decode cX6_startX 5 = .ok (.iconst 0, 1) := by decide +kernel
theorem dX6_startX_6 : decode cX6_startX 6 = .ok (.istore_n 3, 1) := by decide +kernel
theorem dX6_startX_7 : decode cX6_startX 7 = .ok (.iload_n 3, 1) := by decide +kernel
theorem dX6_startX_8 : decode cX6_startX 8 = .ok (.iload_n 1, 1) := by decide +kernel
theorem dX6_startX_9 : decode cX6_startX 9 = .ok (.if_icmp .ge 34, 3) := by decide +kernel
theorem dX6_startX_12 : decode cX6_startX 12 = .ok (.iload_n 3, 1) := by decide +kernel
theorem dX6_startX_13 : decode cX6_startX 13 = .ok (.aload_n 0, 1) := by decide +kernel
theorem dX6_startX_14 : decode cX6_startX 14 = .ok (.getfield 31, 3) := by decide +kernel
theorem dX6_startX_17 : decode cX6_startX 17 = .ok (.if_icmp .ge 26, 3) := by decide +kernel
theorem dX6_startX_20 : decode cX6_startX 20 = .ok (.iload_n 2, 1) := by decide +kernel
theorem dX6_startX_21 : decode cX6_startX 21 = .ok (.aload_n 0, 1) := by decide +kernel
theorem dX6_startX_22 : decode cX6_startX 22 = .ok (.iload_n 3, 1) := by decide +kernel
theorem dX6_startX_23 : decode cX6_startX 23 = .ok (.invokevirtual 56, 3) := by decide +kernel
theorem dX6_startX_26 : decode cX6_startX 26 = .ok (.invokestatic 49, 3) := by decide +kernel
theorem dX6_startX_29 : decode cX6_startX 29 = .ok (.aload_n 0, 1) := by decide +kernel
theorem dX6_startX_30 : decode cX6_startX 30 = .ok (.iload_n 3, 1) := by decide +kernel
theorem dX6_startX_31 : decode cX6_startX 31 = .ok (.invokevirtual 59, 3) := by decide +kernel
theorem dX6_startX_34 : decode cX6_startX 34 = .ok (.imul, 1) := by decide +kernel
theorem dX6_startX_35 : decode cX6_startX 35 = .ok (.iadd, 1) := by decide +kernel
theorem dX6_startX_36 : decode cX6_startX 36 = .ok (.istore_n 2, 1) := by decide +kernel
theorem dX6_startX_37 : decode cX6_startX 37 = .ok (.iinc 3 1, 3) := by decide +kernel
theorem dX6_startX_40 : decode cX6_startX 40 = .ok (.goto (-33), 3) := by decide +kernel
theorem dX6_startX_43 : decode cX6_startX 43 = .ok (.iload_n 2, 1) := by decide +kernel
theorem dX6_startX_44 : decode cX6_startX 44 = .ok (.ireturn, 1) := by decide +kernel
theorem dX6_startY_0 : decode cX6_startY 0 = .ok (.aload_n 0, 1) := by decide +kernel
theorem dX6_startY_1 : decode cX6_startY 1 = .ok (.getfield 22, 3) := by decide +kernel
theorem dX6_startY_4 : decode cX6_startY 4 = .ok (.istore_n 2, 1) := by decide +kernel
theorem dX6_startY_5 : decode cX6_startY 5 = .ok (.iconst 0, 1) := by decide +kernel
theorem dX6_startY_6 : decode cX6_startY 6 = .ok (.istore_n 3, 1) := by decide +kernel
theorem dX6_startY_7 : decode cX6_startY 7 = .ok (.iload_n 3, 1) := by decide +kernel
theorem dX6_startY_8 : decode cX6_startY 8 = .ok (.iload_n 1, 1) := by decide +kernel
theorem dX6_startY_9 : decode cX6_startY 9 = .ok (.if_icmp .ge 34, 3) := by decide +kernel
theorem dX6_startY_12 : decode cX6_startY 12 = .ok (.iload_n 3, 1) := by decide +kernel
theorem dX6_startY_13 : decode cX6_startY 13 = .ok (.aload_n 0, 1) := by decide +kernel
theorem dX6_startY_14 : decode cX6_startY 14 = .ok (.getfield 31, 3) := by decide +kernel
theorem dX6_startY_17 : decode cX6_startY 17 = .ok (.if_icmp .ge 26, 3) := by decide +kernel
theorem dX6_startY_20 : decode cX6_startY 20 = .ok (.iload_n 2, 1) := by decide +kernel
theorem dX6_startY_21 : decode cX6_startY 21 = .ok (.aload_n 0, 1) := by decide +kernel
theorem dX6_startY_22 : decode cX6_startY 22 = .ok (.iload_n 3, 1) := by decide +kernel
theorem dX6_startY_23 : decode cX6_startY 23 = .ok (.invokevirtual 56, 3) := by decide +kernel
theorem dX6_startY_26 : decode cX6_startY 26 = .ok (.invokestatic 53, 3) := by decide +kernel
theorem dX6_startY_29 : decode cX6_startY 29 = .ok (.aload_n 0, 1) := by decide +kernel
theorem dX6_startY_30 : decode cX6_startY 30 = .ok (.iload_n 3, 1) := by decide +kernel
theorem dX6_startY_31 : decode cX6_startY 31 = .ok (.invokevirtual 59, 3) := by decide +kernel
theorem dX6_startY_34 : decode cX6_startY 34 = .ok (.imul, 1) := by decide +kernel
theorem dX6_startY_35 : decode cX6_startY 35 = .ok (.iadd, 1) := by decide +kernel
theorem dX6_startY_36 : decode cX6_startY 36 = .ok (.istore_n 2, 1) := by decide +kernel
theorem dX6_startY_37 : decode cX6_startY 37 = .ok (.iinc 3 1, 3) := by decide +kernel
theorem dX6_startY_40 : decode cX6_startY 40 = .ok (.goto (-33), 3) := by decide +kernel
theorem dX6_startY_43 : decode cX6_startY 43 = .ok (.iload_n 2, 1) := by decide +kernel
theorem dX6_startY_44 : decode cX6_startY 44 = .ok (.ireturn, 1) := by decide +kernel
theorem dX6_corners_0 : decode cX6_corners 0 = .ok (.aload_n 0, 1) := by decide +kernel
theorem dX6_corners_1 : decode cX6_corners 1 = .ok (.getfield 9, 3) := by decide +kernel
theorem dX6_corners_4 : decode cX6_corners 4 = .ok (.ifCond .ne 5, 3) := by decide +kernel
theorem dX6_corners_7 : decode cX6_corners 7 = .ok (.iconst 0, 1) := by decide +kernel
theorem dX6_corners_8 : decode cX6_corners 8 = .ok (.ireturn, 1) := by decide +kernel
theorem dX6_corners_9 : decode cX6_corners 9 = .ok (.aload_n 0, 1) := by decide +kernel
theorem dX6_corners_10 : decode cX6_corners 10 = .ok (.getfield 15, 3) := by decide +kernel
theorem dX6_corners_13 : decode cX6_corners 13 = .ok (.ifCond .eq 7, 3) := by decide +kernel
theorem dX6_corners_16 : decode cX6_corners 16 = .ok (.iconst 0, 1) := by decide +kernel
theorem dX6_corners_17 : decode cX6_corners 17 = .ok (.goto 4, 3) := by decide +kernel
theorem dX6_corners_20 : decode cX6_corners 20 = .ok (.iconst 1, 1) := by decide +kernel
theorem dX6_corners_21 : decode cX6_corners 21 = .ok (.istore_n 1, 1) := by decide +kernel
theorem dX6_corners_22 : decode cX6_corners 22 = .ok (.iconst 0, 1) := by decide +kernel
theorem dX6_corners_23 : decode cX6_corners 23 = .ok (.istore_n 2, 1) := by decide +kernel
theorem dX6_corners_24 : decode cX6_corners 24 = .ok (.iload_n 2, 1) := by decide +kernel
theorem dX6_corners_25 : decode cX6_corners 25 = .ok (.aload_n 0, 1) := by decide +kernel
theorem dX6_corners_26 : decode cX6_corners 26 = .ok (.getfield 31, 3) := by decide +kernel
theorem dX6_corners_29 : decode cX6_corners 29 = .ok (.if_icmp .ge 17, 3) := by decide +kernel
theorem dX6_corners_32 : decode cX6_corners 32 = .ok (.iload_n 1, 1) := by decide +kernel
theorem dX6_corners_33 : decode cX6_corners 33 = .ok (.aload_n 0, 1) := by decide +kernel
theorem dX6_corners_34 : decode cX6_corners 34 = .ok (.iload_n 2, 1) := by decide +kernel
theorem dX6_corners_35 : decode cX6_corners 35 = .ok (.invokevirtual 59, 3) := by decide +kernel
theorem dX6_corners_38 : decode cX6_corners 38 = .ok (.iadd, 1) := by decide +kernel
theorem dX6_corners_39 : decode cX6_corners 39 = .ok (.istore_n 1, 1) := by decide +kernel
theorem dX6_corners_40 : decode cX6_corners 40 = .ok (.iinc 2 1, 3) := by decide +kernel
theorem dX6_corners_43 : decode cX6_corners 43 = .ok (.goto (-19), 3) := by decide +kernel
theorem dX6_corners_46 : decode cX6_corners 46 = .ok (.iload_n 1, 1) := by decide +kernel
theorem dX6_corners_47 : decode cX6_corners 47 = .ok (.ireturn, 1) := by decide +kernel
theorem dX6_goesOver_0 : decode cX6_goesOver 0 = .ok (.aload_n 0, 1) := by decide +kernel
theorem dX6_goesOver_1 : decode cX6_goesOver 1 = .ok (.getfield 18, 3) := by decide +kernel
theorem dX6_goesOver_4 : decode cX6_goesOver 4 = .ok (.istore 4, 2) := by decide +kernel
theorem dX6_goesOver_6 : decode cX6_goesOver 6 = .ok (.aload_n 0, 1) := by decide +kernel
theorem dX6_goesOver_7 : decode cX6_goesOver 7 = .ok (.getfield 22, 3) := by decide +kernel
theorem dX6_goesOver_10 : decode cX6_goesOver 10 = .ok (.istore 5, 2) := by decide +kernel
theorem dX6_goesOver_12 : decode cX6_goesOver 12 = .ok (.iconst 0, 1) := by decide +kernel
theorem dX6_goesOver_13 : decode cX6_goesOver 13 = .ok (.istore 6, 2) := by decide +kernel
theorem dX6_goesOver_15 : decode cX6_goesOver 15 = .ok (.iload 6, 2) := by decide +kernel
theorem dX6_goesOver_17 : decode cX6_goesOver 17 = .ok (.aload_n 0, 1) := by decide +kernel
theorem dX6_goesOver_18 : decode cX6_goesOver 18 = .ok (.getfield 31, 3) := by decide +kernel
theorem dX6_goesOver_21 : decode cX6_goesOver 21 = .ok (.if_icmp .ge 121, 3) := by decide +kernel
theorem dX6_goesOver_24 : decode cX6_goesOver 24 = .ok (.iload 4, 2) := by decide +kernel
theorem dX6_goesOver_26 : decode cX6_goesOver 26 = .ok (.aload_n 0, 1) := by decide +kernel
theorem dX6_goesOver_27 : decode cX6_goesOver 27 = .ok (.iload 6, 2) := by decide +kernel
theorem dX6_goesOver_29 : decode cX6_goesOver 29 = .ok (.invokevirtual 56, 3) := by decide +kernel
theorem dX6_goesOver_32 : decode cX6_goesOver 32 = .ok (.invokestatic 49, 3) := by decide +kernel
theorem dX6_goesOver_35 : decode cX6_goesOver 35 = .ok (.aload_n 0, 1) := by decide +kernel
theorem dX6_goesOver_36 : decode cX6_goesOver 36 = .ok (.iload 6, 2) := by decide +kernel
theorem dX6_goesOver_38 : decode cX6_goesOver 38 = .ok (.invokevirtual 59, 3) := by decide +kernel
theorem dX6_goesOver_41 : decode cX6_goesOver 41 = .ok (.imul, 1) := by decide +kernel
theorem dX6_goesOver_42 : decode cX6_goesOver 42 = .ok (.iadd, 1) := by decide +kernel
theorem dX6_goesOver_43 : decode cX6_goesOver 43 = .ok (.istore 7, 2) := by decide +kernel
theorem dX6_goesOver_45 : decode cX6_goesOver 45 = .ok (.iload 5, 2) := by decide +kernel
theorem dX6_goesOver_47 : decode cX6_goesOver 47 = .ok (.aload_n 0, 1) := by decide +kernel
theorem dX6_goesOver_48 : decode cX6_goesOver 48 = .ok (.iload 6, 2) := by decide +kernel
theorem dX6_goesOver_50 : decode cX6_goesOver 50 = .ok (.invokevirtual 56, 3) := by decide +kernel
theorem dX6_goesOver_53 : decode cX6_goesOver 53 = .ok (.invokestatic 53, 3) := by decide +kernel
theorem dX6_goesOver_56 : decode cX6_goesOver 56 = .ok (.aload_n 0, 1) := by decide +kernel
theorem dX6_goesOver_57 : decode cX6_goesOver 57 = .ok (.iload 6, 2) := by decide +kernel
theorem dX6_goesOver_59 : decode cX6_goesOver 59 = .ok (.invokevirtual 59, 3) := by decide +kernel
theorem dX6_goesOver_62 : decode cX6_goesOver 62 = .ok (.imul, 1) := by decide +kernel
theorem dX6_goesOver_63 : decode cX6_goesOver 63 = .ok (.iadd, 1) := by decide +kernel
theorem dX6_goesOver_64 : decode cX6_goesOver 64 = .ok (.istore 8, 2) := by decide +kernel
theorem dX6_goesOver_66 : decode cX6_goesOver 66 = .ok (.iload_n 1, 1) := by decide +kernel
theorem dX6_goesOver_67 : decode cX6_goesOver 67 = .ok (.iload 4, 2) := by decide +kernel
theorem dX6_goesOver_69 : decode cX6_goesOver 69 = .ok (.iload 7, 2) := by decide +kernel
theorem dX6_goesOver_71 : decode cX6_goesOver 71 = .ok (.invokestatic 73, 3) := by decide +kernel
theorem dX6_goesOver_74 : decode cX6_goesOver 74 = .ok (.iload 4, 2) := by decide +kernel
theorem dX6_goesOver_76 : decode cX6_goesOver 76 = .ok (.iload 7, 2) := by decide +kernel
theorem dX6_goesOver_78 : decode cX6_goesOver 78 = .ok (.invokestatic 79, 3) := by decide +kernel
theorem dX6_goesOver_81 : decode cX6_goesOver 81 = .ok (.invokestatic 82, 3) := by decide +kernel
theorem dX6_goesOver_84 : decode cX6_goesOver 84 = .ok (.ifCond .eq 28, 3) := by decide +kernel
theorem dX6_goesOver_87 : decode cX6_goesOver 87 = .ok (.iload_n 2, 1) := by decide +kernel
theorem dX6_goesOver_88 : decode cX6_goesOver 88 = .ok (.iload 5, 2) := by decide +kernel
theorem dX6_goesOver_90 : decode cX6_goesOver 90 = .ok (.iload 8, 2) := by decide +kernel
theorem dX6_goesOver_92 : decode cX6_goesOver 92 = .ok (.invokestatic 73, 3) := by decide +kernel
theorem dX6_goesOver_95 : decode cX6_goesOver 95 = .ok (.iload 5, 2) := by decide +kernel
theorem dX6_goesOver_97 : decode cX6_goesOver 97 = .ok (.iload 8, 2) := by decide +kernel
theorem dX6_goesOver_99 : decode cX6_goesOver 99 = .ok (.invokestatic 79, 3) := by decide +kernel
theorem dX6_goesOver_102 : decode cX6_goesOver 102 = .ok (.invokestatic 82, 3) := by decide +kernel
theorem dX6_goesOver_105 : decode cX6_goesOver 105 = .ok (.ifCond .eq 7, 3) := by decide +kernel
theorem dX6_goesOver_108 : decode cX6_goesOver 108 = .ok (.iconst 1, 1) := by decide +kernel
theorem dX6_goesOver_109 : decode cX6_goesOver 109 = .ok (.goto 4, 3) := by decide +kernel
theorem dX6_goesOver_112 : decode cX6_goesOver 112 = .ok (.iconst 0, 1) := by decide +kernel
theorem dX6_goesOver_113 : decode cX6_goesOver 113 = .ok (.istore 9, 2) := by decide +kernel
theorem dX6_goesOver_115 : decode cX6_goesOver 115 = .ok (.iload 9, 2) := by decide +kernel
theorem dX6_goesOver_117 : decode cX6_goesOver 117 = .ok (.ifCond .eq 11, 3) := by decide +kernel
theorem dX6_goesOver_120 : decode cX6_goesOver 120 = .ok (.iload 6, 2) := by decide +kernel
theorem dX6_goesOver_122 : decode cX6_goesOver 122 = .ok (.iload_n 3, 1) := by decide +kernel
theorem dX6_goesOver_123 : decode cX6_goesOver 123 = .ok (.if_icmp .eq 5, 3) := by decide +kernel
theorem dX6_goesOver_126 : decode cX6_goesOver 126 = .ok (.iconst 1, 1) := by decide +kernel
theorem dX6_goesOver_127 : decode cX6_goesOver 127 = .ok (.ireturn, 1) := by decide +kernel
theorem dX6_goesOver_128 : decode cX6_goesOver 128 = .ok (.iload 7, 2) := by decide +kernel
theorem dX6_goesOver_130 : decode cX6_goesOver 130 = .ok (.istore 4, 2) := by decide +kernel
theorem dX6_goesOver_132 : decode cX6_goesOver 132 = .ok (.iload 8, 2) := by decide +kernel
theorem dX6_goesOver_134 : decode cX6_goesOver 134 = .ok (.istore 5, 2) := by decide +kernel
theorem dX6_goesOver_136 : decode cX6_goesOver 136 = .ok (.iinc 6 1, 3) := by decide +kernel
theorem dX6_goesOver_139 : decode cX6_goesOver 139 = .ok (.goto (-124), 3) := by decide +kernel
theorem dX6_goesOver_142 : decode cX6_goesOver 142 = .ok (.iconst 0, 1) := by decide +kernel
theorem dX6_goesOver_143 : decode cX6_goesOver 143 = .ok (.ireturn, 1) := by decide +kernel
theorem dX6_holds_0 : decode cX6_holds 0 = .ok (.aload_n 0, 1) := by decide +kernel
theorem dX6_holds_1 : decode cX6_holds 1 = .ok (.getfield 15, 3) := by decide +kernel
theorem dX6_holds_4 : decode cX6_holds 4 = .ok (.ifCond .ne 5, 3) := by decide +kernel
theorem dX6_holds_7 : decode cX6_holds 7 = .ok (.iconst 0, 1) := by decide +kernel
theorem dX6_holds_8 : decode cX6_holds 8 = .ok (.ireturn, 1) := by decide +kernel
theorem dX6_holds_9 : decode cX6_holds 9 = .ok (.iconst 0, 1) := by decide +kernel
theorem dX6_holds_10 : decode cX6_holds 10 = .ok (.istore_n 3, 1) := by decide +kernel
theorem dX6_holds_11 : decode cX6_holds 11 = .ok (.aload_n 0, 1) := by decide +kernel
theorem dX6_holds_12 : decode cX6_holds 12 = .ok (.getfield 18, 3) := by decide +kernel
theorem dX6_holds_15 : decode cX6_holds 15 = .ok (.istore 4, 2) := by decide +kernel
theorem dX6_holds_17 : decode cX6_holds 17 = .ok (.aload_n 0, 1) := by decide +kernel
theorem dX6_holds_18 : decode cX6_holds 18 = .ok (.getfield 22, 3) := by decide +kernel
theorem dX6_holds_21 : decode cX6_holds 21 = .ok (.istore 5, 2) := by decide +kernel
theorem dX6_holds_23 : decode cX6_holds 23 = .ok (.iconst 0, 1) := by decide +kernel
theorem dX6_holds_24 : decode cX6_holds 24 = .ok (.istore 6, 2) := by decide +kernel
theorem dX6_holds_26 : decode cX6_holds 26 = .ok (.iload 6, 2) := by decide +kernel
theorem dX6_holds_28 : decode cX6_holds 28 = .ok (.aload_n 0, 1) := by decide +kernel
theorem dX6_holds_29 : decode cX6_holds 29 = .ok (.getfield 31, 3) := by decide +kernel
theorem dX6_holds_32 : decode cX6_holds 32 = .ok (.if_icmp .ge 93, 3) := by decide +kernel
theorem dX6_holds_35 : decode cX6_holds 35 = .ok (.iload 5, 2) := by decide +kernel
theorem dX6_holds_37 : decode cX6_holds 37 = .ok (.aload_n 0, 1) := by decide +kernel
theorem dX6_holds_38 : decode cX6_holds 38 = .ok (.iload 6, 2) := by decide +kernel
theorem dX6_holds_40 : decode cX6_holds 40 = .ok (.invokevirtual 56, 3) := by decide +kernel
theorem dX6_holds_43 : decode cX6_holds 43 = .ok (.invokestatic 53, 3) := by decide +kernel
theorem dX6_holds_46 : decode cX6_holds 46 = .ok (.aload_n 0, 1) := by decide +kernel
theorem dX6_holds_47 : decode cX6_holds 47 = .ok (.iload 6, 2) := by decide +kernel
theorem dX6_holds_49 : decode cX6_holds 49 = .ok (.invokevirtual 59, 3) := by decide +kernel
theorem dX6_holds_52 : decode cX6_holds 52 = .ok (.imul, 1) := by decide +kernel
theorem dX6_holds_53 : decode cX6_holds 53 = .ok (.iadd, 1) := by decide +kernel
theorem dX6_holds_54 : decode cX6_holds 54 = .ok (.istore 7, 2) := by decide +kernel
theorem dX6_holds_56 : decode cX6_holds 56 = .ok (.iload 4, 2) := by decide +kernel
theorem dX6_holds_58 : decode cX6_holds 58 = .ok (.iload_n 1, 1) := by decide +kernel
theorem dX6_holds_59 : decode cX6_holds 59 = .ok (.if_icmp .le 35, 3) := by decide +kernel
theorem dX6_holds_62 : decode cX6_holds 62 = .ok (.iload 5, 2) := by decide +kernel
theorem dX6_holds_64 : decode cX6_holds 64 = .ok (.iload 7, 2) := by decide +kernel
theorem dX6_holds_66 : decode cX6_holds 66 = .ok (.invokestatic 73, 3) := by decide +kernel
theorem dX6_holds_69 : decode cX6_holds 69 = .ok (.iload_n 2, 1) := by decide +kernel
theorem dX6_holds_70 : decode cX6_holds 70 = .ok (.if_icmp .gt 24, 3) := by decide +kernel
theorem dX6_holds_73 : decode cX6_holds 73 = .ok (.iload_n 2, 1) := by decide +kernel
theorem dX6_holds_74 : decode cX6_holds 74 = .ok (.iload 5, 2) := by decide +kernel
theorem dX6_holds_76 : decode cX6_holds 76 = .ok (.iload 7, 2) := by decide +kernel
theorem dX6_holds_78 : decode cX6_holds 78 = .ok (.invokestatic 79, 3) := by decide +kernel
theorem dX6_holds_81 : decode cX6_holds 81 = .ok (.if_icmp .ge 13, 3) := by decide +kernel
theorem dX6_holds_84 : decode cX6_holds 84 = .ok (.iload_n 3, 1) := by decide +kernel
theorem dX6_holds_85 : decode cX6_holds 85 = .ok (.ifCond .ne 7, 3) := by decide +kernel
theorem dX6_holds_88 : decode cX6_holds 88 = .ok (.iconst 1, 1) := by decide +kernel
theorem dX6_holds_89 : decode cX6_holds 89 = .ok (.goto 4, 3) := by decide +kernel
theorem dX6_holds_92 : decode cX6_holds 92 = .ok (.iconst 0, 1) := by decide +kernel
theorem dX6_holds_93 : decode cX6_holds 93 = .ok (.istore_n 3, 1) := by decide +kernel
theorem dX6_holds_94 : decode cX6_holds 94 = .ok (.iload 4, 2) := by decide +kernel
theorem dX6_holds_96 : decode cX6_holds 96 = .ok (.aload_n 0, 1) := by decide +kernel
theorem dX6_holds_97 : decode cX6_holds 97 = .ok (.iload 6, 2) := by decide +kernel
theorem dX6_holds_99 : decode cX6_holds 99 = .ok (.invokevirtual 56, 3) := by decide +kernel
theorem dX6_holds_102 : decode cX6_holds 102 = .ok (.invokestatic 49, 3) := by decide +kernel
theorem dX6_holds_105 : decode cX6_holds 105 = .ok (.aload_n 0, 1) := by decide +kernel
theorem dX6_holds_106 : decode cX6_holds 106 = .ok (.iload 6, 2) := by decide +kernel
theorem dX6_holds_108 : decode cX6_holds 108 = .ok (.invokevirtual 59, 3) := by decide +kernel
theorem dX6_holds_111 : decode cX6_holds 111 = .ok (.imul, 1) := by decide +kernel
theorem dX6_holds_112 : decode cX6_holds 112 = .ok (.iadd, 1) := by decide +kernel
theorem dX6_holds_113 : decode cX6_holds 113 = .ok (.istore 4, 2) := by decide +kernel
theorem dX6_holds_115 : decode cX6_holds 115 = .ok (.iload 7, 2) := by decide +kernel
theorem dX6_holds_117 : decode cX6_holds 117 = .ok (.istore 5, 2) := by decide +kernel
theorem dX6_holds_119 : decode cX6_holds 119 = .ok (.iinc 6 1, 3) := by decide +kernel
theorem dX6_holds_122 : decode cX6_holds 122 = .ok (.goto (-96), 3) := by decide +kernel
theorem dX6_holds_125 : decode cX6_holds 125 = .ok (.iload_n 3, 1) := by decide +kernel
theorem dX6_holds_126 : decode cX6_holds 126 = .ok (.ireturn, 1) := by decide +kernel
theorem dX6_areaByChains_0 : decode cX6_areaByChains 0 = .ok (.aload_n 0, 1) := by decide +kernel
theorem dX6_areaByChains_1 : decode cX6_areaByChains 1 = .ok (.getfield 15, 3) := by decide +kernel
theorem dX6_areaByChains_4 : decode cX6_areaByChains 4 = .ok (.ifCond .ne 5, 3) := by decide +kernel
theorem dX6_areaByChains_7 : decode cX6_areaByChains 7 = .ok (.iconst 0, 1) := by decide +kernel
theorem dX6_areaByChains_8 : decode cX6_areaByChains 8 = .ok (.ireturn, 1) := by decide +kernel
theorem dX6_areaByChains_9 : decode cX6_areaByChains 9 = .ok (.iconst 0, 1) := by decide +kernel
theorem dX6_areaByChains_10 : decode cX6_areaByChains 10 = .ok (.istore_n 1, 1) := by decide +kernel
theorem dX6_areaByChains_11 : decode cX6_areaByChains 11 = .ok (.aload_n 0, 1) := by decide +kernel
theorem dX6_areaByChains_12 : decode cX6_areaByChains 12 = .ok (.getfield 22, 3) := by decide +kernel
theorem dX6_areaByChains_15 : decode cX6_areaByChains 15 = .ok (.istore_n 2, 1) := by decide +kernel
theorem dX6_areaByChains_16 : decode cX6_areaByChains 16 = .ok (.iconst 0, 1) := by decide +kernel
theorem dX6_areaByChains_17 : decode cX6_areaByChains 17 = .ok (.istore_n 3, 1) := by decide +kernel
theorem dX6_areaByChains_18 : decode cX6_areaByChains 18 = .ok (.iload_n 3, 1) := by decide +kernel
theorem dX6_areaByChains_19 : decode cX6_areaByChains 19 = .ok (.aload_n 0, 1) := by decide +kernel
theorem dX6_areaByChains_20 : decode cX6_areaByChains 20 = .ok (.getfield 31, 3) := by decide +kernel
theorem dX6_areaByChains_23 : decode cX6_areaByChains 23 = .ok (.if_icmp .ge 45, 3) := by decide +kernel
theorem dX6_areaByChains_26 : decode cX6_areaByChains 26 = .ok (.iload_n 1, 1) := by decide +kernel
theorem dX6_areaByChains_27 : decode cX6_areaByChains 27 = .ok (.aload_n 0, 1) := by decide +kernel
theorem dX6_areaByChains_28 : decode cX6_areaByChains 28 = .ok (.iload_n 3, 1) := by decide +kernel
theorem dX6_areaByChains_29 : decode cX6_areaByChains 29 = .ok (.invokevirtual 56, 3) := by decide +kernel
theorem dX6_areaByChains_32 : decode cX6_areaByChains 32 = .ok (.invokestatic 49, 3) := by decide +kernel
theorem dX6_areaByChains_35 : decode cX6_areaByChains 35 = .ok (.aload_n 0, 1) := by decide +kernel
theorem dX6_areaByChains_36 : decode cX6_areaByChains 36 = .ok (.iload_n 3, 1) := by decide +kernel
theorem dX6_areaByChains_37 : decode cX6_areaByChains 37 = .ok (.invokevirtual 59, 3) := by decide +kernel
theorem dX6_areaByChains_40 : decode cX6_areaByChains 40 = .ok (.imul, 1) := by decide +kernel
theorem dX6_areaByChains_41 : decode cX6_areaByChains 41 = .ok (.iload_n 2, 1) := by decide +kernel
theorem dX6_areaByChains_42 : decode cX6_areaByChains 42 = .ok (.imul, 1) := by decide +kernel
theorem dX6_areaByChains_43 : decode cX6_areaByChains 43 = .ok (.iadd, 1) := by decide +kernel
theorem dX6_areaByChains_44 : decode cX6_areaByChains 44 = .ok (.istore_n 1, 1) := by decide +kernel
theorem dX6_areaByChains_45 : decode cX6_areaByChains 45 = .ok (.iload_n 2, 1) := by decide +kernel
theorem dX6_areaByChains_46 : decode cX6_areaByChains 46 = .ok (.aload_n 0, 1) := by decide +kernel
theorem dX6_areaByChains_47 : decode cX6_areaByChains 47 = .ok (.iload_n 3, 1) := by decide +kernel
theorem dX6_areaByChains_48 : decode cX6_areaByChains 48 = .ok (.invokevirtual 56, 3) := by decide +kernel
theorem dX6_areaByChains_51 : decode cX6_areaByChains 51 = .ok (.invokestatic 53, 3) := by decide +kernel
theorem dX6_areaByChains_54 : decode cX6_areaByChains 54 = .ok (.aload_n 0, 1) := by decide +kernel
theorem dX6_areaByChains_55 : decode cX6_areaByChains 55 = .ok (.iload_n 3, 1) := by decide +kernel
theorem dX6_areaByChains_56 : decode cX6_areaByChains 56 = .ok (.invokevirtual 59, 3) := by decide +kernel
theorem dX6_areaByChains_59 : decode cX6_areaByChains 59 = .ok (.imul, 1) := by decide +kernel
theorem dX6_areaByChains_60 : decode cX6_areaByChains 60 = .ok (.iadd, 1) := by decide +kernel
theorem dX6_areaByChains_61 : decode cX6_areaByChains 61 = .ok (.istore_n 2, 1) := by decide +kernel
theorem dX6_areaByChains_62 : decode cX6_areaByChains 62 = .ok (.iinc 3 1, 3) := by decide +kernel
theorem dX6_areaByChains_65 : decode cX6_areaByChains 65 = .ok (.goto (-47), 3) := by decide +kernel
theorem dX6_areaByChains_68 : decode cX6_areaByChains 68 = .ok (.iload_n 1, 1) := by decide +kernel
theorem dX6_areaByChains_69 : decode cX6_areaByChains 69 = .ok (.invokestatic 86, 3) := by decide +kernel
theorem dX6_areaByChains_72 : decode cX6_areaByChains 72 = .ok (.ireturn, 1) := by decide +kernel
theorem dX6_areaByCells_0 : decode cX6_areaByCells 0 = .ok (.iconst 0, 1) := by decide +kernel
theorem dX6_areaByCells_1 : decode cX6_areaByCells 1 = .ok (.istore_n 1, 1) := by decide +kernel
theorem dX6_areaByCells_2 : decode cX6_areaByCells 2 = .ok (.iconst 0, 1) := by decide +kernel
theorem dX6_areaByCells_3 : decode cX6_areaByCells 3 = .ok (.istore_n 2, 1) := by decide +kernel
theorem dX6_areaByCells_4 : decode cX6_areaByCells 4 = .ok (.iload_n 2, 1) := by decide +kernel
theorem dX6_areaByCells_5 : decode cX6_areaByCells 5 = .ok (.bipush 8, 2) := by decide +kernel
theorem dX6_areaByCells_7 : decode cX6_areaByCells 7 = .ok (.if_icmp .ge 35, 3) := by decide +kernel
theorem dX6_areaByCells_10 : decode cX6_areaByCells 10 = .ok (.iconst 0, 1) := by decide +kernel
theorem dX6_areaByCells_11 : decode cX6_areaByCells 11 = .ok (.istore_n 3, 1) := by decide +kernel
theorem dX6_areaByCells_12 : decode cX6_areaByCells 12 = .ok (.iload_n 3, 1) := by decide +kernel
theorem dX6_areaByCells_13 : decode cX6_areaByCells 13 = .ok (.bipush 12, 2) := by decide +kernel
theorem dX6_areaByCells_15 : decode cX6_areaByCells 15 = .ok (.if_icmp .ge 21, 3) := by decide +kernel
theorem dX6_areaByCells_18 : decode cX6_areaByCells 18 = .ok (.aload_n 0, 1) := by decide +kernel
theorem dX6_areaByCells_19 : decode cX6_areaByCells 19 = .ok (.iload_n 3, 1) := by decide +kernel
theorem dX6_areaByCells_20 : decode cX6_areaByCells 20 = .ok (.iload_n 2, 1) := by decide +kernel
theorem dX6_areaByCells_21 : decode cX6_areaByCells 21 = .ok (.invokevirtual 89, 3) := by decide +kernel
theorem dX6_areaByCells_24 : decode cX6_areaByCells 24 = .ok (.ifCond .eq 6, 3) := by decide +kernel
theorem dX6_areaByCells_27 : decode cX6_areaByCells 27 = .ok (.iinc 1 1, 3) := by decide +kernel
theorem dX6_areaByCells_30 : decode cX6_areaByCells 30 = .ok (.iinc 3 1, 3) := by decide +kernel
theorem dX6_areaByCells_33 : decode cX6_areaByCells 33 = .ok (.goto (-21), 3) := by decide +kernel
theorem dX6_areaByCells_36 : decode cX6_areaByCells 36 = .ok (.iinc 2 1, 3) := by decide +kernel
theorem dX6_areaByCells_39 : decode cX6_areaByCells 39 = .ok (.goto (-35), 3) := by decide +kernel
theorem dX6_areaByCells_42 : decode cX6_areaByCells 42 = .ok (.iload_n 1, 1) := by decide +kernel
theorem dX6_areaByCells_43 : decode cX6_areaByCells 43 = .ok (.ireturn, 1) := by decide +kernel
theorem dX7_init_0 : decode cX7_init 0 = .ok (.aload_n 0, 1) := by decide +kernel
theorem dX7_init_1 : decode cX7_init 1 = .ok (.invokespecial 3, 3) := by decide +kernel
theorem dX7_init_4 : decode cX7_init 4 = .ok (.aload_n 0, 1) := by decide +kernel
theorem dX7_init_5 : decode cX7_init 5 = .ok (.iconst 0, 1) := by decide +kernel
theorem dX7_init_6 : decode cX7_init 6 = .ok (.putfield 9, 3) := by decide +kernel
theorem dX7_init_9 : decode cX7_init 9 = .ok (.aload_n 0, 1) := by decide +kernel
theorem dX7_init_10 : decode cX7_init 10 = .ok (.iconst 0, 1) := by decide +kernel
theorem dX7_init_11 : decode cX7_init 11 = .ok (.putfield 15, 3) := by decide +kernel
theorem dX7_init_14 : decode cX7_init 14 = .ok (.aload_n 0, 1) := by decide +kernel
theorem dX7_init_15 : decode cX7_init 15 = .ok (.iconst 0, 1) := by decide +kernel
theorem dX7_init_16 : decode cX7_init 16 = .ok (.putfield 18, 3) := by decide +kernel
theorem dX7_init_19 : decode cX7_init 19 = .ok (.aload_n 0, 1) := by decide +kernel
theorem dX7_init_20 : decode cX7_init 20 = .ok (.iconst 0, 1) := by decide +kernel
theorem dX7_init_21 : decode cX7_init 21 = .ok (.putfield 21, 3) := by decide +kernel
theorem dX7_init_24 : decode cX7_init 24 = .ok (.return_, 1) := by decide +kernel
theorem dX7_refuse_0 : decode cX7_refuse 0 = .ok (.aload_n 0, 1) := by decide +kernel
theorem dX7_refuse_1 : decode cX7_refuse 1 = .ok (.iload_n 1, 1) := by decide +kernel
theorem dX7_refuse_2 : decode cX7_refuse 2 = .ok (.putfield 9, 3) := by decide +kernel
theorem dX7_refuse_5 : decode cX7_refuse 5 = .ok (.aload_n 0, 1) := by decide +kernel
theorem dX7_refuse_6 : decode cX7_refuse 6 = .ok (.iload_n 2, 1) := by decide +kernel
theorem dX7_refuse_7 : decode cX7_refuse 7 = .ok (.putfield 15, 3) := by decide +kernel
theorem dX7_refuse_10 : decode cX7_refuse 10 = .ok (.aload_n 0, 1) := by decide +kernel
theorem dX7_refuse_11 : decode cX7_refuse 11 = .ok (.iconst 0, 1) := by decide +kernel
theorem dX7_refuse_12 : decode cX7_refuse 12 = .ok (.putfield 18, 3) := by decide +kernel
theorem dX7_refuse_15 : decode cX7_refuse 15 = .ok (.aload_n 0, 1) := by decide +kernel
theorem dX7_refuse_16 : decode cX7_refuse 16 = .ok (.iconst 0, 1) := by decide +kernel
theorem dX7_refuse_17 : decode cX7_refuse 17 = .ok (.putfield 21, 3) := by decide +kernel
theorem dX7_refuse_20 : decode cX7_refuse 20 = .ok (.bipush (-3), 2) := by decide +kernel
theorem dX7_refuse_22 : decode cX7_refuse 22 = .ok (.ireturn, 1) := by decide +kernel
theorem dX7_refuseCommand_0 : decode cX7_refuseCommand 0 = .ok (.aload_n 0, 1) := by decide +kernel
theorem dX7_refuseCommand_1 : decode cX7_refuseCommand 1 = .ok (.iload_n 2, 1) := by decide +kernel
theorem dX7_refuseCommand_2 : decode cX7_refuseCommand 2 = .ok (.ifCond .eq 10, 3) := by decide +kernel
theorem dX7_refuseCommand_5 : decode cX7_refuseCommand 5 = .ok (.aload_n 0, 1) := by decide +kernel
theorem dX7_refuseCommand_6 : decode cX7_refuseCommand 6 = .ok (.getfield 9, 3) := by decide +kernel
theorem dX7_refuseCommand_9 : decode cX7_refuseCommand 9 = .ok (.goto 4, 3) := by decide +kernel
theorem dX7_refuseCommand_12 : decode cX7_refuseCommand 12 = .ok (.iconst 0, 1) := by decide +kernel
theorem dX7_refuseCommand_13 : decode cX7_refuseCommand 13 = .ok (.putfield 18, 3) := by decide +kernel
theorem dX7_refuseCommand_16 : decode cX7_refuseCommand 16 = .ok (.aload_n 0, 1) := by decide +kernel
theorem dX7_refuseCommand_17 : decode cX7_refuseCommand 17 = .ok (.iload_n 2, 1) := by decide +kernel
theorem dX7_refuseCommand_18 : decode cX7_refuseCommand 18 = .ok (.ifCond .eq 10, 3) := by decide +kernel
theorem dX7_refuseCommand_21 : decode cX7_refuseCommand 21 = .ok (.aload_n 0, 1) := by decide +kernel
theorem dX7_refuseCommand_22 : decode cX7_refuseCommand 22 = .ok (.getfield 15, 3) := by decide +kernel
theorem dX7_refuseCommand_25 : decode cX7_refuseCommand 25 = .ok (.goto 4, 3) := by decide +kernel
theorem dX7_refuseCommand_28 : decode cX7_refuseCommand 28 = .ok (.iconst 0, 1) := by decide +kernel
theorem dX7_refuseCommand_29 : decode cX7_refuseCommand 29 = .ok (.putfield 21, 3) := by decide +kernel
theorem dX7_refuseCommand_32 : decode cX7_refuseCommand 32 = .ok (.aload_n 0, 1) := by decide +kernel
theorem dX7_refuseCommand_33 : decode cX7_refuseCommand 33 = .ok (.bipush 11, 2) := by decide +kernel
theorem dX7_refuseCommand_35 : decode cX7_refuseCommand 35 = .ok (.putfield 9, 3) := by decide +kernel
theorem dX7_refuseCommand_38 : decode cX7_refuseCommand 38 = .ok (.aload_n 0, 1) := by decide +kernel
theorem dX7_refuseCommand_39 : decode cX7_refuseCommand 39 = .ok (.iload_n 1, 1) := by decide +kernel
theorem dX7_refuseCommand_40 : decode cX7_refuseCommand 40 = .ok (.putfield 15, 3) := by decide +kernel
theorem dX7_refuseCommand_43 : decode cX7_refuseCommand 43 = .ok (.return_, 1) := by decide +kernel
theorem dX8_init_0 : decode cX8_init 0 = .ok (.aload_n 0, 1) := by decide +kernel
theorem dX8_init_1 : decode cX8_init 1 = .ok (.invokespecial 3, 3) := by decide +kernel
theorem dX8_init_4 : decode cX8_init 4 = .ok (.aload_n 0, 1) := by decide +kernel
theorem dX8_init_5 : decode cX8_init 5 = .ok (.new 9, 3) := by decide +kernel
theorem dX8_init_8 : decode cX8_init 8 = .ok (.dup, 1) := by decide +kernel
theorem dX8_init_9 : decode cX8_init 9 = .ok (.invokespecial 11, 3) := by decide +kernel
theorem dX8_init_12 : decode cX8_init 12 = .ok (.putfield 12, 3) := by decide +kernel
theorem dX8_init_15 : decode cX8_init 15 = .ok (.aload_n 0, 1) := by decide +kernel
theorem dX8_init_16 : decode cX8_init 16 = .ok (.new 18, 3) := by decide +kernel
theorem dX8_init_19 : decode cX8_init 19 = .ok (.dup, 1) := by decide +kernel
theorem dX8_init_20 : decode cX8_init 20 = .ok (.invokespecial 20, 3) := by decide +kernel
theorem dX8_init_23 : decode cX8_init 23 = .ok (.putfield 21, 3) := by decide +kernel
theorem dX8_init_26 : decode cX8_init 26 = .ok (.return_, 1) := by decide +kernel
theorem dX8_letCome_0 : decode cX8_letCome 0 = .ok (.iload_n 1, 1) := by decide +kernel
theorem dX8_letCome_1 : decode cX8_letCome 1 = .ok (.iconst 1, 1) := by decide +kernel
theorem dX8_letCome_2 : decode cX8_letCome 2 = .ok (.bipush 9, 2) := by decide +kernel
theorem dX8_letCome_4 : decode cX8_letCome 4 = .ok (.invokestatic 25, 3) := by decide +kernel
theorem dX8_letCome_7 : decode cX8_letCome 7 = .ok (.ifCond .ne 6, 3) := by decide +kernel
theorem dX8_letCome_10 : decode cX8_letCome 10 = .ok (.bipush (-2), 2) := by decide +kernel
theorem dX8_letCome_12 : decode cX8_letCome 12 = .ok (.ireturn, 1) := by decide +kernel
theorem dX8_letCome_13 : decode cX8_letCome 13 = .ok (.aload_n 0, 1) := by decide +kernel
theorem dX8_letCome_14 : decode cX8_letCome 14 = .ok (.getfield 12, 3) := by decide +kernel
theorem dX8_letCome_17 : decode cX8_letCome 17 = .ok (.getfield 29, 3) := by decide +kernel
theorem dX8_letCome_20 : decode cX8_letCome 20 = .ok (.iconst 5, 1) := by decide +kernel
theorem dX8_letCome_21 : decode cX8_letCome 21 = .ok (.if_icmp .lt 13, 3) := by decide +kernel
theorem dX8_letCome_24 : decode cX8_letCome 24 = .ok (.aload_n 0, 1) := by decide +kernel
theorem dX8_letCome_25 : decode cX8_letCome 25 = .ok (.getfield 21, 3) := by decide +kernel
theorem dX8_letCome_28 : decode cX8_letCome 28 = .ok (.iconst 1, 1) := by decide +kernel
theorem dX8_letCome_29 : decode cX8_letCome 29 = .ok (.iconst 5, 1) := by decide +kernel
theorem dX8_letCome_30 : decode cX8_letCome 30 = .ok (.invokevirtual 33, 3) := by decide +kernel
theorem dX8_letCome_33 : decode cX8_letCome 33 = .ok (.ireturn, 1) := by decide +kernel
theorem dX8_letCome_34 : decode cX8_letCome 34 = .ok (.aload_n 0, 1) := by decide +kernel
theorem dX8_letCome_35 : decode cX8_letCome 35 = .ok (.getfield 12, 3) := by decide +kernel
theorem dX8_letCome_38 : decode cX8_letCome 38 = .ok (.getfield 29, 3) := by decide +kernel
theorem dX8_letCome_41 : decode cX8_letCome 41 = .ok (.istore_n 2, 1) := by decide +kernel
theorem dX8_letCome_42 : decode cX8_letCome 42 = .ok (.aload_n 0, 1) := by decide +kernel
theorem dX8_letCome_43 : decode cX8_letCome 43 = .ok (.getfield 12, 3) := by decide +kernel
theorem dX8_letCome_46 : decode cX8_letCome 46 = .ok (.getfield 37, 3) := by decide +kernel
theorem dX8_letCome_49 : decode cX8_letCome 49 = .ok (.iload_n 2, 1) := by decide +kernel
theorem dX8_letCome_50 : decode cX8_letCome 50 = .ok (.iload_n 1, 1) := by decide +kernel
theorem dX8_letCome_51 : decode cX8_letCome 51 = .ok (.invokestatic 41, 3) := by decide +kernel
theorem dX8_letCome_54 : decode cX8_letCome 54 = .ok (.aload_n 0, 1) := by decide +kernel
theorem dX8_letCome_55 : decode cX8_letCome 55 = .ok (.getfield 12, 3) := by decide +kernel
theorem dX8_letCome_58 : decode cX8_letCome 58 = .ok (.iload_n 2, 1) := by decide +kernel
theorem dX8_letCome_59 : decode cX8_letCome 59 = .ok (.invokevirtual 45, 3) := by decide +kernel
theorem dX8_letCome_62 : decode cX8_letCome 62 = .ok (.invokevirtual 49, 3) := by decide +kernel
theorem dX8_letCome_65 : decode cX8_letCome 65 = .ok (.aload_n 0, 1) := by decide +kernel
theorem dX8_letCome_66 : decode cX8_letCome 66 = .ok (.getfield 12, 3) := by decide +kernel
theorem dX8_letCome_69 : decode cX8_letCome 69 = .ok (.dup, 1) := by decide +kernel
theorem dX8_letCome_70 : decode cX8_letCome 70 = .ok (.getfield 29, 3) := by decide +kernel
theorem dX8_letCome_73 : decode cX8_letCome 73 = .ok (.iconst 1, 1) := by decide +kernel
theorem dX8_letCome_74 : decode cX8_letCome 74 = .ok (.iadd, 1) := by decide +kernel
theorem dX8_letCome_75 : decode cX8_letCome 75 = .ok (.putfield 29, 3) := by decide +kernel
theorem dX8_letCome_78 : decode cX8_letCome 78 = .ok (.iload_n 2, 1) := by decide +kernel
theorem dX8_letCome_79 : decode cX8_letCome 79 = .ok (.ireturn, 1) := by decide +kernel
theorem dX8_setPeg_0 : decode cX8_setPeg 0 = .ok (.iload_n 1, 1) := by decide +kernel
theorem dX8_setPeg_1 : decode cX8_setPeg 1 = .ok (.iload_n 2, 1) := by decide +kernel
theorem dX8_setPeg_2 : decode cX8_setPeg 2 = .ok (.invokestatic 54, 3) := by decide +kernel
theorem dX8_setPeg_5 : decode cX8_setPeg 5 = .ok (.ifCond .ne 5, 3) := by decide +kernel
theorem dX8_setPeg_8 : decode cX8_setPeg 8 = .ok (.iconst (-1), 1) := by decide +kernel
theorem dX8_setPeg_9 : decode cX8_setPeg 9 = .ok (.ireturn, 1) := by decide +kernel
theorem dX8_setPeg_10 : decode cX8_setPeg 10 = .ok (.iload_n 3, 1) := by decide +kernel
theorem dX8_setPeg_11 : decode cX8_setPeg 11 = .ok (.iconst 2, 1) := by decide +kernel
theorem dX8_setPeg_12 : decode cX8_setPeg 12 = .ok (.iconst 5, 1) := by decide +kernel
theorem dX8_setPeg_13 : decode cX8_setPeg 13 = .ok (.invokestatic 25, 3) := by decide +kernel
theorem dX8_setPeg_16 : decode cX8_setPeg 16 = .ok (.ifCond .ne 6, 3) := by decide +kernel
theorem dX8_setPeg_19 : decode cX8_setPeg 19 = .ok (.bipush (-2), 2) := by decide +kernel
theorem dX8_setPeg_21 : decode cX8_setPeg 21 = .ok (.ireturn, 1) := by decide +kernel
theorem dX8_setPeg_22 : decode cX8_setPeg 22 = .ok (.aload_n 0, 1) := by decide +kernel
theorem dX8_setPeg_23 : decode cX8_setPeg 23 = .ok (.getfield 12, 3) := by decide +kernel
theorem dX8_setPeg_26 : decode cX8_setPeg 26 = .ok (.getfield 58, 3) := by decide +kernel
theorem dX8_setPeg_29 : decode cX8_setPeg 29 = .ok (.astore 4, 2) := by decide +kernel
theorem dX8_setPeg_31 : decode cX8_setPeg 31 = .ok (.aload 4, 2) := by decide +kernel
theorem dX8_setPeg_33 : decode cX8_setPeg 33 = .ok (.iload_n 1, 1) := by decide +kernel
theorem dX8_setPeg_34 : decode cX8_setPeg 34 = .ok (.iload_n 2, 1) := by decide +kernel
theorem dX8_setPeg_35 : decode cX8_setPeg 35 = .ok (.invokevirtual 62, 3) := by decide +kernel
theorem dX8_setPeg_38 : decode cX8_setPeg 38 = .ok (.istore 5, 2) := by decide +kernel
theorem dX8_setPeg_40 : decode cX8_setPeg 40 = .ok (.iload 5, 2) := by decide +kernel
theorem dX8_setPeg_42 : decode cX8_setPeg 42 = .ok (.iconst (-1), 1) := by decide +kernel
theorem dX8_setPeg_43 : decode cX8_setPeg 43 = .ok (.if_icmp .eq 14, 3) := by decide +kernel
theorem dX8_setPeg_46 : decode cX8_setPeg 46 = .ok (.aload_n 0, 1) := by decide +kernel
theorem dX8_setPeg_47 : decode cX8_setPeg 47 = .ok (.getfield 21, 3) := by decide +kernel
theorem dX8_setPeg_50 : decode cX8_setPeg 50 = .ok (.iconst 2, 1) := by decide +kernel
theorem dX8_setPeg_51 : decode cX8_setPeg 51 = .ok (.iload 5, 2) := by decide +kernel
theorem dX8_setPeg_53 : decode cX8_setPeg 53 = .ok (.invokevirtual 33, 3) := by decide +kernel
theorem dX8_setPeg_56 : decode cX8_setPeg 56 = .ok (.ireturn, 1) := by decide +kernel
theorem dX8_setPeg_57 : decode cX8_setPeg 57 = .ok (.aload 4, 2) := by decide +kernel
theorem dX8_setPeg_59 : decode cX8_setPeg 59 = .ok (.getfield 67, 3) := by decide +kernel
theorem dX8_setPeg_62 : decode cX8_setPeg 62 = .ok (.bipush 8, 2) := by decide +kernel
theorem dX8_setPeg_64 : decode cX8_setPeg 64 = .ok (.if_icmp .lt 14, 3) := by decide +kernel
theorem dX8_setPeg_67 : decode cX8_setPeg 67 = .ok (.aload_n 0, 1) := by decide +kernel
theorem dX8_setPeg_68 : decode cX8_setPeg 68 = .ok (.getfield 21, 3) := by decide +kernel
theorem dX8_setPeg_71 : decode cX8_setPeg 71 = .ok (.iconst 1, 1) := by decide +kernel
theorem dX8_setPeg_72 : decode cX8_setPeg 72 = .ok (.bipush 8, 2) := by decide +kernel
theorem dX8_setPeg_74 : decode cX8_setPeg 74 = .ok (.invokevirtual 33, 3) := by decide +kernel
theorem dX8_setPeg_77 : decode cX8_setPeg 77 = .ok (.ireturn, 1) := by decide +kernel
theorem dX8_setPeg_78 : decode cX8_setPeg 78 = .ok (.aload 4, 2) := by decide +kernel
theorem dX8_setPeg_80 : decode cX8_setPeg 80 = .ok (.iload_n 1, 1) := by decide +kernel
theorem dX8_setPeg_81 : decode cX8_setPeg 81 = .ok (.iload_n 2, 1) := by decide +kernel
theorem dX8_setPeg_82 : decode cX8_setPeg 82 = .ok (.iload_n 3, 1) := by decide +kernel
theorem dX8_setPeg_83 : decode cX8_setPeg 83 = .ok (.invokevirtual 70, 3) := by decide +kernel
theorem dX8_setPeg_86 : decode cX8_setPeg 86 = .ok (.aload 4, 2) := by decide +kernel
theorem dX8_setPeg_88 : decode cX8_setPeg 88 = .ok (.getfield 67, 3) := by decide +kernel
theorem dX8_setPeg_91 : decode cX8_setPeg 91 = .ok (.iconst 1, 1) := by decide +kernel
theorem dX8_setPeg_92 : decode cX8_setPeg 92 = .ok (.isub, 1) := by decide +kernel
theorem dX8_setPeg_93 : decode cX8_setPeg 93 = .ok (.ireturn, 1) := by decide +kernel
theorem dX8_beginPlot_0 : decode cX8_beginPlot 0 = .ok (.aload_n 0, 1) := by decide +kernel
theorem dX8_beginPlot_1 : decode cX8_beginPlot 1 = .ok (.getfield 12, 3) := by decide +kernel
theorem dX8_beginPlot_4 : decode cX8_beginPlot 4 = .ok (.iload_n 1, 1) := by decide +kernel
theorem dX8_beginPlot_5 : decode cX8_beginPlot 5 = .ok (.invokevirtual 74, 3) := by decide +kernel
theorem dX8_beginPlot_8 : decode cX8_beginPlot 8 = .ok (.ifCond .eq 11, 3) := by decide +kernel
theorem dX8_beginPlot_11 : decode cX8_beginPlot 11 = .ok (.iload_n 2, 1) := by decide +kernel
theorem dX8_beginPlot_12 : decode cX8_beginPlot 12 = .ok (.iload_n 3, 1) := by decide +kernel
theorem dX8_beginPlot_13 : decode cX8_beginPlot 13 = .ok (.invokestatic 54, 3) := by decide +kernel
theorem dX8_beginPlot_16 : decode cX8_beginPlot 16 = .ok (.ifCond .ne 5, 3) := by decide +kernel
theorem dX8_beginPlot_19 : decode cX8_beginPlot 19 = .ok (.iconst (-1), 1) := by decide +kernel
theorem dX8_beginPlot_20 : decode cX8_beginPlot 20 = .ok (.ireturn, 1) := by decide +kernel
theorem dX8_beginPlot_21 : decode cX8_beginPlot 21 = .ok (.aload_n 0, 1) := by decide +kernel
theorem dX8_beginPlot_22 : decode cX8_beginPlot 22 = .ok (.getfield 12, 3) := by decide +kernel
theorem dX8_beginPlot_25 : decode cX8_beginPlot 25 = .ok (.iload_n 1, 1) := by decide +kernel
theorem dX8_beginPlot_26 : decode cX8_beginPlot 26 = .ok (.invokevirtual 45, 3) := by decide +kernel
theorem dX8_beginPlot_29 : decode cX8_beginPlot 29 = .ok (.astore 4, 2) := by decide +kernel
theorem dX8_beginPlot_31 : decode cX8_beginPlot 31 = .ok (.aload 4, 2) := by decide +kernel
theorem dX8_beginPlot_33 : decode cX8_beginPlot 33 = .ok (.getfield 78, 3) := by decide +kernel
theorem dX8_beginPlot_36 : decode cX8_beginPlot 36 = .ok (.ifCond .eq 17, 3) := by decide +kernel
theorem dX8_beginPlot_39 : decode cX8_beginPlot 39 = .ok (.aload_n 0, 1) := by decide +kernel
theorem dX8_beginPlot_40 : decode cX8_beginPlot 40 = .ok (.getfield 21, 3) := by decide +kernel
theorem dX8_beginPlot_43 : decode cX8_beginPlot 43 = .ok (.iconst 3, 1) := by decide +kernel
theorem dX8_beginPlot_44 : decode cX8_beginPlot 44 = .ok (.aload 4, 2) := by decide +kernel
theorem dX8_beginPlot_46 : decode cX8_beginPlot 46 = .ok (.getfield 82, 3) := by decide +kernel
theorem dX8_beginPlot_49 : decode cX8_beginPlot 49 = .ok (.invokevirtual 33, 3) := by decide +kernel
theorem dX8_beginPlot_52 : decode cX8_beginPlot 52 = .ok (.ireturn, 1) := by decide +kernel
theorem dX8_beginPlot_53 : decode cX8_beginPlot 53 = .ok (.aload 4, 2) := by decide +kernel
theorem dX8_beginPlot_55 : decode cX8_beginPlot 55 = .ok (.iload_n 2, 1) := by decide +kernel
theorem dX8_beginPlot_56 : decode cX8_beginPlot 56 = .ok (.iload_n 3, 1) := by decide +kernel
theorem dX8_beginPlot_57 : decode cX8_beginPlot 57 = .ok (.invokevirtual 85, 3) := by decide +kernel
theorem dX8_beginPlot_60 : decode cX8_beginPlot 60 = .ok (.aload_n 0, 1) := by decide +kernel
theorem dX8_beginPlot_61 : decode cX8_beginPlot 61 = .ok (.getfield 12, 3) := by decide +kernel
theorem dX8_beginPlot_64 : decode cX8_beginPlot 64 = .ok (.invokevirtual 89, 3) := by decide +kernel
theorem dX8_beginPlot_67 : decode cX8_beginPlot 67 = .ok (.ireturn, 1) := by decide +kernel
theorem dX8_layChain_0 : decode cX8_layChain 0 = .ok (.aload_n 0, 1) := by decide +kernel
theorem dX8_layChain_1 : decode cX8_layChain 1 = .ok (.getfield 12, 3) := by decide +kernel
theorem dX8_layChain_4 : decode cX8_layChain 4 = .ok (.iload_n 1, 1) := by decide +kernel
theorem dX8_layChain_5 : decode cX8_layChain 5 = .ok (.invokevirtual 74, 3) := by decide +kernel
theorem dX8_layChain_8 : decode cX8_layChain 8 = .ok (.ifCond .ne 5, 3) := by decide +kernel
theorem dX8_layChain_11 : decode cX8_layChain 11 = .ok (.iconst (-1), 1) := by decide +kernel
theorem dX8_layChain_12 : decode cX8_layChain 12 = .ok (.ireturn, 1) := by decide +kernel
theorem dX8_layChain_13 : decode cX8_layChain 13 = .ok (.iload_n 2, 1) := by decide +kernel
theorem dX8_layChain_14 : decode cX8_layChain 14 = .ok (.invokestatic 93, 3) := by decide +kernel
theorem dX8_layChain_17 : decode cX8_layChain 17 = .ok (.istore 4, 2) := by decide +kernel
theorem dX8_layChain_19 : decode cX8_layChain 19 = .ok (.iload 4, 2) := by decide +kernel
theorem dX8_layChain_21 : decode cX8_layChain 21 = .ok (.iconst (-1), 1) := by decide +kernel
theorem dX8_layChain_22 : decode cX8_layChain 22 = .ok (.if_icmp .eq 13, 3) := by decide +kernel
theorem dX8_layChain_25 : decode cX8_layChain 25 = .ok (.iload_n 3, 1) := by decide +kernel
theorem dX8_layChain_26 : decode cX8_layChain 26 = .ok (.iconst 1, 1) := by decide +kernel
theorem dX8_layChain_27 : decode cX8_layChain 27 = .ok (.bipush 9, 2) := by decide +kernel
theorem dX8_layChain_29 : decode cX8_layChain 29 = .ok (.invokestatic 25, 3) := by decide +kernel
theorem dX8_layChain_32 : decode cX8_layChain 32 = .ok (.ifCond .ne 6, 3) := by decide +kernel
theorem dX8_layChain_35 : decode cX8_layChain 35 = .ok (.bipush (-2), 2) := by decide +kernel
theorem dX8_layChain_37 : decode cX8_layChain 37 = .ok (.ireturn, 1) := by decide +kernel
theorem dX8_layChain_38 : decode cX8_layChain 38 = .ok (.aload_n 0, 1) := by decide +kernel
theorem dX8_layChain_39 : decode cX8_layChain 39 = .ok (.getfield 12, 3) := by decide +kernel
theorem dX8_layChain_42 : decode cX8_layChain 42 = .ok (.iload_n 1, 1) := by decide +kernel
theorem dX8_layChain_43 : decode cX8_layChain 43 = .ok (.invokevirtual 45, 3) := by decide +kernel
theorem dX8_layChain_46 : decode cX8_layChain 46 = .ok (.astore 5, 2) := by decide +kernel
theorem dX8_layChain_48 : decode cX8_layChain 48 = .ok (.aload 5, 2) := by decide +kernel
theorem dX8_layChain_50 : decode cX8_layChain 50 = .ok (.getfield 78, 3) := by decide +kernel
theorem dX8_layChain_53 : decode cX8_layChain 53 = .ok (.ifCond .ne 13, 3) := by decide +kernel
theorem dX8_layChain_56 : decode cX8_layChain 56 = .ok (.aload_n 0, 1) := by decide +kernel
theorem dX8_layChain_57 : decode cX8_layChain 57 = .ok (.getfield 21, 3) := by decide +kernel
theorem dX8_layChain_60 : decode cX8_layChain 60 = .ok (.iconst 4, 1) := by decide +kernel
theorem dX8_layChain_61 : decode cX8_layChain 61 = .ok (.iload_n 1, 1) := by decide +kernel
theorem dX8_layChain_62 : decode cX8_layChain 62 = .ok (.invokevirtual 33, 3) := by decide +kernel
theorem dX8_layChain_65 : decode cX8_layChain 65 = .ok (.ireturn, 1) := by decide +kernel
theorem dX8_layChain_66 : decode cX8_layChain 66 = .ok (.aload 5, 2) := by decide +kernel
theorem dX8_layChain_68 : decode cX8_layChain 68 = .ok (.getfield 97, 3) := by decide +kernel
theorem dX8_layChain_71 : decode cX8_layChain 71 = .ok (.ifCond .eq 17, 3) := by decide +kernel
theorem dX8_layChain_74 : decode cX8_layChain 74 = .ok (.aload_n 0, 1) := by decide +kernel
theorem dX8_layChain_75 : decode cX8_layChain 75 = .ok (.getfield 21, 3) := by decide +kernel
theorem dX8_layChain_78 : decode cX8_layChain 78 = .ok (.iconst 5, 1) := by decide +kernel
theorem dX8_layChain_79 : decode cX8_layChain 79 = .ok (.aload 5, 2) := by decide +kernel
theorem dX8_layChain_81 : decode cX8_layChain 81 = .ok (.getfield 82, 3) := by decide +kernel
theorem dX8_layChain_84 : decode cX8_layChain 84 = .ok (.invokevirtual 33, 3) := by decide +kernel
theorem dX8_layChain_87 : decode cX8_layChain 87 = .ok (.ireturn, 1) := by decide +kernel
theorem dX8_layChain_88 : decode cX8_layChain 88 = .ok (.aload 5, 2) := by decide +kernel
theorem dX8_layChain_90 : decode cX8_layChain 90 = .ok (.getfield 82, 3) := by decide +kernel
theorem dX8_layChain_93 : decode cX8_layChain 93 = .ok (.bipush 16, 2) := by decide +kernel
theorem dX8_layChain_95 : decode cX8_layChain 95 = .ok (.if_icmp .lt 14, 3) := by decide +kernel
theorem dX8_layChain_98 : decode cX8_layChain 98 = .ok (.aload_n 0, 1) := by decide +kernel
theorem dX8_layChain_99 : decode cX8_layChain 99 = .ok (.getfield 21, 3) := by decide +kernel
theorem dX8_layChain_102 : decode cX8_layChain 102 = .ok (.iconst 1, 1) := by decide +kernel
theorem dX8_layChain_103 : decode cX8_layChain 103 = .ok (.bipush 16, 2) := by decide +kernel
theorem dX8_layChain_105 : decode cX8_layChain 105 = .ok (.invokevirtual 33, 3) := by decide +kernel
theorem dX8_layChain_108 : decode cX8_layChain 108 = .ok (.ireturn, 1) := by decide +kernel
theorem dX8_layChain_109 : decode cX8_layChain 109 = .ok (.aload_n 0, 1) := by decide +kernel
theorem dX8_layChain_110 : decode cX8_layChain 110 = .ok (.aload 5, 2) := by decide +kernel
theorem dX8_layChain_112 : decode cX8_layChain 112 = .ok (.iload 4, 2) := by decide +kernel
theorem dX8_layChain_114 : decode cX8_layChain 114 = .ok (.iload_n 3, 1) := by decide +kernel
theorem dX8_layChain_115 : decode cX8_layChain 115 = .ok (.invokevirtual 100, 3) := by decide +kernel
theorem dX8_layChain_118 : decode cX8_layChain 118 = .ok (.ifCond .eq 6, 3) := by decide +kernel
theorem dX8_layChain_121 : decode cX8_layChain 121 = .ok (.bipush (-3), 2) := by decide +kernel
theorem dX8_layChain_123 : decode cX8_layChain 123 = .ok (.ireturn, 1) := by decide +kernel
theorem dX8_layChain_124 : decode cX8_layChain 124 = .ok (.aload 5, 2) := by decide +kernel
theorem dX8_layChain_126 : decode cX8_layChain 126 = .ok (.iload 4, 2) := by decide +kernel
theorem dX8_layChain_128 : decode cX8_layChain 128 = .ok (.iload_n 3, 1) := by decide +kernel
theorem dX8_layChain_129 : decode cX8_layChain 129 = .ok (.invokevirtual 104, 3) := by decide +kernel
theorem dX8_layChain_132 : decode cX8_layChain 132 = .ok (.aload 5, 2) := by decide +kernel
theorem dX8_layChain_134 : decode cX8_layChain 134 = .ok (.getfield 106, 3) := by decide +kernel
theorem dX8_layChain_137 : decode cX8_layChain 137 = .ok (.aload 5, 2) := by decide +kernel
theorem dX8_layChain_139 : decode cX8_layChain 139 = .ok (.getfield 109, 3) := by decide +kernel
theorem dX8_layChain_142 : decode cX8_layChain 142 = .ok (.isub, 1) := by decide +kernel
theorem dX8_layChain_143 : decode cX8_layChain 143 = .ok (.invokestatic 112, 3) := by decide +kernel
theorem dX8_layChain_146 : decode cX8_layChain 146 = .ok (.aload 5, 2) := by decide +kernel
theorem dX8_layChain_148 : decode cX8_layChain 148 = .ok (.getfield 117, 3) := by decide +kernel
theorem dX8_layChain_151 : decode cX8_layChain 151 = .ok (.aload 5, 2) := by decide +kernel
theorem dX8_layChain_153 : decode cX8_layChain 153 = .ok (.getfield 120, 3) := by decide +kernel
theorem dX8_layChain_156 : decode cX8_layChain 156 = .ok (.isub, 1) := by decide +kernel
theorem dX8_layChain_157 : decode cX8_layChain 157 = .ok (.invokestatic 112, 3) := by decide +kernel
theorem dX8_layChain_160 : decode cX8_layChain 160 = .ok (.iadd, 1) := by decide +kernel
theorem dX8_layChain_161 : decode cX8_layChain 161 = .ok (.ireturn, 1) := by decide +kernel
theorem dX8_isLayingBarred_0 : decode cX8_isLayingBarred 0 = .ok (.aload_n 1, 1) := by decide +kernel
theorem dX8_isLayingBarred_1 : decode cX8_isLayingBarred 1 = .ok (.getfield 106, 3) := by decide +kernel
theorem dX8_isLayingBarred_4 : decode cX8_isLayingBarred 4 = .ok (.istore 4, 2) := by decide +kernel
theorem dX8_isLayingBarred_6 : decode cX8_isLayingBarred 6 = .ok (.aload_n 1, 1) := by decide +kernel
theorem dX8_isLayingBarred_7 : decode cX8_isLayingBarred 7 = .ok (.getfield 117, 3) := by decide +kernel
theorem dX8_isLayingBarred_10 : decode cX8_isLayingBarred 10 = .ok (.istore 5, 2) := by decide +kernel
theorem dX8_isLayingBarred_12 : decode cX8_isLayingBarred 12 = .ok (.iconst 0, 1) := by decide +kernel
theorem dX8_isLayingBarred_13 : decode cX8_isLayingBarred 13 = .ok (.istore 6, 2) := by decide +kernel
theorem dX8_isLayingBarred_15 : decode cX8_isLayingBarred 15 = .ok (.iload 6, 2) := by decide +kernel
theorem dX8_isLayingBarred_17 : decode cX8_isLayingBarred 17 = .ok (.iload_n 3, 1) := by decide +kernel
theorem dX8_isLayingBarred_18 : decode cX8_isLayingBarred 18 = .ok (.if_icmp .ge 117, 3) := by decide +kernel
theorem dX8_isLayingBarred_21 : decode cX8_isLayingBarred 21 = .ok (.iload 4, 2) := by decide +kernel
theorem dX8_isLayingBarred_23 : decode cX8_isLayingBarred 23 = .ok (.iload_n 2, 1) := by decide +kernel
theorem dX8_isLayingBarred_24 : decode cX8_isLayingBarred 24 = .ok (.invokestatic 123, 3) := by decide +kernel
theorem dX8_isLayingBarred_27 : decode cX8_isLayingBarred 27 = .ok (.iadd, 1) := by decide +kernel
theorem dX8_isLayingBarred_28 : decode cX8_isLayingBarred 28 = .ok (.istore 4, 2) := by decide +kernel
theorem dX8_isLayingBarred_30 : decode cX8_isLayingBarred 30 = .ok (.iload 5, 2) := by decide +kernel
theorem dX8_isLayingBarred_32 : decode cX8_isLayingBarred 32 = .ok (.iload_n 2, 1) := by decide +kernel
theorem dX8_isLayingBarred_33 : decode cX8_isLayingBarred 33 = .ok (.invokestatic 126, 3) := by decide +kernel
theorem dX8_isLayingBarred_36 : decode cX8_isLayingBarred 36 = .ok (.iadd, 1) := by decide +kernel
theorem dX8_isLayingBarred_37 : decode cX8_isLayingBarred 37 = .ok (.istore 5, 2) := by decide +kernel
theorem dX8_isLayingBarred_39 : decode cX8_isLayingBarred 39 = .ok (.iload 6, 2) := by decide +kernel
theorem dX8_isLayingBarred_41 : decode cX8_isLayingBarred 41 = .ok (.iload_n 3, 1) := by decide +kernel
theorem dX8_isLayingBarred_42 : decode cX8_isLayingBarred 42 = .ok (.iconst 1, 1) := by decide +kernel
theorem dX8_isLayingBarred_43 : decode cX8_isLayingBarred 43 = .ok (.isub, 1) := by decide +kernel
theorem dX8_isLayingBarred_44 : decode cX8_isLayingBarred 44 = .ok (.if_icmp .ne 15, 3) := by decide +kernel
theorem dX8_isLayingBarred_47 : decode cX8_isLayingBarred 47 = .ok (.aload_n 1, 1) := by decide +kernel
theorem dX8_isLayingBarred_48 : decode cX8_isLayingBarred 48 = .ok (.getfield 82, 3) := by decide +kernel
theorem dX8_isLayingBarred_51 : decode cX8_isLayingBarred 51 = .ok (.iconst 3, 1) := by decide +kernel
theorem dX8_isLayingBarred_52 : decode cX8_isLayingBarred 52 = .ok (.if_icmp .lt 7, 3) := by decide +kernel
theorem dX8_isLayingBarred_55 : decode cX8_isLayingBarred 55 = .ok (.iconst 1, 1) := by decide +kernel
theorem dX8_isLayingBarred_56 : decode cX8_isLayingBarred 56 = .ok (.goto 4, 3) := by decide +kernel
theorem dX8_isLayingBarred_59 : decode cX8_isLayingBarred 59 = .ok (.iconst 0, 1) := by decide +kernel
theorem dX8_isLayingBarred_60 : decode cX8_isLayingBarred 60 = .ok (.istore 7, 2) := by decide +kernel
theorem dX8_isLayingBarred_62 : decode cX8_isLayingBarred 62 = .ok (.iload 7, 2) := by decide +kernel
theorem dX8_isLayingBarred_64 : decode cX8_isLayingBarred 64 = .ok (.ifCond .eq 25, 3) := by decide +kernel
theorem dX8_isLayingBarred_67 : decode cX8_isLayingBarred 67 = .ok (.iload 4, 2) := by decide +kernel
theorem dX8_isLayingBarred_69 : decode cX8_isLayingBarred 69 = .ok (.aload_n 1, 1) := by decide +kernel
theorem dX8_isLayingBarred_70 : decode cX8_isLayingBarred 70 = .ok (.getfield 109, 3) := by decide +kernel
theorem dX8_isLayingBarred_73 : decode cX8_isLayingBarred 73 = .ok (.if_icmp .ne 16, 3) := by decide +kernel
theorem dX8_isLayingBarred_76 : decode cX8_isLayingBarred 76 = .ok (.iload 5, 2) := by decide +kernel
theorem dX8_isLayingBarred_78 : decode cX8_isLayingBarred 78 = .ok (.aload_n 1, 1) := by decide +kernel
theorem dX8_isLayingBarred_79 : decode cX8_isLayingBarred 79 = .ok (.getfield 120, 3) := by decide +kernel
theorem dX8_isLayingBarred_82 : decode cX8_isLayingBarred 82 = .ok (.if_icmp .ne 7, 3) := by decide +kernel
theorem dX8_isLayingBarred_85 : decode cX8_isLayingBarred 85 = .ok (.iconst 1, 1) := by decide +kernel
theorem dX8_isLayingBarred_86 : decode cX8_isLayingBarred 86 = .ok (.goto 4, 3) := by decide +kernel
theorem dX8_isLayingBarred_89 : decode cX8_isLayingBarred 89 = .ok (.iconst 0, 1) := by decide +kernel
theorem dX8_isLayingBarred_90 : decode cX8_isLayingBarred 90 = .ok (.istore 8, 2) := by decide +kernel
theorem dX8_isLayingBarred_92 : decode cX8_isLayingBarred 92 = .ok (.aload_n 0, 1) := by decide +kernel
theorem dX8_isLayingBarred_93 : decode cX8_isLayingBarred 93 = .ok (.iload 4, 2) := by decide +kernel
theorem dX8_isLayingBarred_95 : decode cX8_isLayingBarred 95 = .ok (.iload 5, 2) := by decide +kernel
theorem dX8_isLayingBarred_97 : decode cX8_isLayingBarred 97 = .ok (.iload 6, 2) := by decide +kernel
theorem dX8_isLayingBarred_99 : decode cX8_isLayingBarred 99 = .ok (.iload 8, 2) := by decide +kernel
theorem dX8_isLayingBarred_101 : decode cX8_isLayingBarred 101 = .ok (.ifCond .ne 19, 3) := by decide +kernel
theorem dX8_isLayingBarred_104 : decode cX8_isLayingBarred 104 = .ok (.aload_n 1, 1) := by decide +kernel
theorem dX8_isLayingBarred_105 : decode cX8_isLayingBarred 105 = .ok (.iload 4, 2) := by decide +kernel
theorem dX8_isLayingBarred_107 : decode cX8_isLayingBarred 107 = .ok (.iload 5, 2) := by decide +kernel
theorem dX8_isLayingBarred_109 : decode cX8_isLayingBarred 109 = .ok (.iconst (-1), 1) := by decide +kernel
theorem dX8_isLayingBarred_110 : decode cX8_isLayingBarred 110 = .ok (.invokevirtual 129, 3) := by decide +kernel
theorem dX8_isLayingBarred_113 : decode cX8_isLayingBarred 113 = .ok (.ifCond .eq 7, 3) := by decide +kernel
theorem dX8_isLayingBarred_116 : decode cX8_isLayingBarred 116 = .ok (.iconst 1, 1) := by decide +kernel
theorem dX8_isLayingBarred_117 : decode cX8_isLayingBarred 117 = .ok (.goto 4, 3) := by decide +kernel
theorem dX8_isLayingBarred_120 : decode cX8_isLayingBarred 120 = .ok (.iconst 0, 1) := by decide +kernel
theorem dX8_isLayingBarred_121 : decode cX8_isLayingBarred 121 = .ok (.invokevirtual 132, 3) := by decide +kernel
theorem dX8_isLayingBarred_124 : decode cX8_isLayingBarred 124 = .ok (.ifCond .eq 5, 3) := by decide +kernel
theorem dX8_isLayingBarred_127 : decode cX8_isLayingBarred 127 = .ok (.iconst 1, 1) := by decide +kernel
theorem dX8_isLayingBarred_128 : decode cX8_isLayingBarred 128 = .ok (.ireturn, 1) := by decide +kernel
theorem dX8_isLayingBarred_129 : decode cX8_isLayingBarred 129 = .ok (.iinc 6 1, 3) := by decide +kernel
theorem dX8_isLayingBarred_132 : decode cX8_isLayingBarred 132 = .ok (.goto (-117), 3) := by decide +kernel
theorem dX8_isLayingBarred_135 : decode cX8_isLayingBarred 135 = .ok (.iconst 0, 1) := by decide +kernel
theorem dX8_isLayingBarred_136 : decode cX8_isLayingBarred 136 = .ok (.ireturn, 1) := by decide +kernel
theorem dX8_bendChain_0 : decode cX8_bendChain 0 = .ok (.aload_n 0, 1) := by decide +kernel
theorem dX8_bendChain_1 : decode cX8_bendChain 1 = .ok (.getfield 12, 3) := by decide +kernel
theorem dX8_bendChain_4 : decode cX8_bendChain 4 = .ok (.iload_n 1, 1) := by decide +kernel
theorem dX8_bendChain_5 : decode cX8_bendChain 5 = .ok (.invokevirtual 45, 3) := by decide +kernel
theorem dX8_bendChain_8 : decode cX8_bendChain 8 = .ok (.astore 4, 2) := by decide +kernel
theorem dX8_bendChain_10 : decode cX8_bendChain 10 = .ok (.aload_n 0, 1) := by decide +kernel
theorem dX8_bendChain_11 : decode cX8_bendChain 11 = .ok (.getfield 12, 3) := by decide +kernel
theorem dX8_bendChain_14 : decode cX8_bendChain 14 = .ok (.iload_n 1, 1) := by decide +kernel
theorem dX8_bendChain_15 : decode cX8_bendChain 15 = .ok (.invokevirtual 74, 3) := by decide +kernel
theorem dX8_bendChain_18 : decode cX8_bendChain 18 = .ok (.ifCond .eq 12, 3) := by decide +kernel
theorem dX8_bendChain_21 : decode cX8_bendChain 21 = .ok (.aload 4, 2) := by decide +kernel
theorem dX8_bendChain_23 : decode cX8_bendChain 23 = .ok (.iload_n 2, 1) := by decide +kernel
theorem dX8_bendChain_24 : decode cX8_bendChain 24 = .ok (.invokevirtual 136, 3) := by decide +kernel
theorem dX8_bendChain_27 : decode cX8_bendChain 27 = .ok (.ifCond .ne 5, 3) := by decide +kernel
theorem dX8_bendChain_30 : decode cX8_bendChain 30 = .ok (.iconst (-1), 1) := by decide +kernel
theorem dX8_bendChain_31 : decode cX8_bendChain 31 = .ok (.ireturn, 1) := by decide +kernel
theorem dX8_bendChain_32 : decode cX8_bendChain 32 = .ok (.iload_n 3, 1) := by decide +kernel
theorem dX8_bendChain_33 : decode cX8_bendChain 33 = .ok (.ifCond .eq 14, 3) := by decide +kernel
theorem dX8_bendChain_36 : decode cX8_bendChain 36 = .ok (.iload_n 3, 1) := by decide +kernel
theorem dX8_bendChain_37 : decode cX8_bendChain 37 = .ok (.bipush (-9), 2) := by decide +kernel
theorem dX8_bendChain_39 : decode cX8_bendChain 39 = .ok (.bipush 9, 2) := by decide +kernel
theorem dX8_bendChain_41 : decode cX8_bendChain 41 = .ok (.invokestatic 25, 3) := by decide +kernel
theorem dX8_bendChain_44 : decode cX8_bendChain 44 = .ok (.ifCond .ne 6, 3) := by decide +kernel
theorem dX8_bendChain_47 : decode cX8_bendChain 47 = .ok (.bipush (-2), 2) := by decide +kernel
theorem dX8_bendChain_49 : decode cX8_bendChain 49 = .ok (.ireturn, 1) := by decide +kernel
theorem dX8_bendChain_50 : decode cX8_bendChain 50 = .ok (.aload 4, 2) := by decide +kernel
theorem dX8_bendChain_52 : decode cX8_bendChain 52 = .ok (.getfield 97, 3) := by decide +kernel
theorem dX8_bendChain_55 : decode cX8_bendChain 55 = .ok (.ifCond .ne 18, 3) := by decide +kernel
theorem dX8_bendChain_58 : decode cX8_bendChain 58 = .ok (.aload_n 0, 1) := by decide +kernel
theorem dX8_bendChain_59 : decode cX8_bendChain 59 = .ok (.getfield 21, 3) := by decide +kernel
theorem dX8_bendChain_62 : decode cX8_bendChain 62 = .ok (.bipush 6, 2) := by decide +kernel
theorem dX8_bendChain_64 : decode cX8_bendChain 64 = .ok (.aload 4, 2) := by decide +kernel
theorem dX8_bendChain_66 : decode cX8_bendChain 66 = .ok (.getfield 82, 3) := by decide +kernel
theorem dX8_bendChain_69 : decode cX8_bendChain 69 = .ok (.invokevirtual 33, 3) := by decide +kernel
theorem dX8_bendChain_72 : decode cX8_bendChain 72 = .ok (.ireturn, 1) := by decide +kernel
theorem dX8_bendChain_73 : decode cX8_bendChain 73 = .ok (.aload 4, 2) := by decide +kernel
theorem dX8_bendChain_75 : decode cX8_bendChain 75 = .ok (.getfield 82, 3) := by decide +kernel
theorem dX8_bendChain_78 : decode cX8_bendChain 78 = .ok (.iconst 2, 1) := by decide +kernel
theorem dX8_bendChain_79 : decode cX8_bendChain 79 = .ok (.iadd, 1) := by decide +kernel
theorem dX8_bendChain_80 : decode cX8_bendChain 80 = .ok (.bipush 16, 2) := by decide +kernel
theorem dX8_bendChain_82 : decode cX8_bendChain 82 = .ok (.if_icmp .le 14, 3) := by decide +kernel
theorem dX8_bendChain_85 : decode cX8_bendChain 85 = .ok (.aload_n 0, 1) := by decide +kernel
theorem dX8_bendChain_86 : decode cX8_bendChain 86 = .ok (.getfield 21, 3) := by decide +kernel
theorem dX8_bendChain_89 : decode cX8_bendChain 89 = .ok (.iconst 1, 1) := by decide +kernel
theorem dX8_bendChain_90 : decode cX8_bendChain 90 = .ok (.bipush 16, 2) := by decide +kernel
theorem dX8_bendChain_92 : decode cX8_bendChain 92 = .ok (.invokevirtual 33, 3) := by decide +kernel
theorem dX8_bendChain_95 : decode cX8_bendChain 95 = .ok (.ireturn, 1) := by decide +kernel
theorem dX8_bendChain_96 : decode cX8_bendChain 96 = .ok (.aload 4, 2) := by decide +kernel
theorem dX8_bendChain_98 : decode cX8_bendChain 98 = .ok (.iload_n 2, 1) := by decide +kernel
theorem dX8_bendChain_99 : decode cX8_bendChain 99 = .ok (.invokevirtual 139, 3) := by decide +kernel
theorem dX8_bendChain_102 : decode cX8_bendChain 102 = .ok (.invokestatic 142, 3) := by decide +kernel
theorem dX8_bendChain_105 : decode cX8_bendChain 105 = .ok (.istore 5, 2) := by decide +kernel
theorem dX8_bendChain_107 : decode cX8_bendChain 107 = .ok (.iload_n 3, 1) := by decide +kernel
theorem dX8_bendChain_108 : decode cX8_bendChain 108 = .ok (.ifCond .le 8, 3) := by decide +kernel
theorem dX8_bendChain_111 : decode cX8_bendChain 111 = .ok (.iload 5, 2) := by decide +kernel
theorem dX8_bendChain_113 : decode cX8_bendChain 113 = .ok (.goto 8, 3) := by decide +kernel
theorem dX8_bendChain_116 : decode cX8_bendChain 116 = .ok (.iload 5, 2) := by decide +kernel
theorem dX8_bendChain_118 : decode cX8_bendChain 118 = .ok (.invokestatic 145, 3) := by decide +kernel
theorem dX8_bendChain_121 : decode cX8_bendChain 121 = .ok (.istore 6, 2) := by decide +kernel
theorem dX8_bendChain_123 : decode cX8_bendChain 123 = .ok (.aload_n 0, 1) := by decide +kernel
theorem dX8_bendChain_124 : decode cX8_bendChain 124 = .ok (.aload 4, 2) := by decide +kernel
theorem dX8_bendChain_126 : decode cX8_bendChain 126 = .ok (.iload_n 2, 1) := by decide +kernel
theorem dX8_bendChain_127 : decode cX8_bendChain 127 = .ok (.iload 6, 2) := by decide +kernel
theorem dX8_bendChain_129 : decode cX8_bendChain 129 = .ok (.iload_n 3, 1) := by decide +kernel
theorem dX8_bendChain_130 : decode cX8_bendChain 130 = .ok (.invokestatic 112, 3) := by decide +kernel
theorem dX8_bendChain_133 : decode cX8_bendChain 133 = .ok (.invokevirtual 148, 3) := by decide +kernel
theorem dX8_bendChain_136 : decode cX8_bendChain 136 = .ok (.ifCond .eq 6, 3) := by decide +kernel
theorem dX8_bendChain_139 : decode cX8_bendChain 139 = .ok (.bipush (-3), 2) := by decide +kernel
theorem dX8_bendChain_141 : decode cX8_bendChain 141 = .ok (.ireturn, 1) := by decide +kernel
theorem dX8_bendChain_142 : decode cX8_bendChain 142 = .ok (.aload 4, 2) := by decide +kernel
theorem dX8_bendChain_144 : decode cX8_bendChain 144 = .ok (.iload_n 2, 1) := by decide +kernel
theorem dX8_bendChain_145 : decode cX8_bendChain 145 = .ok (.iload 6, 2) := by decide +kernel
theorem dX8_bendChain_147 : decode cX8_bendChain 147 = .ok (.iload_n 3, 1) := by decide +kernel
theorem dX8_bendChain_148 : decode cX8_bendChain 148 = .ok (.invokestatic 112, 3) := by decide +kernel
theorem dX8_bendChain_151 : decode cX8_bendChain 151 = .ok (.invokevirtual 152, 3) := by decide +kernel
theorem dX8_bendChain_154 : decode cX8_bendChain 154 = .ok (.aload_n 0, 1) := by decide +kernel
theorem dX8_bendChain_155 : decode cX8_bendChain 155 = .ok (.getfield 12, 3) := by decide +kernel
theorem dX8_bendChain_158 : decode cX8_bendChain 158 = .ok (.dup, 1) := by decide +kernel
theorem dX8_bendChain_159 : decode cX8_bendChain 159 = .ok (.getfield 155, 3) := by decide +kernel
theorem dX8_bendChain_162 : decode cX8_bendChain 162 = .ok (.iconst 1, 1) := by decide +kernel
theorem dX8_bendChain_163 : decode cX8_bendChain 163 = .ok (.iadd, 1) := by decide +kernel
theorem dX8_bendChain_164 : decode cX8_bendChain 164 = .ok (.putfield 155, 3) := by decide +kernel
theorem dX8_bendChain_167 : decode cX8_bendChain 167 = .ok (.aload 4, 2) := by decide +kernel
theorem dX8_bendChain_169 : decode cX8_bendChain 169 = .ok (.invokevirtual 158, 3) := by decide +kernel
theorem dX8_bendChain_172 : decode cX8_bendChain 172 = .ok (.ireturn, 1) := by decide +kernel
theorem dX8_isBendingBarred_0 : decode cX8_isBendingBarred 0 = .ok (.aload_n 1, 1) := by decide +kernel
theorem dX8_isBendingBarred_1 : decode cX8_isBendingBarred 1 = .ok (.iload_n 2, 1) := by decide +kernel
theorem dX8_isBendingBarred_2 : decode cX8_isBendingBarred 2 = .ok (.invokevirtual 161, 3) := by decide +kernel
theorem dX8_isBendingBarred_5 : decode cX8_isBendingBarred 5 = .ok (.istore 5, 2) := by decide +kernel
theorem dX8_isBendingBarred_7 : decode cX8_isBendingBarred 7 = .ok (.aload_n 1, 1) := by decide +kernel
theorem dX8_isBendingBarred_8 : decode cX8_isBendingBarred 8 = .ok (.iload_n 2, 1) := by decide +kernel
theorem dX8_isBendingBarred_9 : decode cX8_isBendingBarred 9 = .ok (.invokevirtual 164, 3) := by decide +kernel
theorem dX8_isBendingBarred_12 : decode cX8_isBendingBarred 12 = .ok (.istore 6, 2) := by decide +kernel
theorem dX8_isBendingBarred_14 : decode cX8_isBendingBarred 14 = .ok (.iload 4, 2) := by decide +kernel
theorem dX8_isBendingBarred_16 : decode cX8_isBendingBarred 16 = .ok (.aload_n 1, 1) := by decide +kernel
theorem dX8_isBendingBarred_17 : decode cX8_isBendingBarred 17 = .ok (.iload_n 2, 1) := by decide +kernel
theorem dX8_isBendingBarred_18 : decode cX8_isBendingBarred 18 = .ok (.invokevirtual 167, 3) := by decide +kernel
theorem dX8_isBendingBarred_21 : decode cX8_isBendingBarred 21 = .ok (.iadd, 1) := by decide +kernel
theorem dX8_isBendingBarred_22 : decode cX8_isBendingBarred 22 = .ok (.istore 7, 2) := by decide +kernel
theorem dX8_isBendingBarred_24 : decode cX8_isBendingBarred 24 = .ok (.iconst 0, 1) := by decide +kernel
theorem dX8_isBendingBarred_25 : decode cX8_isBendingBarred 25 = .ok (.istore 8, 2) := by decide +kernel
theorem dX8_isBendingBarred_27 : decode cX8_isBendingBarred 27 = .ok (.iload 8, 2) := by decide +kernel
theorem dX8_isBendingBarred_29 : decode cX8_isBendingBarred 29 = .ok (.iload 7, 2) := by decide +kernel
theorem dX8_isBendingBarred_31 : decode cX8_isBendingBarred 31 = .ok (.iload 4, 2) := by decide +kernel
theorem dX8_isBendingBarred_33 : decode cX8_isBendingBarred 33 = .ok (.iadd, 1) := by decide +kernel
theorem dX8_isBendingBarred_34 : decode cX8_isBendingBarred 34 = .ok (.iconst 1, 1) := by decide +kernel
theorem dX8_isBendingBarred_35 : decode cX8_isBendingBarred 35 = .ok (.isub, 1) := by decide +kernel
theorem dX8_isBendingBarred_36 : decode cX8_isBendingBarred 36 = .ok (.if_icmp .ge 85, 3) := by decide +kernel
theorem dX8_isBendingBarred_39 : decode cX8_isBendingBarred 39 = .ok (.iload 8, 2) := by decide +kernel
theorem dX8_isBendingBarred_41 : decode cX8_isBendingBarred 41 = .ok (.iload 4, 2) := by decide +kernel
theorem dX8_isBendingBarred_43 : decode cX8_isBendingBarred 43 = .ok (.if_icmp .ge 7, 3) := by decide +kernel
theorem dX8_isBendingBarred_46 : decode cX8_isBendingBarred 46 = .ok (.iload_n 3, 1) := by decide +kernel
theorem dX8_isBendingBarred_47 : decode cX8_isBendingBarred 47 = .ok (.goto 22, 3) := by decide +kernel
theorem dX8_isBendingBarred_50 : decode cX8_isBendingBarred 50 = .ok (.iload 8, 2) := by decide +kernel
theorem dX8_isBendingBarred_52 : decode cX8_isBendingBarred 52 = .ok (.iload 7, 2) := by decide +kernel
theorem dX8_isBendingBarred_54 : decode cX8_isBendingBarred 54 = .ok (.if_icmp .ge 11, 3) := by decide +kernel
theorem dX8_isBendingBarred_57 : decode cX8_isBendingBarred 57 = .ok (.aload_n 1, 1) := by decide +kernel
theorem dX8_isBendingBarred_58 : decode cX8_isBendingBarred 58 = .ok (.iload_n 2, 1) := by decide +kernel
theorem dX8_isBendingBarred_59 : decode cX8_isBendingBarred 59 = .ok (.invokevirtual 139, 3) := by decide +kernel
theorem dX8_isBendingBarred_62 : decode cX8_isBendingBarred 62 = .ok (.goto 7, 3) := by decide +kernel
theorem dX8_isBendingBarred_65 : decode cX8_isBendingBarred 65 = .ok (.iload_n 3, 1) := by decide +kernel
theorem dX8_isBendingBarred_66 : decode cX8_isBendingBarred 66 = .ok (.invokestatic 145, 3) := by decide +kernel
theorem dX8_isBendingBarred_69 : decode cX8_isBendingBarred 69 = .ok (.istore 9, 2) := by decide +kernel
theorem dX8_isBendingBarred_71 : decode cX8_isBendingBarred 71 = .ok (.iload 5, 2) := by decide +kernel
theorem dX8_isBendingBarred_73 : decode cX8_isBendingBarred 73 = .ok (.iload 9, 2) := by decide +kernel
theorem dX8_isBendingBarred_75 : decode cX8_isBendingBarred 75 = .ok (.invokestatic 123, 3) := by decide +kernel
theorem dX8_isBendingBarred_78 : decode cX8_isBendingBarred 78 = .ok (.iadd, 1) := by decide +kernel
theorem dX8_isBendingBarred_79 : decode cX8_isBendingBarred 79 = .ok (.istore 5, 2) := by decide +kernel
theorem dX8_isBendingBarred_81 : decode cX8_isBendingBarred 81 = .ok (.iload 6, 2) := by decide +kernel
theorem dX8_isBendingBarred_83 : decode cX8_isBendingBarred 83 = .ok (.iload 9, 2) := by decide +kernel
theorem dX8_isBendingBarred_85 : decode cX8_isBendingBarred 85 = .ok (.invokestatic 126, 3) := by decide +kernel
theorem dX8_isBendingBarred_88 : decode cX8_isBendingBarred 88 = .ok (.iadd, 1) := by decide +kernel
theorem dX8_isBendingBarred_89 : decode cX8_isBendingBarred 89 = .ok (.istore 6, 2) := by decide +kernel
theorem dX8_isBendingBarred_91 : decode cX8_isBendingBarred 91 = .ok (.aload_n 0, 1) := by decide +kernel
theorem dX8_isBendingBarred_92 : decode cX8_isBendingBarred 92 = .ok (.iload 5, 2) := by decide +kernel
theorem dX8_isBendingBarred_94 : decode cX8_isBendingBarred 94 = .ok (.iload 6, 2) := by decide +kernel
theorem dX8_isBendingBarred_96 : decode cX8_isBendingBarred 96 = .ok (.iload 8, 2) := by decide +kernel
theorem dX8_isBendingBarred_98 : decode cX8_isBendingBarred 98 = .ok (.aload_n 1, 1) := by decide +kernel
theorem dX8_isBendingBarred_99 : decode cX8_isBendingBarred 99 = .ok (.iload 5, 2) := by decide +kernel
theorem dX8_isBendingBarred_101 : decode cX8_isBendingBarred 101 = .ok (.iload 6, 2) := by decide +kernel
theorem dX8_isBendingBarred_103 : decode cX8_isBendingBarred 103 = .ok (.iload_n 2, 1) := by decide +kernel
theorem dX8_isBendingBarred_104 : decode cX8_isBendingBarred 104 = .ok (.invokevirtual 129, 3) := by decide +kernel
theorem dX8_isBendingBarred_107 : decode cX8_isBendingBarred 107 = .ok (.invokevirtual 132, 3) := by decide +kernel
theorem dX8_isBendingBarred_110 : decode cX8_isBendingBarred 110 = .ok (.ifCond .eq 5, 3) := by decide +kernel
theorem dX8_isBendingBarred_113 : decode cX8_isBendingBarred 113 = .ok (.iconst 1, 1) := by decide +kernel
theorem dX8_isBendingBarred_114 : decode cX8_isBendingBarred 114 = .ok (.ireturn, 1) := by decide +kernel
theorem dX8_isBendingBarred_115 : decode cX8_isBendingBarred 115 = .ok (.iinc 8 1, 3) := by decide +kernel
theorem dX8_isBendingBarred_118 : decode cX8_isBendingBarred 118 = .ok (.goto (-91), 3) := by decide +kernel
theorem dX8_isBendingBarred_121 : decode cX8_isBendingBarred 121 = .ok (.iconst 0, 1) := by decide +kernel
theorem dX8_isBendingBarred_122 : decode cX8_isBendingBarred 122 = .ok (.ireturn, 1) := by decide +kernel
theorem dX8_isBarred_0 : decode cX8_isBarred 0 = .ok (.iload_n 1, 1) := by decide +kernel
theorem dX8_isBarred_1 : decode cX8_isBarred 1 = .ok (.iload_n 2, 1) := by decide +kernel
theorem dX8_isBarred_2 : decode cX8_isBarred 2 = .ok (.invokestatic 54, 3) := by decide +kernel
theorem dX8_isBarred_5 : decode cX8_isBarred 5 = .ok (.ifCond .ne 16, 3) := by decide +kernel
theorem dX8_isBarred_8 : decode cX8_isBarred 8 = .ok (.aload_n 0, 1) := by decide +kernel
theorem dX8_isBarred_9 : decode cX8_isBarred 9 = .ok (.getfield 21, 3) := by decide +kernel
theorem dX8_isBarred_12 : decode cX8_isBarred 12 = .ok (.bipush 7, 2) := by decide +kernel
theorem dX8_isBarred_14 : decode cX8_isBarred 14 = .ok (.iload_n 3, 1) := by decide +kernel
theorem dX8_isBarred_15 : decode cX8_isBarred 15 = .ok (.invokevirtual 33, 3) := by decide +kernel
theorem dX8_isBarred_18 : decode cX8_isBarred 18 = .ok (.pop, 1) := by decide +kernel
theorem dX8_isBarred_19 : decode cX8_isBarred 19 = .ok (.iconst 1, 1) := by decide +kernel
theorem dX8_isBarred_20 : decode cX8_isBarred 20 = .ok (.ireturn, 1) := by decide +kernel
theorem dX8_isBarred_21 : decode cX8_isBarred 21 = .ok (.iload 4, 2) := by decide +kernel
theorem dX8_isBarred_23 : decode cX8_isBarred 23 = .ok (.ifCond .eq 16, 3) := by decide +kernel
theorem dX8_isBarred_26 : decode cX8_isBarred 26 = .ok (.aload_n 0, 1) := by decide +kernel
theorem dX8_isBarred_27 : decode cX8_isBarred 27 = .ok (.getfield 21, 3) := by decide +kernel
theorem dX8_isBarred_30 : decode cX8_isBarred 30 = .ok (.bipush 8, 2) := by decide +kernel
theorem dX8_isBarred_32 : decode cX8_isBarred 32 = .ok (.iload_n 3, 1) := by decide +kernel
theorem dX8_isBarred_33 : decode cX8_isBarred 33 = .ok (.invokevirtual 33, 3) := by decide +kernel
theorem dX8_isBarred_36 : decode cX8_isBarred 36 = .ok (.pop, 1) := by decide +kernel
theorem dX8_isBarred_37 : decode cX8_isBarred 37 = .ok (.iconst 1, 1) := by decide +kernel
theorem dX8_isBarred_38 : decode cX8_isBarred 38 = .ok (.ireturn, 1) := by decide +kernel
theorem dX8_isBarred_39 : decode cX8_isBarred 39 = .ok (.aload_n 0, 1) := by decide +kernel
theorem dX8_isBarred_40 : decode cX8_isBarred 40 = .ok (.getfield 12, 3) := by decide +kernel
theorem dX8_isBarred_43 : decode cX8_isBarred 43 = .ok (.getfield 58, 3) := by decide +kernel
theorem dX8_isBarred_46 : decode cX8_isBarred 46 = .ok (.iload_n 1, 1) := by decide +kernel
theorem dX8_isBarred_47 : decode cX8_isBarred 47 = .ok (.iload_n 2, 1) := by decide +kernel
theorem dX8_isBarred_48 : decode cX8_isBarred 48 = .ok (.invokevirtual 62, 3) := by decide +kernel
theorem dX8_isBarred_51 : decode cX8_isBarred 51 = .ok (.istore 5, 2) := by decide +kernel
theorem dX8_isBarred_53 : decode cX8_isBarred 53 = .ok (.iload 5, 2) := by decide +kernel
theorem dX8_isBarred_55 : decode cX8_isBarred 55 = .ok (.iconst (-1), 1) := by decide +kernel
theorem dX8_isBarred_56 : decode cX8_isBarred 56 = .ok (.if_icmp .eq 39, 3) := by decide +kernel
theorem dX8_isBarred_59 : decode cX8_isBarred 59 = .ok (.aload_n 0, 1) := by decide +kernel
theorem dX8_isBarred_60 : decode cX8_isBarred 60 = .ok (.getfield 12, 3) := by decide +kernel
theorem dX8_isBarred_63 : decode cX8_isBarred 63 = .ok (.getfield 58, 3) := by decide +kernel
theorem dX8_isBarred_66 : decode cX8_isBarred 66 = .ok (.iload 5, 2) := by decide +kernel
theorem dX8_isBarred_68 : decode cX8_isBarred 68 = .ok (.aload_n 0, 1) := by decide +kernel
theorem dX8_isBarred_69 : decode cX8_isBarred 69 = .ok (.getfield 12, 3) := by decide +kernel
theorem dX8_isBarred_72 : decode cX8_isBarred 72 = .ok (.getfield 170, 3) := by decide +kernel
theorem dX8_isBarred_75 : decode cX8_isBarred 75 = .ok (.invokevirtual 173, 3) := by decide +kernel
theorem dX8_isBarred_78 : decode cX8_isBarred 78 = .ok (.ifCond .ne 17, 3) := by decide +kernel
theorem dX8_isBarred_81 : decode cX8_isBarred 81 = .ok (.aload_n 0, 1) := by decide +kernel
theorem dX8_isBarred_82 : decode cX8_isBarred 82 = .ok (.getfield 21, 3) := by decide +kernel
theorem dX8_isBarred_85 : decode cX8_isBarred 85 = .ok (.bipush 9, 2) := by decide +kernel
theorem dX8_isBarred_87 : decode cX8_isBarred 87 = .ok (.iload 5, 2) := by decide +kernel
theorem dX8_isBarred_89 : decode cX8_isBarred 89 = .ok (.invokevirtual 33, 3) := by decide +kernel
theorem dX8_isBarred_92 : decode cX8_isBarred 92 = .ok (.pop, 1) := by decide +kernel
theorem dX8_isBarred_93 : decode cX8_isBarred 93 = .ok (.iconst 1, 1) := by decide +kernel
theorem dX8_isBarred_94 : decode cX8_isBarred 94 = .ok (.ireturn, 1) := by decide +kernel
theorem dX8_isBarred_95 : decode cX8_isBarred 95 = .ok (.iconst 0, 1) := by decide +kernel
theorem dX8_isBarred_96 : decode cX8_isBarred 96 = .ok (.ireturn, 1) := by decide +kernel
theorem dX8_giveUp_0 : decode cX8_giveUp 0 = .ok (.aload_n 0, 1) := by decide +kernel
theorem dX8_giveUp_1 : decode cX8_giveUp 1 = .ok (.getfield 12, 3) := by decide +kernel
theorem dX8_giveUp_4 : decode cX8_giveUp 4 = .ok (.iload_n 1, 1) := by decide +kernel
theorem dX8_giveUp_5 : decode cX8_giveUp 5 = .ok (.invokevirtual 74, 3) := by decide +kernel
theorem dX8_giveUp_8 : decode cX8_giveUp 8 = .ok (.ifCond .ne 5, 3) := by decide +kernel
theorem dX8_giveUp_11 : decode cX8_giveUp 11 = .ok (.iconst (-1), 1) := by decide +kernel
theorem dX8_giveUp_12 : decode cX8_giveUp 12 = .ok (.ireturn, 1) := by decide +kernel
theorem dX8_giveUp_13 : decode cX8_giveUp 13 = .ok (.aload_n 0, 1) := by decide +kernel
theorem dX8_giveUp_14 : decode cX8_giveUp 14 = .ok (.getfield 12, 3) := by decide +kernel
theorem dX8_giveUp_17 : decode cX8_giveUp 17 = .ok (.iload_n 1, 1) := by decide +kernel
theorem dX8_giveUp_18 : decode cX8_giveUp 18 = .ok (.invokevirtual 45, 3) := by decide +kernel
theorem dX8_giveUp_21 : decode cX8_giveUp 21 = .ok (.astore_n 2, 1) := by decide +kernel
theorem dX8_giveUp_22 : decode cX8_giveUp 22 = .ok (.aload_n 2, 1) := by decide +kernel
theorem dX8_giveUp_23 : decode cX8_giveUp 23 = .ok (.getfield 78, 3) := by decide +kernel
theorem dX8_giveUp_26 : decode cX8_giveUp 26 = .ok (.ifCond .ne 13, 3) := by decide +kernel
theorem dX8_giveUp_29 : decode cX8_giveUp 29 = .ok (.aload_n 0, 1) := by decide +kernel
theorem dX8_giveUp_30 : decode cX8_giveUp 30 = .ok (.getfield 21, 3) := by decide +kernel
theorem dX8_giveUp_33 : decode cX8_giveUp 33 = .ok (.iconst 4, 1) := by decide +kernel
theorem dX8_giveUp_34 : decode cX8_giveUp 34 = .ok (.iload_n 1, 1) := by decide +kernel
theorem dX8_giveUp_35 : decode cX8_giveUp 35 = .ok (.invokevirtual 33, 3) := by decide +kernel
theorem dX8_giveUp_38 : decode cX8_giveUp 38 = .ok (.ireturn, 1) := by decide +kernel
theorem dX8_giveUp_39 : decode cX8_giveUp 39 = .ok (.aload_n 2, 1) := by decide +kernel
theorem dX8_giveUp_40 : decode cX8_giveUp 40 = .ok (.getfield 82, 3) := by decide +kernel
theorem dX8_giveUp_43 : decode cX8_giveUp 43 = .ok (.istore_n 3, 1) := by decide +kernel
theorem dX8_giveUp_44 : decode cX8_giveUp 44 = .ok (.aload_n 2, 1) := by decide +kernel
theorem dX8_giveUp_45 : decode cX8_giveUp 45 = .ok (.invokevirtual 49, 3) := by decide +kernel
theorem dX8_giveUp_48 : decode cX8_giveUp 48 = .ok (.iload_n 3, 1) := by decide +kernel
theorem dX8_giveUp_49 : decode cX8_giveUp 49 = .ok (.ireturn, 1) := by decide +kernel
theorem dX8_giveDepth_0 : decode cX8_giveDepth 0 = .ok (.aload_n 0, 1) := by decide +kernel
theorem dX8_giveDepth_1 : decode cX8_giveDepth 1 = .ok (.getfield 12, 3) := by decide +kernel
theorem dX8_giveDepth_4 : decode cX8_giveDepth 4 = .ok (.iload_n 1, 1) := by decide +kernel
theorem dX8_giveDepth_5 : decode cX8_giveDepth 5 = .ok (.invokevirtual 74, 3) := by decide +kernel
theorem dX8_giveDepth_8 : decode cX8_giveDepth 8 = .ok (.ifCond .ne 5, 3) := by decide +kernel
theorem dX8_giveDepth_11 : decode cX8_giveDepth 11 = .ok (.iconst (-1), 1) := by decide +kernel
theorem dX8_giveDepth_12 : decode cX8_giveDepth 12 = .ok (.ireturn, 1) := by decide +kernel
theorem dX8_giveDepth_13 : decode cX8_giveDepth 13 = .ok (.iload_n 2, 1) := by decide +kernel
theorem dX8_giveDepth_14 : decode cX8_giveDepth 14 = .ok (.iconst 0, 1) := by decide +kernel
theorem dX8_giveDepth_15 : decode cX8_giveDepth 15 = .ok (.bipush 9, 2) := by decide +kernel
theorem dX8_giveDepth_17 : decode cX8_giveDepth 17 = .ok (.invokestatic 25, 3) := by decide +kernel
theorem dX8_giveDepth_20 : decode cX8_giveDepth 20 = .ok (.ifCond .ne 6, 3) := by decide +kernel
theorem dX8_giveDepth_23 : decode cX8_giveDepth 23 = .ok (.bipush (-2), 2) := by decide +kernel
theorem dX8_giveDepth_25 : decode cX8_giveDepth 25 = .ok (.ireturn, 1) := by decide +kernel
theorem dX8_giveDepth_26 : decode cX8_giveDepth 26 = .ok (.aload_n 0, 1) := by decide +kernel
theorem dX8_giveDepth_27 : decode cX8_giveDepth 27 = .ok (.getfield 12, 3) := by decide +kernel
theorem dX8_giveDepth_30 : decode cX8_giveDepth 30 = .ok (.iload_n 1, 1) := by decide +kernel
theorem dX8_giveDepth_31 : decode cX8_giveDepth 31 = .ok (.invokevirtual 176, 3) := by decide +kernel
theorem dX8_giveDepth_34 : decode cX8_giveDepth 34 = .ok (.istore_n 3, 1) := by decide +kernel
theorem dX8_giveDepth_35 : decode cX8_giveDepth 35 = .ok (.iload_n 3, 1) := by decide +kernel
theorem dX8_giveDepth_36 : decode cX8_giveDepth 36 = .ok (.iload_n 2, 1) := by decide +kernel
theorem dX8_giveDepth_37 : decode cX8_giveDepth 37 = .ok (.if_icmp .ne 14, 3) := by decide +kernel
theorem dX8_giveDepth_40 : decode cX8_giveDepth 40 = .ok (.aload_n 0, 1) := by decide +kernel
theorem dX8_giveDepth_41 : decode cX8_giveDepth 41 = .ok (.getfield 21, 3) := by decide +kernel
theorem dX8_giveDepth_44 : decode cX8_giveDepth 44 = .ok (.bipush 10, 2) := by decide +kernel
theorem dX8_giveDepth_46 : decode cX8_giveDepth 46 = .ok (.iload_n 2, 1) := by decide +kernel
theorem dX8_giveDepth_47 : decode cX8_giveDepth 47 = .ok (.invokevirtual 33, 3) := by decide +kernel
theorem dX8_giveDepth_50 : decode cX8_giveDepth 50 = .ok (.ireturn, 1) := by decide +kernel
theorem dX8_giveDepth_51 : decode cX8_giveDepth 51 = .ok (.aload_n 0, 1) := by decide +kernel
theorem dX8_giveDepth_52 : decode cX8_giveDepth 52 = .ok (.getfield 12, 3) := by decide +kernel
theorem dX8_giveDepth_55 : decode cX8_giveDepth 55 = .ok (.getfield 37, 3) := by decide +kernel
theorem dX8_giveDepth_58 : decode cX8_giveDepth 58 = .ok (.iload_n 1, 1) := by decide +kernel
theorem dX8_giveDepth_59 : decode cX8_giveDepth 59 = .ok (.iload_n 2, 1) := by decide +kernel
theorem dX8_giveDepth_60 : decode cX8_giveDepth 60 = .ok (.invokestatic 41, 3) := by decide +kernel
theorem dX8_giveDepth_63 : decode cX8_giveDepth 63 = .ok (.iload_n 3, 1) := by decide +kernel
theorem dX8_giveDepth_64 : decode cX8_giveDepth 64 = .ok (.ireturn, 1) := by decide +kernel
theorem dX8_letHoursGoBy_0 : decode cX8_letHoursGoBy 0 = .ok (.iload_n 1, 1) := by decide +kernel
theorem dX8_letHoursGoBy_1 : decode cX8_letHoursGoBy 1 = .ok (.iconst 1, 1) := by decide +kernel
theorem dX8_letHoursGoBy_2 : decode cX8_letHoursGoBy 2 = .ok (.bipush 20, 2) := by decide +kernel
theorem dX8_letHoursGoBy_4 : decode cX8_letHoursGoBy 4 = .ok (.invokestatic 25, 3) := by decide +kernel
theorem dX8_letHoursGoBy_7 : decode cX8_letHoursGoBy 7 = .ok (.ifCond .ne 6, 3) := by decide +kernel
theorem dX8_letHoursGoBy_10 : decode cX8_letHoursGoBy 10 = .ok (.bipush (-2), 2) := by decide +kernel
theorem dX8_letHoursGoBy_12 : decode cX8_letHoursGoBy 12 = .ok (.ireturn, 1) := by decide +kernel
theorem dX8_letHoursGoBy_13 : decode cX8_letHoursGoBy 13 = .ok (.aload_n 0, 1) := by decide +kernel
theorem dX8_letHoursGoBy_14 : decode cX8_letHoursGoBy 14 = .ok (.getfield 12, 3) := by decide +kernel
theorem dX8_letHoursGoBy_17 : decode cX8_letHoursGoBy 17 = .ok (.invokevirtual 179, 3) := by decide +kernel
theorem dX8_letHoursGoBy_20 : decode cX8_letHoursGoBy 20 = .ok (.istore_n 2, 1) := by decide +kernel
theorem dX8_letHoursGoBy_21 : decode cX8_letHoursGoBy 21 = .ok (.iconst 0, 1) := by decide +kernel
theorem dX8_letHoursGoBy_22 : decode cX8_letHoursGoBy 22 = .ok (.istore_n 3, 1) := by decide +kernel
theorem dX8_letHoursGoBy_23 : decode cX8_letHoursGoBy 23 = .ok (.iload_n 3, 1) := by decide +kernel
theorem dX8_letHoursGoBy_24 : decode cX8_letHoursGoBy 24 = .ok (.aload_n 0, 1) := by decide +kernel
theorem dX8_letHoursGoBy_25 : decode cX8_letHoursGoBy 25 = .ok (.getfield 12, 3) := by decide +kernel
theorem dX8_letHoursGoBy_28 : decode cX8_letHoursGoBy 28 = .ok (.getfield 29, 3) := by decide +kernel
theorem dX8_letHoursGoBy_31 : decode cX8_letHoursGoBy 31 = .ok (.if_icmp .ge 34, 3) := by decide +kernel
theorem dX8_letHoursGoBy_34 : decode cX8_letHoursGoBy 34 = .ok (.aload_n 0, 1) := by decide +kernel
theorem dX8_letHoursGoBy_35 : decode cX8_letHoursGoBy 35 = .ok (.getfield 12, 3) := by decide +kernel
theorem dX8_letHoursGoBy_38 : decode cX8_letHoursGoBy 38 = .ok (.getfield 37, 3) := by decide +kernel
theorem dX8_letHoursGoBy_41 : decode cX8_letHoursGoBy 41 = .ok (.iload_n 3, 1) := by decide +kernel
theorem dX8_letHoursGoBy_42 : decode cX8_letHoursGoBy 42 = .ok (.iconst 0, 1) := by decide +kernel
theorem dX8_letHoursGoBy_43 : decode cX8_letHoursGoBy 43 = .ok (.aload_n 0, 1) := by decide +kernel
theorem dX8_letHoursGoBy_44 : decode cX8_letHoursGoBy 44 = .ok (.getfield 12, 3) := by decide +kernel
theorem dX8_letHoursGoBy_47 : decode cX8_letHoursGoBy 47 = .ok (.iload_n 3, 1) := by decide +kernel
theorem dX8_letHoursGoBy_48 : decode cX8_letHoursGoBy 48 = .ok (.invokevirtual 176, 3) := by decide +kernel
theorem dX8_letHoursGoBy_51 : decode cX8_letHoursGoBy 51 = .ok (.iload_n 1, 1) := by decide +kernel
theorem dX8_letHoursGoBy_52 : decode cX8_letHoursGoBy 52 = .ok (.isub, 1) := by decide +kernel
theorem dX8_letHoursGoBy_53 : decode cX8_letHoursGoBy 53 = .ok (.invokestatic 182, 3) := by decide +kernel
theorem dX8_letHoursGoBy_56 : decode cX8_letHoursGoBy 56 = .ok (.invokestatic 41, 3) := by decide +kernel
theorem dX8_letHoursGoBy_59 : decode cX8_letHoursGoBy 59 = .ok (.iinc 3 1, 3) := by decide +kernel
theorem dX8_letHoursGoBy_62 : decode cX8_letHoursGoBy 62 = .ok (.goto (-39), 3) := by decide +kernel
theorem dX8_letHoursGoBy_65 : decode cX8_letHoursGoBy 65 = .ok (.aload_n 0, 1) := by decide +kernel
theorem dX8_letHoursGoBy_66 : decode cX8_letHoursGoBy 66 = .ok (.getfield 12, 3) := by decide +kernel
theorem dX8_letHoursGoBy_69 : decode cX8_letHoursGoBy 69 = .ok (.dup, 1) := by decide +kernel
theorem dX8_letHoursGoBy_70 : decode cX8_letHoursGoBy 70 = .ok (.getfield 170, 3) := by decide +kernel
theorem dX8_letHoursGoBy_73 : decode cX8_letHoursGoBy 73 = .ok (.iload_n 1, 1) := by decide +kernel
theorem dX8_letHoursGoBy_74 : decode cX8_letHoursGoBy 74 = .ok (.iadd, 1) := by decide +kernel
theorem dX8_letHoursGoBy_75 : decode cX8_letHoursGoBy 75 = .ok (.putfield 170, 3) := by decide +kernel
theorem dX8_letHoursGoBy_78 : decode cX8_letHoursGoBy 78 = .ok (.aload_n 0, 1) := by decide +kernel
theorem dX8_letHoursGoBy_79 : decode cX8_letHoursGoBy 79 = .ok (.getfield 12, 3) := by decide +kernel
theorem dX8_letHoursGoBy_82 : decode cX8_letHoursGoBy 82 = .ok (.invokevirtual 179, 3) := by decide +kernel
theorem dX8_letHoursGoBy_85 : decode cX8_letHoursGoBy 85 = .ok (.iload_n 2, 1) := by decide +kernel
theorem dX8_letHoursGoBy_86 : decode cX8_letHoursGoBy 86 = .ok (.isub, 1) := by decide +kernel
theorem dX8_letHoursGoBy_87 : decode cX8_letHoursGoBy 87 = .ok (.ireturn, 1) := by decide +kernel
theorem dX9_init_0 : decode cX9_init 0 = .ok (.aload_n 0, 1) := by decide +kernel
theorem dX9_init_1 : decode cX9_init 1 = .ok (.invokespecial 3, 3) := by decide +kernel
theorem dX9_init_4 : decode cX9_init 4 = .ok (.aload_n 0, 1) := by decide +kernel
theorem dX9_init_5 : decode cX9_init 5 = .ok (.new 9, 3) := by decide +kernel
theorem dX9_init_8 : decode cX9_init 8 = .ok (.dup, 1) := by decide +kernel
theorem dX9_init_9 : decode cX9_init 9 = .ok (.invokespecial 11, 3) := by decide +kernel
theorem dX9_init_12 : decode cX9_init 12 = .ok (.putfield 12, 3) := by decide +kernel
theorem dX9_init_15 : decode cX9_init 15 = .ok (.aload_n 0, 1) := by decide +kernel
theorem dX9_init_16 : decode cX9_init 16 = .ok (.aload_n 0, 1) := by decide +kernel
theorem dX9_init_17 : decode cX9_init 17 = .ok (.getfield 12, 3) := by decide +kernel
theorem dX9_init_20 : decode cX9_init 20 = .ok (.getfield 16, 3) := by decide +kernel
theorem dX9_init_23 : decode cX9_init 23 = .ok (.putfield 20, 3) := by decide +kernel
theorem dX9_init_26 : decode cX9_init 26 = .ok (.aload_n 0, 1) := by decide +kernel
theorem dX9_init_27 : decode cX9_init 27 = .ok (.aload_n 0, 1) := by decide +kernel
theorem dX9_init_28 : decode cX9_init 28 = .ok (.getfield 12, 3) := by decide +kernel
theorem dX9_init_31 : decode cX9_init 31 = .ok (.getfield 23, 3) := by decide +kernel
theorem dX9_init_34 : decode cX9_init 34 = .ok (.putfield 27, 3) := by decide +kernel
theorem dX9_init_37 : decode cX9_init 37 = .ok (.aload_n 0, 1) := by decide +kernel
theorem dX9_init_38 : decode cX9_init 38 = .ok (.new 30, 3) := by decide +kernel
theorem dX9_init_41 : decode cX9_init 41 = .ok (.dup, 1) := by decide +kernel
theorem dX9_init_42 : decode cX9_init 42 = .ok (.invokespecial 32, 3) := by decide +kernel
theorem dX9_init_45 : decode cX9_init 45 = .ok (.putfield 33, 3) := by decide +kernel
theorem dX9_init_48 : decode cX9_init 48 = .ok (.aload_n 0, 1) := by decide +kernel
theorem dX9_init_49 : decode cX9_init 49 = .ok (.iconst 0, 1) := by decide +kernel
theorem dX9_init_50 : decode cX9_init 50 = .ok (.putfield 36, 3) := by decide +kernel
theorem dX9_init_53 : decode cX9_init 53 = .ok (.aload_n 0, 1) := by decide +kernel
theorem dX9_init_54 : decode cX9_init 54 = .ok (.new 40, 3) := by decide +kernel
theorem dX9_init_57 : decode cX9_init 57 = .ok (.dup, 1) := by decide +kernel
theorem dX9_init_58 : decode cX9_init 58 = .ok (.invokespecial 42, 3) := by decide +kernel
theorem dX9_init_61 : decode cX9_init 61 = .ok (.putfield 43, 3) := by decide +kernel
theorem dX9_init_64 : decode cX9_init 64 = .ok (.aload_n 0, 1) := by decide +kernel
theorem dX9_init_65 : decode cX9_init 65 = .ok (.new 47, 3) := by decide +kernel
theorem dX9_init_68 : decode cX9_init 68 = .ok (.dup, 1) := by decide +kernel
theorem dX9_init_69 : decode cX9_init 69 = .ok (.invokespecial 49, 3) := by decide +kernel
theorem dX9_init_72 : decode cX9_init 72 = .ok (.putfield 50, 3) := by decide +kernel
theorem dX9_init_75 : decode cX9_init 75 = .ok (.aload_n 0, 1) := by decide +kernel
theorem dX9_init_76 : decode cX9_init 76 = .ok (.bipush 60, 2) := by decide +kernel
theorem dX9_init_78 : decode cX9_init 78 = .ok (.newarray .char, 2) := by decide +kernel
theorem dX9_init_80 : decode cX9_init 80 = .ok (.putfield 54, 3) := by decide +kernel
theorem dX9_init_83 : decode cX9_init 83 = .ok (.aload_n 0, 1) := by decide +kernel
theorem dX9_init_84 : decode cX9_init 84 = .ok (.iconst 0, 1) := by decide +kernel
theorem dX9_init_85 : decode cX9_init 85 = .ok (.putfield 58, 3) := by decide +kernel
theorem dX9_init_88 : decode cX9_init 88 = .ok (.aload_n 0, 1) := by decide +kernel
theorem dX9_init_89 : decode cX9_init 89 = .ok (.new 62, 3) := by decide +kernel
theorem dX9_init_92 : decode cX9_init 92 = .ok (.dup, 1) := by decide +kernel
theorem dX9_init_93 : decode cX9_init 93 = .ok (.invokespecial 64, 3) := by decide +kernel
theorem dX9_init_96 : decode cX9_init 96 = .ok (.putfield 65, 3) := by decide +kernel
theorem dX9_init_99 : decode cX9_init 99 = .ok (.aload_n 0, 1) := by decide +kernel
theorem dX9_init_100 : decode cX9_init 100 = .ok (.iconst (-1), 1) := by decide +kernel
theorem dX9_init_101 : decode cX9_init 101 = .ok (.putfield 69, 3) := by decide +kernel
theorem dX9_init_104 : decode cX9_init 104 = .ok (.aload_n 0, 1) := by decide +kernel
theorem dX9_init_105 : decode cX9_init 105 = .ok (.new 72, 3) := by decide +kernel
theorem dX9_init_108 : decode cX9_init 108 = .ok (.dup, 1) := by decide +kernel
theorem dX9_init_109 : decode cX9_init 109 = .ok (.invokespecial 74, 3) := by decide +kernel
theorem dX9_init_112 : decode cX9_init 112 = .ok (.putfield 75, 3) := by decide +kernel
theorem dX9_init_115 : decode cX9_init 115 = .ok (.return_, 1) := by decide +kernel
theorem dX9_sleeper_0 : decode cX9_sleeper 0 = .ok (.aload_n 0, 1) := by decide +kernel
theorem dX9_sleeper_1 : decode cX9_sleeper 1 = .ok (.getfield 43, 3) := by decide +kernel
theorem dX9_sleeper_4 : decode cX9_sleeper 4 = .ok (.aload_n 0, 1) := by decide +kernel
