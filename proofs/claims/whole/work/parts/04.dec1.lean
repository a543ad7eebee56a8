theorem dX0_init_0 : decode cX0_init 0 = .ok (.aload_n 0, 1) := by decide +kernel
theorem dX0_init_1 : decode cX0_init 1 = .ok (.invokespecial 3, 3) := by decide +kernel
theorem dX0_init_4 : decode cX0_init 4 = .ok (.aload_n 0, 1) := by decide +kernel
theorem dX0_init_5 : decode cX0_init 5 = .ok (.bipush 6, 2) := by decide +kernel
theorem dX0_init_7 : decode cX0_init 7 = .ok (.newarray .int, 2) := by decide +kernel
theorem dX0_init_9 : decode cX0_init 9 = .ok (.putfield 9, 3) := by decide +kernel
theorem dX0_init_12 : decode cX0_init 12 = .ok (.return_, 1) := by decide +kernel
theorem dX0_whisper_0 : decode cX0_whisper 0 = .ok (.aload_n 0, 1) := by decide +kernel
theorem dX0_whisper_1 : decode cX0_whisper 1 = .ok (.iconst (-1), 1) := by decide +kernel
theorem dX0_whisper_2 : decode cX0_whisper 2 = .ok (.putfield 15, 3) := by decide +kernel
theorem dX0_whisper_5 : decode cX0_whisper 5 = .ok (.aload_n 0, 1) := by decide +kernel
theorem dX0_whisper_6 : decode cX0_whisper 6 = .ok (.iconst (-1), 1) := by decide +kernel
theorem dX0_whisper_7 : decode cX0_whisper 7 = .ok (.putfield 19, 3) := by decide +kernel
theorem dX0_whisper_10 : decode cX0_whisper 10 = .ok (.iconst 0, 1) := by decide +kernel
theorem dX0_whisper_11 : decode cX0_whisper 11 = .ok (.istore_n 2, 1) := by decide +kernel
theorem dX0_whisper_12 : decode cX0_whisper 12 = .ok (.iload_n 2, 1) := by decide +kernel
theorem dX0_whisper_13 : decode cX0_whisper 13 = .ok (.bipush 6, 2) := by decide +kernel
theorem dX0_whisper_15 : decode cX0_whisper 15 = .ok (.if_icmp .ge 67, 3) := by decide +kernel
theorem dX0_whisper_18 : decode cX0_whisper 18 = .ok (.aload_n 1, 1) := by decide +kernel
theorem dX0_whisper_19 : decode cX0_whisper 19 = .ok (.getfield 22, 3) := by decide +kernel
theorem dX0_whisper_22 : decode cX0_whisper 22 = .ok (.iconst 1, 1) := by decide +kernel
theorem dX0_whisper_23 : decode cX0_whisper 23 = .ok (.if_icmp .lt 59, 3) := by decide +kernel
theorem dX0_whisper_26 : decode cX0_whisper 26 = .ok (.aload_n 1, 1) := by decide +kernel
theorem dX0_whisper_27 : decode cX0_whisper 27 = .ok (.aload_n 1, 1) := by decide +kernel
theorem dX0_whisper_28 : decode cX0_whisper 28 = .ok (.getfield 27, 3) := by decide +kernel
theorem dX0_whisper_31 : decode cX0_whisper 31 = .ok (.iload_n 2, 1) := by decide +kernel
theorem dX0_whisper_32 : decode cX0_whisper 32 = .ok (.iconst 1, 1) := by decide +kernel
theorem dX0_whisper_33 : decode cX0_whisper 33 = .ok (.iconst 0, 1) := by decide +kernel
theorem dX0_whisper_34 : decode cX0_whisper 34 = .ok (.invokevirtual 30, 3) := by decide +kernel
theorem dX0_whisper_37 : decode cX0_whisper 37 = .ok (.istore_n 3, 1) := by decide +kernel
theorem dX0_whisper_38 : decode cX0_whisper 38 = .ok (.aload_n 1, 1) := by decide +kernel
theorem dX0_whisper_39 : decode cX0_whisper 39 = .ok (.iload_n 3, 1) := by decide +kernel
theorem dX0_whisper_40 : decode cX0_whisper 40 = .ok (.invokevirtual 34, 3) := by decide +kernel
theorem dX0_whisper_43 : decode cX0_whisper 43 = .ok (.invokestatic 38, 3) := by decide +kernel
theorem dX0_whisper_46 : decode cX0_whisper 46 = .ok (.istore 4, 2) := by decide +kernel
theorem dX0_whisper_48 : decode cX0_whisper 48 = .ok (.aload_n 0, 1) := by decide +kernel
theorem dX0_whisper_49 : decode cX0_whisper 49 = .ok (.getfield 15, 3) := by decide +kernel
theorem dX0_whisper_52 : decode cX0_whisper 52 = .ok (.iconst (-1), 1) := by decide +kernel
theorem dX0_whisper_53 : decode cX0_whisper 53 = .ok (.if_icmp .eq 12, 3) := by decide +kernel
theorem dX0_whisper_56 : decode cX0_whisper 56 = .ok (.iload 4, 2) := by decide +kernel
theorem dX0_whisper_58 : decode cX0_whisper 58 = .ok (.aload_n 0, 1) := by decide +kernel
theorem dX0_whisper_59 : decode cX0_whisper 59 = .ok (.getfield 19, 3) := by decide +kernel
theorem dX0_whisper_62 : decode cX0_whisper 62 = .ok (.if_icmp .ge 14, 3) := by decide +kernel
theorem dX0_whisper_65 : decode cX0_whisper 65 = .ok (.aload_n 0, 1) := by decide +kernel
theorem dX0_whisper_66 : decode cX0_whisper 66 = .ok (.iload_n 2, 1) := by decide +kernel
theorem dX0_whisper_67 : decode cX0_whisper 67 = .ok (.putfield 15, 3) := by decide +kernel
theorem dX0_whisper_70 : decode cX0_whisper 70 = .ok (.aload_n 0, 1) := by decide +kernel
theorem dX0_whisper_71 : decode cX0_whisper 71 = .ok (.iload 4, 2) := by decide +kernel
theorem dX0_whisper_73 : decode cX0_whisper 73 = .ok (.putfield 19, 3) := by decide +kernel
theorem dX0_whisper_76 : decode cX0_whisper 76 = .ok (.iinc 2 1, 3) := by decide +kernel
theorem dX0_whisper_79 : decode cX0_whisper 79 = .ok (.goto (-67), 3) := by decide +kernel
theorem dX0_whisper_82 : decode cX0_whisper 82 = .ok (.return_, 1) := by decide +kernel
theorem dX0_coverPlan_0 : decode cX0_coverPlan 0 = .ok (.iconst 0, 1) := by decide +kernel
theorem dX0_coverPlan_1 : decode cX0_coverPlan 1 = .ok (.istore_n 2, 1) := by decide +kernel
theorem dX0_coverPlan_2 : decode cX0_coverPlan 2 = .ok (.iload_n 2, 1) := by decide +kernel
theorem dX0_coverPlan_3 : decode cX0_coverPlan 3 = .ok (.iconst 3, 1) := by decide +kernel
theorem dX0_coverPlan_4 : decode cX0_coverPlan 4 = .ok (.if_icmp .gt 32, 3) := by decide +kernel
theorem dX0_coverPlan_7 : decode cX0_coverPlan 7 = .ok (.aload_n 0, 1) := by decide +kernel
theorem dX0_coverPlan_8 : decode cX0_coverPlan 8 = .ok (.iload_n 1, 1) := by decide +kernel
theorem dX0_coverPlan_9 : decode cX0_coverPlan 9 = .ok (.aload_n 0, 1) := by decide +kernel
theorem dX0_coverPlan_10 : decode cX0_coverPlan 10 = .ok (.getfield 27, 3) := by decide +kernel
theorem dX0_coverPlan_13 : decode cX0_coverPlan 13 = .ok (.iconst 0, 1) := by decide +kernel
theorem dX0_coverPlan_14 : decode cX0_coverPlan 14 = .ok (.iload_n 2, 1) := by decide +kernel
theorem dX0_coverPlan_15 : decode cX0_coverPlan 15 = .ok (.invokestatic 43, 3) := by decide +kernel
theorem dX0_coverPlan_18 : decode cX0_coverPlan 18 = .ok (.istore_n 3, 1) := by decide +kernel
theorem dX0_coverPlan_19 : decode cX0_coverPlan 19 = .ok (.iload_n 3, 1) := by decide +kernel
theorem dX0_coverPlan_20 : decode cX0_coverPlan 20 = .ok (.iconst (-1), 1) := by decide +kernel
theorem dX0_coverPlan_21 : decode cX0_coverPlan 21 = .ok (.if_icmp .eq 9, 3) := by decide +kernel
theorem dX0_coverPlan_24 : decode cX0_coverPlan 24 = .ok (.iload_n 3, 1) := by decide +kernel
theorem dX0_coverPlan_25 : decode cX0_coverPlan 25 = .ok (.iconst 2, 1) := by decide +kernel
theorem dX0_coverPlan_26 : decode cX0_coverPlan 26 = .ok (.ishl, 1) := by decide +kernel
theorem dX0_coverPlan_27 : decode cX0_coverPlan 27 = .ok (.iload_n 2, 1) := by decide +kernel
theorem dX0_coverPlan_28 : decode cX0_coverPlan 28 = .ok (.ior, 1) := by decide +kernel
theorem dX0_coverPlan_29 : decode cX0_coverPlan 29 = .ok (.ireturn, 1) := by decide +kernel
theorem dX0_coverPlan_30 : decode cX0_coverPlan 30 = .ok (.iinc 2 1, 3) := by decide +kernel
theorem dX0_coverPlan_33 : decode cX0_coverPlan 33 = .ok (.goto (-31), 3) := by decide +kernel
theorem dX0_coverPlan_36 : decode cX0_coverPlan 36 = .ok (.iconst (-1), 1) := by decide +kernel
theorem dX0_coverPlan_37 : decode cX0_coverPlan 37 = .ok (.ireturn, 1) := by decide +kernel
theorem dX0_planFrom_0 : decode cX0_planFrom 0 = .ok (.iload_n 3, 1) := by decide +kernel
theorem dX0_planFrom_1 : decode cX0_planFrom 1 = .ok (.iload 4, 2) := by decide +kernel
theorem dX0_planFrom_3 : decode cX0_planFrom 3 = .ok (.if_icmp .ge 8, 3) := by decide +kernel
theorem dX0_planFrom_6 : decode cX0_planFrom 6 = .ok (.iload_n 3, 1) := by decide +kernel
theorem dX0_planFrom_7 : decode cX0_planFrom 7 = .ok (.iconst 3, 1) := by decide +kernel
theorem dX0_planFrom_8 : decode cX0_planFrom 8 = .ok (.if_icmp .lt 21, 3) := by decide +kernel
theorem dX0_planFrom_11 : decode cX0_planFrom 11 = .ok (.iload_n 1, 1) := by decide +kernel
theorem dX0_planFrom_12 : decode cX0_planFrom 12 = .ok (.aload_n 0, 1) := by decide +kernel
theorem dX0_planFrom_13 : decode cX0_planFrom 13 = .ok (.iload_n 2, 1) := by decide +kernel
theorem dX0_planFrom_14 : decode cX0_planFrom 14 = .ok (.invokevirtual 34, 3) := by decide +kernel
theorem dX0_planFrom_17 : decode cX0_planFrom 17 = .ok (.iconst (-1), 1) := by decide +kernel
theorem dX0_planFrom_18 : decode cX0_planFrom 18 = .ok (.ixor, 1) := by decide +kernel
theorem dX0_planFrom_19 : decode cX0_planFrom 19 = .ok (.iand, 1) := by decide +kernel
theorem dX0_planFrom_20 : decode cX0_planFrom 20 = .ok (.ifCond .ne 7, 3) := by decide +kernel
theorem dX0_planFrom_23 : decode cX0_planFrom 23 = .ok (.iconst 0, 1) := by decide +kernel
theorem dX0_planFrom_24 : decode cX0_planFrom 24 = .ok (.goto 4, 3) := by decide +kernel
theorem dX0_planFrom_27 : decode cX0_planFrom 27 = .ok (.iconst (-1), 1) := by decide +kernel
theorem dX0_planFrom_28 : decode cX0_planFrom 28 = .ok (.ireturn, 1) := by decide +kernel
theorem dX0_planFrom_29 : decode cX0_planFrom 29 = .ok (.aload_n 0, 1) := by decide +kernel
theorem dX0_planFrom_30 : decode cX0_planFrom 30 = .ok (.getfield 22, 3) := by decide +kernel
theorem dX0_planFrom_33 : decode cX0_planFrom 33 = .ok (.iload_n 3, 1) := by decide +kernel
theorem dX0_planFrom_34 : decode cX0_planFrom 34 = .ok (.isub, 1) := by decide +kernel
theorem dX0_planFrom_35 : decode cX0_planFrom 35 = .ok (.istore 5, 2) := by decide +kernel
theorem dX0_planFrom_37 : decode cX0_planFrom 37 = .ok (.iload 5, 2) := by decide +kernel
theorem dX0_planFrom_39 : decode cX0_planFrom 39 = .ok (.iconst 1, 1) := by decide +kernel
theorem dX0_planFrom_40 : decode cX0_planFrom 40 = .ok (.if_icmp .ge 5, 3) := by decide +kernel
theorem dX0_planFrom_43 : decode cX0_planFrom 43 = .ok (.iconst (-1), 1) := by decide +kernel
theorem dX0_planFrom_44 : decode cX0_planFrom 44 = .ok (.ireturn, 1) := by decide +kernel
theorem dX0_planFrom_45 : decode cX0_planFrom 45 = .ok (.iconst 0, 1) := by decide +kernel
theorem dX0_planFrom_46 : decode cX0_planFrom 46 = .ok (.istore 6, 2) := by decide +kernel
theorem dX0_planFrom_48 : decode cX0_planFrom 48 = .ok (.iload 6, 2) := by decide +kernel
theorem dX0_planFrom_50 : decode cX0_planFrom 50 = .ok (.bipush 6, 2) := by decide +kernel
theorem dX0_planFrom_52 : decode cX0_planFrom 52 = .ok (.if_icmp .ge 49, 3) := by decide +kernel
theorem dX0_planFrom_55 : decode cX0_planFrom 55 = .ok (.aload_n 0, 1) := by decide +kernel
theorem dX0_planFrom_56 : decode cX0_planFrom 56 = .ok (.iload_n 2, 1) := by decide +kernel
theorem dX0_planFrom_57 : decode cX0_planFrom 57 = .ok (.iload 6, 2) := by decide +kernel
theorem dX0_planFrom_59 : decode cX0_planFrom 59 = .ok (.iload 5, 2) := by decide +kernel
theorem dX0_planFrom_61 : decode cX0_planFrom 61 = .ok (.iconst 0, 1) := by decide +kernel
theorem dX0_planFrom_62 : decode cX0_planFrom 62 = .ok (.invokevirtual 30, 3) := by decide +kernel
theorem dX0_planFrom_65 : decode cX0_planFrom 65 = .ok (.istore 7, 2) := by decide +kernel
theorem dX0_planFrom_67 : decode cX0_planFrom 67 = .ok (.aload_n 0, 1) := by decide +kernel
theorem dX0_planFrom_68 : decode cX0_planFrom 68 = .ok (.iload_n 1, 1) := by decide +kernel
theorem dX0_planFrom_69 : decode cX0_planFrom 69 = .ok (.iload 7, 2) := by decide +kernel
theorem dX0_planFrom_71 : decode cX0_planFrom 71 = .ok (.iload_n 3, 1) := by decide +kernel
theorem dX0_planFrom_72 : decode cX0_planFrom 72 = .ok (.iconst 1, 1) := by decide +kernel
theorem dX0_planFrom_73 : decode cX0_planFrom 73 = .ok (.iadd, 1) := by decide +kernel
theorem dX0_planFrom_74 : decode cX0_planFrom 74 = .ok (.iload 4, 2) := by decide +kernel
theorem dX0_planFrom_76 : decode cX0_planFrom 76 = .ok (.invokestatic 43, 3) := by decide +kernel
theorem dX0_planFrom_79 : decode cX0_planFrom 79 = .ok (.istore 8, 2) := by decide +kernel
theorem dX0_planFrom_81 : decode cX0_planFrom 81 = .ok (.iload 8, 2) := by decide +kernel
theorem dX0_planFrom_83 : decode cX0_planFrom 83 = .ok (.iconst (-1), 1) := by decide +kernel
theorem dX0_planFrom_84 : decode cX0_planFrom 84 = .ok (.if_icmp .eq 11, 3) := by decide +kernel
theorem dX0_planFrom_87 : decode cX0_planFrom 87 = .ok (.iload 8, 2) := by decide +kernel
theorem dX0_planFrom_89 : decode cX0_planFrom 89 = .ok (.iconst 3, 1) := by decide +kernel
theorem dX0_planFrom_90 : decode cX0_planFrom 90 = .ok (.ishl, 1) := by decide +kernel
theorem dX0_planFrom_91 : decode cX0_planFrom 91 = .ok (.iload 6, 2) := by decide +kernel
theorem dX0_planFrom_93 : decode cX0_planFrom 93 = .ok (.ior, 1) := by decide +kernel
theorem dX0_planFrom_94 : decode cX0_planFrom 94 = .ok (.ireturn, 1) := by decide +kernel
theorem dX0_planFrom_95 : decode cX0_planFrom 95 = .ok (.iinc 6 1, 3) := by decide +kernel
theorem dX0_planFrom_98 : decode cX0_planFrom 98 = .ok (.goto (-50), 3) := by decide +kernel
theorem dX0_planFrom_101 : decode cX0_planFrom 101 = .ok (.iconst (-1), 1) := by decide +kernel
theorem dX0_planFrom_102 : decode cX0_planFrom 102 = .ok (.ireturn, 1) := by decide +kernel
theorem dX0_partOfPlan_0 : decode cX0_partOfPlan 0 = .ok (.iload_n 0, 1) := by decide +kernel
theorem dX0_partOfPlan_1 : decode cX0_partOfPlan 1 = .ok (.ifCond .ge 5, 3) := by decide +kernel
theorem dX0_partOfPlan_4 : decode cX0_partOfPlan 4 = .ok (.iload_n 0, 1) := by decide +kernel
theorem dX0_partOfPlan_5 : decode cX0_partOfPlan 5 = .ok (.ireturn, 1) := by decide +kernel
theorem dX0_partOfPlan_6 : decode cX0_partOfPlan 6 = .ok (.iload_n 0, 1) := by decide +kernel
theorem dX0_partOfPlan_7 : decode cX0_partOfPlan 7 = .ok (.iconst 3, 1) := by decide +kernel
theorem dX0_partOfPlan_8 : decode cX0_partOfPlan 8 = .ok (.iand, 1) := by decide +kernel
theorem dX0_partOfPlan_9 : decode cX0_partOfPlan 9 = .ok (.istore_n 2, 1) := by decide +kernel
theorem dX0_partOfPlan_10 : decode cX0_partOfPlan 10 = .ok (.iload_n 1, 1) := by decide +kernel
theorem dX0_partOfPlan_11 : decode cX0_partOfPlan 11 = .ok (.ifCond .ne 5, 3) := by decide +kernel
theorem dX0_partOfPlan_14 : decode cX0_partOfPlan 14 = .ok (.iload_n 2, 1) := by decide +kernel
theorem dX0_partOfPlan_15 : decode cX0_partOfPlan 15 = .ok (.ireturn, 1) := by decide +kernel
theorem dX0_partOfPlan_16 : decode cX0_partOfPlan 16 = .ok (.iload_n 1, 1) := by decide +kernel
theorem dX0_partOfPlan_17 : decode cX0_partOfPlan 17 = .ok (.bipush 10, 2) := by decide +kernel
theorem dX0_partOfPlan_19 : decode cX0_partOfPlan 19 = .ok (.isub, 1) := by decide +kernel
theorem dX0_partOfPlan_20 : decode cX0_partOfPlan 20 = .ok (.istore_n 3, 1) := by decide +kernel
theorem dX0_partOfPlan_21 : decode cX0_partOfPlan 21 = .ok (.iload_n 3, 1) := by decide +kernel
theorem dX0_partOfPlan_22 : decode cX0_partOfPlan 22 = .ok (.ifCond .lt 8, 3) := by decide +kernel
theorem dX0_partOfPlan_25 : decode cX0_partOfPlan 25 = .ok (.iload_n 3, 1) := by decide +kernel
theorem dX0_partOfPlan_26 : decode cX0_partOfPlan 26 = .ok (.iload_n 2, 1) := by decide +kernel
theorem dX0_partOfPlan_27 : decode cX0_partOfPlan 27 = .ok (.if_icmp .lt 5, 3) := by decide +kernel
theorem dX0_partOfPlan_30 : decode cX0_partOfPlan 30 = .ok (.iconst (-1), 1) := by decide +kernel
theorem dX0_partOfPlan_31 : decode cX0_partOfPlan 31 = .ok (.ireturn, 1) := by decide +kernel
theorem dX0_partOfPlan_32 : decode cX0_partOfPlan 32 = .ok (.iload_n 0, 1) := by decide +kernel
theorem dX0_partOfPlan_33 : decode cX0_partOfPlan 33 = .ok (.iconst 2, 1) := by decide +kernel
theorem dX0_partOfPlan_34 : decode cX0_partOfPlan 34 = .ok (.iconst 3, 1) := by decide +kernel
theorem dX0_partOfPlan_35 : decode cX0_partOfPlan 35 = .ok (.iload_n 3, 1) := by decide +kernel
theorem dX0_partOfPlan_36 : decode cX0_partOfPlan 36 = .ok (.imul, 1) := by decide +kernel
theorem dX0_partOfPlan_37 : decode cX0_partOfPlan 37 = .ok (.iadd, 1) := by decide +kernel
theorem dX0_partOfPlan_38 : decode cX0_partOfPlan 38 = .ok (.ishr, 1) := by decide +kernel
theorem dX0_partOfPlan_39 : decode cX0_partOfPlan 39 = .ok (.bipush 7, 2) := by decide +kernel
theorem dX0_partOfPlan_41 : decode cX0_partOfPlan 41 = .ok (.iand, 1) := by decide +kernel
theorem dX0_partOfPlan_42 : decode cX0_partOfPlan 42 = .ok (.ireturn, 1) := by decide +kernel
theorem dX0_sentAway_0 : decode cX0_sentAway 0 = .ok (.iconst (-1), 1) := by decide +kernel
theorem dX0_sentAway_1 : decode cX0_sentAway 1 = .ok (.istore 4, 2) := by decide +kernel
theorem dX0_sentAway_3 : decode cX0_sentAway 3 = .ok (.aload_n 0, 1) := by decide +kernel
theorem dX0_sentAway_4 : decode cX0_sentAway 4 = .ok (.invokevirtual 47, 3) := by decide +kernel
theorem dX0_sentAway_7 : decode cX0_sentAway 7 = .ok (.istore 5, 2) := by decide +kernel
theorem dX0_sentAway_9 : decode cX0_sentAway 9 = .ok (.iconst 0, 1) := by decide +kernel
theorem dX0_sentAway_10 : decode cX0_sentAway 10 = .ok (.istore 6, 2) := by decide +kernel
theorem dX0_sentAway_12 : decode cX0_sentAway 12 = .ok (.iload 6, 2) := by decide +kernel
theorem dX0_sentAway_14 : decode cX0_sentAway 14 = .ok (.iload 5, 2) := by decide +kernel
theorem dX0_sentAway_16 : decode cX0_sentAway 16 = .ok (.if_icmp .gt 77, 3) := by decide +kernel
theorem dX0_sentAway_19 : decode cX0_sentAway 19 = .ok (.iload 6, 2) := by decide +kernel
theorem dX0_sentAway_21 : decode cX0_sentAway 21 = .ok (.iload_n 1, 1) := by decide +kernel
theorem dX0_sentAway_22 : decode cX0_sentAway 22 = .ok (.ishr, 1) := by decide +kernel
theorem dX0_sentAway_23 : decode cX0_sentAway 23 = .ok (.iconst 1, 1) := by decide +kernel
theorem dX0_sentAway_24 : decode cX0_sentAway 24 = .ok (.iand, 1) := by decide +kernel
theorem dX0_sentAway_25 : decode cX0_sentAway 25 = .ok (.ifCond .ne 7, 3) := by decide +kernel
theorem dX0_sentAway_28 : decode cX0_sentAway 28 = .ok (.iconst 1, 1) := by decide +kernel
theorem dX0_sentAway_29 : decode cX0_sentAway 29 = .ok (.goto 4, 3) := by decide +kernel
theorem dX0_sentAway_32 : decode cX0_sentAway 32 = .ok (.iconst 0, 1) := by decide +kernel
theorem dX0_sentAway_33 : decode cX0_sentAway 33 = .ok (.istore 7, 2) := by decide +kernel
theorem dX0_sentAway_35 : decode cX0_sentAway 35 = .ok (.iload 4, 2) := by decide +kernel
theorem dX0_sentAway_37 : decode cX0_sentAway 37 = .ok (.iconst (-1), 1) := by decide +kernel
theorem dX0_sentAway_38 : decode cX0_sentAway 38 = .ok (.if_icmp .eq 16, 3) := by decide +kernel
theorem dX0_sentAway_41 : decode cX0_sentAway 41 = .ok (.iload 6, 2) := by decide +kernel
theorem dX0_sentAway_43 : decode cX0_sentAway 43 = .ok (.invokestatic 38, 3) := by decide +kernel
theorem dX0_sentAway_46 : decode cX0_sentAway 46 = .ok (.iload 4, 2) := by decide +kernel
theorem dX0_sentAway_48 : decode cX0_sentAway 48 = .ok (.invokestatic 38, 3) := by decide +kernel
theorem dX0_sentAway_51 : decode cX0_sentAway 51 = .ok (.if_icmp .ge 7, 3) := by decide +kernel
theorem dX0_sentAway_54 : decode cX0_sentAway 54 = .ok (.iconst 1, 1) := by decide +kernel
theorem dX0_sentAway_55 : decode cX0_sentAway 55 = .ok (.goto 4, 3) := by decide +kernel
theorem dX0_sentAway_58 : decode cX0_sentAway 58 = .ok (.iconst 0, 1) := by decide +kernel
theorem dX0_sentAway_59 : decode cX0_sentAway 59 = .ok (.istore 8, 2) := by decide +kernel
theorem dX0_sentAway_61 : decode cX0_sentAway 61 = .ok (.iload 7, 2) := by decide +kernel
theorem dX0_sentAway_63 : decode cX0_sentAway 63 = .ok (.ifCond .eq 24, 3) := by decide +kernel
theorem dX0_sentAway_66 : decode cX0_sentAway 66 = .ok (.iload 8, 2) := by decide +kernel
theorem dX0_sentAway_68 : decode cX0_sentAway 68 = .ok (.ifCond .eq 19, 3) := by decide +kernel
theorem dX0_sentAway_71 : decode cX0_sentAway 71 = .ok (.aload_n 0, 1) := by decide +kernel
theorem dX0_sentAway_72 : decode cX0_sentAway 72 = .ok (.iload_n 1, 1) := by decide +kernel
theorem dX0_sentAway_73 : decode cX0_sentAway 73 = .ok (.iload_n 2, 1) := by decide +kernel
theorem dX0_sentAway_74 : decode cX0_sentAway 74 = .ok (.iload_n 3, 1) := by decide +kernel
theorem dX0_sentAway_75 : decode cX0_sentAway 75 = .ok (.iload 6, 2) := by decide +kernel
theorem dX0_sentAway_77 : decode cX0_sentAway 77 = .ok (.invokestatic 51, 3) := by decide +kernel
theorem dX0_sentAway_80 : decode cX0_sentAway 80 = .ok (.ifCond .ne 7, 3) := by decide +kernel
theorem dX0_sentAway_83 : decode cX0_sentAway 83 = .ok (.iload 6, 2) := by decide +kernel
theorem dX0_sentAway_85 : decode cX0_sentAway 85 = .ok (.istore 4, 2) := by decide +kernel
theorem dX0_sentAway_87 : decode cX0_sentAway 87 = .ok (.iinc 6 1, 3) := by decide +kernel
theorem dX0_sentAway_90 : decode cX0_sentAway 90 = .ok (.goto (-78), 3) := by decide +kernel
theorem dX0_sentAway_93 : decode cX0_sentAway 93 = .ok (.iload 4, 2) := by decide +kernel
theorem dX0_sentAway_95 : decode cX0_sentAway 95 = .ok (.ireturn, 1) := by decide +kernel
theorem dX0_learns_0 : decode cX0_learns 0 = .ok (.aload_n 0, 1) := by decide +kernel
theorem dX0_learns_1 : decode cX0_learns 1 = .ok (.aload_n 0, 1) := by decide +kernel
theorem dX0_learns_2 : decode cX0_learns 2 = .ok (.iconst 0, 1) := by decide +kernel
theorem dX0_learns_3 : decode cX0_learns 3 = .ok (.iload_n 2, 1) := by decide +kernel
theorem dX0_learns_4 : decode cX0_learns 4 = .ok (.iload_n 3, 1) := by decide +kernel
theorem dX0_learns_5 : decode cX0_learns 5 = .ok (.iload 4, 2) := by decide +kernel
theorem dX0_learns_7 : decode cX0_learns 7 = .ok (.invokevirtual 30, 3) := by decide +kernel
theorem dX0_learns_10 : decode cX0_learns 10 = .ok (.invokevirtual 34, 3) := by decide +kernel
theorem dX0_learns_13 : decode cX0_learns 13 = .ok (.iload_n 1, 1) := by decide +kernel
theorem dX0_learns_14 : decode cX0_learns 14 = .ok (.ishr, 1) := by decide +kernel
theorem dX0_learns_15 : decode cX0_learns 15 = .ok (.iconst 1, 1) := by decide +kernel
theorem dX0_learns_16 : decode cX0_learns 16 = .ok (.iand, 1) := by decide +kernel
theorem dX0_learns_17 : decode cX0_learns 17 = .ok (.iconst 1, 1) := by decide +kernel
theorem dX0_learns_18 : decode cX0_learns 18 = .ok (.if_icmp .ne 7, 3) := by decide +kernel
theorem dX0_learns_21 : decode cX0_learns 21 = .ok (.iconst 1, 1) := by decide +kernel
theorem dX0_learns_22 : decode cX0_learns 22 = .ok (.goto 4, 3) := by decide +kernel
theorem dX0_learns_25 : decode cX0_learns 25 = .ok (.iconst 0, 1) := by decide +kernel
theorem dX0_learns_26 : decode cX0_learns 26 = .ok (.ireturn, 1) := by decide +kernel
theorem dX0_seek_0 : decode cX0_seek 0 = .ok (.aload_n 0, 1) := by decide +kernel
theorem dX0_seek_1 : decode cX0_seek 1 = .ok (.iconst 0, 1) := by decide +kernel
theorem dX0_seek_2 : decode cX0_seek 2 = .ok (.putfield 55, 3) := by decide +kernel
theorem dX0_seek_5 : decode cX0_seek 5 = .ok (.aload_n 0, 1) := by decide +kernel
theorem dX0_seek_6 : decode cX0_seek 6 = .ok (.iconst (-1), 1) := by decide +kernel
theorem dX0_seek_7 : decode cX0_seek 7 = .ok (.putfield 58, 3) := by decide +kernel
theorem dX0_seek_10 : decode cX0_seek 10 = .ok (.iconst 0, 1) := by decide +kernel
theorem dX0_seek_11 : decode cX0_seek 11 = .ok (.istore_n 2, 1) := by decide +kernel
theorem dX0_seek_12 : decode cX0_seek 12 = .ok (.iload_n 2, 1) := by decide +kernel
theorem dX0_seek_13 : decode cX0_seek 13 = .ok (.bipush 6, 2) := by decide +kernel
theorem dX0_seek_15 : decode cX0_seek 15 = .ok (.if_icmp .ge 16, 3) := by decide +kernel
theorem dX0_seek_18 : decode cX0_seek 18 = .ok (.aload_n 0, 1) := by decide +kernel
theorem dX0_seek_19 : decode cX0_seek 19 = .ok (.getfield 9, 3) := by decide +kernel
theorem dX0_seek_22 : decode cX0_seek 22 = .ok (.iload_n 2, 1) := by decide +kernel
theorem dX0_seek_23 : decode cX0_seek 23 = .ok (.iconst 0, 1) := by decide +kernel
theorem dX0_seek_24 : decode cX0_seek 24 = .ok (.iastore, 1) := by decide +kernel
theorem dX0_seek_25 : decode cX0_seek 25 = .ok (.iinc 2 1, 3) := by decide +kernel
theorem dX0_seek_28 : decode cX0_seek 28 = .ok (.goto (-16), 3) := by decide +kernel
theorem dX0_seek_31 : decode cX0_seek 31 = .ok (.iconst 0, 1) := by decide +kernel
theorem dX0_seek_32 : decode cX0_seek 32 = .ok (.istore_n 2, 1) := by decide +kernel
theorem dX0_seek_33 : decode cX0_seek 33 = .ok (.iload_n 2, 1) := by decide +kernel
theorem dX0_seek_34 : decode cX0_seek 34 = .ok (.bipush 6, 2) := by decide +kernel
theorem dX0_seek_36 : decode cX0_seek 36 = .ok (.if_icmp .ge 86, 3) := by decide +kernel
theorem dX0_seek_39 : decode cX0_seek 39 = .ok (.iconst 1, 1) := by decide +kernel
theorem dX0_seek_40 : decode cX0_seek 40 = .ok (.istore_n 3, 1) := by decide +kernel
theorem dX0_seek_41 : decode cX0_seek 41 = .ok (.iload_n 3, 1) := by decide +kernel
theorem dX0_seek_42 : decode cX0_seek 42 = .ok (.bipush 9, 2) := by decide +kernel
theorem dX0_seek_44 : decode cX0_seek 44 = .ok (.if_icmp .gt 72, 3) := by decide +kernel
theorem dX0_seek_47 : decode cX0_seek 47 = .ok (.aload_n 1, 1) := by decide +kernel
theorem dX0_seek_48 : decode cX0_seek 48 = .ok (.aload_n 1, 1) := by decide +kernel
theorem dX0_seek_49 : decode cX0_seek 49 = .ok (.iconst 0, 1) := by decide +kernel
theorem dX0_seek_50 : decode cX0_seek 50 = .ok (.iload_n 2, 1) := by decide +kernel
theorem dX0_seek_51 : decode cX0_seek 51 = .ok (.iload_n 3, 1) := by decide +kernel
theorem dX0_seek_52 : decode cX0_seek 52 = .ok (.iconst 0, 1) := by decide +kernel
theorem dX0_seek_53 : decode cX0_seek 53 = .ok (.invokevirtual 30, 3) := by decide +kernel
theorem dX0_seek_56 : decode cX0_seek 56 = .ok (.invokevirtual 34, 3) := by decide +kernel
theorem dX0_seek_59 : decode cX0_seek 59 = .ok (.istore 4, 2) := by decide +kernel
theorem dX0_seek_61 : decode cX0_seek 61 = .ok (.aload_n 1, 1) := by decide +kernel
theorem dX0_seek_62 : decode cX0_seek 62 = .ok (.iload 4, 2) := by decide +kernel
theorem dX0_seek_64 : decode cX0_seek 64 = .ok (.invokevirtual 61, 3) := by decide +kernel
theorem dX0_seek_67 : decode cX0_seek 67 = .ok (.ifCond .eq 43, 3) := by decide +kernel
theorem dX0_seek_70 : decode cX0_seek 70 = .ok (.aload_n 0, 1) := by decide +kernel
theorem dX0_seek_71 : decode cX0_seek 71 = .ok (.aload_n 0, 1) := by decide +kernel
theorem dX0_seek_72 : decode cX0_seek 72 = .ok (.getfield 55, 3) := by decide +kernel
theorem dX0_seek_75 : decode cX0_seek 75 = .ok (.ifCond .ne 12, 3) := by decide +kernel
theorem dX0_seek_78 : decode cX0_seek 78 = .ok (.bipush 10, 2) := by decide +kernel
theorem dX0_seek_80 : decode cX0_seek 80 = .ok (.iload_n 2, 1) := by decide +kernel
theorem dX0_seek_81 : decode cX0_seek 81 = .ok (.imul, 1) := by decide +kernel
theorem dX0_seek_82 : decode cX0_seek 82 = .ok (.iload_n 3, 1) := by decide +kernel
theorem dX0_seek_83 : decode cX0_seek 83 = .ok (.iadd, 1) := by decide +kernel
theorem dX0_seek_84 : decode cX0_seek 84 = .ok (.goto 7, 3) := by decide +kernel
theorem dX0_seek_87 : decode cX0_seek 87 = .ok (.aload_n 0, 1) := by decide +kernel
theorem dX0_seek_88 : decode cX0_seek 88 = .ok (.getfield 58, 3) := by decide +kernel
theorem dX0_seek_91 : decode cX0_seek 91 = .ok (.putfield 58, 3) := by decide +kernel
theorem dX0_seek_94 : decode cX0_seek 94 = .ok (.aload_n 0, 1) := by decide +kernel
theorem dX0_seek_95 : decode cX0_seek 95 = .ok (.dup, 1) := by decide +kernel
theorem dX0_seek_96 : decode cX0_seek 96 = .ok (.getfield 55, 3) := by decide +kernel
theorem dX0_seek_99 : decode cX0_seek 99 = .ok (.iconst 1, 1) := by decide +kernel
theorem dX0_seek_100 : decode cX0_seek 100 = .ok (.iadd, 1) := by decide +kernel
theorem dX0_seek_101 : decode cX0_seek 101 = .ok (.putfield 55, 3) := by decide +kernel
theorem dX0_seek_104 : decode cX0_seek 104 = .ok (.aload_n 0, 1) := by decide +kernel
theorem dX0_seek_105 : decode cX0_seek 105 = .ok (.iload 4, 2) := by decide +kernel
theorem dX0_seek_107 : decode cX0_seek 107 = .ok (.invokevirtual 65, 3) := by decide +kernel
theorem dX0_seek_110 : decode cX0_seek 110 = .ok (.iinc 3 1, 3) := by decide +kernel
theorem dX0_seek_113 : decode cX0_seek 113 = .ok (.goto (-72), 3) := by decide +kernel
theorem dX0_seek_116 : decode cX0_seek 116 = .ok (.iinc 2 1, 3) := by decide +kernel
theorem dX0_seek_119 : decode cX0_seek 119 = .ok (.goto (-86), 3) := by decide +kernel
theorem dX0_seek_122 : decode cX0_seek 122 = .ok (.return_, 1) := by decide +kernel
theorem dX0_tally_0 : decode cX0_tally 0 = .ok (.iconst 0, 1) := by decide +kernel
theorem dX0_tally_1 : decode cX0_tally 1 = .ok (.istore_n 2, 1) := by decide +kernel
theorem dX0_tally_2 : decode cX0_tally 2 = .ok (.iload_n 2, 1) := by decide +kernel
theorem dX0_tally_3 : decode cX0_tally 3 = .ok (.bipush 6, 2) := by decide +kernel
theorem dX0_tally_5 : decode cX0_tally 5 = .ok (.if_icmp .ge 23, 3) := by decide +kernel
theorem dX0_tally_8 : decode cX0_tally 8 = .ok (.aload_n 0, 1) := by decide +kernel
theorem dX0_tally_9 : decode cX0_tally 9 = .ok (.getfield 9, 3) := by decide +kernel
theorem dX0_tally_12 : decode cX0_tally 12 = .ok (.iload_n 2, 1) := by decide +kernel
theorem dX0_tally_13 : decode cX0_tally 13 = .ok (.dup2, 1) := by decide +kernel
theorem dX0_tally_14 : decode cX0_tally 14 = .ok (.iaload, 1) := by decide +kernel
theorem dX0_tally_15 : decode cX0_tally 15 = .ok (.iload_n 1, 1) := by decide +kernel
theorem dX0_tally_16 : decode cX0_tally 16 = .ok (.iload_n 2, 1) := by decide +kernel
theorem dX0_tally_17 : decode cX0_tally 17 = .ok (.ishr, 1) := by decide +kernel
theorem dX0_tally_18 : decode cX0_tally 18 = .ok (.iconst 1, 1) := by decide +kernel
theorem dX0_tally_19 : decode cX0_tally 19 = .ok (.iand, 1) := by decide +kernel
theorem dX0_tally_20 : decode cX0_tally 20 = .ok (.iadd, 1) := by decide +kernel
theorem dX0_tally_21 : decode cX0_tally 21 = .ok (.iastore, 1) := by decide +kernel
theorem dX0_tally_22 : decode cX0_tally 22 = .ok (.iinc 2 1, 3) := by decide +kernel
theorem dX0_tally_25 : decode cX0_tally 25 = .ok (.goto (-23), 3) := by decide +kernel
theorem dX0_tally_28 : decode cX0_tally 28 = .ok (.return_, 1) := by decide +kernel
theorem dX0_bestAsked_0 : decode cX0_bestAsked 0 = .ok (.iconst (-1), 1) := by decide +kernel
theorem dX0_bestAsked_1 : decode cX0_bestAsked 1 = .ok (.istore_n 2, 1) := by decide +kernel
theorem dX0_bestAsked_2 : decode cX0_bestAsked 2 = .ok (.aload_n 0, 1) := by decide +kernel
theorem dX0_bestAsked_3 : decode cX0_bestAsked 3 = .ok (.getfield 55, 3) := by decide +kernel
theorem dX0_bestAsked_6 : decode cX0_bestAsked 6 = .ok (.istore_n 3, 1) := by decide +kernel
theorem dX0_bestAsked_7 : decode cX0_bestAsked 7 = .ok (.iconst 0, 1) := by decide +kernel
theorem dX0_bestAsked_8 : decode cX0_bestAsked 8 = .ok (.istore 4, 2) := by decide +kernel
theorem dX0_bestAsked_10 : decode cX0_bestAsked 10 = .ok (.iload 4, 2) := by decide +kernel
theorem dX0_bestAsked_12 : decode cX0_bestAsked 12 = .ok (.iload_n 1, 1) := by decide +kernel
theorem dX0_bestAsked_13 : decode cX0_bestAsked 13 = .ok (.if_icmp .ge 64, 3) := by decide +kernel
theorem dX0_bestAsked_16 : decode cX0_bestAsked 16 = .ok (.iload 4, 2) := by decide +kernel
theorem dX0_bestAsked_18 : decode cX0_bestAsked 18 = .ok (.bipush 6, 2) := by decide +kernel
theorem dX0_bestAsked_20 : decode cX0_bestAsked 20 = .ok (.if_icmp .ge 57, 3) := by decide +kernel
theorem dX0_bestAsked_23 : decode cX0_bestAsked 23 = .ok (.aload_n 0, 1) := by decide +kernel
theorem dX0_bestAsked_24 : decode cX0_bestAsked 24 = .ok (.getfield 55, 3) := by decide +kernel
theorem dX0_bestAsked_27 : decode cX0_bestAsked 27 = .ok (.ifCond .le 50, 3) := by decide +kernel
theorem dX0_bestAsked_30 : decode cX0_bestAsked 30 = .ok (.aload_n 0, 1) := by decide +kernel
theorem dX0_bestAsked_31 : decode cX0_bestAsked 31 = .ok (.getfield 9, 3) := by decide +kernel
theorem dX0_bestAsked_34 : decode cX0_bestAsked 34 = .ok (.iload 4, 2) := by decide +kernel
theorem dX0_bestAsked_36 : decode cX0_bestAsked 36 = .ok (.iaload, 1) := by decide +kernel
theorem dX0_bestAsked_37 : decode cX0_bestAsked 37 = .ok (.aload_n 0, 1) := by decide +kernel
theorem dX0_bestAsked_38 : decode cX0_bestAsked 38 = .ok (.getfield 55, 3) := by decide +kernel
theorem dX0_bestAsked_41 : decode cX0_bestAsked 41 = .ok (.aload_n 0, 1) := by decide +kernel
theorem dX0_bestAsked_42 : decode cX0_bestAsked 42 = .ok (.getfield 9, 3) := by decide +kernel
theorem dX0_bestAsked_45 : decode cX0_bestAsked 45 = .ok (.iload 4, 2) := by decide +kernel
theorem dX0_bestAsked_47 : decode cX0_bestAsked 47 = .ok (.iaload, 1) := by decide +kernel
theorem dX0_bestAsked_48 : decode cX0_bestAsked 48 = .ok (.isub, 1) := by decide +kernel
theorem dX0_bestAsked_49 : decode cX0_bestAsked 49 = .ok (.invokestatic 69, 3) := by decide +kernel
theorem dX0_bestAsked_52 : decode cX0_bestAsked 52 = .ok (.istore 5, 2) := by decide +kernel
theorem dX0_bestAsked_54 : decode cX0_bestAsked 54 = .ok (.iload_n 2, 1) := by decide +kernel
theorem dX0_bestAsked_55 : decode cX0_bestAsked 55 = .ok (.iconst (-1), 1) := by decide +kernel
theorem dX0_bestAsked_56 : decode cX0_bestAsked 56 = .ok (.if_icmp .eq 9, 3) := by decide +kernel
theorem dX0_bestAsked_59 : decode cX0_bestAsked 59 = .ok (.iload 5, 2) := by decide +kernel
theorem dX0_bestAsked_61 : decode cX0_bestAsked 61 = .ok (.iload_n 3, 1) := by decide +kernel
theorem dX0_bestAsked_62 : decode cX0_bestAsked 62 = .ok (.if_icmp .ge 9, 3) := by decide +kernel
theorem dX0_bestAsked_65 : decode cX0_bestAsked 65 = .ok (.iload 4, 2) := by decide +kernel
theorem dX0_bestAsked_67 : decode cX0_bestAsked 67 = .ok (.istore_n 2, 1) := by decide +kernel
theorem dX0_bestAsked_68 : decode cX0_bestAsked 68 = .ok (.iload 5, 2) := by decide +kernel
theorem dX0_bestAsked_70 : decode cX0_bestAsked 70 = .ok (.istore_n 3, 1) := by decide +kernel
theorem dX0_bestAsked_71 : decode cX0_bestAsked 71 = .ok (.iinc 4 1, 3) := by decide +kernel
theorem dX0_bestAsked_74 : decode cX0_bestAsked 74 = .ok (.goto (-64), 3) := by decide +kernel
theorem dX0_bestAsked_77 : decode cX0_bestAsked 77 = .ok (.iload_n 2, 1) := by decide +kernel
theorem dX0_bestAsked_78 : decode cX0_bestAsked 78 = .ok (.ireturn, 1) := by decide +kernel
theorem dX0_live_0 : decode cX0_live 0 = .ok (.aload_n 0, 1) := by decide +kernel
theorem dX0_live_1 : decode cX0_live 1 = .ok (.iconst 0, 1) := by decide +kernel
theorem dX0_live_2 : decode cX0_live 2 = .ok (.putfield 75, 3) := by decide +kernel
theorem dX0_live_5 : decode cX0_live 5 = .ok (.aload_n 0, 1) := by decide +kernel
theorem dX0_live_6 : decode cX0_live 6 = .ok (.iconst 0, 1) := by decide +kernel
theorem dX0_live_7 : decode cX0_live 7 = .ok (.putfield 78, 3) := by decide +kernel
theorem dX0_live_10 : decode cX0_live 10 = .ok (.aload_n 0, 1) := by decide +kernel
theorem dX0_live_11 : decode cX0_live 11 = .ok (.iload_n 3, 1) := by decide +kernel
theorem dX0_live_12 : decode cX0_live 12 = .ok (.putfield 81, 3) := by decide +kernel
theorem dX0_live_15 : decode cX0_live 15 = .ok (.iconst 0, 1) := by decide +kernel
theorem dX0_live_16 : decode cX0_live 16 = .ok (.istore 4, 2) := by decide +kernel
theorem dX0_live_18 : decode cX0_live 18 = .ok (.iload 4, 2) := by decide +kernel
theorem dX0_live_20 : decode cX0_live 20 = .ok (.iload_n 2, 1) := by decide +kernel
theorem dX0_live_21 : decode cX0_live 21 = .ok (.if_icmp .ge 61, 3) := by decide +kernel
theorem dX0_live_24 : decode cX0_live 24 = .ok (.aload_n 0, 1) := by decide +kernel
theorem dX0_live_25 : decode cX0_live 25 = .ok (.bipush 6, 2) := by decide +kernel
theorem dX0_live_27 : decode cX0_live 27 = .ok (.invokevirtual 84, 3) := by decide +kernel
theorem dX0_live_30 : decode cX0_live 30 = .ok (.istore 5, 2) := by decide +kernel
theorem dX0_live_32 : decode cX0_live 32 = .ok (.iconst 1, 1) := by decide +kernel
theorem dX0_live_33 : decode cX0_live 33 = .ok (.aload_n 0, 1) := by decide +kernel
theorem dX0_live_34 : decode cX0_live 34 = .ok (.bipush 9, 2) := by decide +kernel
theorem dX0_live_36 : decode cX0_live 36 = .ok (.invokevirtual 84, 3) := by decide +kernel
theorem dX0_live_39 : decode cX0_live 39 = .ok (.iadd, 1) := by decide +kernel
theorem dX0_live_40 : decode cX0_live 40 = .ok (.istore 6, 2) := by decide +kernel
theorem dX0_live_42 : decode cX0_live 42 = .ok (.aload_n 0, 1) := by decide +kernel
theorem dX0_live_43 : decode cX0_live 43 = .ok (.aload_n 1, 1) := by decide +kernel
theorem dX0_live_44 : decode cX0_live 44 = .ok (.aload_n 1, 1) := by decide +kernel
theorem dX0_live_45 : decode cX0_live 45 = .ok (.iconst 0, 1) := by decide +kernel
theorem dX0_live_46 : decode cX0_live 46 = .ok (.iload 5, 2) := by decide +kernel
theorem dX0_live_48 : decode cX0_live 48 = .ok (.iload 6, 2) := by decide +kernel
theorem dX0_live_50 : decode cX0_live 50 = .ok (.iconst 0, 1) := by decide +kernel
theorem dX0_live_51 : decode cX0_live 51 = .ok (.invokevirtual 30, 3) := by decide +kernel
theorem dX0_live_54 : decode cX0_live 54 = .ok (.invokevirtual 34, 3) := by decide +kernel
theorem dX0_live_57 : decode cX0_live 57 = .ok (.invokestatic 38, 3) := by decide +kernel
theorem dX0_live_60 : decode cX0_live 60 = .ok (.putfield 78, 3) := by decide +kernel
theorem dX0_live_63 : decode cX0_live 63 = .ok (.aload_n 0, 1) := by decide +kernel
theorem dX0_live_64 : decode cX0_live 64 = .ok (.dup, 1) := by decide +kernel
theorem dX0_live_65 : decode cX0_live 65 = .ok (.getfield 75, 3) := by decide +kernel
theorem dX0_live_68 : decode cX0_live 68 = .ok (.aload_n 0, 1) := by decide +kernel
theorem dX0_live_69 : decode cX0_live 69 = .ok (.getfield 78, 3) := by decide +kernel
theorem dX0_live_72 : decode cX0_live 72 = .ok (.iadd, 1) := by decide +kernel
theorem dX0_live_73 : decode cX0_live 73 = .ok (.putfield 75, 3) := by decide +kernel
theorem dX0_live_76 : decode cX0_live 76 = .ok (.iinc 4 1, 3) := by decide +kernel
theorem dX0_live_79 : decode cX0_live 79 = .ok (.goto (-61), 3) := by decide +kernel
theorem dX0_live_82 : decode cX0_live 82 = .ok (.return_, 1) := by decide +kernel
theorem dX0_draw_0 : decode cX0_draw 0 = .ok (.aload_n 0, 1) := by decide +kernel
theorem dX0_draw_1 : decode cX0_draw 1 = .ok (.ldc2_w 87, 3) := by decide +kernel
theorem dX0_draw_4 : decode cX0_draw 4 = .ok (.aload_n 0, 1) := by decide +kernel
theorem dX0_draw_5 : decode cX0_draw 5 = .ok (.getfield 81, 3) := by decide +kernel
theorem dX0_draw_8 : decode cX0_draw 8 = .ok (.i2l, 1) := by decide +kernel
theorem dX0_draw_9 : decode cX0_draw 9 = .ok (.lmul, 1) := by decide +kernel
theorem dX0_draw_10 : decode cX0_draw 10 = .ok (.ldc2_w 89, 3) := by decide +kernel
theorem dX0_draw_13 : decode cX0_draw 13 = .ok (.ladd, 1) := by decide +kernel
theorem dX0_draw_14 : decode cX0_draw 14 = .ok (.ldc2_w 91, 3) := by decide +kernel
theorem dX0_draw_17 : decode cX0_draw 17 = .ok (.land, 1) := by decide +kernel
theorem dX0_draw_18 : decode cX0_draw 18 = .ok (.l2i, 1) := by decide +kernel
theorem dX0_draw_19 : decode cX0_draw 19 = .ok (.putfield 81, 3) := by decide +kernel
theorem dX0_draw_22 : decode cX0_draw 22 = .ok (.iload_n 1, 1) := by decide +kernel
theorem dX0_draw_23 : decode cX0_draw 23 = .ok (.ifCond .le 15, 3) := by decide +kernel
theorem dX0_draw_26 : decode cX0_draw 26 = .ok (.aload_n 0, 1) := by decide +kernel
theorem dX0_draw_27 : decode cX0_draw 27 = .ok (.getfield 81, 3) := by decide +kernel
theorem dX0_draw_30 : decode cX0_draw 30 = .ok (.ldc 93, 2) := by decide +kernel
theorem dX0_draw_32 : decode cX0_draw 32 = .ok (.idiv, 1) := by decide +kernel
theorem dX0_draw_33 : decode cX0_draw 33 = .ok (.iload_n 1, 1) := by decide +kernel
theorem dX0_draw_34 : decode cX0_draw 34 = .ok (.irem, 1) := by decide +kernel
theorem dX0_draw_35 : decode cX0_draw 35 = .ok (.goto 4, 3) := by decide +kernel
theorem dX0_draw_38 : decode cX0_draw 38 = .ok (.iconst 0, 1) := by decide +kernel
theorem dX0_draw_39 : decode cX0_draw 39 = .ok (.ireturn, 1) := by decide +kernel
theorem dX1_init_0 : decode cX1_init 0 = .ok (.aload_n 0, 1) := by decide +kernel
theorem dX1_init_1 : decode cX1_init 1 = .ok (.invokespecial 3, 3) := by decide +kernel
theorem dX1_init_4 : decode cX1_init 4 = .ok (.aload_n 0, 1) := by decide +kernel
theorem dX1_init_5 : decode cX1_init 5 = .ok (.bipush 12, 2) := by decide +kernel
theorem dX1_init_7 : decode cX1_init 7 = .ok (.newarray .int, 2) := by decide +kernel
theorem dX1_init_9 : decode cX1_init 9 = .ok (.putfield 11, 3) := by decide +kernel
theorem dX1_init_12 : decode cX1_init 12 = .ok (.aload_n 0, 1) := by decide +kernel
theorem dX1_init_13 : decode cX1_init 13 = .ok (.iconst 0, 1) := by decide +kernel
theorem dX1_init_14 : decode cX1_init 14 = .ok (.putfield 15, 3) := by decide +kernel
theorem dX1_init_17 : decode cX1_init 17 = .ok (.return_, 1) := by decide +kernel
theorem dX1_add_0 : decode cX1_add 0 = .ok (.aload_n 0, 1) := by decide +kernel
theorem dX1_add_1 : decode cX1_add 1 = .ok (.getfield 15, 3) := by decide +kernel
theorem dX1_add_4 : decode cX1_add 4 = .ok (.bipush 12, 2) := by decide +kernel
theorem dX1_add_6 : decode cX1_add 6 = .ok (.if_icmp .lt 6, 3) := by decide +kernel
theorem dX1_add_9 : decode cX1_add 9 = .ok (.bipush (-104), 2) := by decide +kernel
theorem dX1_add_11 : decode cX1_add 11 = .ok (.ireturn, 1) := by decide +kernel
theorem dX1_add_12 : decode cX1_add 12 = .ok (.aload_n 0, 1) := by decide +kernel
theorem dX1_add_13 : decode cX1_add 13 = .ok (.getfield 11, 3) := by decide +kernel
theorem dX1_add_16 : decode cX1_add 16 = .ok (.aload_n 0, 1) := by decide +kernel
theorem dX1_add_17 : decode cX1_add 17 = .ok (.getfield 15, 3) := by decide +kernel
theorem dX1_add_20 : decode cX1_add 20 = .ok (.iload_n 1, 1) := by decide +kernel
theorem dX1_add_21 : decode cX1_add 21 = .ok (.iastore, 1) := by decide +kernel
theorem dX1_add_22 : decode cX1_add 22 = .ok (.aload_n 0, 1) := by decide +kernel
theorem dX1_add_23 : decode cX1_add 23 = .ok (.dup, 1) := by decide +kernel
theorem dX1_add_24 : decode cX1_add 24 = .ok (.getfield 15, 3) := by decide +kernel
theorem dX1_add_27 : decode cX1_add 27 = .ok (.iconst 1, 1) := by decide +kernel
theorem dX1_add_28 : decode cX1_add 28 = .ok (.iadd, 1) := by decide +kernel
theorem dX1_add_29 : decode cX1_add 29 = .ok (.putfield 15, 3) := by decide +kernel
theorem dX1_add_32 : decode cX1_add 32 = .ok (.aload_n 0, 1) := by decide +kernel
theorem dX1_add_33 : decode cX1_add 33 = .ok (.getfield 15, 3) := by decide +kernel
theorem dX1_add_36 : decode cX1_add 36 = .ok (.ireturn, 1) := by decide +kernel
theorem dX1_clear_0 : decode cX1_clear 0 = .ok (.aload_n 0, 1) := by decide +kernel
theorem dX1_clear_1 : decode cX1_clear 1 = .ok (.getfield 15, 3) := by decide +kernel
theorem dX1_clear_4 : decode cX1_clear 4 = .ok (.istore_n 1, 1) := by decide +kernel
theorem dX1_clear_5 : decode cX1_clear 5 = .ok (.aload_n 0, 1) := by decide +kernel
theorem dX1_clear_6 : decode cX1_clear 6 = .ok (.iconst 0, 1) := by decide +kernel
theorem dX1_clear_7 : decode cX1_clear 7 = .ok (.putfield 15, 3) := by decide +kernel
theorem dX1_clear_10 : decode cX1_clear 10 = .ok (.iload_n 1, 1) := by decide +kernel
theorem dX1_clear_11 : decode cX1_clear 11 = .ok (.ireturn, 1) := by decide +kernel
theorem dX1_firstWrong_0 : decode cX1_firstWrong 0 = .ok (.iconst 0, 1) := by decide +kernel
theorem dX1_firstWrong_1 : decode cX1_firstWrong 1 = .ok (.istore_n 1, 1) := by decide +kernel
theorem dX1_firstWrong_2 : decode cX1_firstWrong 2 = .ok (.iload_n 1, 1) := by decide +kernel
theorem dX1_firstWrong_3 : decode cX1_firstWrong 3 = .ok (.aload_n 0, 1) := by decide +kernel
theorem dX1_firstWrong_4 : decode cX1_firstWrong 4 = .ok (.getfield 15, 3) := by decide +kernel
theorem dX1_firstWrong_7 : decode cX1_firstWrong 7 = .ok (.if_icmp .ge 22, 3) := by decide +kernel
theorem dX1_firstWrong_10 : decode cX1_firstWrong 10 = .ok (.iload_n 1, 1) := by decide +kernel
theorem dX1_firstWrong_11 : decode cX1_firstWrong 11 = .ok (.aload_n 0, 1) := by decide +kernel
theorem dX1_firstWrong_12 : decode cX1_firstWrong 12 = .ok (.getfield 11, 3) := by decide +kernel
theorem dX1_firstWrong_15 : decode cX1_firstWrong 15 = .ok (.iload_n 1, 1) := by decide +kernel
theorem dX1_firstWrong_16 : decode cX1_firstWrong 16 = .ok (.iaload, 1) := by decide +kernel
theorem dX1_firstWrong_17 : decode cX1_firstWrong 17 = .ok (.invokestatic 19, 3) := by decide +kernel
theorem dX1_firstWrong_20 : decode cX1_firstWrong 20 = .ok (.ifCond .eq 9, 3) := by decide +kernel
theorem dX1_firstWrong_23 : decode cX1_firstWrong 23 = .ok (.iinc 1 1, 3) := by decide +kernel
theorem dX1_firstWrong_26 : decode cX1_firstWrong 26 = .ok (.goto (-24), 3) := by decide +kernel
theorem dX1_firstWrong_29 : decode cX1_firstWrong 29 = .ok (.iload_n 1, 1) := by decide +kernel
theorem dX1_firstWrong_30 : decode cX1_firstWrong 30 = .ok (.ireturn, 1) := by decide +kernel
theorem dX1_isTown_0 : decode cX1_isTown 0 = .ok (.aload_n 0, 1) := by decide +kernel
theorem dX1_isTown_1 : decode cX1_isTown 1 = .ok (.getfield 15, 3) := by decide +kernel
theorem dX1_isTown_4 : decode cX1_isTown 4 = .ok (.bipush 9, 2) := by decide +kernel
theorem dX1_isTown_6 : decode cX1_isTown 6 = .ok (.if_icmp .ne 16, 3) := by decide +kernel
theorem dX1_isTown_9 : decode cX1_isTown 9 = .ok (.aload_n 0, 1) := by decide +kernel
theorem dX1_isTown_10 : decode cX1_isTown 10 = .ok (.invokevirtual 23, 3) := by decide +kernel
theorem dX1_isTown_13 : decode cX1_isTown 13 = .ok (.bipush 9, 2) := by decide +kernel
theorem dX1_isTown_15 : decode cX1_isTown 15 = .ok (.if_icmp .ne 7, 3) := by decide +kernel
theorem dX1_isTown_18 : decode cX1_isTown 18 = .ok (.iconst 1, 1) := by decide +kernel
theorem dX1_isTown_19 : decode cX1_isTown 19 = .ok (.goto 4, 3) := by decide +kernel
theorem dX1_isTown_22 : decode cX1_isTown 22 = .ok (.iconst 0, 1) := by decide +kernel
theorem dX1_isTown_23 : decode cX1_isTown 23 = .ok (.ireturn, 1) := by decide +kernel
theorem dX1_digit_0 : decode cX1_digit 0 = .ok (.iload_n 1, 1) := by decide +kernel
theorem dX1_digit_1 : decode cX1_digit 1 = .ok (.ifCond .lt 21, 3) := by decide +kernel
theorem dX1_digit_4 : decode cX1_digit 4 = .ok (.iload_n 1, 1) := by decide +kernel
theorem dX1_digit_5 : decode cX1_digit 5 = .ok (.bipush 12, 2) := by decide +kernel
theorem dX1_digit_7 : decode cX1_digit 7 = .ok (.if_icmp .ge 15, 3) := by decide +kernel
theorem dX1_digit_10 : decode cX1_digit 10 = .ok (.aload_n 0, 1) := by decide +kernel
theorem dX1_digit_11 : decode cX1_digit 11 = .ok (.getfield 11, 3) := by decide +kernel
theorem dX1_digit_14 : decode cX1_digit 14 = .ok (.iload_n 1, 1) := by decide +kernel
theorem dX1_digit_15 : decode cX1_digit 15 = .ok (.iaload, 1) := by decide +kernel
theorem dX1_digit_16 : decode cX1_digit 16 = .ok (.bipush 48, 2) := by decide +kernel
theorem dX1_digit_18 : decode cX1_digit 18 = .ok (.isub, 1) := by decide +kernel
theorem dX1_digit_19 : decode cX1_digit 19 = .ok (.goto 4, 3) := by decide +kernel
theorem dX1_digit_22 : decode cX1_digit 22 = .ok (.iconst 0, 1) := by decide +kernel
theorem dX1_digit_23 : decode cX1_digit 23 = .ok (.ireturn, 1) := by decide +kernel
theorem dX1_fits_0 : decode cX1_fits 0 = .ok (.iload_n 0, 1) := by decide +kernel
theorem dX1_fits_1 : decode cX1_fits 1 = .ok (.bipush 6, 2) := by decide +kernel
theorem dX1_fits_3 : decode cX1_fits 3 = .ok (.if_icmp .ge 21, 3) := by decide +kernel
theorem dX1_fits_6 : decode cX1_fits 6 = .ok (.iload_n 1, 1) := by decide +kernel
theorem dX1_fits_7 : decode cX1_fits 7 = .ok (.bipush 48, 2) := by decide +kernel
theorem dX1_fits_9 : decode cX1_fits 9 = .ok (.if_icmp .lt 13, 3) := by decide +kernel
theorem dX1_fits_12 : decode cX1_fits 12 = .ok (.iload_n 1, 1) := by decide +kernel
theorem dX1_fits_13 : decode cX1_fits 13 = .ok (.bipush 57, 2) := by decide +kernel
theorem dX1_fits_15 : decode cX1_fits 15 = .ok (.if_icmp .gt 7, 3) := by decide +kernel
theorem dX1_fits_18 : decode cX1_fits 18 = .ok (.iconst 1, 1) := by decide +kernel
theorem dX1_fits_19 : decode cX1_fits 19 = .ok (.goto 4, 3) := by decide +kernel
theorem dX1_fits_22 : decode cX1_fits 22 = .ok (.iconst 0, 1) := by decide +kernel
theorem dX1_fits_23 : decode cX1_fits 23 = .ok (.ireturn, 1) := by decide +kernel
theorem dX1_fits_24 : decode cX1_fits 24 = .ok (.iload_n 0, 1) := by decide +kernel
theorem dX1_fits_25 : decode cX1_fits 25 = .ok (.tableswitch 75 6 8 #[27, 39, 57], 27) := by decide +kernel
theorem dX1_fits_52 : decode cX1_fits 52 = .ok (.iload_n 1, 1) := by decide +kernel
theorem dX1_fits_53 : decode cX1_fits 53 = .ok (.bipush 59, 2) := by decide +kernel
theorem dX1_fits_55 : decode cX1_fits 55 = .ok (.if_icmp .ne 7, 3) := by decide +kernel
theorem dX1_fits_58 : decode cX1_fits 58 = .ok (.iconst 1, 1) := by decide +kernel
theorem dX1_fits_59 : decode cX1_fits 59 = .ok (.goto 4, 3) := by decide +kernel
theorem dX1_fits_62 : decode cX1_fits 62 = .ok (.iconst 0, 1) := by decide +kernel
theorem dX1_fits_63 : decode cX1_fits 63 = .ok (.ireturn, 1) := by decide +kernel
theorem dX1_fits_64 : decode cX1_fits 64 = .ok (.iload_n 1, 1) := by decide +kernel
theorem dX1_fits_65 : decode cX1_fits 65 = .ok (.bipush 49, 2) := by decide +kernel
theorem dX1_fits_67 : decode cX1_fits 67 = .ok (.if_icmp .lt 13, 3) := by decide +kernel
theorem dX1_fits_70 : decode cX1_fits 70 = .ok (.iload_n 1, 1) := by decide +kernel
theorem dX1_fits_71 : decode cX1_fits 71 = .ok (.bipush 57, 2) := by decide +kernel
theorem dX1_fits_73 : decode cX1_fits 73 = .ok (.if_icmp .gt 7, 3) := by decide +kernel
theorem dX1_fits_76 : decode cX1_fits 76 = .ok (.iconst 1, 1) := by decide +kernel
theorem dX1_fits_77 : decode cX1_fits 77 = .ok (.goto 4, 3) := by decide +kernel
theorem dX1_fits_80 : decode cX1_fits 80 = .ok (.iconst 0, 1) := by decide +kernel
theorem dX1_fits_81 : decode cX1_fits 81 = .ok (.ireturn, 1) := by decide +kernel
theorem dX1_fits_82 : decode cX1_fits 82 = .ok (.iload_n 1, 1) := by decide +kernel
theorem dX1_fits_83 : decode cX1_fits 83 = .ok (.bipush 49, 2) := by decide +kernel
theorem dX1_fits_85 : decode cX1_fits 85 = .ok (.if_icmp .lt 13, 3) := by decide +kernel
theorem dX1_fits_88 : decode cX1_fits 88 = .ok (.iload_n 1, 1) := by decide +kernel
theorem dX1_fits_89 : decode cX1_fits 89 = .ok (.bipush 53, 2) := by decide +kernel
theorem dX1_fits_91 : decode cX1_fits 91 = .ok (.if_icmp .gt 7, 3) := by decide +kernel
theorem dX1_fits_94 : decode cX1_fits 94 = .ok (.iconst 1, 1) := by decide +kernel
theorem dX1_fits_95 : decode cX1_fits 95 = .ok (.goto 4, 3) := by decide +kernel
theorem dX1_fits_98 : decode cX1_fits 98 = .ok (.iconst 0, 1) := by decide +kernel
theorem dX1_fits_99 : decode cX1_fits 99 = .ok (.ireturn, 1) := by decide +kernel
theorem dX1_fits_100 : decode cX1_fits 100 = .ok (.iconst 0, 1) := by decide +kernel
theorem dX1_fits_101 : decode cX1_fits 101 = .ok (.ireturn, 1) := by decide +kernel
theorem dX2_init_0 : decode cX2_init 0 = .ok (.aload_n 0, 1) := by decide +kernel
theorem dX2_init_1 : decode cX2_init 1 = .ok (.invokespecial 3, 3) := by decide +kernel
theorem dX2_init_4 : decode cX2_init 4 = .ok (.aload_n 0, 1) := by decide +kernel
theorem dX2_init_5 : decode cX2_init 5 = .ok (.bipush 6, 2) := by decide +kernel
theorem dX2_init_7 : decode cX2_init 7 = .ok (.newarray .int, 2) := by decide +kernel
theorem dX2_init_9 : decode cX2_init 9 = .ok (.putfield 9, 3) := by decide +kernel
theorem dX2_init_12 : decode cX2_init 12 = .ok (.aload_n 0, 1) := by decide +kernel
theorem dX2_init_13 : decode cX2_init 13 = .ok (.bipush 6, 2) := by decide +kernel
theorem dX2_init_15 : decode cX2_init 15 = .ok (.newarray .int, 2) := by decide +kernel
theorem dX2_init_17 : decode cX2_init 17 = .ok (.putfield 15, 3) := by decide +kernel
theorem dX2_init_20 : decode cX2_init 20 = .ok (.aload_n 0, 1) := by decide +kernel
theorem dX2_init_21 : decode cX2_init 21 = .ok (.bipush 6, 2) := by decide +kernel
theorem dX2_init_23 : decode cX2_init 23 = .ok (.newarray .int, 2) := by decide +kernel
theorem dX2_init_25 : decode cX2_init 25 = .ok (.putfield 18, 3) := by decide +kernel
theorem dX2_init_28 : decode cX2_init 28 = .ok (.aload_n 0, 1) := by decide +kernel
theorem dX2_init_29 : decode cX2_init 29 = .ok (.bipush 6, 2) := by decide +kernel
theorem dX2_init_31 : decode cX2_init 31 = .ok (.newarray .int, 2) := by decide +kernel
theorem dX2_init_33 : decode cX2_init 33 = .ok (.putfield 21, 3) := by decide +kernel
theorem dX2_init_36 : decode cX2_init 36 = .ok (.aload_n 0, 1) := by decide +kernel
theorem dX2_init_37 : decode cX2_init 37 = .ok (.bipush 6, 2) := by decide +kernel
theorem dX2_init_39 : decode cX2_init 39 = .ok (.newarray .int, 2) := by decide +kernel
theorem dX2_init_41 : decode cX2_init 41 = .ok (.putfield 24, 3) := by decide +kernel
theorem dX2_init_44 : decode cX2_init 44 = .ok (.return_, 1) := by decide +kernel
theorem dX2_begin_0 : decode cX2_begin 0 = .ok (.iconst 0, 1) := by decide +kernel
theorem dX2_begin_1 : decode cX2_begin 1 = .ok (.istore_n 2, 1) := by decide +kernel
theorem dX2_begin_2 : decode cX2_begin 2 = .ok (.iload_n 2, 1) := by decide +kernel
theorem dX2_begin_3 : decode cX2_begin 3 = .ok (.bipush 6, 2) := by decide +kernel
theorem dX2_begin_5 : decode cX2_begin 5 = .ok (.if_icmp .ge 20, 3) := by decide +kernel
theorem dX2_begin_8 : decode cX2_begin 8 = .ok (.aload_n 0, 1) := by decide +kernel
theorem dX2_begin_9 : decode cX2_begin 9 = .ok (.getfield 9, 3) := by decide +kernel
theorem dX2_begin_12 : decode cX2_begin 12 = .ok (.iload_n 2, 1) := by decide +kernel
theorem dX2_begin_13 : decode cX2_begin 13 = .ok (.aload_n 1, 1) := by decide +kernel
theorem dX2_begin_14 : decode cX2_begin 14 = .ok (.iload_n 2, 1) := by decide +kernel
theorem dX2_begin_15 : decode cX2_begin 15 = .ok (.invokevirtual 27, 3) := by decide +kernel
theorem dX2_begin_18 : decode cX2_begin 18 = .ok (.iastore, 1) := by decide +kernel
theorem dX2_begin_19 : decode cX2_begin 19 = .ok (.iinc 2 1, 3) := by decide +kernel
theorem dX2_begin_22 : decode cX2_begin 22 = .ok (.goto (-20), 3) := by decide +kernel
theorem dX2_begin_25 : decode cX2_begin 25 = .ok (.aload_n 0, 1) := by decide +kernel
theorem dX2_begin_26 : decode cX2_begin 26 = .ok (.aload_n 1, 1) := by decide +kernel
theorem dX2_begin_27 : decode cX2_begin 27 = .ok (.bipush 7, 2) := by decide +kernel
theorem dX2_begin_29 : decode cX2_begin 29 = .ok (.invokevirtual 27, 3) := by decide +kernel
theorem dX2_begin_32 : decode cX2_begin 32 = .ok (.putfield 33, 3) := by decide +kernel
theorem dX2_begin_35 : decode cX2_begin 35 = .ok (.aload_n 0, 1) := by decide +kernel
theorem dX2_begin_36 : decode cX2_begin 36 = .ok (.aload_n 0, 1) := by decide +kernel
theorem dX2_begin_37 : decode cX2_begin 37 = .ok (.getfield 33, 3) := by decide +kernel
theorem dX2_begin_40 : decode cX2_begin 40 = .ok (.putfield 37, 3) := by decide +kernel
theorem dX2_begin_43 : decode cX2_begin 43 = .ok (.aload_n 0, 1) := by decide +kernel
theorem dX2_begin_44 : decode cX2_begin 44 = .ok (.aload_n 1, 1) := by decide +kernel
theorem dX2_begin_45 : decode cX2_begin 45 = .ok (.bipush 8, 2) := by decide +kernel
theorem dX2_begin_47 : decode cX2_begin 47 = .ok (.invokevirtual 27, 3) := by decide +kernel
theorem dX2_begin_50 : decode cX2_begin 50 = .ok (.putfield 40, 3) := by decide +kernel
theorem dX2_begin_53 : decode cX2_begin 53 = .ok (.aload_n 0, 1) := by decide +kernel
theorem dX2_begin_54 : decode cX2_begin 54 = .ok (.iconst 0, 1) := by decide +kernel
theorem dX2_begin_55 : decode cX2_begin 55 = .ok (.putfield 43, 3) := by decide +kernel
theorem dX2_begin_58 : decode cX2_begin 58 = .ok (.aload_n 0, 1) := by decide +kernel
theorem dX2_begin_59 : decode cX2_begin 59 = .ok (.iconst 0, 1) := by decide +kernel
theorem dX2_begin_60 : decode cX2_begin 60 = .ok (.putfield 46, 3) := by decide +kernel
theorem dX2_begin_63 : decode cX2_begin 63 = .ok (.aload_n 0, 1) := by decide +kernel
theorem dX2_begin_64 : decode cX2_begin 64 = .ok (.iconst 0, 1) := by decide +kernel
theorem dX2_begin_65 : decode cX2_begin 65 = .ok (.putfield 49, 3) := by decide +kernel
theorem dX2_begin_68 : decode cX2_begin 68 = .ok (.aload_n 0, 1) := by decide +kernel
theorem dX2_begin_69 : decode cX2_begin 69 = .ok (.iconst 0, 1) := by decide +kernel
theorem dX2_begin_70 : decode cX2_begin 70 = .ok (.putfield 52, 3) := by decide +kernel
theorem dX2_begin_73 : decode cX2_begin 73 = .ok (.aload_n 0, 1) := by decide +kernel
theorem dX2_begin_74 : decode cX2_begin 74 = .ok (.iconst 1, 1) := by decide +kernel
theorem dX2_begin_75 : decode cX2_begin 75 = .ok (.putfield 55, 3) := by decide +kernel
theorem dX2_begin_78 : decode cX2_begin 78 = .ok (.aload_n 0, 1) := by decide +kernel
theorem dX2_begin_79 : decode cX2_begin 79 = .ok (.iconst 1, 1) := by decide +kernel
theorem dX2_begin_80 : decode cX2_begin 80 = .ok (.putfield 58, 3) := by decide +kernel
theorem dX2_begin_83 : decode cX2_begin 83 = .ok (.aload_n 0, 1) := by decide +kernel
theorem dX2_begin_84 : decode cX2_begin 84 = .ok (.invokevirtual 61, 3) := by decide +kernel
theorem dX2_begin_87 : decode cX2_begin 87 = .ok (.pop, 1) := by decide +kernel
theorem dX2_begin_88 : decode cX2_begin 88 = .ok (.return_, 1) := by decide +kernel
theorem dX2_copy_0 : decode cX2_copy 0 = .ok (.aload_n 1, 1) := by decide +kernel
theorem dX2_copy_1 : decode cX2_copy 1 = .ok (.getfield 9, 3) := by decide +kernel
theorem dX2_copy_4 : decode cX2_copy 4 = .ok (.iconst 0, 1) := by decide +kernel
theorem dX2_copy_5 : decode cX2_copy 5 = .ok (.aload_n 0, 1) := by decide +kernel
theorem dX2_copy_6 : decode cX2_copy 6 = .ok (.getfield 9, 3) := by decide +kernel
theorem dX2_copy_9 : decode cX2_copy 9 = .ok (.iconst 0, 1) := by decide +kernel
theorem dX2_copy_10 : decode cX2_copy 10 = .ok (.bipush 6, 2) := by decide +kernel
theorem dX2_copy_12 : decode cX2_copy 12 = .ok (.invokestatic 65, 3) := by decide +kernel
theorem dX2_copy_15 : decode cX2_copy 15 = .ok (.aload_n 1, 1) := by decide +kernel
theorem dX2_copy_16 : decode cX2_copy 16 = .ok (.getfield 15, 3) := by decide +kernel
theorem dX2_copy_19 : decode cX2_copy 19 = .ok (.iconst 0, 1) := by decide +kernel
theorem dX2_copy_20 : decode cX2_copy 20 = .ok (.aload_n 0, 1) := by decide +kernel
theorem dX2_copy_21 : decode cX2_copy 21 = .ok (.getfield 15, 3) := by decide +kernel
theorem dX2_copy_24 : decode cX2_copy 24 = .ok (.iconst 0, 1) := by decide +kernel
theorem dX2_copy_25 : decode cX2_copy 25 = .ok (.bipush 6, 2) := by decide +kernel
theorem dX2_copy_27 : decode cX2_copy 27 = .ok (.invokestatic 65, 3) := by decide +kernel
theorem dX2_copy_30 : decode cX2_copy 30 = .ok (.aload_n 1, 1) := by decide +kernel
theorem dX2_copy_31 : decode cX2_copy 31 = .ok (.getfield 18, 3) := by decide +kernel
theorem dX2_copy_34 : decode cX2_copy 34 = .ok (.iconst 0, 1) := by decide +kernel
theorem dX2_copy_35 : decode cX2_copy 35 = .ok (.aload_n 0, 1) := by decide +kernel
theorem dX2_copy_36 : decode cX2_copy 36 = .ok (.getfield 18, 3) := by decide +kernel
theorem dX2_copy_39 : decode cX2_copy 39 = .ok (.iconst 0, 1) := by decide +kernel
theorem dX2_copy_40 : decode cX2_copy 40 = .ok (.bipush 6, 2) := by decide +kernel
theorem dX2_copy_42 : decode cX2_copy 42 = .ok (.invokestatic 65, 3) := by decide +kernel
theorem dX2_copy_45 : decode cX2_copy 45 = .ok (.aload_n 1, 1) := by decide +kernel
theorem dX2_copy_46 : decode cX2_copy 46 = .ok (.getfield 21, 3) := by decide +kernel
theorem dX2_copy_49 : decode cX2_copy 49 = .ok (.iconst 0, 1) := by decide +kernel
theorem dX2_copy_50 : decode cX2_copy 50 = .ok (.aload_n 0, 1) := by decide +kernel
theorem dX2_copy_51 : decode cX2_copy 51 = .ok (.getfield 21, 3) := by decide +kernel
theorem dX2_copy_54 : decode cX2_copy 54 = .ok (.iconst 0, 1) := by decide +kernel
theorem dX2_copy_55 : decode cX2_copy 55 = .ok (.bipush 6, 2) := by decide +kernel
theorem dX2_copy_57 : decode cX2_copy 57 = .ok (.invokestatic 65, 3) := by decide +kernel
theorem dX2_copy_60 : decode cX2_copy 60 = .ok (.aload_n 1, 1) := by decide +kernel
theorem dX2_copy_61 : decode cX2_copy 61 = .ok (.getfield 24, 3) := by decide +kernel
theorem dX2_copy_64 : decode cX2_copy 64 = .ok (.iconst 0, 1) := by decide +kernel
theorem dX2_copy_65 : decode cX2_copy 65 = .ok (.aload_n 0, 1) := by decide +kernel
theorem dX2_copy_66 : decode cX2_copy 66 = .ok (.getfield 24, 3) := by decide +kernel
theorem dX2_copy_69 : decode cX2_copy 69 = .ok (.iconst 0, 1) := by decide +kernel
theorem dX2_copy_70 : decode cX2_copy 70 = .ok (.bipush 6, 2) := by decide +kernel
theorem dX2_copy_72 : decode cX2_copy 72 = .ok (.invokestatic 65, 3) := by decide +kernel
theorem dX2_copy_75 : decode cX2_copy 75 = .ok (.aload_n 0, 1) := by decide +kernel
theorem dX2_copy_76 : decode cX2_copy 76 = .ok (.aload_n 1, 1) := by decide +kernel
theorem dX2_copy_77 : decode cX2_copy 77 = .ok (.getfield 43, 3) := by decide +kernel
theorem dX2_copy_80 : decode cX2_copy 80 = .ok (.putfield 43, 3) := by decide +kernel
theorem dX2_copy_83 : decode cX2_copy 83 = .ok (.aload_n 0, 1) := by decide +kernel
theorem dX2_copy_84 : decode cX2_copy 84 = .ok (.aload_n 1, 1) := by decide +kernel
theorem dX2_copy_85 : decode cX2_copy 85 = .ok (.getfield 46, 3) := by decide +kernel
theorem dX2_copy_88 : decode cX2_copy 88 = .ok (.putfield 46, 3) := by decide +kernel
theorem dX2_copy_91 : decode cX2_copy 91 = .ok (.aload_n 0, 1) := by decide +kernel
theorem dX2_copy_92 : decode cX2_copy 92 = .ok (.aload_n 1, 1) := by decide +kernel
theorem dX2_copy_93 : decode cX2_copy 93 = .ok (.getfield 49, 3) := by decide +kernel
theorem dX2_copy_96 : decode cX2_copy 96 = .ok (.putfield 49, 3) := by decide +kernel
theorem dX2_copy_99 : decode cX2_copy 99 = .ok (.aload_n 0, 1) := by decide +kernel
theorem dX2_copy_100 : decode cX2_copy 100 = .ok (.aload_n 1, 1) := by decide +kernel
theorem dX2_copy_101 : decode cX2_copy 101 = .ok (.getfield 33, 3) := by decide +kernel
theorem dX2_copy_104 : decode cX2_copy 104 = .ok (.putfield 33, 3) := by decide +kernel
theorem dX2_copy_107 : decode cX2_copy 107 = .ok (.aload_n 0, 1) := by decide +kernel
theorem dX2_copy_108 : decode cX2_copy 108 = .ok (.aload_n 1, 1) := by decide +kernel
theorem dX2_copy_109 : decode cX2_copy 109 = .ok (.getfield 37, 3) := by decide +kernel
theorem dX2_copy_112 : decode cX2_copy 112 = .ok (.putfield 37, 3) := by decide +kernel
theorem dX2_copy_115 : decode cX2_copy 115 = .ok (.aload_n 0, 1) := by decide +kernel
theorem dX2_copy_116 : decode cX2_copy 116 = .ok (.aload_n 1, 1) := by decide +kernel
theorem dX2_copy_117 : decode cX2_copy 117 = .ok (.getfield 40, 3) := by decide +kernel
theorem dX2_copy_120 : decode cX2_copy 120 = .ok (.putfield 40, 3) := by decide +kernel
theorem dX2_copy_123 : decode cX2_copy 123 = .ok (.aload_n 0, 1) := by decide +kernel
theorem dX2_copy_124 : decode cX2_copy 124 = .ok (.aload_n 1, 1) := by decide +kernel
theorem dX2_copy_125 : decode cX2_copy 125 = .ok (.getfield 52, 3) := by decide +kernel
theorem dX2_copy_128 : decode cX2_copy 128 = .ok (.putfield 52, 3) := by decide +kernel
theorem dX2_copy_131 : decode cX2_copy 131 = .ok (.aload_n 0, 1) := by decide +kernel
theorem dX2_copy_132 : decode cX2_copy 132 = .ok (.aload_n 1, 1) := by decide +kernel
theorem dX2_copy_133 : decode cX2_copy 133 = .ok (.getfield 55, 3) := by decide +kernel
theorem dX2_copy_136 : decode cX2_copy 136 = .ok (.putfield 55, 3) := by decide +kernel
theorem dX2_copy_139 : decode cX2_copy 139 = .ok (.aload_n 0, 1) := by decide +kernel
theorem dX2_copy_140 : decode cX2_copy 140 = .ok (.aload_n 1, 1) := by decide +kernel
theorem dX2_copy_141 : decode cX2_copy 141 = .ok (.getfield 58, 3) := by decide +kernel
theorem dX2_copy_144 : decode cX2_copy 144 = .ok (.putfield 58, 3) := by decide +kernel
theorem dX2_copy_147 : decode cX2_copy 147 = .ok (.aload_n 0, 1) := by decide +kernel
theorem dX2_copy_148 : decode cX2_copy 148 = .ok (.aload_n 1, 1) := by decide +kernel
theorem dX2_copy_149 : decode cX2_copy 149 = .ok (.getfield 71, 3) := by decide +kernel
theorem dX2_copy_152 : decode cX2_copy 152 = .ok (.putfield 71, 3) := by decide +kernel
theorem dX2_copy_155 : decode cX2_copy 155 = .ok (.aload_n 0, 1) := by decide +kernel
theorem dX2_copy_156 : decode cX2_copy 156 = .ok (.aload_n 1, 1) := by decide +kernel
theorem dX2_copy_157 : decode cX2_copy 157 = .ok (.getfield 74, 3) := by decide +kernel
theorem dX2_copy_160 : decode cX2_copy 160 = .ok (.putfield 74, 3) := by decide +kernel
theorem dX2_copy_163 : decode cX2_copy 163 = .ok (.aload_n 0, 1) := by decide +kernel
theorem dX2_copy_164 : decode cX2_copy 164 = .ok (.aload_n 1, 1) := by decide +kernel
theorem dX2_copy_165 : decode cX2_copy 165 = .ok (.getfield 77, 3) := by decide +kernel
theorem dX2_copy_168 : decode cX2_copy 168 = .ok (.putfield 77, 3) := by decide +kernel
theorem dX2_copy_171 : decode cX2_copy 171 = .ok (.return_, 1) := by decide +kernel
theorem dX2_noiseInAll_0 : decode cX2_noiseInAll 0 = .ok (.iconst 0, 1) := by decide +kernel
theorem dX2_noiseInAll_1 : decode cX2_noiseInAll 1 = .ok (.istore_n 1, 1) := by decide +kernel
theorem dX2_noiseInAll_2 : decode cX2_noiseInAll 2 = .ok (.iconst 0, 1) := by decide +kernel
theorem dX2_noiseInAll_3 : decode cX2_noiseInAll 3 = .ok (.istore_n 2, 1) := by decide +kernel
theorem dX2_noiseInAll_4 : decode cX2_noiseInAll 4 = .ok (.iload_n 2, 1) := by decide +kernel
theorem dX2_noiseInAll_5 : decode cX2_noiseInAll 5 = .ok (.bipush 6, 2) := by decide +kernel
theorem dX2_noiseInAll_7 : decode cX2_noiseInAll 7 = .ok (.if_icmp .ge 18, 3) := by decide +kernel
theorem dX2_noiseInAll_10 : decode cX2_noiseInAll 10 = .ok (.iload_n 1, 1) := by decide +kernel
theorem dX2_noiseInAll_11 : decode cX2_noiseInAll 11 = .ok (.aload_n 0, 1) := by decide +kernel
theorem dX2_noiseInAll_12 : decode cX2_noiseInAll 12 = .ok (.getfield 9, 3) := by decide +kernel
theorem dX2_noiseInAll_15 : decode cX2_noiseInAll 15 = .ok (.iload_n 2, 1) := by decide +kernel
theorem dX2_noiseInAll_16 : decode cX2_noiseInAll 16 = .ok (.iaload, 1) := by decide +kernel
theorem dX2_noiseInAll_17 : decode cX2_noiseInAll 17 = .ok (.iadd, 1) := by decide +kernel
theorem dX2_noiseInAll_18 : decode cX2_noiseInAll 18 = .ok (.istore_n 1, 1) := by decide +kernel
theorem dX2_noiseInAll_19 : decode cX2_noiseInAll 19 = .ok (.iinc 2 1, 3) := by decide +kernel
theorem dX2_noiseInAll_22 : decode cX2_noiseInAll 22 = .ok (.goto (-18), 3) := by decide +kernel
theorem dX2_noiseInAll_25 : decode cX2_noiseInAll 25 = .ok (.iload_n 1, 1) := by decide +kernel
theorem dX2_noiseInAll_26 : decode cX2_noiseInAll 26 = .ok (.ireturn, 1) := by decide +kernel
theorem dX2_settle_0 : decode cX2_settle 0 = .ok (.aload_n 0, 1) := by decide +kernel
theorem dX2_settle_1 : decode cX2_settle 1 = .ok (.getfield 43, 3) := by decide +kernel
theorem dX2_settle_4 : decode cX2_settle 4 = .ok (.istore_n 3, 1) := by decide +kernel
theorem dX2_settle_5 : decode cX2_settle 5 = .ok (.iload_n 3, 1) := by decide +kernel
theorem dX2_settle_6 : decode cX2_settle 6 = .ok (.bipush 6, 2) := by decide +kernel
theorem dX2_settle_8 : decode cX2_settle 8 = .ok (.if_icmp .lt 6, 3) := by decide +kernel
theorem dX2_settle_11 : decode cX2_settle 11 = .ok (.bipush (-104), 2) := by decide +kernel
theorem dX2_settle_13 : decode cX2_settle 13 = .ok (.ireturn, 1) := by decide +kernel
theorem dX2_settle_14 : decode cX2_settle 14 = .ok (.aload_n 0, 1) := by decide +kernel
theorem dX2_settle_15 : decode cX2_settle 15 = .ok (.getfield 15, 3) := by decide +kernel
theorem dX2_settle_18 : decode cX2_settle 18 = .ok (.iload_n 3, 1) := by decide +kernel
theorem dX2_settle_19 : decode cX2_settle 19 = .ok (.iload_n 1, 1) := by decide +kernel
theorem dX2_settle_20 : decode cX2_settle 20 = .ok (.iastore, 1) := by decide +kernel
theorem dX2_settle_21 : decode cX2_settle 21 = .ok (.aload_n 0, 1) := by decide +kernel
theorem dX2_settle_22 : decode cX2_settle 22 = .ok (.getfield 18, 3) := by decide +kernel
theorem dX2_settle_25 : decode cX2_settle 25 = .ok (.iload_n 3, 1) := by decide +kernel
theorem dX2_settle_26 : decode cX2_settle 26 = .ok (.iload_n 1, 1) := by decide +kernel
theorem dX2_settle_27 : decode cX2_settle 27 = .ok (.invokestatic 80, 3) := by decide +kernel
theorem dX2_settle_30 : decode cX2_settle 30 = .ok (.iastore, 1) := by decide +kernel
theorem dX2_settle_31 : decode cX2_settle 31 = .ok (.aload_n 0, 1) := by decide +kernel
theorem dX2_settle_32 : decode cX2_settle 32 = .ok (.getfield 21, 3) := by decide +kernel
theorem dX2_settle_35 : decode cX2_settle 35 = .ok (.iload_n 3, 1) := by decide +kernel
theorem dX2_settle_36 : decode cX2_settle 36 = .ok (.iload_n 1, 1) := by decide +kernel
theorem dX2_settle_37 : decode cX2_settle 37 = .ok (.invokestatic 83, 3) := by decide +kernel
theorem dX2_settle_40 : decode cX2_settle 40 = .ok (.iastore, 1) := by decide +kernel
theorem dX2_settle_41 : decode cX2_settle 41 = .ok (.aload_n 0, 1) := by decide +kernel
theorem dX2_settle_42 : decode cX2_settle 42 = .ok (.getfield 24, 3) := by decide +kernel
theorem dX2_settle_45 : decode cX2_settle 45 = .ok (.iload_n 3, 1) := by decide +kernel
theorem dX2_settle_46 : decode cX2_settle 46 = .ok (.iload_n 2, 1) := by decide +kernel
theorem dX2_settle_47 : decode cX2_settle 47 = .ok (.iastore, 1) := by decide +kernel
theorem dX2_settle_48 : decode cX2_settle 48 = .ok (.iload_n 1, 1) := by decide +kernel
theorem dX2_settle_49 : decode cX2_settle 49 = .ok (.iconst 2, 1) := by decide +kernel
theorem dX2_settle_50 : decode cX2_settle 50 = .ok (.if_icmp .ne 15, 3) := by decide +kernel
theorem dX2_settle_53 : decode cX2_settle 53 = .ok (.aload_n 0, 1) := by decide +kernel
theorem dX2_settle_54 : decode cX2_settle 54 = .ok (.dup, 1) := by decide +kernel
theorem dX2_settle_55 : decode cX2_settle 55 = .ok (.getfield 46, 3) := by decide +kernel
theorem dX2_settle_58 : decode cX2_settle 58 = .ok (.iconst 1, 1) := by decide +kernel
theorem dX2_settle_59 : decode cX2_settle 59 = .ok (.iload_n 3, 1) := by decide +kernel
theorem dX2_settle_60 : decode cX2_settle 60 = .ok (.ishl, 1) := by decide +kernel
theorem dX2_settle_61 : decode cX2_settle 61 = .ok (.ior, 1) := by decide +kernel
theorem dX2_settle_62 : decode cX2_settle 62 = .ok (.putfield 46, 3) := by decide +kernel
theorem dX2_settle_65 : decode cX2_settle 65 = .ok (.aload_n 0, 1) := by decide +kernel
theorem dX2_settle_66 : decode cX2_settle 66 = .ok (.dup, 1) := by decide +kernel
theorem dX2_settle_67 : decode cX2_settle 67 = .ok (.getfield 43, 3) := by decide +kernel
theorem dX2_settle_70 : decode cX2_settle 70 = .ok (.iconst 1, 1) := by decide +kernel
theorem dX2_settle_71 : decode cX2_settle 71 = .ok (.iadd, 1) := by decide +kernel
theorem dX2_settle_72 : decode cX2_settle 72 = .ok (.putfield 43, 3) := by decide +kernel
theorem dX2_settle_75 : decode cX2_settle 75 = .ok (.iload_n 3, 1) := by decide +kernel
theorem dX2_settle_76 : decode cX2_settle 76 = .ok (.ireturn, 1) := by decide +kernel
theorem dX2_everyone_0 : decode cX2_everyone 0 = .ok (.iconst 1, 1) := by decide +kernel
theorem dX2_everyone_1 : decode cX2_everyone 1 = .ok (.aload_n 0, 1) := by decide +kernel
theorem dX2_everyone_2 : decode cX2_everyone 2 = .ok (.getfield 43, 3) := by decide +kernel
theorem dX2_everyone_5 : decode cX2_everyone 5 = .ok (.ishl, 1) := by decide +kernel
theorem dX2_everyone_6 : decode cX2_everyone 6 = .ok (.iconst 1, 1) := by decide +kernel
theorem dX2_everyone_7 : decode cX2_everyone 7 = .ok (.isub, 1) := by decide +kernel
theorem dX2_everyone_8 : decode cX2_everyone 8 = .ok (.ireturn, 1) := by decide +kernel
theorem dX2_proclaim_0 : decode cX2_proclaim 0 = .ok (.aload_n 0, 1) := by decide +kernel
theorem dX2_proclaim_1 : decode cX2_proclaim 1 = .ok (.aload_n 0, 1) := by decide +kernel
theorem dX2_proclaim_2 : decode cX2_proclaim 2 = .ok (.getfield 49, 3) := by decide +kernel
theorem dX2_proclaim_5 : decode cX2_proclaim 5 = .ok (.iload_n 1, 1) := by decide +kernel
theorem dX2_proclaim_6 : decode cX2_proclaim 6 = .ok (.iload_n 2, 1) := by decide +kernel
theorem dX2_proclaim_7 : decode cX2_proclaim 7 = .ok (.iconst 0, 1) := by decide +kernel
theorem dX2_proclaim_8 : decode cX2_proclaim 8 = .ok (.invokevirtual 86, 3) := by decide +kernel
theorem dX2_proclaim_11 : decode cX2_proclaim 11 = .ok (.istore_n 3, 1) := by decide +kernel
theorem dX2_proclaim_12 : decode cX2_proclaim 12 = .ok (.aload_n 0, 1) := by decide +kernel
theorem dX2_proclaim_13 : decode cX2_proclaim 13 = .ok (.iload_n 3, 1) := by decide +kernel
theorem dX2_proclaim_14 : decode cX2_proclaim 14 = .ok (.aload_n 0, 1) := by decide +kernel
theorem dX2_proclaim_15 : decode cX2_proclaim 15 = .ok (.getfield 49, 3) := by decide +kernel
theorem dX2_proclaim_18 : decode cX2_proclaim 18 = .ok (.iconst (-1), 1) := by decide +kernel
theorem dX2_proclaim_19 : decode cX2_proclaim 19 = .ok (.ixor, 1) := by decide +kernel
theorem dX2_proclaim_20 : decode cX2_proclaim 20 = .ok (.iand, 1) := by decide +kernel
theorem dX2_proclaim_21 : decode cX2_proclaim 21 = .ok (.invokevirtual 90, 3) := by decide +kernel
theorem dX2_proclaim_24 : decode cX2_proclaim 24 = .ok (.istore 4, 2) := by decide +kernel
theorem dX2_proclaim_26 : decode cX2_proclaim 26 = .ok (.aload_n 0, 1) := by decide +kernel
theorem dX2_proclaim_27 : decode cX2_proclaim 27 = .ok (.iload_n 3, 1) := by decide +kernel
theorem dX2_proclaim_28 : decode cX2_proclaim 28 = .ok (.putfield 49, 3) := by decide +kernel
theorem dX2_proclaim_31 : decode cX2_proclaim 31 = .ok (.aload_n 0, 1) := by decide +kernel
theorem dX2_proclaim_32 : decode cX2_proclaim 32 = .ok (.dup, 1) := by decide +kernel
theorem dX2_proclaim_33 : decode cX2_proclaim 33 = .ok (.getfield 37, 3) := by decide +kernel
theorem dX2_proclaim_36 : decode cX2_proclaim 36 = .ok (.iconst 1, 1) := by decide +kernel
theorem dX2_proclaim_37 : decode cX2_proclaim 37 = .ok (.isub, 1) := by decide +kernel
theorem dX2_proclaim_38 : decode cX2_proclaim 38 = .ok (.putfield 37, 3) := by decide +kernel
theorem dX2_proclaim_41 : decode cX2_proclaim 41 = .ok (.aload_n 0, 1) := by decide +kernel
theorem dX2_proclaim_42 : decode cX2_proclaim 42 = .ok (.dup, 1) := by decide +kernel
theorem dX2_proclaim_43 : decode cX2_proclaim 43 = .ok (.getfield 52, 3) := by decide +kernel
theorem dX2_proclaim_46 : decode cX2_proclaim 46 = .ok (.iconst 1, 1) := by decide +kernel
theorem dX2_proclaim_47 : decode cX2_proclaim 47 = .ok (.iadd, 1) := by decide +kernel
theorem dX2_proclaim_48 : decode cX2_proclaim 48 = .ok (.putfield 52, 3) := by decide +kernel
theorem dX2_proclaim_51 : decode cX2_proclaim 51 = .ok (.iload 4, 2) := by decide +kernel
theorem dX2_proclaim_53 : decode cX2_proclaim 53 = .ok (.invokestatic 93, 3) := by decide +kernel
theorem dX2_proclaim_56 : decode cX2_proclaim 56 = .ok (.ireturn, 1) := by decide +kernel
theorem dX2_sweeten_0 : decode cX2_sweeten 0 = .ok (.aload_n 0, 1) := by decide +kernel
theorem dX2_sweeten_1 : decode cX2_sweeten 1 = .ok (.bipush 9, 2) := by decide +kernel
theorem dX2_sweeten_3 : decode cX2_sweeten 3 = .ok (.aload_n 0, 1) := by decide +kernel
theorem dX2_sweeten_4 : decode cX2_sweeten 4 = .ok (.getfield 37, 3) := by decide +kernel
theorem dX2_sweeten_7 : decode cX2_sweeten 7 = .ok (.iconst 2, 1) := by decide +kernel
theorem dX2_sweeten_8 : decode cX2_sweeten 8 = .ok (.iadd, 1) := by decide +kernel
theorem dX2_sweeten_9 : decode cX2_sweeten 9 = .ok (.invokestatic 98, 3) := by decide +kernel
theorem dX2_sweeten_12 : decode cX2_sweeten 12 = .ok (.putfield 37, 3) := by decide +kernel
theorem dX2_sweeten_15 : decode cX2_sweeten 15 = .ok (.aload_n 0, 1) := by decide +kernel
theorem dX2_sweeten_16 : decode cX2_sweeten 16 = .ok (.getfield 37, 3) := by decide +kernel
theorem dX2_sweeten_19 : decode cX2_sweeten 19 = .ok (.ireturn, 1) := by decide +kernel
theorem dX2_sleep_0 : decode cX2_sleep 0 = .ok (.aload_n 0, 1) := by decide +kernel
theorem dX2_sleep_1 : decode cX2_sleep 1 = .ok (.dup, 1) := by decide +kernel
theorem dX2_sleep_2 : decode cX2_sleep 2 = .ok (.getfield 58, 3) := by decide +kernel
theorem dX2_sleep_5 : decode cX2_sleep 5 = .ok (.iconst 1, 1) := by decide +kernel
theorem dX2_sleep_6 : decode cX2_sleep 6 = .ok (.iadd, 1) := by decide +kernel
theorem dX2_sleep_7 : decode cX2_sleep 7 = .ok (.putfield 58, 3) := by decide +kernel
theorem dX2_sleep_10 : decode cX2_sleep 10 = .ok (.aload_n 0, 1) := by decide +kernel
theorem dX2_sleep_11 : decode cX2_sleep 11 = .ok (.aload_n 0, 1) := by decide +kernel
theorem dX2_sleep_12 : decode cX2_sleep 12 = .ok (.getfield 33, 3) := by decide +kernel
theorem dX2_sleep_15 : decode cX2_sleep 15 = .ok (.putfield 37, 3) := by decide +kernel
theorem dX2_sleep_18 : decode cX2_sleep 18 = .ok (.aload_n 0, 1) := by decide +kernel
theorem dX2_sleep_19 : decode cX2_sleep 19 = .ok (.getfield 37, 3) := by decide +kernel
theorem dX2_sleep_22 : decode cX2_sleep 22 = .ok (.ireturn, 1) := by decide +kernel
theorem dX2_renew_0 : decode cX2_renew 0 = .ok (.aload_n 0, 1) := by decide +kernel
theorem dX2_renew_1 : decode cX2_renew 1 = .ok (.getfield 52, 3) := by decide +kernel
theorem dX2_renew_4 : decode cX2_renew 4 = .ok (.aload_n 0, 1) := by decide +kernel
theorem dX2_renew_5 : decode cX2_renew 5 = .ok (.getfield 40, 3) := by decide +kernel
theorem dX2_renew_8 : decode cX2_renew 8 = .ok (.if_icmp .lt 7, 3) := by decide +kernel
theorem dX2_renew_11 : decode cX2_renew 11 = .ok (.iconst 1, 1) := by decide +kernel
theorem dX2_renew_12 : decode cX2_renew 12 = .ok (.goto 4, 3) := by decide +kernel
theorem dX2_renew_15 : decode cX2_renew 15 = .ok (.iconst 0, 1) := by decide +kernel
theorem dX2_renew_16 : decode cX2_renew 16 = .ok (.istore_n 1, 1) := by decide +kernel
theorem dX2_renew_17 : decode cX2_renew 17 = .ok (.aload_n 0, 1) := by decide +kernel
theorem dX2_renew_18 : decode cX2_renew 18 = .ok (.iconst 0, 1) := by decide +kernel
theorem dX2_renew_19 : decode cX2_renew 19 = .ok (.putfield 49, 3) := by decide +kernel
theorem dX2_renew_22 : decode cX2_renew 22 = .ok (.aload_n 0, 1) := by decide +kernel
theorem dX2_renew_23 : decode cX2_renew 23 = .ok (.iconst 0, 1) := by decide +kernel
theorem dX2_renew_24 : decode cX2_renew 24 = .ok (.putfield 52, 3) := by decide +kernel
theorem dX2_renew_27 : decode cX2_renew 27 = .ok (.aload_n 0, 1) := by decide +kernel
theorem dX2_renew_28 : decode cX2_renew 28 = .ok (.dup, 1) := by decide +kernel
theorem dX2_renew_29 : decode cX2_renew 29 = .ok (.getfield 55, 3) := by decide +kernel
theorem dX2_renew_32 : decode cX2_renew 32 = .ok (.iconst 1, 1) := by decide +kernel
theorem dX2_renew_33 : decode cX2_renew 33 = .ok (.iadd, 1) := by decide +kernel
theorem dX2_renew_34 : decode cX2_renew 34 = .ok (.putfield 55, 3) := by decide +kernel
theorem dX2_renew_37 : decode cX2_renew 37 = .ok (.iload_n 1, 1) := by decide +kernel
theorem dX2_renew_38 : decode cX2_renew 38 = .ok (.ireturn, 1) := by decide +kernel
theorem dX2_note_0 : decode cX2_note 0 = .ok (.iload_n 2, 1) := by decide +kernel
theorem dX2_note_1 : decode cX2_note 1 = .ok (.ifCond .eq 18, 3) := by decide +kernel
theorem dX2_note_4 : decode cX2_note 4 = .ok (.aload_n 0, 1) := by decide +kernel
theorem dX2_note_5 : decode cX2_note 5 = .ok (.dup, 1) := by decide +kernel
theorem dX2_note_6 : decode cX2_note 6 = .ok (.getfield 74, 3) := by decide +kernel
theorem dX2_note_9 : decode cX2_note 9 = .ok (.iconst 1, 1) := by decide +kernel
theorem dX2_note_10 : decode cX2_note 10 = .ok (.iload_n 1, 1) := by decide +kernel
theorem dX2_note_11 : decode cX2_note 11 = .ok (.ishl, 1) := by decide +kernel
theorem dX2_note_12 : decode cX2_note 12 = .ok (.ior, 1) := by decide +kernel
theorem dX2_note_13 : decode cX2_note 13 = .ok (.putfield 74, 3) := by decide +kernel
theorem dX2_note_16 : decode cX2_note 16 = .ok (.goto 15, 3) := by decide +kernel
theorem dX2_note_19 : decode cX2_note 19 = .ok (.aload_n 0, 1) := by decide +kernel
theorem dX2_note_20 : decode cX2_note 20 = .ok (.dup, 1) := by decide +kernel
theorem dX2_note_21 : decode cX2_note 21 = .ok (.getfield 77, 3) := by decide +kernel
theorem dX2_note_24 : decode cX2_note 24 = .ok (.iconst 1, 1) := by decide +kernel
theorem dX2_note_25 : decode cX2_note 25 = .ok (.iload_n 1, 1) := by decide +kernel
theorem dX2_note_26 : decode cX2_note 26 = .ok (.ishl, 1) := by decide +kernel
theorem dX2_note_27 : decode cX2_note 27 = .ok (.ior, 1) := by decide +kernel
theorem dX2_note_28 : decode cX2_note 28 = .ok (.putfield 77, 3) := by decide +kernel
theorem dX2_note_31 : decode cX2_note 31 = .ok (.aload_n 0, 1) := by decide +kernel
theorem dX2_note_32 : decode cX2_note 32 = .ok (.dup, 1) := by decide +kernel
theorem dX2_note_33 : decode cX2_note 33 = .ok (.getfield 71, 3) := by decide +kernel
theorem dX2_note_36 : decode cX2_note 36 = .ok (.iconst 1, 1) := by decide +kernel
theorem dX2_note_37 : decode cX2_note 37 = .ok (.iadd, 1) := by decide +kernel
theorem dX2_note_38 : decode cX2_note 38 = .ok (.putfield 71, 3) := by decide +kernel
theorem dX2_note_41 : decode cX2_note 41 = .ok (.aload_n 0, 1) := by decide +kernel
theorem dX2_note_42 : decode cX2_note 42 = .ok (.getfield 71, 3) := by decide +kernel
theorem dX2_note_45 : decode cX2_note 45 = .ok (.ireturn, 1) := by decide +kernel
theorem dX2_dropTold_0 : decode cX2_dropTold 0 = .ok (.aload_n 0, 1) := by decide +kernel
theorem dX2_dropTold_1 : decode cX2_dropTold 1 = .ok (.getfield 71, 3) := by decide +kernel
theorem dX2_dropTold_4 : decode cX2_dropTold 4 = .ok (.istore_n 1, 1) := by decide +kernel
theorem dX2_dropTold_5 : decode cX2_dropTold 5 = .ok (.aload_n 0, 1) := by decide +kernel
theorem dX2_dropTold_6 : decode cX2_dropTold 6 = .ok (.iconst 0, 1) := by decide +kernel
theorem dX2_dropTold_7 : decode cX2_dropTold 7 = .ok (.putfield 71, 3) := by decide +kernel
theorem dX2_dropTold_10 : decode cX2_dropTold 10 = .ok (.aload_n 0, 1) := by decide +kernel
theorem dX2_dropTold_11 : decode cX2_dropTold 11 = .ok (.iconst 0, 1) := by decide +kernel
theorem dX2_dropTold_12 : decode cX2_dropTold 12 = .ok (.putfield 74, 3) := by decide +kernel
theorem dX2_dropTold_15 : decode cX2_dropTold 15 = .ok (.aload_n 0, 1) := by decide +kernel
theorem dX2_dropTold_16 : decode cX2_dropTold 16 = .ok (.iconst 0, 1) := by decide +kernel
theorem dX2_dropTold_17 : decode cX2_dropTold 17 = .ok (.putfield 77, 3) := by decide +kernel
theorem dX2_dropTold_20 : decode cX2_dropTold 20 = .ok (.iload_n 1, 1) := by decide +kernel
theorem dX2_dropTold_21 : decode cX2_dropTold 21 = .ok (.ireturn, 1) := by decide +kernel
theorem dX2_isAsTold_0 : decode cX2_isAsTold 0 = .ok (.aload_n 0, 1) := by decide +kernel
theorem dX2_isAsTold_1 : decode cX2_isAsTold 1 = .ok (.getfield 74, 3) := by decide +kernel
theorem dX2_isAsTold_4 : decode cX2_isAsTold 4 = .ok (.iload_n 1, 1) := by decide +kernel
theorem dX2_isAsTold_5 : decode cX2_isAsTold 5 = .ok (.iconst (-1), 1) := by decide +kernel
theorem dX2_isAsTold_6 : decode cX2_isAsTold 6 = .ok (.ixor, 1) := by decide +kernel
theorem dX2_isAsTold_7 : decode cX2_isAsTold 7 = .ok (.iand, 1) := by decide +kernel
theorem dX2_isAsTold_8 : decode cX2_isAsTold 8 = .ok (.ifCond .ne 16, 3) := by decide +kernel
theorem dX2_isAsTold_11 : decode cX2_isAsTold 11 = .ok (.aload_n 0, 1) := by decide +kernel
theorem dX2_isAsTold_12 : decode cX2_isAsTold 12 = .ok (.getfield 77, 3) := by decide +kernel
theorem dX2_isAsTold_15 : decode cX2_isAsTold 15 = .ok (.iload_n 1, 1) := by decide +kernel
theorem dX2_isAsTold_16 : decode cX2_isAsTold 16 = .ok (.iand, 1) := by decide +kernel
theorem dX2_isAsTold_17 : decode cX2_isAsTold 17 = .ok (.ifCond .ne 7, 3) := by decide +kernel
theorem dX2_isAsTold_20 : decode cX2_isAsTold 20 = .ok (.iconst 1, 1) := by decide +kernel
theorem dX2_isAsTold_21 : decode cX2_isAsTold 21 = .ok (.goto 4, 3) := by decide +kernel
theorem dX2_isAsTold_24 : decode cX2_isAsTold 24 = .ok (.iconst 0, 1) := by decide +kernel
theorem dX2_isAsTold_25 : decode cX2_isAsTold 25 = .ok (.ireturn, 1) := by decide +kernel
theorem dX2_knowing_0 : decode cX2_knowing 0 = .ok (.iload_n 1, 1) := by decide +kernel
theorem dX2_knowing_1 : decode cX2_knowing 1 = .ok (.aload_n 0, 1) := by decide +kernel
theorem dX2_knowing_2 : decode cX2_knowing 2 = .ok (.getfield 46, 3) := by decide +kernel
theorem dX2_knowing_5 : decode cX2_knowing 5 = .ok (.iconst (-1), 1) := by decide +kernel
theorem dX2_knowing_6 : decode cX2_knowing 6 = .ok (.ixor, 1) := by decide +kernel
theorem dX2_knowing_7 : decode cX2_knowing 7 = .ok (.iand, 1) := by decide +kernel
theorem dX2_knowing_8 : decode cX2_knowing 8 = .ok (.ireturn, 1) := by decide +kernel
theorem dX2_spread_0 : decode cX2_spread 0 = .ok (.iload_n 1, 1) := by decide +kernel
theorem dX2_spread_1 : decode cX2_spread 1 = .ok (.aload_n 0, 1) := by decide +kernel
theorem dX2_spread_2 : decode cX2_spread 2 = .ok (.iload_n 2, 1) := by decide +kernel
theorem dX2_spread_3 : decode cX2_spread 3 = .ok (.iload_n 3, 1) := by decide +kernel
theorem dX2_spread_4 : decode cX2_spread 4 = .ok (.invokevirtual 104, 3) := by decide +kernel
theorem dX2_spread_7 : decode cX2_spread 7 = .ok (.iload 4, 2) := by decide +kernel
theorem dX2_spread_9 : decode cX2_spread 9 = .ok (.iconst (-1), 1) := by decide +kernel
theorem dX2_spread_10 : decode cX2_spread 10 = .ok (.ixor, 1) := by decide +kernel
theorem dX2_spread_11 : decode cX2_spread 11 = .ok (.iand, 1) := by decide +kernel
theorem dX2_spread_12 : decode cX2_spread 12 = .ok (.ior, 1) := by decide +kernel
theorem dX2_spread_13 : decode cX2_spread 13 = .ok (.istore 5, 2) := by decide +kernel
theorem dX2_spread_15 : decode cX2_spread 15 = .ok (.iload 5, 2) := by decide +kernel
theorem dX2_spread_17 : decode cX2_spread 17 = .ok (.iload_n 1, 1) := by decide +kernel
theorem dX2_spread_18 : decode cX2_spread 18 = .ok (.iconst (-1), 1) := by decide +kernel
theorem dX2_spread_19 : decode cX2_spread 19 = .ok (.ixor, 1) := by decide +kernel
theorem dX2_spread_20 : decode cX2_spread 20 = .ok (.iand, 1) := by decide +kernel
theorem dX2_spread_21 : decode cX2_spread 21 = .ok (.istore 6, 2) := by decide +kernel
theorem dX2_spread_23 : decode cX2_spread 23 = .ok (.iconst 0, 1) := by decide +kernel
theorem dX2_spread_24 : decode cX2_spread 24 = .ok (.istore 7, 2) := by decide +kernel
theorem dX2_spread_26 : decode cX2_spread 26 = .ok (.iload 7, 2) := by decide +kernel
theorem dX2_spread_28 : decode cX2_spread 28 = .ok (.aload_n 0, 1) := by decide +kernel
theorem dX2_spread_29 : decode cX2_spread 29 = .ok (.getfield 43, 3) := by decide +kernel
theorem dX2_spread_32 : decode cX2_spread 32 = .ok (.if_icmp .ge 43, 3) := by decide +kernel
theorem dX2_spread_35 : decode cX2_spread 35 = .ok (.iload 6, 2) := by decide +kernel
theorem dX2_spread_37 : decode cX2_spread 37 = .ok (.ifCond .eq 38, 3) := by decide +kernel
theorem dX2_spread_40 : decode cX2_spread 40 = .ok (.aload_n 0, 1) := by decide +kernel
theorem dX2_spread_41 : decode cX2_spread 41 = .ok (.iload 6, 2) := by decide +kernel
theorem dX2_spread_43 : decode cX2_spread 43 = .ok (.invokevirtual 107, 3) := by decide +kernel
theorem dX2_spread_46 : decode cX2_spread 46 = .ok (.iload 4, 2) := by decide +kernel
theorem dX2_spread_48 : decode cX2_spread 48 = .ok (.iconst (-1), 1) := by decide +kernel
theorem dX2_spread_49 : decode cX2_spread 49 = .ok (.ixor, 1) := by decide +kernel
theorem dX2_spread_50 : decode cX2_spread 50 = .ok (.iand, 1) := by decide +kernel
theorem dX2_spread_51 : decode cX2_spread 51 = .ok (.istore 8, 2) := by decide +kernel
theorem dX2_spread_53 : decode cX2_spread 53 = .ok (.iload 8, 2) := by decide +kernel
theorem dX2_spread_55 : decode cX2_spread 55 = .ok (.iload 5, 2) := by decide +kernel
theorem dX2_spread_57 : decode cX2_spread 57 = .ok (.iconst (-1), 1) := by decide +kernel
theorem dX2_spread_58 : decode cX2_spread 58 = .ok (.ixor, 1) := by decide +kernel
theorem dX2_spread_59 : decode cX2_spread 59 = .ok (.iand, 1) := by decide +kernel
theorem dX2_spread_60 : decode cX2_spread 60 = .ok (.istore 6, 2) := by decide +kernel
theorem dX2_spread_62 : decode cX2_spread 62 = .ok (.iload 5, 2) := by decide +kernel
theorem dX2_spread_64 : decode cX2_spread 64 = .ok (.iload 8, 2) := by decide +kernel
theorem dX2_spread_66 : decode cX2_spread 66 = .ok (.ior, 1) := by decide +kernel
theorem dX2_spread_67 : decode cX2_spread 67 = .ok (.istore 5, 2) := by decide +kernel
theorem dX2_spread_69 : decode cX2_spread 69 = .ok (.iinc 7 1, 3) := by decide +kernel
theorem dX2_spread_72 : decode cX2_spread 72 = .ok (.goto (-46), 3) := by decide +kernel
theorem dX2_spread_75 : decode cX2_spread 75 = .ok (.iload 5, 2) := by decide +kernel
theorem dX2_spread_77 : decode cX2_spread 77 = .ok (.ireturn, 1) := by decide +kernel
theorem dX2_repeatedBy_0 : decode cX2_repeatedBy 0 = .ok (.iconst 0, 1) := by decide +kernel
theorem dX2_repeatedBy_1 : decode cX2_repeatedBy 1 = .ok (.istore_n 2, 1) := by decide +kernel
theorem dX2_repeatedBy_2 : decode cX2_repeatedBy 2 = .ok (.iconst 0, 1) := by decide +kernel
theorem dX2_repeatedBy_3 : decode cX2_repeatedBy 3 = .ok (.istore_n 3, 1) := by decide +kernel
theorem dX2_repeatedBy_4 : decode cX2_repeatedBy 4 = .ok (.iload_n 3, 1) := by decide +kernel
theorem dX2_repeatedBy_5 : decode cX2_repeatedBy 5 = .ok (.aload_n 0, 1) := by decide +kernel
theorem dX2_repeatedBy_6 : decode cX2_repeatedBy 6 = .ok (.getfield 43, 3) := by decide +kernel
theorem dX2_repeatedBy_9 : decode cX2_repeatedBy 9 = .ok (.if_icmp .ge 46, 3) := by decide +kernel
theorem dX2_repeatedBy_12 : decode cX2_repeatedBy 12 = .ok (.iload_n 1, 1) := by decide +kernel
theorem dX2_repeatedBy_13 : decode cX2_repeatedBy 13 = .ok (.iload_n 3, 1) := by decide +kernel
theorem dX2_repeatedBy_14 : decode cX2_repeatedBy 14 = .ok (.ishr, 1) := by decide +kernel
theorem dX2_repeatedBy_15 : decode cX2_repeatedBy 15 = .ok (.iconst 1, 1) := by decide +kernel
theorem dX2_repeatedBy_16 : decode cX2_repeatedBy 16 = .ok (.iand, 1) := by decide +kernel
theorem dX2_repeatedBy_17 : decode cX2_repeatedBy 17 = .ok (.iconst 1, 1) := by decide +kernel
theorem dX2_repeatedBy_18 : decode cX2_repeatedBy 18 = .ok (.if_icmp .ne 31, 3) := by decide +kernel
theorem dX2_repeatedBy_21 : decode cX2_repeatedBy 21 = .ok (.aload_n 0, 1) := by decide +kernel
theorem dX2_repeatedBy_22 : decode cX2_repeatedBy 22 = .ok (.getfield 21, 3) := by decide +kernel
theorem dX2_repeatedBy_25 : decode cX2_repeatedBy 25 = .ok (.iload_n 3, 1) := by decide +kernel
theorem dX2_repeatedBy_26 : decode cX2_repeatedBy 26 = .ok (.iaload, 1) := by decide +kernel
theorem dX2_repeatedBy_27 : decode cX2_repeatedBy 27 = .ok (.ifCond .le 22, 3) := by decide +kernel
theorem dX2_repeatedBy_30 : decode cX2_repeatedBy 30 = .ok (.iload_n 2, 1) := by decide +kernel
theorem dX2_repeatedBy_31 : decode cX2_repeatedBy 31 = .ok (.aload_n 0, 1) := by decide +kernel
theorem dX2_repeatedBy_32 : decode cX2_repeatedBy 32 = .ok (.aload_n 0, 1) := by decide +kernel
theorem dX2_repeatedBy_33 : decode cX2_repeatedBy 33 = .ok (.getfield 24, 3) := by decide +kernel
theorem dX2_repeatedBy_36 : decode cX2_repeatedBy 36 = .ok (.iload_n 3, 1) := by decide +kernel
theorem dX2_repeatedBy_37 : decode cX2_repeatedBy 37 = .ok (.iaload, 1) := by decide +kernel
theorem dX2_repeatedBy_38 : decode cX2_repeatedBy 38 = .ok (.aload_n 0, 1) := by decide +kernel
theorem dX2_repeatedBy_39 : decode cX2_repeatedBy 39 = .ok (.getfield 21, 3) := by decide +kernel
theorem dX2_repeatedBy_42 : decode cX2_repeatedBy 42 = .ok (.iload_n 3, 1) := by decide +kernel
theorem dX2_repeatedBy_43 : decode cX2_repeatedBy 43 = .ok (.iaload, 1) := by decide +kernel
theorem dX2_repeatedBy_44 : decode cX2_repeatedBy 44 = .ok (.invokevirtual 104, 3) := by decide +kernel
theorem dX2_repeatedBy_47 : decode cX2_repeatedBy 47 = .ok (.ior, 1) := by decide +kernel
theorem dX2_repeatedBy_48 : decode cX2_repeatedBy 48 = .ok (.istore_n 2, 1) := by decide +kernel
theorem dX2_repeatedBy_49 : decode cX2_repeatedBy 49 = .ok (.iinc 3 1, 3) := by decide +kernel
theorem dX2_repeatedBy_52 : decode cX2_repeatedBy 52 = .ok (.goto (-48), 3) := by decide +kernel
theorem dX2_repeatedBy_55 : decode cX2_repeatedBy 55 = .ok (.iload_n 2, 1) := by decide +kernel
theorem dX2_repeatedBy_56 : decode cX2_repeatedBy 56 = .ok (.ireturn, 1) := by decide +kernel
theorem dX2_hearing_0 : decode cX2_hearing 0 = .ok (.iconst 0, 1) := by decide +kernel
theorem dX2_hearing_1 : decode cX2_hearing 1 = .ok (.istore_n 3, 1) := by decide +kernel
theorem dX2_hearing_2 : decode cX2_hearing 2 = .ok (.iconst 0, 1) := by decide +kernel
theorem dX2_hearing_3 : decode cX2_hearing 3 = .ok (.istore 4, 2) := by decide +kernel
theorem dX2_hearing_5 : decode cX2_hearing 5 = .ok (.iload 4, 2) := by decide +kernel
theorem dX2_hearing_7 : decode cX2_hearing 7 = .ok (.aload_n 0, 1) := by decide +kernel
theorem dX2_hearing_8 : decode cX2_hearing 8 = .ok (.getfield 43, 3) := by decide +kernel
theorem dX2_hearing_11 : decode cX2_hearing 11 = .ok (.if_icmp .ge 68, 3) := by decide +kernel
theorem dX2_hearing_14 : decode cX2_hearing 14 = .ok (.aload_n 0, 1) := by decide +kernel
theorem dX2_hearing_15 : decode cX2_hearing 15 = .ok (.getfield 24, 3) := by decide +kernel
theorem dX2_hearing_18 : decode cX2_hearing 18 = .ok (.iload 4, 2) := by decide +kernel
theorem dX2_hearing_20 : decode cX2_hearing 20 = .ok (.iaload, 1) := by decide +kernel
theorem dX2_hearing_21 : decode cX2_hearing 21 = .ok (.istore 5, 2) := by decide +kernel
theorem dX2_hearing_23 : decode cX2_hearing 23 = .ok (.iload 5, 2) := by decide +kernel
theorem dX2_hearing_25 : decode cX2_hearing 25 = .ok (.iload_n 1, 1) := by decide +kernel
theorem dX2_hearing_26 : decode cX2_hearing 26 = .ok (.if_icmp .ge 10, 3) := by decide +kernel
theorem dX2_hearing_29 : decode cX2_hearing 29 = .ok (.iload_n 1, 1) := by decide +kernel
theorem dX2_hearing_30 : decode cX2_hearing 30 = .ok (.iload 5, 2) := by decide +kernel
theorem dX2_hearing_32 : decode cX2_hearing 32 = .ok (.isub, 1) := by decide +kernel
theorem dX2_hearing_33 : decode cX2_hearing 33 = .ok (.goto 7, 3) := by decide +kernel
theorem dX2_hearing_36 : decode cX2_hearing 36 = .ok (.iload 5, 2) := by decide +kernel
theorem dX2_hearing_38 : decode cX2_hearing 38 = .ok (.iload_n 1, 1) := by decide +kernel
theorem dX2_hearing_39 : decode cX2_hearing 39 = .ok (.isub, 1) := by decide +kernel
theorem dX2_hearing_40 : decode cX2_hearing 40 = .ok (.istore 6, 2) := by decide +kernel
theorem dX2_hearing_42 : decode cX2_hearing 42 = .ok (.iload_n 2, 1) := by decide +kernel
theorem dX2_hearing_43 : decode cX2_hearing 43 = .ok (.iconst 2, 1) := by decide +kernel
theorem dX2_hearing_44 : decode cX2_hearing 44 = .ok (.iload 6, 2) := by decide +kernel
theorem dX2_hearing_46 : decode cX2_hearing 46 = .ok (.imul, 1) := by decide +kernel
theorem dX2_hearing_47 : decode cX2_hearing 47 = .ok (.isub, 1) := by decide +kernel
theorem dX2_hearing_48 : decode cX2_hearing 48 = .ok (.aload_n 0, 1) := by decide +kernel
theorem dX2_hearing_49 : decode cX2_hearing 49 = .ok (.getfield 9, 3) := by decide +kernel
theorem dX2_hearing_52 : decode cX2_hearing 52 = .ok (.iload 5, 2) := by decide +kernel
theorem dX2_hearing_54 : decode cX2_hearing 54 = .ok (.iaload, 1) := by decide +kernel
theorem dX2_hearing_55 : decode cX2_hearing 55 = .ok (.isub, 1) := by decide +kernel
theorem dX2_hearing_56 : decode cX2_hearing 56 = .ok (.aload_n 0, 1) := by decide +kernel
theorem dX2_hearing_57 : decode cX2_hearing 57 = .ok (.getfield 18, 3) := by decide +kernel
theorem dX2_hearing_60 : decode cX2_hearing 60 = .ok (.iload 4, 2) := by decide +kernel
theorem dX2_hearing_62 : decode cX2_hearing 62 = .ok (.iaload, 1) := by decide +kernel
theorem dX2_hearing_63 : decode cX2_hearing 63 = .ok (.if_icmp .lt 10, 3) := by decide +kernel
theorem dX2_hearing_66 : decode cX2_hearing 66 = .ok (.iload_n 3, 1) := by decide +kernel
theorem dX2_hearing_67 : decode cX2_hearing 67 = .ok (.iconst 1, 1) := by decide +kernel
theorem dX2_hearing_68 : decode cX2_hearing 68 = .ok (.iload 4, 2) := by decide +kernel
theorem dX2_hearing_70 : decode cX2_hearing 70 = .ok (.ishl, 1) := by decide +kernel
theorem dX2_hearing_71 : decode cX2_hearing 71 = .ok (.ior, 1) := by decide +kernel
theorem dX2_hearing_72 : decode cX2_hearing 72 = .ok (.istore_n 3, 1) := by decide +kernel
theorem dX2_hearing_73 : decode cX2_hearing 73 = .ok (.iinc 4 1, 3) := by decide +kernel
theorem dX2_hearing_76 : decode cX2_hearing 76 = .ok (.goto (-71), 3) := by decide +kernel
theorem dX2_hearing_79 : decode cX2_hearing 79 = .ok (.iload_n 3, 1) := by decide +kernel
theorem dX2_hearing_80 : decode cX2_hearing 80 = .ok (.ireturn, 1) := by decide +kernel
theorem dX2_loudNeeded_0 : decode cX2_loudNeeded 0 = .ok (.iload_n 0, 1) := by decide +kernel
theorem dX2_loudNeeded_1 : decode cX2_loudNeeded 1 = .ok (.lookupswitch 31 #[(1, 27), (2, 29)], 27) := by decide +kernel
theorem dX2_loudNeeded_28 : decode cX2_loudNeeded 28 = .ok (.iconst 5, 1) := by decide +kernel
theorem dX2_loudNeeded_29 : decode cX2_loudNeeded 29 = .ok (.ireturn, 1) := by decide +kernel
theorem dX2_loudNeeded_30 : decode cX2_loudNeeded 30 = .ok (.iconst 3, 1) := by decide +kernel
theorem dX2_loudNeeded_31 : decode cX2_loudNeeded 31 = .ok (.ireturn, 1) := by decide +kernel
theorem dX2_loudNeeded_32 : decode cX2_loudNeeded 32 = .ok (.iconst 1, 1) := by decide +kernel
theorem dX2_loudNeeded_33 : decode cX2_loudNeeded 33 = .ok (.ireturn, 1) := by decide +kernel
theorem dX2_loudRepeated_0 : decode cX2_loudRepeated 0 = .ok (.iload_n 0, 1) := by decide +kernel
theorem dX2_loudRepeated_1 : decode cX2_loudRepeated 1 = .ok (.lookupswitch 32 #[(3, 27), (4, 29)], 27) := by decide +kernel
theorem dX2_loudRepeated_28 : decode cX2_loudRepeated 28 = .ok (.iconst 4, 1) := by decide +kernel
theorem dX2_loudRepeated_29 : decode cX2_loudRepeated 29 = .ok (.ireturn, 1) := by decide +kernel
theorem dX2_loudRepeated_30 : decode cX2_loudRepeated 30 = .ok (.bipush 7, 2) := by decide +kernel
theorem dX2_loudRepeated_32 : decode cX2_loudRepeated 32 = .ok (.ireturn, 1) := by decide +kernel
theorem dX2_loudRepeated_33 : decode cX2_loudRepeated 33 = .ok (.iconst 0, 1) := by decide +kernel
theorem dX2_loudRepeated_34 : decode cX2_loudRepeated 34 = .ok (.ireturn, 1) := by decide +kernel
theorem dJ6_bitCount_0f7a4_0 : decode cJ6_bitCount_0f7a4 0 = .ok (.iload_n 0, 1) := by decide +kernel
theorem dJ6_bitCount_0f7a4_1 : decode cJ6_bitCount_0f7a4 1 = .ok (.iload_n 0, 1) := by decide +kernel
theorem dJ6_bitCount_0f7a4_2 : decode cJ6_bitCount_0f7a4 2 = .ok (.iconst 1, 1) := by decide +kernel
theorem dJ6_bitCount_0f7a4_3 : decode cJ6_bitCount_0f7a4 3 = .ok (.iushr, 1) := by decide +kernel
theorem dJ6_bitCount_0f7a4_4 : decode cJ6_bitCount_0f7a4 4 = .ok (.ldc_w 265, 3) := by decide +kernel
theorem dJ6_bitCount_0f7a4_7 : decode cJ6_bitCount_0f7a4 7 = .ok (.iand, 1) := by decide +kernel
theorem dJ6_bitCount_0f7a4_8 : decode cJ6_bitCount_0f7a4 8 = .ok (.isub, 1) := by decide +kernel
theorem dJ6_bitCount_0f7a4_9 : decode cJ6_bitCount_0f7a4 9 = .ok (.istore_n 0, 1) := by decide +kernel
theorem dJ6_bitCount_0f7a4_10 : decode cJ6_bitCount_0f7a4 10 = .ok (.iload_n 0, 1) := by decide +kernel
theorem dJ6_bitCount_0f7a4_11 : decode cJ6_bitCount_0f7a4 11 = .ok (.ldc_w 266, 3) := by decide +kernel
theorem dJ6_bitCount_0f7a4_14 : decode cJ6_bitCount_0f7a4 14 = .ok (.iand, 1) := by decide +kernel
theorem dJ6_bitCount_0f7a4_15 : decode cJ6_bitCount_0f7a4 15 = .ok (.iload_n 0, 1) := by decide +kernel
theorem dJ6_bitCount_0f7a4_16 : decode cJ6_bitCount_0f7a4 16 = .ok (.iconst 2, 1) := by decide +kernel
theorem dJ6_bitCount_0f7a4_17 : decode cJ6_bitCount_0f7a4 17 = .ok (.iushr, 1) := by decide +kernel
theorem dJ6_bitCount_0f7a4_18 : decode cJ6_bitCount_0f7a4 18 = .ok (.ldc_w 266, 3) := by decide +kernel
theorem dJ6_bitCount_0f7a4_21 : decode cJ6_bitCount_0f7a4 21 = .ok (.iand, 1) := by decide +kernel
theorem dJ6_bitCount_0f7a4_22 : decode cJ6_bitCount_0f7a4 22 = .ok (.iadd, 1) := by decide +kernel
theorem dJ6_bitCount_0f7a4_23 : decode cJ6_bitCount_0f7a4 23 = .ok (.istore_n 0, 1) := by decide +kernel
theorem dJ6_bitCount_0f7a4_24 : decode cJ6_bitCount_0f7a4 24 = .ok (.iload_n 0, 1) := by decide +kernel
theorem dJ6_bitCount_0f7a4_25 : decode cJ6_bitCount_0f7a4 25 = .ok (.iload_n 0, 1) := by decide +kernel
theorem dJ6_bitCount_0f7a4_26 : decode cJ6_bitCount_0f7a4 26 = .ok (.iconst 4, 1) := by decide +kernel
theorem dJ6_bitCount_0f7a4_27 : decode cJ6_bitCount_0f7a4 27 = .ok (.iushr, 1) := by decide +kernel
theorem dJ6_bitCount_0f7a4_28 : decode cJ6_bitCount_0f7a4 28 = .ok (.iadd, 1) := by decide +kernel
theorem dJ6_bitCount_0f7a4_29 : decode cJ6_bitCount_0f7a4 29 = .ok (.ldc_w 267, 3) := by decide +kernel
theorem dJ6_bitCount_0f7a4_32 : decode cJ6_bitCount_0f7a4 32 = .ok (.iand, 1) := by decide +kernel
theorem dJ6_bitCount_0f7a4_33 : decode cJ6_bitCount_0f7a4 33 = .ok (.istore_n 0, 1) := by decide +kernel
theorem dJ6_bitCount_0f7a4_34 : decode cJ6_bitCount_0f7a4 34 = .ok (.iload_n 0, 1) := by decide +kernel
theorem dJ6_bitCount_0f7a4_35 : decode cJ6_bitCount_0f7a4 35 = .ok (.iload_n 0, 1) := by decide +kernel
theorem dJ6_bitCount_0f7a4_36 : decode cJ6_bitCount_0f7a4 36 = .ok (.bipush 8, 2) := by decide +kernel
theorem dJ6_bitCount_0f7a4_38 : decode cJ6_bitCount_0f7a4 38 = .ok (.iushr, 1) := by decide +kernel
theorem dJ6_bitCount_0f7a4_39 : decode cJ6_bitCount_0f7a4 39 = .ok (.iadd, 1) := by decide +kernel
theorem dJ6_bitCount_0f7a4_40 : decode cJ6_bitCount_0f7a4 40 = .ok (.istore_n 0, 1) := by decide +kernel
theorem dJ6_bitCount_0f7a4_41 : decode cJ6_bitCount_0f7a4 41 = .ok (.iload_n 0, 1) := by decide +kernel
theorem dJ6_bitCount_0f7a4_42 : decode cJ6_bitCount_0f7a4 42 = .ok (.iload_n 0, 1) := by decide +kernel
theorem dJ6_bitCount_0f7a4_43 : decode cJ6_bitCount_0f7a4 43 = .ok (.bipush 16, 2) := by decide +kernel
theorem dJ6_bitCount_0f7a4_45 : decode cJ6_bitCount_0f7a4 45 = .ok (.iushr, 1) := by decide +kernel
theorem dJ6_bitCount_0f7a4_46 : decode cJ6_bitCount_0f7a4 46 = .ok (.iadd, 1) := by decide +kernel
theorem dJ6_bitCount_0f7a4_47 : decode cJ6_bitCount_0f7a4 47 = .ok (.istore_n 0, 1) := by decide +kernel
theorem dJ6_bitCount_0f7a4_48 : decode cJ6_bitCount_0f7a4 48 = .ok (.iload_n 0, 1) := by decide +kernel
theorem dJ6_bitCount_0f7a4_49 : decode cJ6_bitCount_0f7a4 49 = .ok (.bipush 63, 2) := by decide +kernel
theorem dJ6_bitCount_0f7a4_51 : decode cJ6_bitCount_0f7a4 51 = .ok (.iand, 1) := by decide +kernel
theorem dJ6_bitCount_0f7a4_52 : decode cJ6_bitCount_0f7a4 52 = .ok (.ireturn, 1) := by decide +kernel
theorem dJ9_max_7cf53_0 : decode cJ9_max_7cf53 0 = .ok (.iload_n 0, 1) := by decide +kernel
theorem dJ9_max_7cf53_1 : decode cJ9_max_7cf53 1 = .ok (.iload_n 1, 1) := by decide +kernel
theorem dJ9_max_7cf53_2 : decode cJ9_max_7cf53 2 = .ok (.if_icmp .lt 7, 3) := by decide +kernel
theorem dJ9_max_7cf53_5 : decode cJ9_max_7cf53 5 = .ok (.iload_n 0, 1) := by decide +kernel
theorem dJ9_max_7cf53_6 : decode cJ9_max_7cf53 6 = .ok (.goto 4, 3) := by decide +kernel
theorem dJ9_max_7cf53_9 : decode cJ9_max_7cf53 9 = .ok (.iload_n 1, 1) := by decide +kernel
theorem dJ9_max_7cf53_10 : decode cJ9_max_7cf53 10 = .ok (.ireturn, 1) := by decide +kernel
theorem dJ9_min_7cf53_0 : decode cJ9_min_7cf53 0 = .ok (.iload_n 0, 1) := by decide +kernel
theorem dJ9_min_7cf53_1 : decode cJ9_min_7cf53 1 = .ok (.iload_n 1, 1) := by decide +kernel
theorem dJ9_min_7cf53_2 : decode cJ9_min_7cf53 2 = .ok (.if_icmp .gt 7, 3) := by decide +kernel
theorem dJ9_min_7cf53_5 : decode cJ9_min_7cf53 5 = .ok (.iload_n 0, 1) := by decide +kernel
theorem dJ9_min_7cf53_6 : decode cJ9_min_7cf53 6 = .ok (.goto 4, 3) := by decide +kernel
theorem dJ9_min_7cf53_9 : decode cJ9_min_7cf53 9 = .ok (.iload_n 1, 1) := by decide +kernel
theorem dJ9_min_7cf53_10 : decode cJ9_min_7cf53 10 = .ok (.ireturn, 1) := by decide +kernel
