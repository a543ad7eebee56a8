theorem dX4_init_0 : decode cX4_init 0 = .ok (.aload_n 0, 1) := by decide +kernel
theorem dX4_init_1 : decode cX4_init 1 = .ok (.invokespecial 1, 3) := by decide +kernel
theorem dX4_init_4 : decode cX4_init 4 = .ok (.aload_n 0, 1) := by decide +kernel
theorem dX4_init_5 : decode cX4_init 5 = .ok (.bipush 12, 2) := by decide +kernel
theorem dX4_init_7 : decode cX4_init 7 = .ok (.newarray .int, 2) := by decide +kernel
theorem dX4_init_9 : decode cX4_init 9 = .ok (.putfield 7, 3) := by decide +kernel
theorem dX4_init_12 : decode cX4_init 12 = .ok (.aload_n 0, 1) := by decide +kernel
theorem dX4_init_13 : decode cX4_init 13 = .ok (.bipush 6, 2) := by decide +kernel
theorem dX4_init_15 : decode cX4_init 15 = .ok (.newarray .int, 2) := by decide +kernel
theorem dX4_init_17 : decode cX4_init 17 = .ok (.putfield 13, 3) := by decide +kernel
theorem dX4_init_20 : decode cX4_init 20 = .ok (.aload_n 0, 1) := by decide +kernel
theorem dX4_init_21 : decode cX4_init 21 = .ok (.bipush 12, 2) := by decide +kernel
theorem dX4_init_23 : decode cX4_init 23 = .ok (.newarray .int, 2) := by decide +kernel
theorem dX4_init_25 : decode cX4_init 25 = .ok (.putfield 16, 3) := by decide +kernel
theorem dX4_init_28 : decode cX4_init 28 = .ok (.aload_n 0, 1) := by decide +kernel
theorem dX4_init_29 : decode cX4_init 29 = .ok (.iconst 3, 1) := by decide +kernel
theorem dX4_init_30 : decode cX4_init 30 = .ok (.newarray .int, 2) := by decide +kernel
theorem dX4_init_32 : decode cX4_init 32 = .ok (.putfield 19, 3) := by decide +kernel
theorem dX4_init_35 : decode cX4_init 35 = .ok (.aload_n 0, 1) := by decide +kernel
theorem dX4_init_36 : decode cX4_init 36 = .ok (.bipush 16, 2) := by decide +kernel
theorem dX4_init_38 : decode cX4_init 38 = .ok (.newarray .int, 2) := by decide +kernel
theorem dX4_init_40 : decode cX4_init 40 = .ok (.putfield 22, 3) := by decide +kernel
theorem dX4_init_43 : decode cX4_init 43 = .ok (.aload_n 0, 1) := by decide +kernel
theorem dX4_init_44 : decode cX4_init 44 = .ok (.bipush 12, 2) := by decide +kernel
theorem dX4_init_46 : decode cX4_init 46 = .ok (.newarray .int, 2) := by decide +kernel
theorem dX4_init_48 : decode cX4_init 48 = .ok (.putfield 25, 3) := by decide +kernel
theorem dX4_init_51 : decode cX4_init 51 = .ok (.aload_n 0, 1) := by decide +kernel
theorem dX4_init_52 : decode cX4_init 52 = .ok (.bipush 16, 2) := by decide +kernel
theorem dX4_init_54 : decode cX4_init 54 = .ok (.newarray .int, 2) := by decide +kernel
theorem dX4_init_56 : decode cX4_init 56 = .ok (.putfield 28, 3) := by decide +kernel
theorem dX4_init_59 : decode cX4_init 59 = .ok (.aload_n 0, 1) := by decide +kernel
theorem dX4_init_60 : decode cX4_init 60 = .ok (.bipush 6, 2) := by decide +kernel
theorem dX4_init_62 : decode cX4_init 62 = .ok (.newarray .int, 2) := by decide +kernel
theorem dX4_init_64 : decode cX4_init 64 = .ok (.putfield 31, 3) := by decide +kernel
theorem dX4_init_67 : decode cX4_init 67 = .ok (.aload_n 0, 1) := by decide +kernel
theorem dX4_init_68 : decode cX4_init 68 = .ok (.iconst (-1), 1) := by decide +kernel
theorem dX4_init_69 : decode cX4_init 69 = .ok (.putfield 34, 3) := by decide +kernel
theorem dX4_init_72 : decode cX4_init 72 = .ok (.return_, 1) := by decide +kernel
theorem dX4_in_0 : decode cX4_in 0 = .ok (.lload_n 0, 1) := by decide +kernel
theorem dX4_in_1 : decode cX4_in 1 = .ok (.lload_n 2, 1) := by decide +kernel
theorem dX4_in_2 : decode cX4_in 2 = .ok (.lcmp, 1) := by decide +kernel
theorem dX4_in_3 : decode cX4_in 3 = .ok (.ifCond .lt 14, 3) := by decide +kernel
theorem dX4_in_6 : decode cX4_in 6 = .ok (.lload_n 0, 1) := by decide +kernel
theorem dX4_in_7 : decode cX4_in 7 = .ok (.lload 4, 2) := by decide +kernel
theorem dX4_in_9 : decode cX4_in 9 = .ok (.lcmp, 1) := by decide +kernel
theorem dX4_in_10 : decode cX4_in 10 = .ok (.ifCond .gt 7, 3) := by decide +kernel
theorem dX4_in_13 : decode cX4_in 13 = .ok (.iconst 1, 1) := by decide +kernel
theorem dX4_in_14 : decode cX4_in 14 = .ok (.goto 4, 3) := by decide +kernel
theorem dX4_in_17 : decode cX4_in 17 = .ok (.iconst 0, 1) := by decide +kernel
theorem dX4_in_18 : decode cX4_in 18 = .ok (.ireturn, 1) := by decide +kernel
theorem dX4_copy_0 : decode cX4_copy 0 = .ok (.iconst 0, 1) := by decide +kernel
theorem dX4_copy_1 : decode cX4_copy 1 = .ok (.istore_n 2, 1) := by decide +kernel
theorem dX4_copy_2 : decode cX4_copy 2 = .ok (.iload_n 2, 1) := by decide +kernel
theorem dX4_copy_3 : decode cX4_copy 3 = .ok (.aload_n 0, 1) := by decide +kernel
theorem dX4_copy_4 : decode cX4_copy 4 = .ok (.arraylength, 1) := by decide +kernel
theorem dX4_copy_5 : decode cX4_copy 5 = .ok (.if_icmp .ge 15, 3) := by decide +kernel
theorem dX4_copy_8 : decode cX4_copy 8 = .ok (.aload_n 1, 1) := by decide +kernel
theorem dX4_copy_9 : decode cX4_copy 9 = .ok (.iload_n 2, 1) := by decide +kernel
theorem dX4_copy_10 : decode cX4_copy 10 = .ok (.aload_n 0, 1) := by decide +kernel
theorem dX4_copy_11 : decode cX4_copy 11 = .ok (.iload_n 2, 1) := by decide +kernel
theorem dX4_copy_12 : decode cX4_copy 12 = .ok (.iaload, 1) := by decide +kernel
theorem dX4_copy_13 : decode cX4_copy 13 = .ok (.iastore, 1) := by decide +kernel
theorem dX4_copy_14 : decode cX4_copy 14 = .ok (.iinc 2 1, 3) := by decide +kernel
theorem dX4_copy_17 : decode cX4_copy 17 = .ok (.goto (-15), 3) := by decide +kernel
theorem dX4_copy_20 : decode cX4_copy 20 = .ok (.return_, 1) := by decide +kernel
theorem dX4_ones_0 : decode cX4_ones 0 = .ok (.iconst 0, 1) := by decide +kernel
theorem dX4_ones_1 : decode cX4_ones 1 = .ok (.istore_n 1, 1) := by decide +kernel
theorem dX4_ones_2 : decode cX4_ones 2 = .ok (.iconst 0, 1) := by decide +kernel
theorem dX4_ones_3 : decode cX4_ones 3 = .ok (.istore_n 2, 1) := by decide +kernel
theorem dX4_ones_4 : decode cX4_ones 4 = .ok (.iload_n 2, 1) := by decide +kernel
theorem dX4_ones_5 : decode cX4_ones 5 = .ok (.bipush 6, 2) := by decide +kernel
theorem dX4_ones_7 : decode cX4_ones 7 = .ok (.if_icmp .ge 17, 3) := by decide +kernel
theorem dX4_ones_10 : decode cX4_ones 10 = .ok (.iload_n 1, 1) := by decide +kernel
theorem dX4_ones_11 : decode cX4_ones 11 = .ok (.iload_n 0, 1) := by decide +kernel
theorem dX4_ones_12 : decode cX4_ones 12 = .ok (.iload_n 2, 1) := by decide +kernel
theorem dX4_ones_13 : decode cX4_ones 13 = .ok (.ishr, 1) := by decide +kernel
theorem dX4_ones_14 : decode cX4_ones 14 = .ok (.iconst 1, 1) := by decide +kernel
theorem dX4_ones_15 : decode cX4_ones 15 = .ok (.iand, 1) := by decide +kernel
theorem dX4_ones_16 : decode cX4_ones 16 = .ok (.iadd, 1) := by decide +kernel
theorem dX4_ones_17 : decode cX4_ones 17 = .ok (.istore_n 1, 1) := by decide +kernel
theorem dX4_ones_18 : decode cX4_ones 18 = .ok (.iinc 2 1, 3) := by decide +kernel
theorem dX4_ones_21 : decode cX4_ones 21 = .ok (.goto (-17), 3) := by decide +kernel
theorem dX4_ones_24 : decode cX4_ones 24 = .ok (.iload_n 1, 1) := by decide +kernel
theorem dX4_ones_25 : decode cX4_ones 25 = .ok (.ireturn, 1) := by decide +kernel
theorem dX4_letter_0 : decode cX4_letter 0 = .ok (.iload_n 1, 1) := by decide +kernel
theorem dX4_letter_1 : decode cX4_letter 1 = .ok (.i2l, 1) := by decide +kernel
theorem dX4_letter_2 : decode cX4_letter 2 = .ok (.lconst 1, 1) := by decide +kernel
theorem dX4_letter_3 : decode cX4_letter 3 = .ok (.ldc2_w 38, 3) := by decide +kernel
theorem dX4_letter_6 : decode cX4_letter 6 = .ok (.invokestatic 40, 3) := by decide +kernel
theorem dX4_letter_9 : decode cX4_letter 9 = .ok (.ifCond .ne 6, 3) := by decide +kernel
theorem dX4_letter_12 : decode cX4_letter 12 = .ok (.bipush (-102), 2) := by decide +kernel
theorem dX4_letter_14 : decode cX4_letter 14 = .ok (.ireturn, 1) := by decide +kernel
theorem dX4_letter_15 : decode cX4_letter 15 = .ok (.aload_n 0, 1) := by decide +kernel
theorem dX4_letter_16 : decode cX4_letter 16 = .ok (.getfield 44, 3) := by decide +kernel
theorem dX4_letter_19 : decode cX4_letter 19 = .ok (.bipush 12, 2) := by decide +kernel
theorem dX4_letter_21 : decode cX4_letter 21 = .ok (.if_icmp .ne 6, 3) := by decide +kernel
theorem dX4_letter_24 : decode cX4_letter 24 = .ok (.bipush (-104), 2) := by decide +kernel
theorem dX4_letter_26 : decode cX4_letter 26 = .ok (.ireturn, 1) := by decide +kernel
theorem dX4_letter_27 : decode cX4_letter 27 = .ok (.aload_n 0, 1) := by decide +kernel
theorem dX4_letter_28 : decode cX4_letter 28 = .ok (.getfield 7, 3) := by decide +kernel
theorem dX4_letter_31 : decode cX4_letter 31 = .ok (.aload_n 0, 1) := by decide +kernel
theorem dX4_letter_32 : decode cX4_letter 32 = .ok (.getfield 44, 3) := by decide +kernel
theorem dX4_letter_35 : decode cX4_letter 35 = .ok (.iload_n 1, 1) := by decide +kernel
theorem dX4_letter_36 : decode cX4_letter 36 = .ok (.iastore, 1) := by decide +kernel
theorem dX4_letter_37 : decode cX4_letter 37 = .ok (.aload_n 0, 1) := by decide +kernel
theorem dX4_letter_38 : decode cX4_letter 38 = .ok (.dup, 1) := by decide +kernel
theorem dX4_letter_39 : decode cX4_letter 39 = .ok (.getfield 44, 3) := by decide +kernel
theorem dX4_letter_42 : decode cX4_letter 42 = .ok (.iconst 1, 1) := by decide +kernel
theorem dX4_letter_43 : decode cX4_letter 43 = .ok (.iadd, 1) := by decide +kernel
theorem dX4_letter_44 : decode cX4_letter 44 = .ok (.putfield 44, 3) := by decide +kernel
theorem dX4_letter_47 : decode cX4_letter 47 = .ok (.aload_n 0, 1) := by decide +kernel
theorem dX4_letter_48 : decode cX4_letter 48 = .ok (.getfield 44, 3) := by decide +kernel
theorem dX4_letter_51 : decode cX4_letter 51 = .ok (.ireturn, 1) := by decide +kernel
theorem dX4_blank_0 : decode cX4_blank 0 = .ok (.aload_n 0, 1) := by decide +kernel
theorem dX4_blank_1 : decode cX4_blank 1 = .ok (.getfield 44, 3) := by decide +kernel
theorem dX4_blank_4 : decode cX4_blank 4 = .ok (.istore_n 1, 1) := by decide +kernel
theorem dX4_blank_5 : decode cX4_blank 5 = .ok (.aload_n 0, 1) := by decide +kernel
theorem dX4_blank_6 : decode cX4_blank 6 = .ok (.iconst 0, 1) := by decide +kernel
theorem dX4_blank_7 : decode cX4_blank 7 = .ok (.putfield 44, 3) := by decide +kernel
theorem dX4_blank_10 : decode cX4_blank 10 = .ok (.iload_n 1, 1) := by decide +kernel
theorem dX4_blank_11 : decode cX4_blank 11 = .ok (.ireturn, 1) := by decide +kernel
theorem dX4_isGood_0 : decode cX4_isGood 0 = .ok (.iload_n 1, 1) := by decide +kernel
theorem dX4_isGood_1 : decode cX4_isGood 1 = .ok (.bipush 48, 2) := by decide +kernel
theorem dX4_isGood_3 : decode cX4_isGood 3 = .ok (.isub, 1) := by decide +kernel
theorem dX4_isGood_4 : decode cX4_isGood 4 = .ok (.istore_n 2, 1) := by decide +kernel
theorem dX4_isGood_5 : decode cX4_isGood 5 = .ok (.iload_n 0, 1) := by decide +kernel
theorem dX4_isGood_6 : decode cX4_isGood 6 = .ok (.bipush 6, 2) := by decide +kernel
theorem dX4_isGood_8 : decode cX4_isGood 8 = .ok (.if_icmp .ne 15, 3) := by decide +kernel
theorem dX4_isGood_11 : decode cX4_isGood 11 = .ok (.iload_n 1, 1) := by decide +kernel
theorem dX4_isGood_12 : decode cX4_isGood 12 = .ok (.bipush 59, 2) := by decide +kernel
theorem dX4_isGood_14 : decode cX4_isGood 14 = .ok (.if_icmp .ne 7, 3) := by decide +kernel
theorem dX4_isGood_17 : decode cX4_isGood 17 = .ok (.iconst 1, 1) := by decide +kernel
theorem dX4_isGood_18 : decode cX4_isGood 18 = .ok (.goto 4, 3) := by decide +kernel
theorem dX4_isGood_21 : decode cX4_isGood 21 = .ok (.iconst 0, 1) := by decide +kernel
theorem dX4_isGood_22 : decode cX4_isGood 22 = .ok (.ireturn, 1) := by decide +kernel
theorem dX4_isGood_23 : decode cX4_isGood 23 = .ok (.iload_n 0, 1) := by decide +kernel
theorem dX4_isGood_24 : decode cX4_isGood 24 = .ok (.bipush 6, 2) := by decide +kernel
theorem dX4_isGood_26 : decode cX4_isGood 26 = .ok (.if_icmp .ge 15, 3) := by decide +kernel
theorem dX4_isGood_29 : decode cX4_isGood 29 = .ok (.iload_n 2, 1) := by decide +kernel
theorem dX4_isGood_30 : decode cX4_isGood 30 = .ok (.i2l, 1) := by decide +kernel
theorem dX4_isGood_31 : decode cX4_isGood 31 = .ok (.lconst 0, 1) := by decide +kernel
theorem dX4_isGood_32 : decode cX4_isGood 32 = .ok (.ldc2_w 47, 3) := by decide +kernel
theorem dX4_isGood_35 : decode cX4_isGood 35 = .ok (.invokestatic 40, 3) := by decide +kernel
theorem dX4_isGood_38 : decode cX4_isGood 38 = .ok (.goto 44, 3) := by decide +kernel
theorem dX4_isGood_41 : decode cX4_isGood 41 = .ok (.iload_n 0, 1) := by decide +kernel
theorem dX4_isGood_42 : decode cX4_isGood 42 = .ok (.bipush 7, 2) := by decide +kernel
theorem dX4_isGood_44 : decode cX4_isGood 44 = .ok (.if_icmp .ne 15, 3) := by decide +kernel
theorem dX4_isGood_47 : decode cX4_isGood 47 = .ok (.iload_n 2, 1) := by decide +kernel
theorem dX4_isGood_48 : decode cX4_isGood 48 = .ok (.i2l, 1) := by decide +kernel
theorem dX4_isGood_49 : decode cX4_isGood 49 = .ok (.lconst 1, 1) := by decide +kernel
theorem dX4_isGood_50 : decode cX4_isGood 50 = .ok (.ldc2_w 47, 3) := by decide +kernel
theorem dX4_isGood_53 : decode cX4_isGood 53 = .ok (.invokestatic 40, 3) := by decide +kernel
theorem dX4_isGood_56 : decode cX4_isGood 56 = .ok (.goto 26, 3) := by decide +kernel
theorem dX4_isGood_59 : decode cX4_isGood 59 = .ok (.iload_n 0, 1) := by decide +kernel
theorem dX4_isGood_60 : decode cX4_isGood 60 = .ok (.bipush 8, 2) := by decide +kernel
theorem dX4_isGood_62 : decode cX4_isGood 62 = .ok (.if_icmp .ne 19, 3) := by decide +kernel
theorem dX4_isGood_65 : decode cX4_isGood 65 = .ok (.iload_n 2, 1) := by decide +kernel
theorem dX4_isGood_66 : decode cX4_isGood 66 = .ok (.i2l, 1) := by decide +kernel
theorem dX4_isGood_67 : decode cX4_isGood 67 = .ok (.lconst 1, 1) := by decide +kernel
theorem dX4_isGood_68 : decode cX4_isGood 68 = .ok (.ldc2_w 49, 3) := by decide +kernel
theorem dX4_isGood_71 : decode cX4_isGood 71 = .ok (.invokestatic 40, 3) := by decide +kernel
theorem dX4_isGood_74 : decode cX4_isGood 74 = .ok (.ifCond .eq 7, 3) := by decide +kernel
theorem dX4_isGood_77 : decode cX4_isGood 77 = .ok (.iconst 1, 1) := by decide +kernel
theorem dX4_isGood_78 : decode cX4_isGood 78 = .ok (.goto 4, 3) := by decide +kernel
theorem dX4_isGood_81 : decode cX4_isGood 81 = .ok (.iconst 0, 1) := by decide +kernel
theorem dX4_isGood_82 : decode cX4_isGood 82 = .ok (.ireturn, 1) := by decide +kernel
theorem dX4_faultOf_0 : decode cX4_faultOf 0 = .ok (.iconst 0, 1) := by decide +kernel
theorem dX4_faultOf_1 : decode cX4_faultOf 1 = .ok (.istore_n 1, 1) := by decide +kernel
theorem dX4_faultOf_2 : decode cX4_faultOf 2 = .ok (.iload_n 1, 1) := by decide +kernel
theorem dX4_faultOf_3 : decode cX4_faultOf 3 = .ok (.aload_n 0, 1) := by decide +kernel
theorem dX4_faultOf_4 : decode cX4_faultOf 4 = .ok (.getfield 44, 3) := by decide +kernel
theorem dX4_faultOf_7 : decode cX4_faultOf 7 = .ok (.if_icmp .ge 22, 3) := by decide +kernel
theorem dX4_faultOf_10 : decode cX4_faultOf 10 = .ok (.iload_n 1, 1) := by decide +kernel
theorem dX4_faultOf_11 : decode cX4_faultOf 11 = .ok (.aload_n 0, 1) := by decide +kernel
theorem dX4_faultOf_12 : decode cX4_faultOf 12 = .ok (.getfield 7, 3) := by decide +kernel
theorem dX4_faultOf_15 : decode cX4_faultOf 15 = .ok (.iload_n 1, 1) := by decide +kernel
theorem dX4_faultOf_16 : decode cX4_faultOf 16 = .ok (.iaload, 1) := by decide +kernel
theorem dX4_faultOf_17 : decode cX4_faultOf 17 = .ok (.invokestatic 51, 3) := by decide +kernel
theorem dX4_faultOf_20 : decode cX4_faultOf 20 = .ok (.ifCond .eq 9, 3) := by decide +kernel
theorem dX4_faultOf_23 : decode cX4_faultOf 23 = .ok (.iinc 1 1, 3) := by decide +kernel
theorem dX4_faultOf_26 : decode cX4_faultOf 26 = .ok (.goto (-24), 3) := by decide +kernel
theorem dX4_faultOf_29 : decode cX4_faultOf 29 = .ok (.iload_n 1, 1) := by decide +kernel
theorem dX4_faultOf_30 : decode cX4_faultOf 30 = .ok (.ireturn, 1) := by decide +kernel
theorem dX4_fault_0 : decode cX4_fault 0 = .ok (.aload_n 0, 1) := by decide +kernel
theorem dX4_fault_1 : decode cX4_fault 1 = .ok (.invokevirtual 55, 3) := by decide +kernel
theorem dX4_fault_4 : decode cX4_fault 4 = .ok (.ireturn, 1) := by decide +kernel
theorem dX4_town_0 : decode cX4_town 0 = .ok (.aload_n 0, 1) := by decide +kernel
theorem dX4_town_1 : decode cX4_town 1 = .ok (.getfield 44, 3) := by decide +kernel
theorem dX4_town_4 : decode cX4_town 4 = .ok (.bipush 9, 2) := by decide +kernel
theorem dX4_town_6 : decode cX4_town 6 = .ok (.if_icmp .ne 12, 3) := by decide +kernel
theorem dX4_town_9 : decode cX4_town 9 = .ok (.aload_n 0, 1) := by decide +kernel
theorem dX4_town_10 : decode cX4_town 10 = .ok (.invokevirtual 55, 3) := by decide +kernel
theorem dX4_town_13 : decode cX4_town 13 = .ok (.bipush 9, 2) := by decide +kernel
theorem dX4_town_15 : decode cX4_town 15 = .ok (.if_icmp .ge 6, 3) := by decide +kernel
theorem dX4_town_18 : decode cX4_town 18 = .ok (.bipush (-103), 2) := by decide +kernel
theorem dX4_town_20 : decode cX4_town 20 = .ok (.ireturn, 1) := by decide +kernel
theorem dX4_town_21 : decode cX4_town 21 = .ok (.iconst 0, 1) := by decide +kernel
theorem dX4_town_22 : decode cX4_town 22 = .ok (.istore_n 1, 1) := by decide +kernel
theorem dX4_town_23 : decode cX4_town 23 = .ok (.iconst 0, 1) := by decide +kernel
theorem dX4_town_24 : decode cX4_town 24 = .ok (.istore_n 2, 1) := by decide +kernel
theorem dX4_town_25 : decode cX4_town 25 = .ok (.iload_n 2, 1) := by decide +kernel
theorem dX4_town_26 : decode cX4_town 26 = .ok (.bipush 6, 2) := by decide +kernel
theorem dX4_town_28 : decode cX4_town 28 = .ok (.if_icmp .ge 33, 3) := by decide +kernel
theorem dX4_town_31 : decode cX4_town 31 = .ok (.aload_n 0, 1) := by decide +kernel
theorem dX4_town_32 : decode cX4_town 32 = .ok (.getfield 13, 3) := by decide +kernel
theorem dX4_town_35 : decode cX4_town 35 = .ok (.iload_n 2, 1) := by decide +kernel
theorem dX4_town_36 : decode cX4_town 36 = .ok (.aload_n 0, 1) := by decide +kernel
theorem dX4_town_37 : decode cX4_town 37 = .ok (.getfield 7, 3) := by decide +kernel
theorem dX4_town_40 : decode cX4_town 40 = .ok (.iload_n 2, 1) := by decide +kernel
theorem dX4_town_41 : decode cX4_town 41 = .ok (.iaload, 1) := by decide +kernel
theorem dX4_town_42 : decode cX4_town 42 = .ok (.bipush 48, 2) := by decide +kernel
theorem dX4_town_44 : decode cX4_town 44 = .ok (.isub, 1) := by decide +kernel
theorem dX4_town_45 : decode cX4_town 45 = .ok (.iastore, 1) := by decide +kernel
theorem dX4_town_46 : decode cX4_town 46 = .ok (.iload_n 1, 1) := by decide +kernel
theorem dX4_town_47 : decode cX4_town 47 = .ok (.aload_n 0, 1) := by decide +kernel
theorem dX4_town_48 : decode cX4_town 48 = .ok (.getfield 13, 3) := by decide +kernel
theorem dX4_town_51 : decode cX4_town 51 = .ok (.iload_n 2, 1) := by decide +kernel
theorem dX4_town_52 : decode cX4_town 52 = .ok (.iaload, 1) := by decide +kernel
theorem dX4_town_53 : decode cX4_town 53 = .ok (.iadd, 1) := by decide +kernel
theorem dX4_town_54 : decode cX4_town 54 = .ok (.istore_n 1, 1) := by decide +kernel
theorem dX4_town_55 : decode cX4_town 55 = .ok (.iinc 2 1, 3) := by decide +kernel
theorem dX4_town_58 : decode cX4_town 58 = .ok (.goto (-33), 3) := by decide +kernel
theorem dX4_town_61 : decode cX4_town 61 = .ok (.aload_n 0, 1) := by decide +kernel
theorem dX4_town_62 : decode cX4_town 62 = .ok (.aload_n 0, 1) := by decide +kernel
theorem dX4_town_63 : decode cX4_town 63 = .ok (.getfield 7, 3) := by decide +kernel
theorem dX4_town_66 : decode cX4_town 66 = .ok (.bipush 7, 2) := by decide +kernel
theorem dX4_town_68 : decode cX4_town 68 = .ok (.iaload, 1) := by decide +kernel
theorem dX4_town_69 : decode cX4_town 69 = .ok (.bipush 48, 2) := by decide +kernel
theorem dX4_town_71 : decode cX4_town 71 = .ok (.isub, 1) := by decide +kernel
theorem dX4_town_72 : decode cX4_town 72 = .ok (.putfield 59, 3) := by decide +kernel
theorem dX4_town_75 : decode cX4_town 75 = .ok (.aload_n 0, 1) := by decide +kernel
theorem dX4_town_76 : decode cX4_town 76 = .ok (.aload_n 0, 1) := by decide +kernel
theorem dX4_town_77 : decode cX4_town 77 = .ok (.getfield 59, 3) := by decide +kernel
theorem dX4_town_80 : decode cX4_town 80 = .ok (.putfield 62, 3) := by decide +kernel
theorem dX4_town_83 : decode cX4_town 83 = .ok (.aload_n 0, 1) := by decide +kernel
theorem dX4_town_84 : decode cX4_town 84 = .ok (.aload_n 0, 1) := by decide +kernel
theorem dX4_town_85 : decode cX4_town 85 = .ok (.getfield 7, 3) := by decide +kernel
theorem dX4_town_88 : decode cX4_town 88 = .ok (.bipush 8, 2) := by decide +kernel
theorem dX4_town_90 : decode cX4_town 90 = .ok (.iaload, 1) := by decide +kernel
theorem dX4_town_91 : decode cX4_town 91 = .ok (.bipush 48, 2) := by decide +kernel
theorem dX4_town_93 : decode cX4_town 93 = .ok (.isub, 1) := by decide +kernel
theorem dX4_town_94 : decode cX4_town 94 = .ok (.putfield 65, 3) := by decide +kernel
theorem dX4_town_97 : decode cX4_town 97 = .ok (.aload_n 0, 1) := by decide +kernel
theorem dX4_town_98 : decode cX4_town 98 = .ok (.iconst 0, 1) := by decide +kernel
theorem dX4_town_99 : decode cX4_town 99 = .ok (.putfield 68, 3) := by decide +kernel
theorem dX4_town_102 : decode cX4_town 102 = .ok (.aload_n 0, 1) := by decide +kernel
theorem dX4_town_103 : decode cX4_town 103 = .ok (.iconst 0, 1) := by decide +kernel
theorem dX4_town_104 : decode cX4_town 104 = .ok (.putfield 71, 3) := by decide +kernel
theorem dX4_town_107 : decode cX4_town 107 = .ok (.aload_n 0, 1) := by decide +kernel
theorem dX4_town_108 : decode cX4_town 108 = .ok (.iconst 1, 1) := by decide +kernel
theorem dX4_town_109 : decode cX4_town 109 = .ok (.putfield 74, 3) := by decide +kernel
theorem dX4_town_112 : decode cX4_town 112 = .ok (.aload_n 0, 1) := by decide +kernel
theorem dX4_town_113 : decode cX4_town 113 = .ok (.iconst 1, 1) := by decide +kernel
theorem dX4_town_114 : decode cX4_town 114 = .ok (.putfield 77, 3) := by decide +kernel
theorem dX4_town_117 : decode cX4_town 117 = .ok (.aload_n 0, 1) := by decide +kernel
theorem dX4_town_118 : decode cX4_town 118 = .ok (.iconst 0, 1) := by decide +kernel
theorem dX4_town_119 : decode cX4_town 119 = .ok (.putfield 80, 3) := by decide +kernel
theorem dX4_town_122 : decode cX4_town 122 = .ok (.aload_n 0, 1) := by decide +kernel
theorem dX4_town_123 : decode cX4_town 123 = .ok (.iconst 0, 1) := by decide +kernel
theorem dX4_town_124 : decode cX4_town 124 = .ok (.putfield 83, 3) := by decide +kernel
theorem dX4_town_127 : decode cX4_town 127 = .ok (.aload_n 0, 1) := by decide +kernel
theorem dX4_town_128 : decode cX4_town 128 = .ok (.dup, 1) := by decide +kernel
theorem dX4_town_129 : decode cX4_town 129 = .ok (.getfield 86, 3) := by decide +kernel
theorem dX4_town_132 : decode cX4_town 132 = .ok (.iconst 1, 1) := by decide +kernel
theorem dX4_town_133 : decode cX4_town 133 = .ok (.iadd, 1) := by decide +kernel
theorem dX4_town_134 : decode cX4_town 134 = .ok (.putfield 86, 3) := by decide +kernel
theorem dX4_town_137 : decode cX4_town 137 = .ok (.aload_n 0, 1) := by decide +kernel
theorem dX4_town_138 : decode cX4_town 138 = .ok (.iconst 0, 1) := by decide +kernel
theorem dX4_town_139 : decode cX4_town 139 = .ok (.putfield 44, 3) := by decide +kernel
theorem dX4_town_142 : decode cX4_town 142 = .ok (.iload_n 1, 1) := by decide +kernel
theorem dX4_town_143 : decode cX4_town 143 = .ok (.ireturn, 1) := by decide +kernel
theorem dX4_lacks_0 : decode cX4_lacks 0 = .ok (.aload_n 0, 1) := by decide +kernel
theorem dX4_lacks_1 : decode cX4_lacks 1 = .ok (.getfield 65, 3) := by decide +kernel
theorem dX4_lacks_4 : decode cX4_lacks 4 = .ok (.ifCond .ne 7, 3) := by decide +kernel
theorem dX4_lacks_7 : decode cX4_lacks 7 = .ok (.iconst 1, 1) := by decide +kernel
theorem dX4_lacks_8 : decode cX4_lacks 8 = .ok (.goto 4, 3) := by decide +kernel
theorem dX4_lacks_11 : decode cX4_lacks 11 = .ok (.iconst 0, 1) := by decide +kernel
theorem dX4_lacks_12 : decode cX4_lacks 12 = .ok (.ireturn, 1) := by decide +kernel
theorem dX4_isPlace_0 : decode cX4_isPlace 0 = .ok (.aload_n 0, 1) := by decide +kernel
theorem dX4_isPlace_1 : decode cX4_isPlace 1 = .ok (.invokevirtual 89, 3) := by decide +kernel
theorem dX4_isPlace_4 : decode cX4_isPlace 4 = .ok (.ifCond .ne 19, 3) := by decide +kernel
theorem dX4_isPlace_7 : decode cX4_isPlace 7 = .ok (.iload_n 1, 1) := by decide +kernel
theorem dX4_isPlace_8 : decode cX4_isPlace 8 = .ok (.i2l, 1) := by decide +kernel
theorem dX4_isPlace_9 : decode cX4_isPlace 9 = .ok (.lconst 0, 1) := by decide +kernel
theorem dX4_isPlace_10 : decode cX4_isPlace 10 = .ok (.ldc2_w 49, 3) := by decide +kernel
theorem dX4_isPlace_13 : decode cX4_isPlace 13 = .ok (.invokestatic 40, 3) := by decide +kernel
theorem dX4_isPlace_16 : decode cX4_isPlace 16 = .ok (.ifCond .eq 7, 3) := by decide +kernel
theorem dX4_isPlace_19 : decode cX4_isPlace 19 = .ok (.iconst 1, 1) := by decide +kernel
theorem dX4_isPlace_20 : decode cX4_isPlace 20 = .ok (.goto 4, 3) := by decide +kernel
theorem dX4_isPlace_23 : decode cX4_isPlace 23 = .ok (.iconst 0, 1) := by decide +kernel
theorem dX4_isPlace_24 : decode cX4_isPlace 24 = .ok (.ireturn, 1) := by decide +kernel
theorem dX4_noise_0 : decode cX4_noise 0 = .ok (.aload_n 0, 1) := by decide +kernel
theorem dX4_noise_1 : decode cX4_noise 1 = .ok (.iload_n 1, 1) := by decide +kernel
theorem dX4_noise_2 : decode cX4_noise 2 = .ok (.invokevirtual 93, 3) := by decide +kernel
theorem dX4_noise_5 : decode cX4_noise 5 = .ok (.ifCond .eq 12, 3) := by decide +kernel
theorem dX4_noise_8 : decode cX4_noise 8 = .ok (.aload_n 0, 1) := by decide +kernel
theorem dX4_noise_9 : decode cX4_noise 9 = .ok (.getfield 13, 3) := by decide +kernel
theorem dX4_noise_12 : decode cX4_noise 12 = .ok (.iload_n 1, 1) := by decide +kernel
theorem dX4_noise_13 : decode cX4_noise 13 = .ok (.iaload, 1) := by decide +kernel
theorem dX4_noise_14 : decode cX4_noise 14 = .ok (.goto 5, 3) := by decide +kernel
theorem dX4_noise_17 : decode cX4_noise 17 = .ok (.bipush (-101), 2) := by decide +kernel
theorem dX4_noise_19 : decode cX4_noise 19 = .ok (.ireturn, 1) := by decide +kernel
theorem dX4_hum_0 : decode cX4_hum 0 = .ok (.aload_n 0, 1) := by decide +kernel
theorem dX4_hum_1 : decode cX4_hum 1 = .ok (.iload_n 1, 1) := by decide +kernel
theorem dX4_hum_2 : decode cX4_hum 2 = .ok (.invokevirtual 93, 3) := by decide +kernel
theorem dX4_hum_5 : decode cX4_hum 5 = .ok (.ifCond .ne 6, 3) := by decide +kernel
theorem dX4_hum_8 : decode cX4_hum 8 = .ok (.bipush (-101), 2) := by decide +kernel
theorem dX4_hum_10 : decode cX4_hum 10 = .ok (.ireturn, 1) := by decide +kernel
theorem dX4_hum_11 : decode cX4_hum 11 = .ok (.iload_n 2, 1) := by decide +kernel
theorem dX4_hum_12 : decode cX4_hum 12 = .ok (.i2l, 1) := by decide +kernel
theorem dX4_hum_13 : decode cX4_hum 13 = .ok (.lconst 0, 1) := by decide +kernel
theorem dX4_hum_14 : decode cX4_hum 14 = .ok (.ldc2_w 47, 3) := by decide +kernel
theorem dX4_hum_17 : decode cX4_hum 17 = .ok (.invokestatic 40, 3) := by decide +kernel
theorem dX4_hum_20 : decode cX4_hum 20 = .ok (.ifCond .ne 6, 3) := by decide +kernel
theorem dX4_hum_23 : decode cX4_hum 23 = .ok (.bipush (-102), 2) := by decide +kernel
theorem dX4_hum_25 : decode cX4_hum 25 = .ok (.ireturn, 1) := by decide +kernel
theorem dX4_hum_26 : decode cX4_hum 26 = .ok (.aload_n 0, 1) := by decide +kernel
theorem dX4_hum_27 : decode cX4_hum 27 = .ok (.getfield 13, 3) := by decide +kernel
theorem dX4_hum_30 : decode cX4_hum 30 = .ok (.iload_n 1, 1) := by decide +kernel
theorem dX4_hum_31 : decode cX4_hum 31 = .ok (.iaload, 1) := by decide +kernel
theorem dX4_hum_32 : decode cX4_hum 32 = .ok (.istore_n 3, 1) := by decide +kernel
theorem dX4_hum_33 : decode cX4_hum 33 = .ok (.aload_n 0, 1) := by decide +kernel
theorem dX4_hum_34 : decode cX4_hum 34 = .ok (.getfield 13, 3) := by decide +kernel
theorem dX4_hum_37 : decode cX4_hum 37 = .ok (.iload_n 1, 1) := by decide +kernel
theorem dX4_hum_38 : decode cX4_hum 38 = .ok (.iload_n 2, 1) := by decide +kernel
theorem dX4_hum_39 : decode cX4_hum 39 = .ok (.iastore, 1) := by decide +kernel
theorem dX4_hum_40 : decode cX4_hum 40 = .ok (.iload_n 3, 1) := by decide +kernel
theorem dX4_hum_41 : decode cX4_hum 41 = .ok (.ireturn, 1) := by decide +kernel
theorem dX4_isListener_0 : decode cX4_isListener 0 = .ok (.iload_n 1, 1) := by decide +kernel
theorem dX4_isListener_1 : decode cX4_isListener 1 = .ok (.i2l, 1) := by decide +kernel
theorem dX4_isListener_2 : decode cX4_isListener 2 = .ok (.lconst 0, 1) := by decide +kernel
theorem dX4_isListener_3 : decode cX4_isListener 3 = .ok (.aload_n 0, 1) := by decide +kernel
theorem dX4_isListener_4 : decode cX4_isListener 4 = .ok (.getfield 80, 3) := by decide +kernel
theorem dX4_isListener_7 : decode cX4_isListener 7 = .ok (.iconst 1, 1) := by decide +kernel
theorem dX4_isListener_8 : decode cX4_isListener 8 = .ok (.isub, 1) := by decide +kernel
theorem dX4_isListener_9 : decode cX4_isListener 9 = .ok (.i2l, 1) := by decide +kernel
theorem dX4_isListener_10 : decode cX4_isListener 10 = .ok (.invokestatic 40, 3) := by decide +kernel
theorem dX4_isListener_13 : decode cX4_isListener 13 = .ok (.ireturn, 1) := by decide +kernel
theorem dX4_allListeners_0 : decode cX4_allListeners 0 = .ok (.iconst 1, 1) := by decide +kernel
theorem dX4_allListeners_1 : decode cX4_allListeners 1 = .ok (.aload_n 0, 1) := by decide +kernel
theorem dX4_allListeners_2 : decode cX4_allListeners 2 = .ok (.getfield 80, 3) := by decide +kernel
theorem dX4_allListeners_5 : decode cX4_allListeners 5 = .ok (.ishl, 1) := by decide +kernel
theorem dX4_allListeners_6 : decode cX4_allListeners 6 = .ok (.iconst 1, 1) := by decide +kernel
theorem dX4_allListeners_7 : decode cX4_allListeners 7 = .ok (.isub, 1) := by decide +kernel
theorem dX4_allListeners_8 : decode cX4_allListeners 8 = .ok (.ireturn, 1) := by decide +kernel
theorem dX4_listener_0 : decode cX4_listener 0 = .ok (.iload_n 1, 1) := by decide +kernel
theorem dX4_listener_1 : decode cX4_listener 1 = .ok (.i2l, 1) := by decide +kernel
theorem dX4_listener_2 : decode cX4_listener 2 = .ok (.lconst 0, 1) := by decide +kernel
theorem dX4_listener_3 : decode cX4_listener 3 = .ok (.ldc2_w 97, 3) := by decide +kernel
theorem dX4_listener_6 : decode cX4_listener 6 = .ok (.invokestatic 40, 3) := by decide +kernel
theorem dX4_listener_9 : decode cX4_listener 9 = .ok (.ifCond .ne 6, 3) := by decide +kernel
theorem dX4_listener_12 : decode cX4_listener 12 = .ok (.bipush (-102), 2) := by decide +kernel
theorem dX4_listener_14 : decode cX4_listener 14 = .ok (.ireturn, 1) := by decide +kernel
theorem dX4_listener_15 : decode cX4_listener 15 = .ok (.aload_n 0, 1) := by decide +kernel
theorem dX4_listener_16 : decode cX4_listener 16 = .ok (.iload_n 2, 1) := by decide +kernel
theorem dX4_listener_17 : decode cX4_listener 17 = .ok (.invokevirtual 93, 3) := by decide +kernel
theorem dX4_listener_20 : decode cX4_listener 20 = .ok (.ifCond .ne 6, 3) := by decide +kernel
theorem dX4_listener_23 : decode cX4_listener 23 = .ok (.bipush (-101), 2) := by decide +kernel
theorem dX4_listener_25 : decode cX4_listener 25 = .ok (.ireturn, 1) := by decide +kernel
theorem dX4_listener_26 : decode cX4_listener 26 = .ok (.aload_n 0, 1) := by decide +kernel
theorem dX4_listener_27 : decode cX4_listener 27 = .ok (.getfield 80, 3) := by decide +kernel
theorem dX4_listener_30 : decode cX4_listener 30 = .ok (.bipush 6, 2) := by decide +kernel
theorem dX4_listener_32 : decode cX4_listener 32 = .ok (.if_icmp .ne 6, 3) := by decide +kernel
theorem dX4_listener_35 : decode cX4_listener 35 = .ok (.bipush (-104), 2) := by decide +kernel
theorem dX4_listener_37 : decode cX4_listener 37 = .ok (.ireturn, 1) := by decide +kernel
theorem dX4_listener_38 : decode cX4_listener 38 = .ok (.aload_n 0, 1) := by decide +kernel
theorem dX4_listener_39 : decode cX4_listener 39 = .ok (.getfield 16, 3) := by decide +kernel
theorem dX4_listener_42 : decode cX4_listener 42 = .ok (.iconst 2, 1) := by decide +kernel
theorem dX4_listener_43 : decode cX4_listener 43 = .ok (.aload_n 0, 1) := by decide +kernel
theorem dX4_listener_44 : decode cX4_listener 44 = .ok (.getfield 80, 3) := by decide +kernel
theorem dX4_listener_47 : decode cX4_listener 47 = .ok (.imul, 1) := by decide +kernel
theorem dX4_listener_48 : decode cX4_listener 48 = .ok (.iload_n 1, 1) := by decide +kernel
theorem dX4_listener_49 : decode cX4_listener 49 = .ok (.iastore, 1) := by decide +kernel
theorem dX4_listener_50 : decode cX4_listener 50 = .ok (.aload_n 0, 1) := by decide +kernel
theorem dX4_listener_51 : decode cX4_listener 51 = .ok (.getfield 16, 3) := by decide +kernel
theorem dX4_listener_54 : decode cX4_listener 54 = .ok (.iconst 2, 1) := by decide +kernel
theorem dX4_listener_55 : decode cX4_listener 55 = .ok (.aload_n 0, 1) := by decide +kernel
theorem dX4_listener_56 : decode cX4_listener 56 = .ok (.getfield 80, 3) := by decide +kernel
theorem dX4_listener_59 : decode cX4_listener 59 = .ok (.imul, 1) := by decide +kernel
theorem dX4_listener_60 : decode cX4_listener 60 = .ok (.iconst 1, 1) := by decide +kernel
theorem dX4_listener_61 : decode cX4_listener 61 = .ok (.iadd, 1) := by decide +kernel
theorem dX4_listener_62 : decode cX4_listener 62 = .ok (.iload_n 2, 1) := by decide +kernel
theorem dX4_listener_63 : decode cX4_listener 63 = .ok (.iastore, 1) := by decide +kernel
theorem dX4_listener_64 : decode cX4_listener 64 = .ok (.aload_n 0, 1) := by decide +kernel
theorem dX4_listener_65 : decode cX4_listener 65 = .ok (.dup, 1) := by decide +kernel
theorem dX4_listener_66 : decode cX4_listener 66 = .ok (.getfield 80, 3) := by decide +kernel
theorem dX4_listener_69 : decode cX4_listener 69 = .ok (.iconst 1, 1) := by decide +kernel
theorem dX4_listener_70 : decode cX4_listener 70 = .ok (.iadd, 1) := by decide +kernel
theorem dX4_listener_71 : decode cX4_listener 71 = .ok (.putfield 80, 3) := by decide +kernel
theorem dX4_listener_74 : decode cX4_listener 74 = .ok (.aload_n 0, 1) := by decide +kernel
theorem dX4_listener_75 : decode cX4_listener 75 = .ok (.getfield 80, 3) := by decide +kernel
theorem dX4_listener_78 : decode cX4_listener 78 = .ok (.iconst 1, 1) := by decide +kernel
theorem dX4_listener_79 : decode cX4_listener 79 = .ok (.isub, 1) := by decide +kernel
theorem dX4_listener_80 : decode cX4_listener 80 = .ok (.ireturn, 1) := by decide +kernel
theorem dX4_needsOf_0 : decode cX4_needsOf 0 = .ok (.aload_n 0, 1) := by decide +kernel
theorem dX4_needsOf_1 : decode cX4_needsOf 1 = .ok (.getfield 16, 3) := by decide +kernel
theorem dX4_needsOf_4 : decode cX4_needsOf 4 = .ok (.iconst 2, 1) := by decide +kernel
theorem dX4_needsOf_5 : decode cX4_needsOf 5 = .ok (.iload_n 1, 1) := by decide +kernel
theorem dX4_needsOf_6 : decode cX4_needsOf 6 = .ok (.imul, 1) := by decide +kernel
theorem dX4_needsOf_7 : decode cX4_needsOf 7 = .ok (.iaload, 1) := by decide +kernel
theorem dX4_needsOf_8 : decode cX4_needsOf 8 = .ok (.iconst 1, 1) := by decide +kernel
theorem dX4_needsOf_9 : decode cX4_needsOf 9 = .ok (.if_icmp .ne 7, 3) := by decide +kernel
theorem dX4_needsOf_12 : decode cX4_needsOf 12 = .ok (.iconst 5, 1) := by decide +kernel
theorem dX4_needsOf_13 : decode cX4_needsOf 13 = .ok (.goto 20, 3) := by decide +kernel
theorem dX4_needsOf_16 : decode cX4_needsOf 16 = .ok (.aload_n 0, 1) := by decide +kernel
theorem dX4_needsOf_17 : decode cX4_needsOf 17 = .ok (.getfield 16, 3) := by decide +kernel
theorem dX4_needsOf_20 : decode cX4_needsOf 20 = .ok (.iconst 2, 1) := by decide +kernel
theorem dX4_needsOf_21 : decode cX4_needsOf 21 = .ok (.iload_n 1, 1) := by decide +kernel
theorem dX4_needsOf_22 : decode cX4_needsOf 22 = .ok (.imul, 1) := by decide +kernel
theorem dX4_needsOf_23 : decode cX4_needsOf 23 = .ok (.iaload, 1) := by decide +kernel
theorem dX4_needsOf_24 : decode cX4_needsOf 24 = .ok (.iconst 2, 1) := by decide +kernel
theorem dX4_needsOf_25 : decode cX4_needsOf 25 = .ok (.if_icmp .ne 7, 3) := by decide +kernel
theorem dX4_needsOf_28 : decode cX4_needsOf 28 = .ok (.iconst 3, 1) := by decide +kernel
theorem dX4_needsOf_29 : decode cX4_needsOf 29 = .ok (.goto 4, 3) := by decide +kernel
theorem dX4_needsOf_32 : decode cX4_needsOf 32 = .ok (.iconst 1, 1) := by decide +kernel
theorem dX4_needsOf_33 : decode cX4_needsOf 33 = .ok (.ireturn, 1) := by decide +kernel
theorem dX4_criesOf_0 : decode cX4_criesOf 0 = .ok (.aload_n 0, 1) := by decide +kernel
theorem dX4_criesOf_1 : decode cX4_criesOf 1 = .ok (.getfield 16, 3) := by decide +kernel
theorem dX4_criesOf_4 : decode cX4_criesOf 4 = .ok (.iconst 2, 1) := by decide +kernel
theorem dX4_criesOf_5 : decode cX4_criesOf 5 = .ok (.iload_n 1, 1) := by decide +kernel
theorem dX4_criesOf_6 : decode cX4_criesOf 6 = .ok (.imul, 1) := by decide +kernel
theorem dX4_criesOf_7 : decode cX4_criesOf 7 = .ok (.iaload, 1) := by decide +kernel
theorem dX4_criesOf_8 : decode cX4_criesOf 8 = .ok (.iconst 3, 1) := by decide +kernel
theorem dX4_criesOf_9 : decode cX4_criesOf 9 = .ok (.if_icmp .ne 7, 3) := by decide +kernel
theorem dX4_criesOf_12 : decode cX4_criesOf 12 = .ok (.iconst 4, 1) := by decide +kernel
theorem dX4_criesOf_13 : decode cX4_criesOf 13 = .ok (.goto 21, 3) := by decide +kernel
theorem dX4_criesOf_16 : decode cX4_criesOf 16 = .ok (.aload_n 0, 1) := by decide +kernel
theorem dX4_criesOf_17 : decode cX4_criesOf 17 = .ok (.getfield 16, 3) := by decide +kernel
theorem dX4_criesOf_20 : decode cX4_criesOf 20 = .ok (.iconst 2, 1) := by decide +kernel
theorem dX4_criesOf_21 : decode cX4_criesOf 21 = .ok (.iload_n 1, 1) := by decide +kernel
theorem dX4_criesOf_22 : decode cX4_criesOf 22 = .ok (.imul, 1) := by decide +kernel
theorem dX4_criesOf_23 : decode cX4_criesOf 23 = .ok (.iaload, 1) := by decide +kernel
theorem dX4_criesOf_24 : decode cX4_criesOf 24 = .ok (.iconst 4, 1) := by decide +kernel
theorem dX4_criesOf_25 : decode cX4_criesOf 25 = .ok (.if_icmp .ne 8, 3) := by decide +kernel
theorem dX4_criesOf_28 : decode cX4_criesOf 28 = .ok (.bipush 7, 2) := by decide +kernel
theorem dX4_criesOf_30 : decode cX4_criesOf 30 = .ok (.goto 4, 3) := by decide +kernel
theorem dX4_criesOf_33 : decode cX4_criesOf 33 = .ok (.iconst 0, 1) := by decide +kernel
theorem dX4_criesOf_34 : decode cX4_criesOf 34 = .ok (.ireturn, 1) := by decide +kernel
theorem dX4_hearing_0 : decode cX4_hearing 0 = .ok (.iconst 0, 1) := by decide +kernel
theorem dX4_hearing_1 : decode cX4_hearing 1 = .ok (.istore 4, 2) := by decide +kernel
theorem dX4_hearing_3 : decode cX4_hearing 3 = .ok (.iconst 0, 1) := by decide +kernel
theorem dX4_hearing_4 : decode cX4_hearing 4 = .ok (.istore 5, 2) := by decide +kernel
theorem dX4_hearing_6 : decode cX4_hearing 6 = .ok (.iload 5, 2) := by decide +kernel
theorem dX4_hearing_8 : decode cX4_hearing 8 = .ok (.aload_n 0, 1) := by decide +kernel
theorem dX4_hearing_9 : decode cX4_hearing 9 = .ok (.getfield 80, 3) := by decide +kernel
theorem dX4_hearing_12 : decode cX4_hearing 12 = .ok (.if_icmp .ge 91, 3) := by decide +kernel
theorem dX4_hearing_15 : decode cX4_hearing 15 = .ok (.aload_n 0, 1) := by decide +kernel
theorem dX4_hearing_16 : decode cX4_hearing 16 = .ok (.getfield 16, 3) := by decide +kernel
theorem dX4_hearing_19 : decode cX4_hearing 19 = .ok (.iconst 2, 1) := by decide +kernel
theorem dX4_hearing_20 : decode cX4_hearing 20 = .ok (.iload 5, 2) := by decide +kernel
theorem dX4_hearing_22 : decode cX4_hearing 22 = .ok (.imul, 1) := by decide +kernel
theorem dX4_hearing_23 : decode cX4_hearing 23 = .ok (.iconst 1, 1) := by decide +kernel
theorem dX4_hearing_24 : decode cX4_hearing 24 = .ok (.iadd, 1) := by decide +kernel
theorem dX4_hearing_25 : decode cX4_hearing 25 = .ok (.iaload, 1) := by decide +kernel
theorem dX4_hearing_26 : decode cX4_hearing 26 = .ok (.istore 6, 2) := by decide +kernel
theorem dX4_hearing_28 : decode cX4_hearing 28 = .ok (.iload 6, 2) := by decide +kernel
theorem dX4_hearing_30 : decode cX4_hearing 30 = .ok (.iload_n 1, 1) := by decide +kernel
theorem dX4_hearing_31 : decode cX4_hearing 31 = .ok (.if_icmp .le 10, 3) := by decide +kernel
theorem dX4_hearing_34 : decode cX4_hearing 34 = .ok (.iload 6, 2) := by decide +kernel
theorem dX4_hearing_36 : decode cX4_hearing 36 = .ok (.iload_n 1, 1) := by decide +kernel
theorem dX4_hearing_37 : decode cX4_hearing 37 = .ok (.isub, 1) := by decide +kernel
theorem dX4_hearing_38 : decode cX4_hearing 38 = .ok (.goto 7, 3) := by decide +kernel
theorem dX4_hearing_41 : decode cX4_hearing 41 = .ok (.iload_n 1, 1) := by decide +kernel
theorem dX4_hearing_42 : decode cX4_hearing 42 = .ok (.iload 6, 2) := by decide +kernel
theorem dX4_hearing_44 : decode cX4_hearing 44 = .ok (.isub, 1) := by decide +kernel
theorem dX4_hearing_45 : decode cX4_hearing 45 = .ok (.istore 7, 2) := by decide +kernel
theorem dX4_hearing_47 : decode cX4_hearing 47 = .ok (.iload_n 2, 1) := by decide +kernel
theorem dX4_hearing_48 : decode cX4_hearing 48 = .ok (.iconst 2, 1) := by decide +kernel
theorem dX4_hearing_49 : decode cX4_hearing 49 = .ok (.iload 7, 2) := by decide +kernel
theorem dX4_hearing_51 : decode cX4_hearing 51 = .ok (.imul, 1) := by decide +kernel
theorem dX4_hearing_52 : decode cX4_hearing 52 = .ok (.isub, 1) := by decide +kernel
theorem dX4_hearing_53 : decode cX4_hearing 53 = .ok (.aload_n 0, 1) := by decide +kernel
theorem dX4_hearing_54 : decode cX4_hearing 54 = .ok (.getfield 13, 3) := by decide +kernel
theorem dX4_hearing_57 : decode cX4_hearing 57 = .ok (.iload 6, 2) := by decide +kernel
theorem dX4_hearing_59 : decode cX4_hearing 59 = .ok (.iaload, 1) := by decide +kernel
theorem dX4_hearing_60 : decode cX4_hearing 60 = .ok (.isub, 1) := by decide +kernel
theorem dX4_hearing_61 : decode cX4_hearing 61 = .ok (.aload_n 0, 1) := by decide +kernel
theorem dX4_hearing_62 : decode cX4_hearing 62 = .ok (.iload 5, 2) := by decide +kernel
theorem dX4_hearing_64 : decode cX4_hearing 64 = .ok (.invokevirtual 99, 3) := by decide +kernel
theorem dX4_hearing_67 : decode cX4_hearing 67 = .ok (.if_icmp .lt 7, 3) := by decide +kernel
theorem dX4_hearing_70 : decode cX4_hearing 70 = .ok (.iconst 1, 1) := by decide +kernel
theorem dX4_hearing_71 : decode cX4_hearing 71 = .ok (.goto 4, 3) := by decide +kernel
theorem dX4_hearing_74 : decode cX4_hearing 74 = .ok (.iconst 0, 1) := by decide +kernel
theorem dX4_hearing_75 : decode cX4_hearing 75 = .ok (.istore 8, 2) := by decide +kernel
theorem dX4_hearing_77 : decode cX4_hearing 77 = .ok (.iload 4, 2) := by decide +kernel
theorem dX4_hearing_79 : decode cX4_hearing 79 = .ok (.iload 8, 2) := by decide +kernel
theorem dX4_hearing_81 : decode cX4_hearing 81 = .ok (.ifCond .eq 12, 3) := by decide +kernel
theorem dX4_hearing_84 : decode cX4_hearing 84 = .ok (.iload_n 3, 1) := by decide +kernel
theorem dX4_hearing_85 : decode cX4_hearing 85 = .ok (.iconst 1, 1) := by decide +kernel
theorem dX4_hearing_86 : decode cX4_hearing 86 = .ok (.iload 5, 2) := by decide +kernel
theorem dX4_hearing_88 : decode cX4_hearing 88 = .ok (.ishl, 1) := by decide +kernel
theorem dX4_hearing_89 : decode cX4_hearing 89 = .ok (.iand, 1) := by decide +kernel
theorem dX4_hearing_90 : decode cX4_hearing 90 = .ok (.goto 4, 3) := by decide +kernel
theorem dX4_hearing_93 : decode cX4_hearing 93 = .ok (.iconst 0, 1) := by decide +kernel
theorem dX4_hearing_94 : decode cX4_hearing 94 = .ok (.ior, 1) := by decide +kernel
theorem dX4_hearing_95 : decode cX4_hearing 95 = .ok (.istore 4, 2) := by decide +kernel
theorem dX4_hearing_97 : decode cX4_hearing 97 = .ok (.iinc 5 1, 3) := by decide +kernel
theorem dX4_hearing_100 : decode cX4_hearing 100 = .ok (.goto (-94), 3) := by decide +kernel
theorem dX4_hearing_103 : decode cX4_hearing 103 = .ok (.iload 4, 2) := by decide +kernel
theorem dX4_hearing_105 : decode cX4_hearing 105 = .ok (.ireturn, 1) := by decide +kernel
theorem dX4_heardBy_0 : decode cX4_heardBy 0 = .ok (.iload 4, 2) := by decide +kernel
theorem dX4_heardBy_2 : decode cX4_heardBy 2 = .ok (.aload_n 0, 1) := by decide +kernel
theorem dX4_heardBy_3 : decode cX4_heardBy 3 = .ok (.iload_n 1, 1) := by decide +kernel
theorem dX4_heardBy_4 : decode cX4_heardBy 4 = .ok (.iload_n 2, 1) := by decide +kernel
theorem dX4_heardBy_5 : decode cX4_heardBy 5 = .ok (.iload_n 3, 1) := by decide +kernel
theorem dX4_heardBy_6 : decode cX4_heardBy 6 = .ok (.invokevirtual 103, 3) := by decide +kernel
theorem dX4_heardBy_9 : decode cX4_heardBy 9 = .ok (.ior, 1) := by decide +kernel
theorem dX4_heardBy_10 : decode cX4_heardBy 10 = .ok (.istore 5, 2) := by decide +kernel
theorem dX4_heardBy_12 : decode cX4_heardBy 12 = .ok (.iload 4, 2) := by decide +kernel
theorem dX4_heardBy_14 : decode cX4_heardBy 14 = .ok (.istore 6, 2) := by decide +kernel
theorem dX4_heardBy_16 : decode cX4_heardBy 16 = .ok (.iload 6, 2) := by decide +kernel
theorem dX4_heardBy_18 : decode cX4_heardBy 18 = .ok (.iload 5, 2) := by decide +kernel
theorem dX4_heardBy_20 : decode cX4_heardBy 20 = .ok (.if_icmp .eq 109, 3) := by decide +kernel
theorem dX4_heardBy_23 : decode cX4_heardBy 23 = .ok (.iload 5, 2) := by decide +kernel
theorem dX4_heardBy_25 : decode cX4_heardBy 25 = .ok (.istore 7, 2) := by decide +kernel
theorem dX4_heardBy_27 : decode cX4_heardBy 27 = .ok (.iconst 0, 1) := by decide +kernel
theorem dX4_heardBy_28 : decode cX4_heardBy 28 = .ok (.istore 8, 2) := by decide +kernel
theorem dX4_heardBy_30 : decode cX4_heardBy 30 = .ok (.iload 8, 2) := by decide +kernel
theorem dX4_heardBy_32 : decode cX4_heardBy 32 = .ok (.aload_n 0, 1) := by decide +kernel
theorem dX4_heardBy_33 : decode cX4_heardBy 33 = .ok (.getfield 80, 3) := by decide +kernel
theorem dX4_heardBy_36 : decode cX4_heardBy 36 = .ok (.if_icmp .ge 82, 3) := by decide +kernel
theorem dX4_heardBy_39 : decode cX4_heardBy 39 = .ok (.iload 5, 2) := by decide +kernel
theorem dX4_heardBy_41 : decode cX4_heardBy 41 = .ok (.iload 8, 2) := by decide +kernel
theorem dX4_heardBy_43 : decode cX4_heardBy 43 = .ok (.ishr, 1) := by decide +kernel
theorem dX4_heardBy_44 : decode cX4_heardBy 44 = .ok (.iconst 1, 1) := by decide +kernel
theorem dX4_heardBy_45 : decode cX4_heardBy 45 = .ok (.iand, 1) := by decide +kernel
theorem dX4_heardBy_46 : decode cX4_heardBy 46 = .ok (.iconst 1, 1) := by decide +kernel
theorem dX4_heardBy_47 : decode cX4_heardBy 47 = .ok (.if_icmp .ne 26, 3) := by decide +kernel
theorem dX4_heardBy_50 : decode cX4_heardBy 50 = .ok (.iload 6, 2) := by decide +kernel
theorem dX4_heardBy_52 : decode cX4_heardBy 52 = .ok (.iload 8, 2) := by decide +kernel
theorem dX4_heardBy_54 : decode cX4_heardBy 54 = .ok (.ishr, 1) := by decide +kernel
theorem dX4_heardBy_55 : decode cX4_heardBy 55 = .ok (.iconst 1, 1) := by decide +kernel
theorem dX4_heardBy_56 : decode cX4_heardBy 56 = .ok (.iand, 1) := by decide +kernel
theorem dX4_heardBy_57 : decode cX4_heardBy 57 = .ok (.ifCond .ne 16, 3) := by decide +kernel
theorem dX4_heardBy_60 : decode cX4_heardBy 60 = .ok (.aload_n 0, 1) := by decide +kernel
theorem dX4_heardBy_61 : decode cX4_heardBy 61 = .ok (.iload 8, 2) := by decide +kernel
theorem dX4_heardBy_63 : decode cX4_heardBy 63 = .ok (.invokevirtual 107, 3) := by decide +kernel
theorem dX4_heardBy_66 : decode cX4_heardBy 66 = .ok (.ifCond .le 7, 3) := by decide +kernel
theorem dX4_heardBy_69 : decode cX4_heardBy 69 = .ok (.iconst 1, 1) := by decide +kernel
theorem dX4_heardBy_70 : decode cX4_heardBy 70 = .ok (.goto 4, 3) := by decide +kernel
theorem dX4_heardBy_73 : decode cX4_heardBy 73 = .ok (.iconst 0, 1) := by decide +kernel
theorem dX4_heardBy_74 : decode cX4_heardBy 74 = .ok (.istore 9, 2) := by decide +kernel
theorem dX4_heardBy_76 : decode cX4_heardBy 76 = .ok (.iload 7, 2) := by decide +kernel
theorem dX4_heardBy_78 : decode cX4_heardBy 78 = .ok (.iload 9, 2) := by decide +kernel
theorem dX4_heardBy_80 : decode cX4_heardBy 80 = .ok (.ifCond .eq 28, 3) := by decide +kernel
theorem dX4_heardBy_83 : decode cX4_heardBy 83 = .ok (.aload_n 0, 1) := by decide +kernel
theorem dX4_heardBy_84 : decode cX4_heardBy 84 = .ok (.aload_n 0, 1) := by decide +kernel
theorem dX4_heardBy_85 : decode cX4_heardBy 85 = .ok (.getfield 16, 3) := by decide +kernel
theorem dX4_heardBy_88 : decode cX4_heardBy 88 = .ok (.iconst 2, 1) := by decide +kernel
theorem dX4_heardBy_89 : decode cX4_heardBy 89 = .ok (.iload 8, 2) := by decide +kernel
theorem dX4_heardBy_91 : decode cX4_heardBy 91 = .ok (.imul, 1) := by decide +kernel
theorem dX4_heardBy_92 : decode cX4_heardBy 92 = .ok (.iconst 1, 1) := by decide +kernel
theorem dX4_heardBy_93 : decode cX4_heardBy 93 = .ok (.iadd, 1) := by decide +kernel
theorem dX4_heardBy_94 : decode cX4_heardBy 94 = .ok (.iaload, 1) := by decide +kernel
theorem dX4_heardBy_95 : decode cX4_heardBy 95 = .ok (.aload_n 0, 1) := by decide +kernel
theorem dX4_heardBy_96 : decode cX4_heardBy 96 = .ok (.iload 8, 2) := by decide +kernel
theorem dX4_heardBy_98 : decode cX4_heardBy 98 = .ok (.invokevirtual 107, 3) := by decide +kernel
theorem dX4_heardBy_101 : decode cX4_heardBy 101 = .ok (.iload_n 3, 1) := by decide +kernel
theorem dX4_heardBy_102 : decode cX4_heardBy 102 = .ok (.invokevirtual 103, 3) := by decide +kernel
theorem dX4_heardBy_105 : decode cX4_heardBy 105 = .ok (.goto 4, 3) := by decide +kernel
theorem dX4_heardBy_108 : decode cX4_heardBy 108 = .ok (.iconst 0, 1) := by decide +kernel
theorem dX4_heardBy_109 : decode cX4_heardBy 109 = .ok (.ior, 1) := by decide +kernel
theorem dX4_heardBy_110 : decode cX4_heardBy 110 = .ok (.istore 7, 2) := by decide +kernel
theorem dX4_heardBy_112 : decode cX4_heardBy 112 = .ok (.iinc 8 1, 3) := by decide +kernel
theorem dX4_heardBy_115 : decode cX4_heardBy 115 = .ok (.goto (-85), 3) := by decide +kernel
theorem dX4_heardBy_118 : decode cX4_heardBy 118 = .ok (.iload 5, 2) := by decide +kernel
theorem dX4_heardBy_120 : decode cX4_heardBy 120 = .ok (.istore 6, 2) := by decide +kernel
theorem dX4_heardBy_122 : decode cX4_heardBy 122 = .ok (.iload 7, 2) := by decide +kernel
theorem dX4_heardBy_124 : decode cX4_heardBy 124 = .ok (.istore 5, 2) := by decide +kernel
theorem dX4_heardBy_126 : decode cX4_heardBy 126 = .ok (.goto (-110), 3) := by decide +kernel
theorem dX4_heardBy_129 : decode cX4_heardBy 129 = .ok (.iload 5, 2) := by decide +kernel
theorem dX4_heardBy_131 : decode cX4_heardBy 131 = .ok (.ireturn, 1) := by decide +kernel
theorem dX4_knowing_0 : decode cX4_knowing 0 = .ok (.iconst 0, 1) := by decide +kernel
theorem dX4_knowing_1 : decode cX4_knowing 1 = .ok (.istore_n 2, 1) := by decide +kernel
theorem dX4_knowing_2 : decode cX4_knowing 2 = .ok (.iconst 0, 1) := by decide +kernel
theorem dX4_knowing_3 : decode cX4_knowing 3 = .ok (.istore_n 3, 1) := by decide +kernel
theorem dX4_knowing_4 : decode cX4_knowing 4 = .ok (.iload_n 3, 1) := by decide +kernel
theorem dX4_knowing_5 : decode cX4_knowing 5 = .ok (.aload_n 0, 1) := by decide +kernel
theorem dX4_knowing_6 : decode cX4_knowing 6 = .ok (.getfield 80, 3) := by decide +kernel
theorem dX4_knowing_9 : decode cX4_knowing 9 = .ok (.if_icmp .ge 33, 3) := by decide +kernel
theorem dX4_knowing_12 : decode cX4_knowing 12 = .ok (.iload_n 2, 1) := by decide +kernel
theorem dX4_knowing_13 : decode cX4_knowing 13 = .ok (.aload_n 0, 1) := by decide +kernel
theorem dX4_knowing_14 : decode cX4_knowing 14 = .ok (.getfield 16, 3) := by decide +kernel
theorem dX4_knowing_17 : decode cX4_knowing 17 = .ok (.iconst 2, 1) := by decide +kernel
theorem dX4_knowing_18 : decode cX4_knowing 18 = .ok (.iload_n 3, 1) := by decide +kernel
theorem dX4_knowing_19 : decode cX4_knowing 19 = .ok (.imul, 1) := by decide +kernel
theorem dX4_knowing_20 : decode cX4_knowing 20 = .ok (.iaload, 1) := by decide +kernel
theorem dX4_knowing_21 : decode cX4_knowing 21 = .ok (.iconst 2, 1) := by decide +kernel
theorem dX4_knowing_22 : decode cX4_knowing 22 = .ok (.if_icmp .ne 7, 3) := by decide +kernel
theorem dX4_knowing_25 : decode cX4_knowing 25 = .ok (.iconst 0, 1) := by decide +kernel
theorem dX4_knowing_26 : decode cX4_knowing 26 = .ok (.goto 8, 3) := by decide +kernel
theorem dX4_knowing_29 : decode cX4_knowing 29 = .ok (.iload_n 1, 1) := by decide +kernel
theorem dX4_knowing_30 : decode cX4_knowing 30 = .ok (.iconst 1, 1) := by decide +kernel
theorem dX4_knowing_31 : decode cX4_knowing 31 = .ok (.iload_n 3, 1) := by decide +kernel
theorem dX4_knowing_32 : decode cX4_knowing 32 = .ok (.ishl, 1) := by decide +kernel
theorem dX4_knowing_33 : decode cX4_knowing 33 = .ok (.iand, 1) := by decide +kernel
theorem dX4_knowing_34 : decode cX4_knowing 34 = .ok (.ior, 1) := by decide +kernel
theorem dX4_knowing_35 : decode cX4_knowing 35 = .ok (.istore_n 2, 1) := by decide +kernel
theorem dX4_knowing_36 : decode cX4_knowing 36 = .ok (.iinc 3 1, 3) := by decide +kernel
theorem dX4_knowing_39 : decode cX4_knowing 39 = .ok (.goto (-35), 3) := by decide +kernel
theorem dX4_knowing_42 : decode cX4_knowing 42 = .ok (.iload_n 2, 1) := by decide +kernel
theorem dX4_knowing_43 : decode cX4_knowing 43 = .ok (.ireturn, 1) := by decide +kernel
theorem dX4_listenerOf_0 : decode cX4_listenerOf 0 = .ok (.iload_n 2, 1) := by decide +kernel
theorem dX4_listenerOf_1 : decode cX4_listenerOf 1 = .ok (.tableswitch 84 0 5 #[39, 39, 50, 63, 72, 78], 39) := by decide +kernel
theorem dX4_listenerOf_40 : decode cX4_listenerOf 40 = .ok (.aload_n 0, 1) := by decide +kernel
theorem dX4_listenerOf_41 : decode cX4_listenerOf 41 = .ok (.getfield 16, 3) := by decide +kernel
theorem dX4_listenerOf_44 : decode cX4_listenerOf 44 = .ok (.iconst 2, 1) := by decide +kernel
theorem dX4_listenerOf_45 : decode cX4_listenerOf 45 = .ok (.iload_n 1, 1) := by decide +kernel
theorem dX4_listenerOf_46 : decode cX4_listenerOf 46 = .ok (.imul, 1) := by decide +kernel
theorem dX4_listenerOf_47 : decode cX4_listenerOf 47 = .ok (.iload_n 2, 1) := by decide +kernel
theorem dX4_listenerOf_48 : decode cX4_listenerOf 48 = .ok (.iadd, 1) := by decide +kernel
theorem dX4_listenerOf_49 : decode cX4_listenerOf 49 = .ok (.iaload, 1) := by decide +kernel
theorem dX4_listenerOf_50 : decode cX4_listenerOf 50 = .ok (.ireturn, 1) := by decide +kernel
theorem dX4_listenerOf_51 : decode cX4_listenerOf 51 = .ok (.aload_n 0, 1) := by decide +kernel
theorem dX4_listenerOf_52 : decode cX4_listenerOf 52 = .ok (.aload_n 0, 1) := by decide +kernel
theorem dX4_listenerOf_53 : decode cX4_listenerOf 53 = .ok (.getfield 71, 3) := by decide +kernel
theorem dX4_listenerOf_56 : decode cX4_listenerOf 56 = .ok (.invokevirtual 110, 3) := by decide +kernel
theorem dX4_listenerOf_59 : decode cX4_listenerOf 59 = .ok (.iload_n 1, 1) := by decide +kernel
theorem dX4_listenerOf_60 : decode cX4_listenerOf 60 = .ok (.ishr, 1) := by decide +kernel
theorem dX4_listenerOf_61 : decode cX4_listenerOf 61 = .ok (.iconst 1, 1) := by decide +kernel
theorem dX4_listenerOf_62 : decode cX4_listenerOf 62 = .ok (.iand, 1) := by decide +kernel
theorem dX4_listenerOf_63 : decode cX4_listenerOf 63 = .ok (.ireturn, 1) := by decide +kernel
theorem dX4_listenerOf_64 : decode cX4_listenerOf 64 = .ok (.aload_n 0, 1) := by decide +kernel
theorem dX4_listenerOf_65 : decode cX4_listenerOf 65 = .ok (.getfield 71, 3) := by decide +kernel
theorem dX4_listenerOf_68 : decode cX4_listenerOf 68 = .ok (.iload_n 1, 1) := by decide +kernel
theorem dX4_listenerOf_69 : decode cX4_listenerOf 69 = .ok (.ishr, 1) := by decide +kernel
theorem dX4_listenerOf_70 : decode cX4_listenerOf 70 = .ok (.iconst 1, 1) := by decide +kernel
theorem dX4_listenerOf_71 : decode cX4_listenerOf 71 = .ok (.iand, 1) := by decide +kernel
theorem dX4_listenerOf_72 : decode cX4_listenerOf 72 = .ok (.ireturn, 1) := by decide +kernel
theorem dX4_listenerOf_73 : decode cX4_listenerOf 73 = .ok (.aload_n 0, 1) := by decide +kernel
theorem dX4_listenerOf_74 : decode cX4_listenerOf 74 = .ok (.iload_n 1, 1) := by decide +kernel
theorem dX4_listenerOf_75 : decode cX4_listenerOf 75 = .ok (.invokevirtual 99, 3) := by decide +kernel
theorem dX4_listenerOf_78 : decode cX4_listenerOf 78 = .ok (.ireturn, 1) := by decide +kernel
theorem dX4_listenerOf_79 : decode cX4_listenerOf 79 = .ok (.aload_n 0, 1) := by decide +kernel
theorem dX4_listenerOf_80 : decode cX4_listenerOf 80 = .ok (.iload_n 1, 1) := by decide +kernel
theorem dX4_listenerOf_81 : decode cX4_listenerOf 81 = .ok (.invokevirtual 107, 3) := by decide +kernel
theorem dX4_listenerOf_84 : decode cX4_listenerOf 84 = .ok (.ireturn, 1) := by decide +kernel
theorem dX4_listenerOf_85 : decode cX4_listenerOf 85 = .ok (.bipush (-102), 2) := by decide +kernel
theorem dX4_listenerOf_87 : decode cX4_listenerOf 87 = .ok (.ireturn, 1) := by decide +kernel
theorem dX4_about_0 : decode cX4_about 0 = .ok (.aload_n 0, 1) := by decide +kernel
theorem dX4_about_1 : decode cX4_about 1 = .ok (.iload_n 1, 1) := by decide +kernel
theorem dX4_about_2 : decode cX4_about 2 = .ok (.invokevirtual 113, 3) := by decide +kernel
theorem dX4_about_5 : decode cX4_about 5 = .ok (.ifCond .eq 12, 3) := by decide +kernel
theorem dX4_about_8 : decode cX4_about 8 = .ok (.aload_n 0, 1) := by decide +kernel
theorem dX4_about_9 : decode cX4_about 9 = .ok (.iload_n 1, 1) := by decide +kernel
theorem dX4_about_10 : decode cX4_about 10 = .ok (.iload_n 2, 1) := by decide +kernel
theorem dX4_about_11 : decode cX4_about 11 = .ok (.invokevirtual 116, 3) := by decide +kernel
theorem dX4_about_14 : decode cX4_about 14 = .ok (.goto 5, 3) := by decide +kernel
theorem dX4_about_17 : decode cX4_about 17 = .ok (.bipush (-101), 2) := by decide +kernel
theorem dX4_about_19 : decode cX4_about 19 = .ok (.ireturn, 1) := by decide +kernel
theorem dX4_as_0 : decode cX4_as 0 = .ok (.aload_n 0, 1) := by decide +kernel
theorem dX4_as_1 : decode cX4_as 1 = .ok (.iload_n 1, 1) := by decide +kernel
theorem dX4_as_2 : decode cX4_as 2 = .ok (.invokevirtual 113, 3) := by decide +kernel
theorem dX4_as_5 : decode cX4_as 5 = .ok (.ifCond .ne 6, 3) := by decide +kernel
theorem dX4_as_8 : decode cX4_as 8 = .ok (.bipush (-101), 2) := by decide +kernel
theorem dX4_as_10 : decode cX4_as 10 = .ok (.ireturn, 1) := by decide +kernel
theorem dX4_as_11 : decode cX4_as 11 = .ok (.iload_n 2, 1) := by decide +kernel
theorem dX4_as_12 : decode cX4_as 12 = .ok (.i2l, 1) := by decide +kernel
theorem dX4_as_13 : decode cX4_as 13 = .ok (.lconst 0, 1) := by decide +kernel
theorem dX4_as_14 : decode cX4_as 14 = .ok (.ldc2_w 97, 3) := by decide +kernel
theorem dX4_as_17 : decode cX4_as 17 = .ok (.invokestatic 40, 3) := by decide +kernel
theorem dX4_as_20 : decode cX4_as 20 = .ok (.ifCond .ne 6, 3) := by decide +kernel
theorem dX4_as_23 : decode cX4_as 23 = .ok (.bipush (-102), 2) := by decide +kernel
theorem dX4_as_25 : decode cX4_as 25 = .ok (.ireturn, 1) := by decide +kernel
theorem dX4_as_26 : decode cX4_as 26 = .ok (.aload_n 0, 1) := by decide +kernel
theorem dX4_as_27 : decode cX4_as 27 = .ok (.getfield 16, 3) := by decide +kernel
theorem dX4_as_30 : decode cX4_as 30 = .ok (.iconst 2, 1) := by decide +kernel
theorem dX4_as_31 : decode cX4_as 31 = .ok (.iload_n 1, 1) := by decide +kernel
theorem dX4_as_32 : decode cX4_as 32 = .ok (.imul, 1) := by decide +kernel
theorem dX4_as_33 : decode cX4_as 33 = .ok (.iaload, 1) := by decide +kernel
theorem dX4_as_34 : decode cX4_as 34 = .ok (.istore_n 3, 1) := by decide +kernel
theorem dX4_as_35 : decode cX4_as 35 = .ok (.iload_n 2, 1) := by decide +kernel
theorem dX4_as_36 : decode cX4_as 36 = .ok (.ifCond .eq 18, 3) := by decide +kernel
theorem dX4_as_39 : decode cX4_as 39 = .ok (.iload_n 2, 1) := by decide +kernel
theorem dX4_as_40 : decode cX4_as 40 = .ok (.iload_n 3, 1) := by decide +kernel
theorem dX4_as_41 : decode cX4_as 41 = .ok (.if_icmp .eq 13, 3) := by decide +kernel
theorem dX4_as_44 : decode cX4_as 44 = .ok (.iload_n 2, 1) := by decide +kernel
theorem dX4_as_45 : decode cX4_as 45 = .ok (.iconst 3, 1) := by decide +kernel
theorem dX4_as_46 : decode cX4_as 46 = .ok (.if_icmp .ne 12, 3) := by decide +kernel
theorem dX4_as_49 : decode cX4_as 49 = .ok (.iload_n 3, 1) := by decide +kernel
theorem dX4_as_50 : decode cX4_as 50 = .ok (.iconst 4, 1) := by decide +kernel
theorem dX4_as_51 : decode cX4_as 51 = .ok (.if_icmp .ne 7, 3) := by decide +kernel
theorem dX4_as_54 : decode cX4_as 54 = .ok (.iconst 1, 1) := by decide +kernel
theorem dX4_as_55 : decode cX4_as 55 = .ok (.goto 4, 3) := by decide +kernel
theorem dX4_as_58 : decode cX4_as 58 = .ok (.iconst 0, 1) := by decide +kernel
theorem dX4_as_59 : decode cX4_as 59 = .ok (.istore 4, 2) := by decide +kernel
theorem dX4_as_61 : decode cX4_as 61 = .ok (.iload 4, 2) := by decide +kernel
theorem dX4_as_63 : decode cX4_as 63 = .ok (.ifCond .eq 7, 3) := by decide +kernel
theorem dX4_as_66 : decode cX4_as 66 = .ok (.iload_n 1, 1) := by decide +kernel
theorem dX4_as_67 : decode cX4_as 67 = .ok (.goto 4, 3) := by decide +kernel
theorem dX4_as_70 : decode cX4_as 70 = .ok (.iconst (-1), 1) := by decide +kernel
theorem dX4_as_71 : decode cX4_as 71 = .ok (.ireturn, 1) := by decide +kernel
theorem dX4_move_0 : decode cX4_move 0 = .ok (.aload_n 0, 1) := by decide +kernel
theorem dX4_move_1 : decode cX4_move 1 = .ok (.iload_n 1, 1) := by decide +kernel
theorem dX4_move_2 : decode cX4_move 2 = .ok (.invokevirtual 113, 3) := by decide +kernel
theorem dX4_move_5 : decode cX4_move 5 = .ok (.ifCond .eq 11, 3) := by decide +kernel
theorem dX4_move_8 : decode cX4_move 8 = .ok (.aload_n 0, 1) := by decide +kernel
theorem dX4_move_9 : decode cX4_move 9 = .ok (.iload_n 2, 1) := by decide +kernel
theorem dX4_move_10 : decode cX4_move 10 = .ok (.invokevirtual 93, 3) := by decide +kernel
theorem dX4_move_13 : decode cX4_move 13 = .ok (.ifCond .ne 6, 3) := by decide +kernel
theorem dX4_move_16 : decode cX4_move 16 = .ok (.bipush (-101), 2) := by decide +kernel
theorem dX4_move_18 : decode cX4_move 18 = .ok (.ireturn, 1) := by decide +kernel
theorem dX4_move_19 : decode cX4_move 19 = .ok (.aload_n 0, 1) := by decide +kernel
theorem dX4_move_20 : decode cX4_move 20 = .ok (.getfield 16, 3) := by decide +kernel
theorem dX4_move_23 : decode cX4_move 23 = .ok (.iconst 2, 1) := by decide +kernel
theorem dX4_move_24 : decode cX4_move 24 = .ok (.iload_n 1, 1) := by decide +kernel
theorem dX4_move_25 : decode cX4_move 25 = .ok (.imul, 1) := by decide +kernel
theorem dX4_move_26 : decode cX4_move 26 = .ok (.iconst 1, 1) := by decide +kernel
theorem dX4_move_27 : decode cX4_move 27 = .ok (.iadd, 1) := by decide +kernel
theorem dX4_move_28 : decode cX4_move 28 = .ok (.iaload, 1) := by decide +kernel
theorem dX4_move_29 : decode cX4_move 29 = .ok (.istore_n 3, 1) := by decide +kernel
theorem dX4_move_30 : decode cX4_move 30 = .ok (.aload_n 0, 1) := by decide +kernel
theorem dX4_move_31 : decode cX4_move 31 = .ok (.getfield 16, 3) := by decide +kernel
theorem dX4_move_34 : decode cX4_move 34 = .ok (.iconst 2, 1) := by decide +kernel
theorem dX4_move_35 : decode cX4_move 35 = .ok (.iload_n 1, 1) := by decide +kernel
theorem dX4_move_36 : decode cX4_move 36 = .ok (.imul, 1) := by decide +kernel
theorem dX4_move_37 : decode cX4_move 37 = .ok (.iconst 1, 1) := by decide +kernel
theorem dX4_move_38 : decode cX4_move 38 = .ok (.iadd, 1) := by decide +kernel
theorem dX4_move_39 : decode cX4_move 39 = .ok (.iload_n 2, 1) := by decide +kernel
theorem dX4_move_40 : decode cX4_move 40 = .ok (.iastore, 1) := by decide +kernel
theorem dX4_move_41 : decode cX4_move 41 = .ok (.iload_n 3, 1) := by decide +kernel
theorem dX4_move_42 : decode cX4_move 42 = .ok (.ireturn, 1) := by decide +kernel
theorem dX4_knowThen_0 : decode cX4_knowThen 0 = .ok (.aload_n 0, 1) := by decide +kernel
theorem dX4_knowThen_1 : decode cX4_knowThen 1 = .ok (.aload_n 0, 1) := by decide +kernel
theorem dX4_knowThen_2 : decode cX4_knowThen 2 = .ok (.iload_n 1, 1) := by decide +kernel
theorem dX4_knowThen_3 : decode cX4_knowThen 3 = .ok (.iload_n 2, 1) := by decide +kernel
theorem dX4_knowThen_4 : decode cX4_knowThen 4 = .ok (.aload_n 0, 1) := by decide +kernel
theorem dX4_knowThen_5 : decode cX4_knowThen 5 = .ok (.invokevirtual 120, 3) := by decide +kernel
theorem dX4_knowThen_8 : decode cX4_knowThen 8 = .ok (.iload_n 3, 1) := by decide +kernel
theorem dX4_knowThen_9 : decode cX4_knowThen 9 = .ok (.invokevirtual 123, 3) := by decide +kernel
theorem dX4_knowThen_12 : decode cX4_knowThen 12 = .ok (.invokevirtual 110, 3) := by decide +kernel
theorem dX4_knowThen_15 : decode cX4_knowThen 15 = .ok (.ireturn, 1) := by decide +kernel
theorem dX4_cry_0 : decode cX4_cry 0 = .ok (.aload_n 0, 1) := by decide +kernel
theorem dX4_cry_1 : decode cX4_cry 1 = .ok (.iload_n 1, 1) := by decide +kernel
theorem dX4_cry_2 : decode cX4_cry 2 = .ok (.invokevirtual 93, 3) := by decide +kernel
theorem dX4_cry_5 : decode cX4_cry 5 = .ok (.ifCond .ne 6, 3) := by decide +kernel
theorem dX4_cry_8 : decode cX4_cry 8 = .ok (.bipush (-101), 2) := by decide +kernel
theorem dX4_cry_10 : decode cX4_cry 10 = .ok (.ireturn, 1) := by decide +kernel
theorem dX4_cry_11 : decode cX4_cry 11 = .ok (.iload_n 2, 1) := by decide +kernel
theorem dX4_cry_12 : decode cX4_cry 12 = .ok (.i2l, 1) := by decide +kernel
theorem dX4_cry_13 : decode cX4_cry 13 = .ok (.lconst 1, 1) := by decide +kernel
theorem dX4_cry_14 : decode cX4_cry 14 = .ok (.ldc2_w 47, 3) := by decide +kernel
theorem dX4_cry_17 : decode cX4_cry 17 = .ok (.invokestatic 40, 3) := by decide +kernel
theorem dX4_cry_20 : decode cX4_cry 20 = .ok (.ifCond .ne 6, 3) := by decide +kernel
theorem dX4_cry_23 : decode cX4_cry 23 = .ok (.bipush (-102), 2) := by decide +kernel
theorem dX4_cry_25 : decode cX4_cry 25 = .ok (.ireturn, 1) := by decide +kernel
theorem dX4_cry_26 : decode cX4_cry 26 = .ok (.aload_n 0, 1) := by decide +kernel
theorem dX4_cry_27 : decode cX4_cry 27 = .ok (.getfield 62, 3) := by decide +kernel
theorem dX4_cry_30 : decode cX4_cry 30 = .ok (.iload_n 2, 1) := by decide +kernel
theorem dX4_cry_31 : decode cX4_cry 31 = .ok (.if_icmp .ge 6, 3) := by decide +kernel
theorem dX4_cry_34 : decode cX4_cry 34 = .ok (.bipush (-103), 2) := by decide +kernel
theorem dX4_cry_36 : decode cX4_cry 36 = .ok (.ireturn, 1) := by decide +kernel
theorem dX4_cry_37 : decode cX4_cry 37 = .ok (.aload_n 0, 1) := by decide +kernel
theorem dX4_cry_38 : decode cX4_cry 38 = .ok (.aload_n 0, 1) := by decide +kernel
theorem dX4_cry_39 : decode cX4_cry 39 = .ok (.getfield 71, 3) := by decide +kernel
theorem dX4_cry_42 : decode cX4_cry 42 = .ok (.invokevirtual 110, 3) := by decide +kernel
theorem dX4_cry_45 : decode cX4_cry 45 = .ok (.invokestatic 127, 3) := by decide +kernel
theorem dX4_cry_48 : decode cX4_cry 48 = .ok (.istore_n 3, 1) := by decide +kernel
theorem dX4_cry_49 : decode cX4_cry 49 = .ok (.aload_n 0, 1) := by decide +kernel
theorem dX4_cry_50 : decode cX4_cry 50 = .ok (.aload_n 0, 1) := by decide +kernel
theorem dX4_cry_51 : decode cX4_cry 51 = .ok (.iload_n 1, 1) := by decide +kernel
theorem dX4_cry_52 : decode cX4_cry 52 = .ok (.iload_n 2, 1) := by decide +kernel
theorem dX4_cry_53 : decode cX4_cry 53 = .ok (.aload_n 0, 1) := by decide +kernel
theorem dX4_cry_54 : decode cX4_cry 54 = .ok (.invokevirtual 120, 3) := by decide +kernel
theorem dX4_cry_57 : decode cX4_cry 57 = .ok (.aload_n 0, 1) := by decide +kernel
theorem dX4_cry_58 : decode cX4_cry 58 = .ok (.getfield 71, 3) := by decide +kernel
theorem dX4_cry_61 : decode cX4_cry 61 = .ok (.invokevirtual 123, 3) := by decide +kernel
theorem dX4_cry_64 : decode cX4_cry 64 = .ok (.putfield 71, 3) := by decide +kernel
theorem dX4_cry_67 : decode cX4_cry 67 = .ok (.aload_n 0, 1) := by decide +kernel
theorem dX4_cry_68 : decode cX4_cry 68 = .ok (.dup, 1) := by decide +kernel
theorem dX4_cry_69 : decode cX4_cry 69 = .ok (.getfield 62, 3) := by decide +kernel
theorem dX4_cry_72 : decode cX4_cry 72 = .ok (.iconst 1, 1) := by decide +kernel
theorem dX4_cry_73 : decode cX4_cry 73 = .ok (.isub, 1) := by decide +kernel
theorem dX4_cry_74 : decode cX4_cry 74 = .ok (.putfield 62, 3) := by decide +kernel
theorem dX4_cry_77 : decode cX4_cry 77 = .ok (.aload_n 0, 1) := by decide +kernel
theorem dX4_cry_78 : decode cX4_cry 78 = .ok (.dup, 1) := by decide +kernel
theorem dX4_cry_79 : decode cX4_cry 79 = .ok (.getfield 68, 3) := by decide +kernel
theorem dX4_cry_82 : decode cX4_cry 82 = .ok (.iconst 1, 1) := by decide +kernel
theorem dX4_cry_83 : decode cX4_cry 83 = .ok (.iadd, 1) := by decide +kernel
theorem dX4_cry_84 : decode cX4_cry 84 = .ok (.putfield 68, 3) := by decide +kernel
theorem dX4_cry_87 : decode cX4_cry 87 = .ok (.aload_n 0, 1) := by decide +kernel
theorem dX4_cry_88 : decode cX4_cry 88 = .ok (.aload_n 0, 1) := by decide +kernel
theorem dX4_cry_89 : decode cX4_cry 89 = .ok (.getfield 71, 3) := by decide +kernel
theorem dX4_cry_92 : decode cX4_cry 92 = .ok (.invokevirtual 110, 3) := by decide +kernel
theorem dX4_cry_95 : decode cX4_cry 95 = .ok (.invokestatic 127, 3) := by decide +kernel
theorem dX4_cry_98 : decode cX4_cry 98 = .ok (.iload_n 3, 1) := by decide +kernel
theorem dX4_cry_99 : decode cX4_cry 99 = .ok (.isub, 1) := by decide +kernel
theorem dX4_cry_100 : decode cX4_cry 100 = .ok (.ireturn, 1) := by decide +kernel
theorem dX4_would_0 : decode cX4_would 0 = .ok (.aload_n 0, 1) := by decide +kernel
theorem dX4_would_1 : decode cX4_would 1 = .ok (.iload_n 1, 1) := by decide +kernel
theorem dX4_would_2 : decode cX4_would 2 = .ok (.invokevirtual 93, 3) := by decide +kernel
theorem dX4_would_5 : decode cX4_would 5 = .ok (.ifCond .ne 6, 3) := by decide +kernel
theorem dX4_would_8 : decode cX4_would 8 = .ok (.bipush (-101), 2) := by decide +kernel
theorem dX4_would_10 : decode cX4_would 10 = .ok (.ireturn, 1) := by decide +kernel
theorem dX4_would_11 : decode cX4_would 11 = .ok (.iload_n 2, 1) := by decide +kernel
theorem dX4_would_12 : decode cX4_would 12 = .ok (.i2l, 1) := by decide +kernel
theorem dX4_would_13 : decode cX4_would 13 = .ok (.lconst 1, 1) := by decide +kernel
theorem dX4_would_14 : decode cX4_would 14 = .ok (.ldc2_w 47, 3) := by decide +kernel
theorem dX4_would_17 : decode cX4_would 17 = .ok (.invokestatic 40, 3) := by decide +kernel
theorem dX4_would_20 : decode cX4_would 20 = .ok (.ifCond .eq 16, 3) := by decide +kernel
theorem dX4_would_23 : decode cX4_would 23 = .ok (.aload_n 0, 1) := by decide +kernel
theorem dX4_would_24 : decode cX4_would 24 = .ok (.iload_n 1, 1) := by decide +kernel
theorem dX4_would_25 : decode cX4_would 25 = .ok (.iload_n 2, 1) := by decide +kernel
theorem dX4_would_26 : decode cX4_would 26 = .ok (.aload_n 0, 1) := by decide +kernel
theorem dX4_would_27 : decode cX4_would 27 = .ok (.getfield 71, 3) := by decide +kernel
theorem dX4_would_30 : decode cX4_would 30 = .ok (.invokevirtual 130, 3) := by decide +kernel
theorem dX4_would_33 : decode cX4_would 33 = .ok (.goto 5, 3) := by decide +kernel
theorem dX4_would_36 : decode cX4_would 36 = .ok (.bipush (-102), 2) := by decide +kernel
theorem dX4_would_38 : decode cX4_would 38 = .ok (.ireturn, 1) := by decide +kernel
theorem dX4_honey_0 : decode cX4_honey 0 = .ok (.aload_n 0, 1) := by decide +kernel
theorem dX4_honey_1 : decode cX4_honey 1 = .ok (.invokevirtual 89, 3) := by decide +kernel
theorem dX4_honey_4 : decode cX4_honey 4 = .ok (.ifCond .eq 6, 3) := by decide +kernel
theorem dX4_honey_7 : decode cX4_honey 7 = .ok (.bipush (-103), 2) := by decide +kernel
theorem dX4_honey_9 : decode cX4_honey 9 = .ok (.ireturn, 1) := by decide +kernel
theorem dX4_honey_10 : decode cX4_honey 10 = .ok (.aload_n 0, 1) := by decide +kernel
theorem dX4_honey_11 : decode cX4_honey 11 = .ok (.aload_n 0, 1) := by decide +kernel
theorem dX4_honey_12 : decode cX4_honey 12 = .ok (.getfield 62, 3) := by decide +kernel
theorem dX4_honey_15 : decode cX4_honey 15 = .ok (.iconst 2, 1) := by decide +kernel
theorem dX4_honey_16 : decode cX4_honey 16 = .ok (.iadd, 1) := by decide +kernel
theorem dX4_honey_17 : decode cX4_honey 17 = .ok (.bipush 9, 2) := by decide +kernel
theorem dX4_honey_19 : decode cX4_honey 19 = .ok (.if_icmp .le 8, 3) := by decide +kernel
theorem dX4_honey_22 : decode cX4_honey 22 = .ok (.bipush 9, 2) := by decide +kernel
theorem dX4_honey_24 : decode cX4_honey 24 = .ok (.goto 9, 3) := by decide +kernel
theorem dX4_honey_27 : decode cX4_honey 27 = .ok (.aload_n 0, 1) := by decide +kernel
theorem dX4_honey_28 : decode cX4_honey 28 = .ok (.getfield 62, 3) := by decide +kernel
theorem dX4_honey_31 : decode cX4_honey 31 = .ok (.iconst 2, 1) := by decide +kernel
theorem dX4_honey_32 : decode cX4_honey 32 = .ok (.iadd, 1) := by decide +kernel
theorem dX4_honey_33 : decode cX4_honey 33 = .ok (.putfield 62, 3) := by decide +kernel
theorem dX4_honey_36 : decode cX4_honey 36 = .ok (.aload_n 0, 1) := by decide +kernel
theorem dX4_honey_37 : decode cX4_honey 37 = .ok (.getfield 62, 3) := by decide +kernel
theorem dX4_honey_40 : decode cX4_honey 40 = .ok (.ireturn, 1) := by decide +kernel
theorem dX4_day_0 : decode cX4_day 0 = .ok (.aload_n 0, 1) := by decide +kernel
theorem dX4_day_1 : decode cX4_day 1 = .ok (.invokevirtual 89, 3) := by decide +kernel
theorem dX4_day_4 : decode cX4_day 4 = .ok (.ifCond .eq 6, 3) := by decide +kernel
theorem dX4_day_7 : decode cX4_day 7 = .ok (.bipush (-103), 2) := by decide +kernel
theorem dX4_day_9 : decode cX4_day 9 = .ok (.ireturn, 1) := by decide +kernel
theorem dX4_day_10 : decode cX4_day 10 = .ok (.aload_n 0, 1) := by decide +kernel
theorem dX4_day_11 : decode cX4_day 11 = .ok (.aload_n 0, 1) := by decide +kernel
theorem dX4_day_12 : decode cX4_day 12 = .ok (.getfield 59, 3) := by decide +kernel
theorem dX4_day_15 : decode cX4_day 15 = .ok (.putfield 62, 3) := by decide +kernel
theorem dX4_day_18 : decode cX4_day 18 = .ok (.aload_n 0, 1) := by decide +kernel
theorem dX4_day_19 : decode cX4_day 19 = .ok (.dup, 1) := by decide +kernel
theorem dX4_day_20 : decode cX4_day 20 = .ok (.getfield 77, 3) := by decide +kernel
theorem dX4_day_23 : decode cX4_day 23 = .ok (.iconst 1, 1) := by decide +kernel
theorem dX4_day_24 : decode cX4_day 24 = .ok (.iadd, 1) := by decide +kernel
theorem dX4_day_25 : decode cX4_day 25 = .ok (.putfield 77, 3) := by decide +kernel
theorem dX4_day_28 : decode cX4_day 28 = .ok (.aload_n 0, 1) := by decide +kernel
theorem dX4_day_29 : decode cX4_day 29 = .ok (.getfield 62, 3) := by decide +kernel
theorem dX4_day_32 : decode cX4_day 32 = .ok (.ireturn, 1) := by decide +kernel
theorem dX4_decree_0 : decode cX4_decree 0 = .ok (.aload_n 0, 1) := by decide +kernel
theorem dX4_decree_1 : decode cX4_decree 1 = .ok (.invokevirtual 89, 3) := by decide +kernel
theorem dX4_decree_4 : decode cX4_decree 4 = .ok (.ifCond .eq 6, 3) := by decide +kernel
theorem dX4_decree_7 : decode cX4_decree 7 = .ok (.bipush (-103), 2) := by decide +kernel
theorem dX4_decree_9 : decode cX4_decree 9 = .ok (.ireturn, 1) := by decide +kernel
theorem dX4_decree_10 : decode cX4_decree 10 = .ok (.aload_n 0, 1) := by decide +kernel
theorem dX4_decree_11 : decode cX4_decree 11 = .ok (.getfield 68, 3) := by decide +kernel
theorem dX4_decree_14 : decode cX4_decree 14 = .ok (.aload_n 0, 1) := by decide +kernel
theorem dX4_decree_15 : decode cX4_decree 15 = .ok (.getfield 65, 3) := by decide +kernel
theorem dX4_decree_18 : decode cX4_decree 18 = .ok (.if_icmp .lt 7, 3) := by decide +kernel
theorem dX4_decree_21 : decode cX4_decree 21 = .ok (.iconst 1, 1) := by decide +kernel
theorem dX4_decree_22 : decode cX4_decree 22 = .ok (.goto 4, 3) := by decide +kernel
theorem dX4_decree_25 : decode cX4_decree 25 = .ok (.iconst 0, 1) := by decide +kernel
theorem dX4_decree_26 : decode cX4_decree 26 = .ok (.istore_n 1, 1) := by decide +kernel
theorem dX4_decree_27 : decode cX4_decree 27 = .ok (.aload_n 0, 1) := by decide +kernel
theorem dX4_decree_28 : decode cX4_decree 28 = .ok (.iconst 0, 1) := by decide +kernel
theorem dX4_decree_29 : decode cX4_decree 29 = .ok (.putfield 68, 3) := by decide +kernel
theorem dX4_decree_32 : decode cX4_decree 32 = .ok (.aload_n 0, 1) := by decide +kernel
theorem dX4_decree_33 : decode cX4_decree 33 = .ok (.iconst 0, 1) := by decide +kernel
theorem dX4_decree_34 : decode cX4_decree 34 = .ok (.putfield 71, 3) := by decide +kernel
theorem dX4_decree_37 : decode cX4_decree 37 = .ok (.aload_n 0, 1) := by decide +kernel
theorem dX4_decree_38 : decode cX4_decree 38 = .ok (.dup, 1) := by decide +kernel
theorem dX4_decree_39 : decode cX4_decree 39 = .ok (.getfield 74, 3) := by decide +kernel
theorem dX4_decree_42 : decode cX4_decree 42 = .ok (.iconst 1, 1) := by decide +kernel
theorem dX4_decree_43 : decode cX4_decree 43 = .ok (.iadd, 1) := by decide +kernel
theorem dX4_decree_44 : decode cX4_decree 44 = .ok (.putfield 74, 3) := by decide +kernel
theorem dX4_decree_47 : decode cX4_decree 47 = .ok (.iload_n 1, 1) := by decide +kernel
theorem dX4_decree_48 : decode cX4_decree 48 = .ok (.ireturn, 1) := by decide +kernel
theorem dX4_leastOf_0 : decode cX4_leastOf 0 = .ok (.iconst (-1), 1) := by decide +kernel
theorem dX4_leastOf_1 : decode cX4_leastOf 1 = .ok (.istore_n 2, 1) := by decide +kernel
theorem dX4_leastOf_2 : decode cX4_leastOf 2 = .ok (.iconst (-1), 1) := by decide +kernel
theorem dX4_leastOf_3 : decode cX4_leastOf 3 = .ok (.istore_n 3, 1) := by decide +kernel
theorem dX4_leastOf_4 : decode cX4_leastOf 4 = .ok (.iconst 5, 1) := by decide +kernel
theorem dX4_leastOf_5 : decode cX4_leastOf 5 = .ok (.istore 4, 2) := by decide +kernel
theorem dX4_leastOf_7 : decode cX4_leastOf 7 = .ok (.iload 4, 2) := by decide +kernel
theorem dX4_leastOf_9 : decode cX4_leastOf 9 = .ok (.ifCond .lt 68, 3) := by decide +kernel
theorem dX4_leastOf_12 : decode cX4_leastOf 12 = .ok (.aload_n 0, 1) := by decide +kernel
theorem dX4_leastOf_13 : decode cX4_leastOf 13 = .ok (.getfield 62, 3) := by decide +kernel
theorem dX4_leastOf_16 : decode cX4_leastOf 16 = .ok (.ifCond .le 61, 3) := by decide +kernel
theorem dX4_leastOf_19 : decode cX4_leastOf 19 = .ok (.aload_n 0, 1) := by decide +kernel
theorem dX4_leastOf_20 : decode cX4_leastOf 20 = .ok (.iload 4, 2) := by decide +kernel
theorem dX4_leastOf_22 : decode cX4_leastOf 22 = .ok (.iconst 1, 1) := by decide +kernel
theorem dX4_leastOf_23 : decode cX4_leastOf 23 = .ok (.aload_n 0, 1) := by decide +kernel
theorem dX4_leastOf_24 : decode cX4_leastOf 24 = .ok (.getfield 71, 3) := by decide +kernel
theorem dX4_leastOf_27 : decode cX4_leastOf 27 = .ok (.invokevirtual 130, 3) := by decide +kernel
theorem dX4_leastOf_30 : decode cX4_leastOf 30 = .ok (.invokestatic 127, 3) := by decide +kernel
theorem dX4_leastOf_33 : decode cX4_leastOf 33 = .ok (.istore 5, 2) := by decide +kernel
theorem dX4_leastOf_35 : decode cX4_leastOf 35 = .ok (.iload_n 3, 1) := by decide +kernel
theorem dX4_leastOf_36 : decode cX4_leastOf 36 = .ok (.iconst (-1), 1) := by decide +kernel
theorem dX4_leastOf_37 : decode cX4_leastOf 37 = .ok (.if_icmp .eq 9, 3) := by decide +kernel
theorem dX4_leastOf_40 : decode cX4_leastOf 40 = .ok (.iload 5, 2) := by decide +kernel
theorem dX4_leastOf_42 : decode cX4_leastOf 42 = .ok (.iload_n 3, 1) := by decide +kernel
theorem dX4_leastOf_43 : decode cX4_leastOf 43 = .ok (.if_icmp .gt 8, 3) := by decide +kernel
theorem dX4_leastOf_46 : decode cX4_leastOf 46 = .ok (.iload 4, 2) := by decide +kernel
theorem dX4_leastOf_48 : decode cX4_leastOf 48 = .ok (.goto 4, 3) := by decide +kernel
theorem dX4_leastOf_51 : decode cX4_leastOf 51 = .ok (.iload_n 2, 1) := by decide +kernel
theorem dX4_leastOf_52 : decode cX4_leastOf 52 = .ok (.istore_n 2, 1) := by decide +kernel
theorem dX4_leastOf_53 : decode cX4_leastOf 53 = .ok (.iload_n 3, 1) := by decide +kernel
theorem dX4_leastOf_54 : decode cX4_leastOf 54 = .ok (.iconst (-1), 1) := by decide +kernel
theorem dX4_leastOf_55 : decode cX4_leastOf 55 = .ok (.if_icmp .eq 9, 3) := by decide +kernel
theorem dX4_leastOf_58 : decode cX4_leastOf 58 = .ok (.iload 5, 2) := by decide +kernel
theorem dX4_leastOf_60 : decode cX4_leastOf 60 = .ok (.iload_n 3, 1) := by decide +kernel
theorem dX4_leastOf_61 : decode cX4_leastOf 61 = .ok (.if_icmp .ge 8, 3) := by decide +kernel
theorem dX4_leastOf_64 : decode cX4_leastOf 64 = .ok (.iload 5, 2) := by decide +kernel
theorem dX4_leastOf_66 : decode cX4_leastOf 66 = .ok (.goto 4, 3) := by decide +kernel
theorem dX4_leastOf_69 : decode cX4_leastOf 69 = .ok (.iload_n 3, 1) := by decide +kernel
theorem dX4_leastOf_70 : decode cX4_leastOf 70 = .ok (.istore_n 3, 1) := by decide +kernel
theorem dX4_leastOf_71 : decode cX4_leastOf 71 = .ok (.iinc 4 (-1), 3) := by decide +kernel
theorem dX4_leastOf_74 : decode cX4_leastOf 74 = .ok (.goto (-67), 3) := by decide +kernel
theorem dX4_leastOf_77 : decode cX4_leastOf 77 = .ok (.iload_n 1, 1) := by decide +kernel
theorem dX4_leastOf_78 : decode cX4_leastOf 78 = .ok (.ifCond .ne 7, 3) := by decide +kernel
theorem dX4_leastOf_81 : decode cX4_leastOf 81 = .ok (.iload_n 2, 1) := by decide +kernel
theorem dX4_leastOf_82 : decode cX4_leastOf 82 = .ok (.goto 4, 3) := by decide +kernel
theorem dX4_leastOf_85 : decode cX4_leastOf 85 = .ok (.iload_n 3, 1) := by decide +kernel
theorem dX4_leastOf_86 : decode cX4_leastOf 86 = .ok (.ireturn, 1) := by decide +kernel
theorem dX4_least_0 : decode cX4_least 0 = .ok (.iload_n 1, 1) := by decide +kernel
theorem dX4_least_1 : decode cX4_least 1 = .ok (.i2l, 1) := by decide +kernel
theorem dX4_least_2 : decode cX4_least 2 = .ok (.lconst 0, 1) := by decide +kernel
theorem dX4_least_3 : decode cX4_least 3 = .ok (.lconst 1, 1) := by decide +kernel
theorem dX4_least_4 : decode cX4_least 4 = .ok (.invokestatic 40, 3) := by decide +kernel
theorem dX4_least_7 : decode cX4_least 7 = .ok (.ifCond .ne 6, 3) := by decide +kernel
theorem dX4_least_10 : decode cX4_least 10 = .ok (.bipush (-102), 2) := by decide +kernel
theorem dX4_least_12 : decode cX4_least 12 = .ok (.ireturn, 1) := by decide +kernel
theorem dX4_least_13 : decode cX4_least 13 = .ok (.aload_n 0, 1) := by decide +kernel
theorem dX4_least_14 : decode cX4_least 14 = .ok (.invokevirtual 89, 3) := by decide +kernel
theorem dX4_least_17 : decode cX4_least 17 = .ok (.ifCond .eq 8, 3) := by decide +kernel
theorem dX4_least_20 : decode cX4_least 20 = .ok (.bipush (-103), 2) := by decide +kernel
theorem dX4_least_22 : decode cX4_least 22 = .ok (.goto 8, 3) := by decide +kernel
theorem dX4_least_25 : decode cX4_least 25 = .ok (.aload_n 0, 1) := by decide +kernel
theorem dX4_least_26 : decode cX4_least 26 = .ok (.iload_n 1, 1) := by decide +kernel
theorem dX4_least_27 : decode cX4_least 27 = .ok (.invokevirtual 133, 3) := by decide +kernel
theorem dX4_least_30 : decode cX4_least 30 = .ok (.ireturn, 1) := by decide +kernel
theorem dX4_isCovered_0 : decode cX4_isCovered 0 = .ok (.iload_n 3, 1) := by decide +kernel
theorem dX4_isCovered_1 : decode cX4_isCovered 1 = .ok (.istore 4, 2) := by decide +kernel
theorem dX4_isCovered_3 : decode cX4_isCovered 3 = .ok (.iload_n 2, 1) := by decide +kernel
theorem dX4_isCovered_4 : decode cX4_isCovered 4 = .ok (.iconst 1, 1) := by decide +kernel
theorem dX4_isCovered_5 : decode cX4_isCovered 5 = .ok (.isub, 1) := by decide +kernel
theorem dX4_isCovered_6 : decode cX4_isCovered 6 = .ok (.istore 5, 2) := by decide +kernel
theorem dX4_isCovered_8 : decode cX4_isCovered 8 = .ok (.iload 5, 2) := by decide +kernel
theorem dX4_isCovered_10 : decode cX4_isCovered 10 = .ok (.ifCond .lt 28, 3) := by decide +kernel
theorem dX4_isCovered_13 : decode cX4_isCovered 13 = .ok (.aload_n 0, 1) := by decide +kernel
theorem dX4_isCovered_14 : decode cX4_isCovered 14 = .ok (.getfield 19, 3) := by decide +kernel
theorem dX4_isCovered_17 : decode cX4_isCovered 17 = .ok (.iload 5, 2) := by decide +kernel
theorem dX4_isCovered_19 : decode cX4_isCovered 19 = .ok (.iload 4, 2) := by decide +kernel
theorem dX4_isCovered_21 : decode cX4_isCovered 21 = .ok (.bipush 6, 2) := by decide +kernel
theorem dX4_isCovered_23 : decode cX4_isCovered 23 = .ok (.irem, 1) := by decide +kernel
theorem dX4_isCovered_24 : decode cX4_isCovered 24 = .ok (.iastore, 1) := by decide +kernel
theorem dX4_isCovered_25 : decode cX4_isCovered 25 = .ok (.iload 4, 2) := by decide +kernel
theorem dX4_isCovered_27 : decode cX4_isCovered 27 = .ok (.bipush 6, 2) := by decide +kernel
theorem dX4_isCovered_29 : decode cX4_isCovered 29 = .ok (.idiv, 1) := by decide +kernel
theorem dX4_isCovered_30 : decode cX4_isCovered 30 = .ok (.istore 4, 2) := by decide +kernel
theorem dX4_isCovered_32 : decode cX4_isCovered 32 = .ok (.iinc 5 (-1), 3) := by decide +kernel
theorem dX4_isCovered_35 : decode cX4_isCovered 35 = .ok (.goto (-27), 3) := by decide +kernel
theorem dX4_isCovered_38 : decode cX4_isCovered 38 = .ok (.aload_n 0, 1) := by decide +kernel
theorem dX4_isCovered_39 : decode cX4_isCovered 39 = .ok (.getfield 71, 3) := by decide +kernel
theorem dX4_isCovered_42 : decode cX4_isCovered 42 = .ok (.istore 5, 2) := by decide +kernel
theorem dX4_isCovered_44 : decode cX4_isCovered 44 = .ok (.iconst 0, 1) := by decide +kernel
theorem dX4_isCovered_45 : decode cX4_isCovered 45 = .ok (.istore 6, 2) := by decide +kernel
theorem dX4_isCovered_47 : decode cX4_isCovered 47 = .ok (.iload 6, 2) := by decide +kernel
theorem dX4_isCovered_49 : decode cX4_isCovered 49 = .ok (.iload_n 2, 1) := by decide +kernel
theorem dX4_isCovered_50 : decode cX4_isCovered 50 = .ok (.if_icmp .ge 35, 3) := by decide +kernel
theorem dX4_isCovered_53 : decode cX4_isCovered 53 = .ok (.aload_n 0, 1) := by decide +kernel
theorem dX4_isCovered_54 : decode cX4_isCovered 54 = .ok (.aload_n 0, 1) := by decide +kernel
theorem dX4_isCovered_55 : decode cX4_isCovered 55 = .ok (.getfield 19, 3) := by decide +kernel
theorem dX4_isCovered_58 : decode cX4_isCovered 58 = .ok (.iload 6, 2) := by decide +kernel
theorem dX4_isCovered_60 : decode cX4_isCovered 60 = .ok (.iaload, 1) := by decide +kernel
theorem dX4_isCovered_61 : decode cX4_isCovered 61 = .ok (.aload_n 0, 1) := by decide +kernel
theorem dX4_isCovered_62 : decode cX4_isCovered 62 = .ok (.getfield 62, 3) := by decide +kernel
theorem dX4_isCovered_65 : decode cX4_isCovered 65 = .ok (.iload 6, 2) := by decide +kernel
theorem dX4_isCovered_67 : decode cX4_isCovered 67 = .ok (.isub, 1) := by decide +kernel
theorem dX4_isCovered_68 : decode cX4_isCovered 68 = .ok (.aload_n 0, 1) := by decide +kernel
theorem dX4_isCovered_69 : decode cX4_isCovered 69 = .ok (.invokevirtual 120, 3) := by decide +kernel
theorem dX4_isCovered_72 : decode cX4_isCovered 72 = .ok (.iload 5, 2) := by decide +kernel
theorem dX4_isCovered_74 : decode cX4_isCovered 74 = .ok (.invokevirtual 123, 3) := by decide +kernel
theorem dX4_isCovered_77 : decode cX4_isCovered 77 = .ok (.istore 5, 2) := by decide +kernel
theorem dX4_isCovered_79 : decode cX4_isCovered 79 = .ok (.iinc 6 1, 3) := by decide +kernel
theorem dX4_isCovered_82 : decode cX4_isCovered 82 = .ok (.goto (-35), 3) := by decide +kernel
theorem dX4_isCovered_85 : decode cX4_isCovered 85 = .ok (.iload_n 1, 1) := by decide +kernel
theorem dX4_isCovered_86 : decode cX4_isCovered 86 = .ok (.aload_n 0, 1) := by decide +kernel
theorem dX4_isCovered_87 : decode cX4_isCovered 87 = .ok (.iload 5, 2) := by decide +kernel
theorem dX4_isCovered_89 : decode cX4_isCovered 89 = .ok (.invokevirtual 110, 3) := by decide +kernel
theorem dX4_isCovered_92 : decode cX4_isCovered 92 = .ok (.iconst (-1), 1) := by decide +kernel
theorem dX4_isCovered_93 : decode cX4_isCovered 93 = .ok (.ixor, 1) := by decide +kernel
theorem dX4_isCovered_94 : decode cX4_isCovered 94 = .ok (.iand, 1) := by decide +kernel
theorem dX4_isCovered_95 : decode cX4_isCovered 95 = .ok (.ifCond .ne 7, 3) := by decide +kernel
theorem dX4_isCovered_98 : decode cX4_isCovered 98 = .ok (.iconst 1, 1) := by decide +kernel
theorem dX4_isCovered_99 : decode cX4_isCovered 99 = .ok (.goto 4, 3) := by decide +kernel
theorem dX4_isCovered_102 : decode cX4_isCovered 102 = .ok (.iconst 0, 1) := by decide +kernel
theorem dX4_isCovered_103 : decode cX4_isCovered 103 = .ok (.ireturn, 1) := by decide +kernel
theorem dX4_coverOf_0 : decode cX4_coverOf 0 = .ok (.iconst 1, 1) := by decide +kernel
theorem dX4_coverOf_1 : decode cX4_coverOf 1 = .ok (.istore_n 3, 1) := by decide +kernel
theorem dX4_coverOf_2 : decode cX4_coverOf 2 = .ok (.iconst 0, 1) := by decide +kernel
theorem dX4_coverOf_3 : decode cX4_coverOf 3 = .ok (.istore 4, 2) := by decide +kernel
theorem dX4_coverOf_5 : decode cX4_coverOf 5 = .ok (.iload 4, 2) := by decide +kernel
theorem dX4_coverOf_7 : decode cX4_coverOf 7 = .ok (.iconst 4, 1) := by decide +kernel
theorem dX4_coverOf_8 : decode cX4_coverOf 8 = .ok (.if_icmp .ge 82, 3) := by decide +kernel
theorem dX4_coverOf_11 : decode cX4_coverOf 11 = .ok (.iload 4, 2) := by decide +kernel
theorem dX4_coverOf_13 : decode cX4_coverOf 13 = .ok (.aload_n 0, 1) := by decide +kernel
theorem dX4_coverOf_14 : decode cX4_coverOf 14 = .ok (.getfield 62, 3) := by decide +kernel
theorem dX4_coverOf_17 : decode cX4_coverOf 17 = .ok (.if_icmp .gt 73, 3) := by decide +kernel
theorem dX4_coverOf_20 : decode cX4_coverOf 20 = .ok (.iconst 0, 1) := by decide +kernel
theorem dX4_coverOf_21 : decode cX4_coverOf 21 = .ok (.istore 5, 2) := by decide +kernel
theorem dX4_coverOf_23 : decode cX4_coverOf 23 = .ok (.iload 5, 2) := by decide +kernel
theorem dX4_coverOf_25 : decode cX4_coverOf 25 = .ok (.iload_n 3, 1) := by decide +kernel
theorem dX4_coverOf_26 : decode cX4_coverOf 26 = .ok (.if_icmp .ge 53, 3) := by decide +kernel
theorem dX4_coverOf_29 : decode cX4_coverOf 29 = .ok (.aload_n 0, 1) := by decide +kernel
theorem dX4_coverOf_30 : decode cX4_coverOf 30 = .ok (.iload_n 1, 1) := by decide +kernel
theorem dX4_coverOf_31 : decode cX4_coverOf 31 = .ok (.iload 4, 2) := by decide +kernel
theorem dX4_coverOf_33 : decode cX4_coverOf 33 = .ok (.iload 5, 2) := by decide +kernel
theorem dX4_coverOf_35 : decode cX4_coverOf 35 = .ok (.invokevirtual 136, 3) := by decide +kernel
theorem dX4_coverOf_38 : decode cX4_coverOf 38 = .ok (.ifCond .eq 35, 3) := by decide +kernel
theorem dX4_coverOf_41 : decode cX4_coverOf 41 = .ok (.iload_n 2, 1) := by decide +kernel
theorem dX4_coverOf_42 : decode cX4_coverOf 42 = .ok (.ifCond .ne 8, 3) := by decide +kernel
theorem dX4_coverOf_45 : decode cX4_coverOf 45 = .ok (.iload 4, 2) := by decide +kernel
theorem dX4_coverOf_47 : decode cX4_coverOf 47 = .ok (.goto 25, 3) := by decide +kernel
theorem dX4_coverOf_50 : decode cX4_coverOf 50 = .ok (.iload_n 2, 1) := by decide +kernel
theorem dX4_coverOf_51 : decode cX4_coverOf 51 = .ok (.bipush 10, 2) := by decide +kernel
theorem dX4_coverOf_53 : decode cX4_coverOf 53 = .ok (.isub, 1) := by decide +kernel
theorem dX4_coverOf_54 : decode cX4_coverOf 54 = .ok (.iload 4, 2) := by decide +kernel
theorem dX4_coverOf_56 : decode cX4_coverOf 56 = .ok (.if_icmp .ge 15, 3) := by decide +kernel
theorem dX4_coverOf_59 : decode cX4_coverOf 59 = .ok (.aload_n 0, 1) := by decide +kernel
theorem dX4_coverOf_60 : decode cX4_coverOf 60 = .ok (.getfield 19, 3) := by decide +kernel
theorem dX4_coverOf_63 : decode cX4_coverOf 63 = .ok (.iload_n 2, 1) := by decide +kernel
theorem dX4_coverOf_64 : decode cX4_coverOf 64 = .ok (.bipush 10, 2) := by decide +kernel
theorem dX4_coverOf_66 : decode cX4_coverOf 66 = .ok (.isub, 1) := by decide +kernel
theorem dX4_coverOf_67 : decode cX4_coverOf 67 = .ok (.iaload, 1) := by decide +kernel
theorem dX4_coverOf_68 : decode cX4_coverOf 68 = .ok (.goto 4, 3) := by decide +kernel
theorem dX4_coverOf_71 : decode cX4_coverOf 71 = .ok (.iconst (-1), 1) := by decide +kernel
theorem dX4_coverOf_72 : decode cX4_coverOf 72 = .ok (.ireturn, 1) := by decide +kernel
theorem dX4_coverOf_73 : decode cX4_coverOf 73 = .ok (.iinc 5 1, 3) := by decide +kernel
theorem dX4_coverOf_76 : decode cX4_coverOf 76 = .ok (.goto (-53), 3) := by decide +kernel
theorem dX4_coverOf_79 : decode cX4_coverOf 79 = .ok (.iload_n 3, 1) := by decide +kernel
theorem dX4_coverOf_80 : decode cX4_coverOf 80 = .ok (.bipush 6, 2) := by decide +kernel
theorem dX4_coverOf_82 : decode cX4_coverOf 82 = .ok (.imul, 1) := by decide +kernel
theorem dX4_coverOf_83 : decode cX4_coverOf 83 = .ok (.istore_n 3, 1) := by decide +kernel
theorem dX4_coverOf_84 : decode cX4_coverOf 84 = .ok (.iinc 4 1, 3) := by decide +kernel
theorem dX4_coverOf_87 : decode cX4_coverOf 87 = .ok (.goto (-82), 3) := by decide +kernel
theorem dX4_coverOf_90 : decode cX4_coverOf 90 = .ok (.iconst (-1), 1) := by decide +kernel
theorem dX4_coverOf_91 : decode cX4_coverOf 91 = .ok (.ireturn, 1) := by decide +kernel
theorem dX4_cover_0 : decode cX4_cover 0 = .ok (.iload_n 1, 1) := by decide +kernel
theorem dX4_cover_1 : decode cX4_cover 1 = .ok (.i2l, 1) := by decide +kernel
theorem dX4_cover_2 : decode cX4_cover 2 = .ok (.lconst 0, 1) := by decide +kernel
theorem dX4_cover_3 : decode cX4_cover 3 = .ok (.aload_n 0, 1) := by decide +kernel
theorem dX4_cover_4 : decode cX4_cover 4 = .ok (.invokevirtual 120, 3) := by decide +kernel
theorem dX4_cover_7 : decode cX4_cover 7 = .ok (.i2l, 1) := by decide +kernel
theorem dX4_cover_8 : decode cX4_cover 8 = .ok (.invokestatic 40, 3) := by decide +kernel
theorem dX4_cover_11 : decode cX4_cover 11 = .ok (.ifCond .eq 21, 3) := by decide +kernel
theorem dX4_cover_14 : decode cX4_cover 14 = .ok (.iload_n 2, 1) := by decide +kernel
theorem dX4_cover_15 : decode cX4_cover 15 = .ok (.ifCond .eq 20, 3) := by decide +kernel
theorem dX4_cover_18 : decode cX4_cover 18 = .ok (.iload_n 2, 1) := by decide +kernel
theorem dX4_cover_19 : decode cX4_cover 19 = .ok (.i2l, 1) := by decide +kernel
theorem dX4_cover_20 : decode cX4_cover 20 = .ok (.ldc2_w 140, 3) := by decide +kernel
theorem dX4_cover_23 : decode cX4_cover 23 = .ok (.ldc2_w 142, 3) := by decide +kernel
theorem dX4_cover_26 : decode cX4_cover 26 = .ok (.invokestatic 40, 3) := by decide +kernel
theorem dX4_cover_29 : decode cX4_cover 29 = .ok (.ifCond .ne 6, 3) := by decide +kernel
theorem dX4_cover_32 : decode cX4_cover 32 = .ok (.bipush (-102), 2) := by decide +kernel
theorem dX4_cover_34 : decode cX4_cover 34 = .ok (.ireturn, 1) := by decide +kernel
theorem dX4_cover_35 : decode cX4_cover 35 = .ok (.aload_n 0, 1) := by decide +kernel
theorem dX4_cover_36 : decode cX4_cover 36 = .ok (.invokevirtual 89, 3) := by decide +kernel
theorem dX4_cover_39 : decode cX4_cover 39 = .ok (.ifCond .eq 8, 3) := by decide +kernel
theorem dX4_cover_42 : decode cX4_cover 42 = .ok (.bipush (-103), 2) := by decide +kernel
theorem dX4_cover_44 : decode cX4_cover 44 = .ok (.goto 9, 3) := by decide +kernel
theorem dX4_cover_47 : decode cX4_cover 47 = .ok (.aload_n 0, 1) := by decide +kernel
theorem dX4_cover_48 : decode cX4_cover 48 = .ok (.iload_n 1, 1) := by decide +kernel
theorem dX4_cover_49 : decode cX4_cover 49 = .ok (.iload_n 2, 1) := by decide +kernel
theorem dX4_cover_50 : decode cX4_cover 50 = .ok (.invokevirtual 144, 3) := by decide +kernel
theorem dX4_cover_53 : decode cX4_cover 53 = .ok (.ireturn, 1) := by decide +kernel
theorem dX4_hushOf_0 : decode cX4_hushOf 0 = .ok (.iconst (-1), 1) := by decide +kernel
theorem dX4_hushOf_1 : decode cX4_hushOf 1 = .ok (.istore 4, 2) := by decide +kernel
theorem dX4_hushOf_3 : decode cX4_hushOf 3 = .ok (.iconst 0, 1) := by decide +kernel
theorem dX4_hushOf_4 : decode cX4_hushOf 4 = .ok (.istore 5, 2) := by decide +kernel
theorem dX4_hushOf_6 : decode cX4_hushOf 6 = .ok (.iload 5, 2) := by decide +kernel
theorem dX4_hushOf_8 : decode cX4_hushOf 8 = .ok (.aload_n 0, 1) := by decide +kernel
theorem dX4_hushOf_9 : decode cX4_hushOf 9 = .ok (.invokevirtual 120, 3) := by decide +kernel
theorem dX4_hushOf_12 : decode cX4_hushOf 12 = .ok (.if_icmp .gt 89, 3) := by decide +kernel
theorem dX4_hushOf_15 : decode cX4_hushOf 15 = .ok (.iload 5, 2) := by decide +kernel
theorem dX4_hushOf_17 : decode cX4_hushOf 17 = .ok (.iload_n 1, 1) := by decide +kernel
theorem dX4_hushOf_18 : decode cX4_hushOf 18 = .ok (.ishr, 1) := by decide +kernel
theorem dX4_hushOf_19 : decode cX4_hushOf 19 = .ok (.iconst 1, 1) := by decide +kernel
theorem dX4_hushOf_20 : decode cX4_hushOf 20 = .ok (.iand, 1) := by decide +kernel
theorem dX4_hushOf_21 : decode cX4_hushOf 21 = .ok (.ifCond .ne 26, 3) := by decide +kernel
theorem dX4_hushOf_24 : decode cX4_hushOf 24 = .ok (.iload 4, 2) := by decide +kernel
theorem dX4_hushOf_26 : decode cX4_hushOf 26 = .ok (.iconst (-1), 1) := by decide +kernel
theorem dX4_hushOf_27 : decode cX4_hushOf 27 = .ok (.if_icmp .eq 16, 3) := by decide +kernel
theorem dX4_hushOf_30 : decode cX4_hushOf 30 = .ok (.iload 5, 2) := by decide +kernel
theorem dX4_hushOf_32 : decode cX4_hushOf 32 = .ok (.invokestatic 127, 3) := by decide +kernel
theorem dX4_hushOf_35 : decode cX4_hushOf 35 = .ok (.iload 4, 2) := by decide +kernel
theorem dX4_hushOf_37 : decode cX4_hushOf 37 = .ok (.invokestatic 127, 3) := by decide +kernel
theorem dX4_hushOf_40 : decode cX4_hushOf 40 = .ok (.if_icmp .ge 7, 3) := by decide +kernel
theorem dX4_hushOf_43 : decode cX4_hushOf 43 = .ok (.iconst 1, 1) := by decide +kernel
theorem dX4_hushOf_44 : decode cX4_hushOf 44 = .ok (.goto 4, 3) := by decide +kernel
theorem dX4_hushOf_47 : decode cX4_hushOf 47 = .ok (.iconst 0, 1) := by decide +kernel
theorem dX4_hushOf_48 : decode cX4_hushOf 48 = .ok (.istore 6, 2) := by decide +kernel
theorem dX4_hushOf_50 : decode cX4_hushOf 50 = .ok (.aload_n 0, 1) := by decide +kernel
theorem dX4_hushOf_51 : decode cX4_hushOf 51 = .ok (.iload_n 2, 1) := by decide +kernel
theorem dX4_hushOf_52 : decode cX4_hushOf 52 = .ok (.iload_n 3, 1) := by decide +kernel
theorem dX4_hushOf_53 : decode cX4_hushOf 53 = .ok (.aload_n 0, 1) := by decide +kernel
theorem dX4_hushOf_54 : decode cX4_hushOf 54 = .ok (.invokevirtual 120, 3) := by decide +kernel
theorem dX4_hushOf_57 : decode cX4_hushOf 57 = .ok (.iload 5, 2) := by decide +kernel
theorem dX4_hushOf_59 : decode cX4_hushOf 59 = .ok (.iconst (-1), 1) := by decide +kernel
theorem dX4_hushOf_60 : decode cX4_hushOf 60 = .ok (.ixor, 1) := by decide +kernel
theorem dX4_hushOf_61 : decode cX4_hushOf 61 = .ok (.iand, 1) := by decide +kernel
theorem dX4_hushOf_62 : decode cX4_hushOf 62 = .ok (.iconst 0, 1) := by decide +kernel
theorem dX4_hushOf_63 : decode cX4_hushOf 63 = .ok (.invokevirtual 123, 3) := by decide +kernel
theorem dX4_hushOf_66 : decode cX4_hushOf 66 = .ok (.istore 7, 2) := by decide +kernel
theorem dX4_hushOf_68 : decode cX4_hushOf 68 = .ok (.iload 6, 2) := by decide +kernel
theorem dX4_hushOf_70 : decode cX4_hushOf 70 = .ok (.ifCond .eq 21, 3) := by decide +kernel
theorem dX4_hushOf_73 : decode cX4_hushOf 73 = .ok (.aload_n 0, 1) := by decide +kernel
theorem dX4_hushOf_74 : decode cX4_hushOf 74 = .ok (.iload 7, 2) := by decide +kernel
theorem dX4_hushOf_76 : decode cX4_hushOf 76 = .ok (.invokevirtual 110, 3) := by decide +kernel
theorem dX4_hushOf_79 : decode cX4_hushOf 79 = .ok (.iload_n 1, 1) := by decide +kernel
theorem dX4_hushOf_80 : decode cX4_hushOf 80 = .ok (.ishr, 1) := by decide +kernel
theorem dX4_hushOf_81 : decode cX4_hushOf 81 = .ok (.iconst 1, 1) := by decide +kernel
theorem dX4_hushOf_82 : decode cX4_hushOf 82 = .ok (.iand, 1) := by decide +kernel
theorem dX4_hushOf_83 : decode cX4_hushOf 83 = .ok (.ifCond .ne 8, 3) := by decide +kernel
theorem dX4_hushOf_86 : decode cX4_hushOf 86 = .ok (.iload 5, 2) := by decide +kernel
theorem dX4_hushOf_88 : decode cX4_hushOf 88 = .ok (.goto 5, 3) := by decide +kernel
theorem dX4_hushOf_91 : decode cX4_hushOf 91 = .ok (.iload 4, 2) := by decide +kernel
theorem dX4_hushOf_93 : decode cX4_hushOf 93 = .ok (.istore 4, 2) := by decide +kernel
theorem dX4_hushOf_95 : decode cX4_hushOf 95 = .ok (.iinc 5 1, 3) := by decide +kernel
theorem dX4_hushOf_98 : decode cX4_hushOf 98 = .ok (.goto (-92), 3) := by decide +kernel
theorem dX4_hushOf_101 : decode cX4_hushOf 101 = .ok (.iload 4, 2) := by decide +kernel
theorem dX4_hushOf_103 : decode cX4_hushOf 103 = .ok (.ireturn, 1) := by decide +kernel
theorem dX4_tellHush_0 : decode cX4_tellHush 0 = .ok (.aload_n 0, 1) := by decide +kernel
theorem dX4_tellHush_1 : decode cX4_tellHush 1 = .ok (.iload_n 1, 1) := by decide +kernel
theorem dX4_tellHush_2 : decode cX4_tellHush 2 = .ok (.iload_n 2, 1) := by decide +kernel
theorem dX4_tellHush_3 : decode cX4_tellHush 3 = .ok (.iload_n 3, 1) := by decide +kernel
theorem dX4_tellHush_4 : decode cX4_tellHush 4 = .ok (.invokevirtual 147, 3) := by decide +kernel
theorem dX4_tellHush_7 : decode cX4_tellHush 7 = .ok (.istore 5, 2) := by decide +kernel
theorem dX4_tellHush_9 : decode cX4_tellHush 9 = .ok (.iload 5, 2) := by decide +kernel
theorem dX4_tellHush_11 : decode cX4_tellHush 11 = .ok (.iconst (-1), 1) := by decide +kernel
theorem dX4_tellHush_12 : decode cX4_tellHush 12 = .ok (.if_icmp .eq 9, 3) := by decide +kernel
theorem dX4_tellHush_15 : decode cX4_tellHush 15 = .ok (.iload 4, 2) := by decide +kernel
theorem dX4_tellHush_17 : decode cX4_tellHush 17 = .ok (.iconst 1, 1) := by decide +kernel
theorem dX4_tellHush_18 : decode cX4_tellHush 18 = .ok (.if_icmp .ne 8, 3) := by decide +kernel
theorem dX4_tellHush_21 : decode cX4_tellHush 21 = .ok (.iload 5, 2) := by decide +kernel
theorem dX4_tellHush_23 : decode cX4_tellHush 23 = .ok (.goto 8, 3) := by decide +kernel
theorem dX4_tellHush_26 : decode cX4_tellHush 26 = .ok (.iload 5, 2) := by decide +kernel
theorem dX4_tellHush_28 : decode cX4_tellHush 28 = .ok (.invokestatic 127, 3) := by decide +kernel
theorem dX4_tellHush_31 : decode cX4_tellHush 31 = .ok (.ireturn, 1) := by decide +kernel
theorem dX4_hush_0 : decode cX4_hush 0 = .ok (.aload_n 0, 1) := by decide +kernel
theorem dX4_hush_1 : decode cX4_hush 1 = .ok (.iload_n 1, 1) := by decide +kernel
theorem dX4_hush_2 : decode cX4_hush 2 = .ok (.invokevirtual 113, 3) := by decide +kernel
theorem dX4_hush_5 : decode cX4_hush 5 = .ok (.ifCond .eq 11, 3) := by decide +kernel
theorem dX4_hush_8 : decode cX4_hush 8 = .ok (.aload_n 0, 1) := by decide +kernel
theorem dX4_hush_9 : decode cX4_hush 9 = .ok (.iload_n 2, 1) := by decide +kernel
theorem dX4_hush_10 : decode cX4_hush 10 = .ok (.invokevirtual 93, 3) := by decide +kernel
theorem dX4_hush_13 : decode cX4_hush 13 = .ok (.ifCond .ne 6, 3) := by decide +kernel
theorem dX4_hush_16 : decode cX4_hush 16 = .ok (.bipush (-101), 2) := by decide +kernel
theorem dX4_hush_18 : decode cX4_hush 18 = .ok (.ireturn, 1) := by decide +kernel
theorem dX4_hush_19 : decode cX4_hush 19 = .ok (.iload_n 3, 1) := by decide +kernel
theorem dX4_hush_20 : decode cX4_hush 20 = .ok (.i2l, 1) := by decide +kernel
theorem dX4_hush_21 : decode cX4_hush 21 = .ok (.lconst 1, 1) := by decide +kernel
theorem dX4_hush_22 : decode cX4_hush 22 = .ok (.ldc2_w 47, 3) := by decide +kernel
theorem dX4_hush_25 : decode cX4_hush 25 = .ok (.invokestatic 40, 3) := by decide +kernel
theorem dX4_hush_28 : decode cX4_hush 28 = .ok (.ifCond .eq 26, 3) := by decide +kernel
theorem dX4_hush_31 : decode cX4_hush 31 = .ok (.iload 4, 2) := by decide +kernel
theorem dX4_hush_33 : decode cX4_hush 33 = .ok (.i2l, 1) := by decide +kernel
theorem dX4_hush_34 : decode cX4_hush 34 = .ok (.lconst 0, 1) := by decide +kernel
theorem dX4_hush_35 : decode cX4_hush 35 = .ok (.lconst 1, 1) := by decide +kernel
theorem dX4_hush_36 : decode cX4_hush 36 = .ok (.invokestatic 40, 3) := by decide +kernel
theorem dX4_hush_39 : decode cX4_hush 39 = .ok (.ifCond .eq 15, 3) := by decide +kernel
theorem dX4_hush_42 : decode cX4_hush 42 = .ok (.aload_n 0, 1) := by decide +kernel
theorem dX4_hush_43 : decode cX4_hush 43 = .ok (.iload_n 1, 1) := by decide +kernel
theorem dX4_hush_44 : decode cX4_hush 44 = .ok (.iload_n 2, 1) := by decide +kernel
theorem dX4_hush_45 : decode cX4_hush 45 = .ok (.iload_n 3, 1) := by decide +kernel
theorem dX4_hush_46 : decode cX4_hush 46 = .ok (.iload 4, 2) := by decide +kernel
theorem dX4_hush_48 : decode cX4_hush 48 = .ok (.invokevirtual 150, 3) := by decide +kernel
theorem dX4_hush_51 : decode cX4_hush 51 = .ok (.goto 5, 3) := by decide +kernel
theorem dX4_hush_54 : decode cX4_hush 54 = .ok (.bipush (-102), 2) := by decide +kernel
theorem dX4_hush_56 : decode cX4_hush 56 = .ok (.ireturn, 1) := by decide +kernel
theorem dX4_tell_0 : decode cX4_tell 0 = .ok (.aload_n 0, 1) := by decide +kernel
theorem dX4_tell_1 : decode cX4_tell 1 = .ok (.iload_n 1, 1) := by decide +kernel
theorem dX4_tell_2 : decode cX4_tell 2 = .ok (.invokevirtual 113, 3) := by decide +kernel
theorem dX4_tell_5 : decode cX4_tell 5 = .ok (.ifCond .ne 6, 3) := by decide +kernel
theorem dX4_tell_8 : decode cX4_tell 8 = .ok (.bipush (-101), 2) := by decide +kernel
theorem dX4_tell_10 : decode cX4_tell 10 = .ok (.ireturn, 1) := by decide +kernel
theorem dX4_tell_11 : decode cX4_tell 11 = .ok (.aload_n 0, 1) := by decide +kernel
theorem dX4_tell_12 : decode cX4_tell 12 = .ok (.getfield 83, 3) := by decide +kernel
theorem dX4_tell_15 : decode cX4_tell 15 = .ok (.bipush 8, 2) := by decide +kernel
theorem dX4_tell_17 : decode cX4_tell 17 = .ok (.if_icmp .ne 6, 3) := by decide +kernel
theorem dX4_tell_20 : decode cX4_tell 20 = .ok (.bipush (-104), 2) := by decide +kernel
theorem dX4_tell_22 : decode cX4_tell 22 = .ok (.ireturn, 1) := by decide +kernel
theorem dX4_tell_23 : decode cX4_tell 23 = .ok (.aload_n 0, 1) := by decide +kernel
theorem dX4_tell_24 : decode cX4_tell 24 = .ok (.getfield 22, 3) := by decide +kernel
theorem dX4_tell_27 : decode cX4_tell 27 = .ok (.iconst 2, 1) := by decide +kernel
theorem dX4_tell_28 : decode cX4_tell 28 = .ok (.aload_n 0, 1) := by decide +kernel
theorem dX4_tell_29 : decode cX4_tell 29 = .ok (.getfield 83, 3) := by decide +kernel
theorem dX4_tell_32 : decode cX4_tell 32 = .ok (.imul, 1) := by decide +kernel
theorem dX4_tell_33 : decode cX4_tell 33 = .ok (.iload_n 1, 1) := by decide +kernel
theorem dX4_tell_34 : decode cX4_tell 34 = .ok (.iastore, 1) := by decide +kernel
theorem dX4_tell_35 : decode cX4_tell 35 = .ok (.aload_n 0, 1) := by decide +kernel
theorem dX4_tell_36 : decode cX4_tell 36 = .ok (.getfield 22, 3) := by decide +kernel
theorem dX4_tell_39 : decode cX4_tell 39 = .ok (.iconst 2, 1) := by decide +kernel
theorem dX4_tell_40 : decode cX4_tell 40 = .ok (.aload_n 0, 1) := by decide +kernel
theorem dX4_tell_41 : decode cX4_tell 41 = .ok (.getfield 83, 3) := by decide +kernel
theorem dX4_tell_44 : decode cX4_tell 44 = .ok (.imul, 1) := by decide +kernel
theorem dX4_tell_45 : decode cX4_tell 45 = .ok (.iconst 1, 1) := by decide +kernel
theorem dX4_tell_46 : decode cX4_tell 46 = .ok (.iadd, 1) := by decide +kernel
theorem dX4_tell_47 : decode cX4_tell 47 = .ok (.iload_n 2, 1) := by decide +kernel
theorem dX4_tell_48 : decode cX4_tell 48 = .ok (.ifCond .eq 7, 3) := by decide +kernel
theorem dX4_tell_51 : decode cX4_tell 51 = .ok (.iconst 1, 1) := by decide +kernel
theorem dX4_tell_52 : decode cX4_tell 52 = .ok (.goto 4, 3) := by decide +kernel
theorem dX4_tell_55 : decode cX4_tell 55 = .ok (.iconst 0, 1) := by decide +kernel
theorem dX4_tell_56 : decode cX4_tell 56 = .ok (.iastore, 1) := by decide +kernel
theorem dX4_tell_57 : decode cX4_tell 57 = .ok (.aload_n 0, 1) := by decide +kernel
theorem dX4_tell_58 : decode cX4_tell 58 = .ok (.dup, 1) := by decide +kernel
theorem dX4_tell_59 : decode cX4_tell 59 = .ok (.getfield 83, 3) := by decide +kernel
theorem dX4_tell_62 : decode cX4_tell 62 = .ok (.iconst 1, 1) := by decide +kernel
theorem dX4_tell_63 : decode cX4_tell 63 = .ok (.iadd, 1) := by decide +kernel
theorem dX4_tell_64 : decode cX4_tell 64 = .ok (.putfield 83, 3) := by decide +kernel
theorem dX4_tell_67 : decode cX4_tell 67 = .ok (.aload_n 0, 1) := by decide +kernel
theorem dX4_tell_68 : decode cX4_tell 68 = .ok (.getfield 83, 3) := by decide +kernel
theorem dX4_tell_71 : decode cX4_tell 71 = .ok (.ireturn, 1) := by decide +kernel
theorem dX4_forget_0 : decode cX4_forget 0 = .ok (.aload_n 0, 1) := by decide +kernel
theorem dX4_forget_1 : decode cX4_forget 1 = .ok (.getfield 83, 3) := by decide +kernel
theorem dX4_forget_4 : decode cX4_forget 4 = .ok (.istore_n 1, 1) := by decide +kernel
theorem dX4_forget_5 : decode cX4_forget 5 = .ok (.aload_n 0, 1) := by decide +kernel
theorem dX4_forget_6 : decode cX4_forget 6 = .ok (.iconst 0, 1) := by decide +kernel
theorem dX4_forget_7 : decode cX4_forget 7 = .ok (.putfield 83, 3) := by decide +kernel
theorem dX4_forget_10 : decode cX4_forget 10 = .ok (.iload_n 1, 1) := by decide +kernel
theorem dX4_forget_11 : decode cX4_forget 11 = .ok (.ireturn, 1) := by decide +kernel
theorem dX4_isTold_0 : decode cX4_isTold 0 = .ok (.aload_n 0, 1) := by decide +kernel
theorem dX4_isTold_1 : decode cX4_isTold 1 = .ok (.iload_n 1, 1) := by decide +kernel
theorem dX4_isTold_2 : decode cX4_isTold 2 = .ok (.bipush 10, 2) := by decide +kernel
theorem dX4_isTold_4 : decode cX4_isTold 4 = .ok (.idiv, 1) := by decide +kernel
theorem dX4_isTold_5 : decode cX4_isTold 5 = .ok (.iload_n 1, 1) := by decide +kernel
theorem dX4_isTold_6 : decode cX4_isTold 6 = .ok (.bipush 10, 2) := by decide +kernel
theorem dX4_isTold_8 : decode cX4_isTold 8 = .ok (.irem, 1) := by decide +kernel
theorem dX4_isTold_9 : decode cX4_isTold 9 = .ok (.iconst 0, 1) := by decide +kernel
theorem dX4_isTold_10 : decode cX4_isTold 10 = .ok (.invokevirtual 130, 3) := by decide +kernel
theorem dX4_isTold_13 : decode cX4_isTold 13 = .ok (.istore_n 2, 1) := by decide +kernel
theorem dX4_isTold_14 : decode cX4_isTold 14 = .ok (.iconst 1, 1) := by decide +kernel
theorem dX4_isTold_15 : decode cX4_isTold 15 = .ok (.istore_n 3, 1) := by decide +kernel
theorem dX4_isTold_16 : decode cX4_isTold 16 = .ok (.iconst 0, 1) := by decide +kernel
theorem dX4_isTold_17 : decode cX4_isTold 17 = .ok (.istore 4, 2) := by decide +kernel
theorem dX4_isTold_19 : decode cX4_isTold 19 = .ok (.iload 4, 2) := by decide +kernel
theorem dX4_isTold_21 : decode cX4_isTold 21 = .ok (.aload_n 0, 1) := by decide +kernel
theorem dX4_isTold_22 : decode cX4_isTold 22 = .ok (.getfield 83, 3) := by decide +kernel
theorem dX4_isTold_25 : decode cX4_isTold 25 = .ok (.if_icmp .ge 46, 3) := by decide +kernel
theorem dX4_isTold_28 : decode cX4_isTold 28 = .ok (.iload_n 3, 1) := by decide +kernel
theorem dX4_isTold_29 : decode cX4_isTold 29 = .ok (.ifCond .eq 34, 3) := by decide +kernel
theorem dX4_isTold_32 : decode cX4_isTold 32 = .ok (.iload_n 2, 1) := by decide +kernel
theorem dX4_isTold_33 : decode cX4_isTold 33 = .ok (.aload_n 0, 1) := by decide +kernel
theorem dX4_isTold_34 : decode cX4_isTold 34 = .ok (.getfield 22, 3) := by decide +kernel
theorem dX4_isTold_37 : decode cX4_isTold 37 = .ok (.iconst 2, 1) := by decide +kernel
theorem dX4_isTold_38 : decode cX4_isTold 38 = .ok (.iload 4, 2) := by decide +kernel
theorem dX4_isTold_40 : decode cX4_isTold 40 = .ok (.imul, 1) := by decide +kernel
theorem dX4_isTold_41 : decode cX4_isTold 41 = .ok (.iaload, 1) := by decide +kernel
theorem dX4_isTold_42 : decode cX4_isTold 42 = .ok (.ishr, 1) := by decide +kernel
theorem dX4_isTold_43 : decode cX4_isTold 43 = .ok (.iconst 1, 1) := by decide +kernel
theorem dX4_isTold_44 : decode cX4_isTold 44 = .ok (.iand, 1) := by decide +kernel
theorem dX4_isTold_45 : decode cX4_isTold 45 = .ok (.aload_n 0, 1) := by decide +kernel
theorem dX4_isTold_46 : decode cX4_isTold 46 = .ok (.getfield 22, 3) := by decide +kernel
theorem dX4_isTold_49 : decode cX4_isTold 49 = .ok (.iconst 2, 1) := by decide +kernel
theorem dX4_isTold_50 : decode cX4_isTold 50 = .ok (.iload 4, 2) := by decide +kernel
theorem dX4_isTold_52 : decode cX4_isTold 52 = .ok (.imul, 1) := by decide +kernel
theorem dX4_isTold_53 : decode cX4_isTold 53 = .ok (.iconst 1, 1) := by decide +kernel
theorem dX4_isTold_54 : decode cX4_isTold 54 = .ok (.iadd, 1) := by decide +kernel
theorem dX4_isTold_55 : decode cX4_isTold 55 = .ok (.iaload, 1) := by decide +kernel
theorem dX4_isTold_56 : decode cX4_isTold 56 = .ok (.if_icmp .ne 7, 3) := by decide +kernel
theorem dX4_isTold_59 : decode cX4_isTold 59 = .ok (.iconst 1, 1) := by decide +kernel
theorem dX4_isTold_60 : decode cX4_isTold 60 = .ok (.goto 4, 3) := by decide +kernel
theorem dX4_isTold_63 : decode cX4_isTold 63 = .ok (.iconst 0, 1) := by decide +kernel
theorem dX4_isTold_64 : decode cX4_isTold 64 = .ok (.istore_n 3, 1) := by decide +kernel
theorem dX4_isTold_65 : decode cX4_isTold 65 = .ok (.iinc 4 1, 3) := by decide +kernel
theorem dX4_isTold_68 : decode cX4_isTold 68 = .ok (.goto (-49), 3) := by decide +kernel
theorem dX4_isTold_71 : decode cX4_isTold 71 = .ok (.iload_n 3, 1) := by decide +kernel
theorem dX4_isTold_72 : decode cX4_isTold 72 = .ok (.ireturn, 1) := by decide +kernel
theorem dX4_whereOf_0 : decode cX4_whereOf 0 = .ok (.iconst 0, 1) := by decide +kernel
theorem dX4_whereOf_1 : decode cX4_whereOf 1 = .ok (.istore_n 2, 1) := by decide +kernel
theorem dX4_whereOf_2 : decode cX4_whereOf 2 = .ok (.iconst (-1), 1) := by decide +kernel
theorem dX4_whereOf_3 : decode cX4_whereOf 3 = .ok (.istore_n 3, 1) := by decide +kernel
theorem dX4_whereOf_4 : decode cX4_whereOf 4 = .ok (.bipush 59, 2) := by decide +kernel
theorem dX4_whereOf_6 : decode cX4_whereOf 6 = .ok (.istore 4, 2) := by decide +kernel
theorem dX4_whereOf_8 : decode cX4_whereOf 8 = .ok (.iload 4, 2) := by decide +kernel
theorem dX4_whereOf_10 : decode cX4_whereOf 10 = .ok (.ifCond .le 32, 3) := by decide +kernel
theorem dX4_whereOf_13 : decode cX4_whereOf 13 = .ok (.iload 4, 2) := by decide +kernel
theorem dX4_whereOf_15 : decode cX4_whereOf 15 = .ok (.bipush 10, 2) := by decide +kernel
theorem dX4_whereOf_17 : decode cX4_whereOf 17 = .ok (.irem, 1) := by decide +kernel
theorem dX4_whereOf_18 : decode cX4_whereOf 18 = .ok (.ifCond .le 18, 3) := by decide +kernel
theorem dX4_whereOf_21 : decode cX4_whereOf 21 = .ok (.aload_n 0, 1) := by decide +kernel
theorem dX4_whereOf_22 : decode cX4_whereOf 22 = .ok (.iload 4, 2) := by decide +kernel
theorem dX4_whereOf_24 : decode cX4_whereOf 24 = .ok (.invokevirtual 153, 3) := by decide +kernel
theorem dX4_whereOf_27 : decode cX4_whereOf 27 = .ok (.ifCond .eq 9, 3) := by decide +kernel
theorem dX4_whereOf_30 : decode cX4_whereOf 30 = .ok (.iinc 2 1, 3) := by decide +kernel
theorem dX4_whereOf_33 : decode cX4_whereOf 33 = .ok (.iload 4, 2) := by decide +kernel
theorem dX4_whereOf_35 : decode cX4_whereOf 35 = .ok (.istore_n 3, 1) := by decide +kernel
theorem dX4_whereOf_36 : decode cX4_whereOf 36 = .ok (.iinc 4 (-1), 3) := by decide +kernel
theorem dX4_whereOf_39 : decode cX4_whereOf 39 = .ok (.goto (-31), 3) := by decide +kernel
theorem dX4_whereOf_42 : decode cX4_whereOf 42 = .ok (.iload_n 1, 1) := by decide +kernel
theorem dX4_whereOf_43 : decode cX4_whereOf 43 = .ok (.ifCond .ne 7, 3) := by decide +kernel
theorem dX4_whereOf_46 : decode cX4_whereOf 46 = .ok (.iload_n 2, 1) := by decide +kernel
theorem dX4_whereOf_47 : decode cX4_whereOf 47 = .ok (.goto 4, 3) := by decide +kernel
theorem dX4_whereOf_50 : decode cX4_whereOf 50 = .ok (.iload_n 3, 1) := by decide +kernel
theorem dX4_whereOf_51 : decode cX4_whereOf 51 = .ok (.ireturn, 1) := by decide +kernel
theorem dX4_where_0 : decode cX4_where 0 = .ok (.iload_n 1, 1) := by decide +kernel
theorem dX4_where_1 : decode cX4_where 1 = .ok (.i2l, 1) := by decide +kernel
theorem dX4_where_2 : decode cX4_where 2 = .ok (.lconst 0, 1) := by decide +kernel
theorem dX4_where_3 : decode cX4_where 3 = .ok (.lconst 1, 1) := by decide +kernel
theorem dX4_where_4 : decode cX4_where 4 = .ok (.invokestatic 40, 3) := by decide +kernel
theorem dX4_where_7 : decode cX4_where 7 = .ok (.ifCond .ne 6, 3) := by decide +kernel
theorem dX4_where_10 : decode cX4_where 10 = .ok (.bipush (-102), 2) := by decide +kernel
theorem dX4_where_12 : decode cX4_where 12 = .ok (.ireturn, 1) := by decide +kernel
theorem dX4_where_13 : decode cX4_where 13 = .ok (.aload_n 0, 1) := by decide +kernel
theorem dX4_where_14 : decode cX4_where 14 = .ok (.invokevirtual 89, 3) := by decide +kernel
theorem dX4_where_17 : decode cX4_where 17 = .ok (.ifCond .eq 8, 3) := by decide +kernel
theorem dX4_where_20 : decode cX4_where 20 = .ok (.bipush (-103), 2) := by decide +kernel
theorem dX4_where_22 : decode cX4_where 22 = .ok (.goto 8, 3) := by decide +kernel
theorem dX4_where_25 : decode cX4_where 25 = .ok (.aload_n 0, 1) := by decide +kernel
theorem dX4_where_26 : decode cX4_where 26 = .ok (.iload_n 1, 1) := by decide +kernel
theorem dX4_where_27 : decode cX4_where 27 = .ok (.invokevirtual 156, 3) := by decide +kernel
theorem dX4_where_30 : decode cX4_where 30 = .ok (.ireturn, 1) := by decide +kernel
theorem dX4_askOf_0 : decode cX4_askOf 0 = .ok (.aload_n 0, 1) := by decide +kernel
theorem dX4_askOf_1 : decode cX4_askOf 1 = .ok (.iconst 0, 1) := by decide +kernel
theorem dX4_askOf_2 : decode cX4_askOf 2 = .ok (.invokevirtual 156, 3) := by decide +kernel
theorem dX4_askOf_5 : decode cX4_askOf 5 = .ok (.istore_n 1, 1) := by decide +kernel
theorem dX4_askOf_6 : decode cX4_askOf 6 = .ok (.iconst (-1), 1) := by decide +kernel
theorem dX4_askOf_7 : decode cX4_askOf 7 = .ok (.istore_n 2, 1) := by decide +kernel
theorem dX4_askOf_8 : decode cX4_askOf 8 = .ok (.bipush 99, 2) := by decide +kernel
theorem dX4_askOf_10 : decode cX4_askOf 10 = .ok (.istore_n 3, 1) := by decide +kernel
theorem dX4_askOf_11 : decode cX4_askOf 11 = .ok (.iconst 0, 1) := by decide +kernel
theorem dX4_askOf_12 : decode cX4_askOf 12 = .ok (.istore 4, 2) := by decide +kernel
theorem dX4_askOf_14 : decode cX4_askOf 14 = .ok (.iload 4, 2) := by decide +kernel
theorem dX4_askOf_16 : decode cX4_askOf 16 = .ok (.aload_n 0, 1) := by decide +kernel
theorem dX4_askOf_17 : decode cX4_askOf 17 = .ok (.getfield 80, 3) := by decide +kernel
theorem dX4_askOf_20 : decode cX4_askOf 20 = .ok (.if_icmp .ge 136, 3) := by decide +kernel
theorem dX4_askOf_23 : decode cX4_askOf 23 = .ok (.iload_n 1, 1) := by decide +kernel
theorem dX4_askOf_24 : decode cX4_askOf 24 = .ok (.ifCond .le 132, 3) := by decide +kernel
theorem dX4_askOf_27 : decode cX4_askOf 27 = .ok (.iconst 0, 1) := by decide +kernel
theorem dX4_askOf_28 : decode cX4_askOf 28 = .ok (.istore 5, 2) := by decide +kernel
theorem dX4_askOf_30 : decode cX4_askOf 30 = .ok (.iconst 1, 1) := by decide +kernel
theorem dX4_askOf_31 : decode cX4_askOf 31 = .ok (.istore 6, 2) := by decide +kernel
theorem dX4_askOf_33 : decode cX4_askOf 33 = .ok (.iload 6, 2) := by decide +kernel
theorem dX4_askOf_35 : decode cX4_askOf 35 = .ok (.bipush 60, 2) := by decide +kernel
theorem dX4_askOf_37 : decode cX4_askOf 37 = .ok (.if_icmp .ge 67, 3) := by decide +kernel
theorem dX4_askOf_40 : decode cX4_askOf 40 = .ok (.iload 6, 2) := by decide +kernel
theorem dX4_askOf_42 : decode cX4_askOf 42 = .ok (.bipush 10, 2) := by decide +kernel
theorem dX4_askOf_44 : decode cX4_askOf 44 = .ok (.irem, 1) := by decide +kernel
theorem dX4_askOf_45 : decode cX4_askOf 45 = .ok (.ifCond .le 16, 3) := by decide +kernel
theorem dX4_askOf_48 : decode cX4_askOf 48 = .ok (.aload_n 0, 1) := by decide +kernel
theorem dX4_askOf_49 : decode cX4_askOf 49 = .ok (.iload 6, 2) := by decide +kernel
theorem dX4_askOf_51 : decode cX4_askOf 51 = .ok (.invokevirtual 153, 3) := by decide +kernel
theorem dX4_askOf_54 : decode cX4_askOf 54 = .ok (.ifCond .eq 7, 3) := by decide +kernel
theorem dX4_askOf_57 : decode cX4_askOf 57 = .ok (.iconst 1, 1) := by decide +kernel
theorem dX4_askOf_58 : decode cX4_askOf 58 = .ok (.goto 4, 3) := by decide +kernel
theorem dX4_askOf_61 : decode cX4_askOf 61 = .ok (.iconst 0, 1) := by decide +kernel
theorem dX4_askOf_62 : decode cX4_askOf 62 = .ok (.istore 7, 2) := by decide +kernel
theorem dX4_askOf_64 : decode cX4_askOf 64 = .ok (.iload 5, 2) := by decide +kernel
theorem dX4_askOf_66 : decode cX4_askOf 66 = .ok (.iload 7, 2) := by decide +kernel
theorem dX4_askOf_68 : decode cX4_askOf 68 = .ok (.ifCond .eq 26, 3) := by decide +kernel
theorem dX4_askOf_71 : decode cX4_askOf 71 = .ok (.aload_n 0, 1) := by decide +kernel
theorem dX4_askOf_72 : decode cX4_askOf 72 = .ok (.iload 6, 2) := by decide +kernel
theorem dX4_askOf_74 : decode cX4_askOf 74 = .ok (.bipush 10, 2) := by decide +kernel
theorem dX4_askOf_76 : decode cX4_askOf 76 = .ok (.idiv, 1) := by decide +kernel
theorem dX4_askOf_77 : decode cX4_askOf 77 = .ok (.iload 6, 2) := by decide +kernel
theorem dX4_askOf_79 : decode cX4_askOf 79 = .ok (.bipush 10, 2) := by decide +kernel
theorem dX4_askOf_81 : decode cX4_askOf 81 = .ok (.irem, 1) := by decide +kernel
theorem dX4_askOf_82 : decode cX4_askOf 82 = .ok (.iconst 0, 1) := by decide +kernel
theorem dX4_askOf_83 : decode cX4_askOf 83 = .ok (.invokevirtual 130, 3) := by decide +kernel
theorem dX4_askOf_86 : decode cX4_askOf 86 = .ok (.iload 4, 2) := by decide +kernel
theorem dX4_askOf_88 : decode cX4_askOf 88 = .ok (.ishr, 1) := by decide +kernel
theorem dX4_askOf_89 : decode cX4_askOf 89 = .ok (.iconst 1, 1) := by decide +kernel
theorem dX4_askOf_90 : decode cX4_askOf 90 = .ok (.iand, 1) := by decide +kernel
theorem dX4_askOf_91 : decode cX4_askOf 91 = .ok (.goto 4, 3) := by decide +kernel
theorem dX4_askOf_94 : decode cX4_askOf 94 = .ok (.iconst 0, 1) := by decide +kernel
theorem dX4_askOf_95 : decode cX4_askOf 95 = .ok (.iadd, 1) := by decide +kernel
theorem dX4_askOf_96 : decode cX4_askOf 96 = .ok (.istore 5, 2) := by decide +kernel
theorem dX4_askOf_98 : decode cX4_askOf 98 = .ok (.iinc 6 1, 3) := by decide +kernel
theorem dX4_askOf_101 : decode cX4_askOf 101 = .ok (.goto (-68), 3) := by decide +kernel
theorem dX4_askOf_104 : decode cX4_askOf 104 = .ok (.iload 5, 2) := by decide +kernel
theorem dX4_askOf_106 : decode cX4_askOf 106 = .ok (.iload_n 1, 1) := by decide +kernel
theorem dX4_askOf_107 : decode cX4_askOf 107 = .ok (.iload 5, 2) := by decide +kernel
theorem dX4_askOf_109 : decode cX4_askOf 109 = .ok (.isub, 1) := by decide +kernel
theorem dX4_askOf_110 : decode cX4_askOf 110 = .ok (.if_icmp .le 8, 3) := by decide +kernel
theorem dX4_askOf_113 : decode cX4_askOf 113 = .ok (.iload 5, 2) := by decide +kernel
theorem dX4_askOf_115 : decode cX4_askOf 115 = .ok (.goto 7, 3) := by decide +kernel
theorem dX4_askOf_118 : decode cX4_askOf 118 = .ok (.iload_n 1, 1) := by decide +kernel
theorem dX4_askOf_119 : decode cX4_askOf 119 = .ok (.iload 5, 2) := by decide +kernel
theorem dX4_askOf_121 : decode cX4_askOf 121 = .ok (.isub, 1) := by decide +kernel
theorem dX4_askOf_122 : decode cX4_askOf 122 = .ok (.istore 6, 2) := by decide +kernel
theorem dX4_askOf_124 : decode cX4_askOf 124 = .ok (.iload 6, 2) := by decide +kernel
theorem dX4_askOf_126 : decode cX4_askOf 126 = .ok (.iload_n 3, 1) := by decide +kernel
theorem dX4_askOf_127 : decode cX4_askOf 127 = .ok (.if_icmp .ge 8, 3) := by decide +kernel
theorem dX4_askOf_130 : decode cX4_askOf 130 = .ok (.iload 4, 2) := by decide +kernel
theorem dX4_askOf_132 : decode cX4_askOf 132 = .ok (.goto 4, 3) := by decide +kernel
theorem dX4_askOf_135 : decode cX4_askOf 135 = .ok (.iload_n 2, 1) := by decide +kernel
theorem dX4_askOf_136 : decode cX4_askOf 136 = .ok (.istore_n 2, 1) := by decide +kernel
theorem dX4_askOf_137 : decode cX4_askOf 137 = .ok (.iload 6, 2) := by decide +kernel
theorem dX4_askOf_139 : decode cX4_askOf 139 = .ok (.iload_n 3, 1) := by decide +kernel
theorem dX4_askOf_140 : decode cX4_askOf 140 = .ok (.if_icmp .ge 8, 3) := by decide +kernel
theorem dX4_askOf_143 : decode cX4_askOf 143 = .ok (.iload 6, 2) := by decide +kernel
theorem dX4_askOf_145 : decode cX4_askOf 145 = .ok (.goto 4, 3) := by decide +kernel
theorem dX4_askOf_148 : decode cX4_askOf 148 = .ok (.iload_n 3, 1) := by decide +kernel
theorem dX4_askOf_149 : decode cX4_askOf 149 = .ok (.istore_n 3, 1) := by decide +kernel
theorem dX4_askOf_150 : decode cX4_askOf 150 = .ok (.iinc 4 1, 3) := by decide +kernel
theorem dX4_askOf_153 : decode cX4_askOf 153 = .ok (.goto (-139), 3) := by decide +kernel
theorem dX4_askOf_156 : decode cX4_askOf 156 = .ok (.iload_n 2, 1) := by decide +kernel
theorem dX4_askOf_157 : decode cX4_askOf 157 = .ok (.ireturn, 1) := by decide +kernel
theorem dX4_ask_0 : decode cX4_ask 0 = .ok (.aload_n 0, 1) := by decide +kernel
theorem dX4_ask_1 : decode cX4_ask 1 = .ok (.invokevirtual 89, 3) := by decide +kernel
theorem dX4_ask_4 : decode cX4_ask 4 = .ok (.ifCond .eq 8, 3) := by decide +kernel
theorem dX4_ask_7 : decode cX4_ask 7 = .ok (.bipush (-103), 2) := by decide +kernel
theorem dX4_ask_9 : decode cX4_ask 9 = .ok (.goto 7, 3) := by decide +kernel
theorem dX4_ask_12 : decode cX4_ask 12 = .ok (.aload_n 0, 1) := by decide +kernel
theorem dX4_ask_13 : decode cX4_ask 13 = .ok (.invokevirtual 159, 3) := by decide +kernel
theorem dX4_ask_16 : decode cX4_ask 16 = .ok (.ireturn, 1) := by decide +kernel
theorem dX4_draw_0 : decode cX4_draw 0 = .ok (.aload_n 0, 1) := by decide +kernel
theorem dX4_draw_1 : decode cX4_draw 1 = .ok (.ldc2_w 162, 3) := by decide +kernel
theorem dX4_draw_4 : decode cX4_draw 4 = .ok (.aload_n 0, 1) := by decide +kernel
theorem dX4_draw_5 : decode cX4_draw 5 = .ok (.getfield 164, 3) := by decide +kernel
theorem dX4_draw_8 : decode cX4_draw 8 = .ok (.i2l, 1) := by decide +kernel
theorem dX4_draw_9 : decode cX4_draw 9 = .ok (.lmul, 1) := by decide +kernel
theorem dX4_draw_10 : decode cX4_draw 10 = .ok (.ldc2_w 167, 3) := by decide +kernel
theorem dX4_draw_13 : decode cX4_draw 13 = .ok (.ladd, 1) := by decide +kernel
theorem dX4_draw_14 : decode cX4_draw 14 = .ok (.ldc2_w 169, 3) := by decide +kernel
theorem dX4_draw_17 : decode cX4_draw 17 = .ok (.land, 1) := by decide +kernel
theorem dX4_draw_18 : decode cX4_draw 18 = .ok (.l2i, 1) := by decide +kernel
theorem dX4_draw_19 : decode cX4_draw 19 = .ok (.putfield 164, 3) := by decide +kernel
theorem dX4_draw_22 : decode cX4_draw 22 = .ok (.aload_n 0, 1) := by decide +kernel
theorem dX4_draw_23 : decode cX4_draw 23 = .ok (.getfield 164, 3) := by decide +kernel
theorem dX4_draw_26 : decode cX4_draw 26 = .ok (.ldc 171, 2) := by decide +kernel
theorem dX4_draw_28 : decode cX4_draw 28 = .ok (.idiv, 1) := by decide +kernel
theorem dX4_draw_29 : decode cX4_draw 29 = .ok (.iload_n 1, 1) := by decide +kernel
theorem dX4_draw_30 : decode cX4_draw 30 = .ok (.irem, 1) := by decide +kernel
theorem dX4_draw_31 : decode cX4_draw 31 = .ok (.ireturn, 1) := by decide +kernel
theorem dX4_days_0 : decode cX4_days 0 = .ok (.iload_n 1, 1) := by decide +kernel
theorem dX4_days_1 : decode cX4_days 1 = .ok (.i2l, 1) := by decide +kernel
theorem dX4_days_2 : decode cX4_days 2 = .ok (.lconst 1, 1) := by decide +kernel
theorem dX4_days_3 : decode cX4_days 3 = .ok (.ldc2_w 172, 3) := by decide +kernel
theorem dX4_days_6 : decode cX4_days 6 = .ok (.invokestatic 40, 3) := by decide +kernel
theorem dX4_days_9 : decode cX4_days 9 = .ok (.ifCond .eq 19, 3) := by decide +kernel
theorem dX4_days_12 : decode cX4_days 12 = .ok (.iload_n 2, 1) := by decide +kernel
theorem dX4_days_13 : decode cX4_days 13 = .ok (.ifCond .lt 15, 3) := by decide +kernel
theorem dX4_days_16 : decode cX4_days 16 = .ok (.iload_n 3, 1) := by decide +kernel
theorem dX4_days_17 : decode cX4_days 17 = .ok (.i2l, 1) := by decide +kernel
theorem dX4_days_18 : decode cX4_days 18 = .ok (.lconst 0, 1) := by decide +kernel
theorem dX4_days_19 : decode cX4_days 19 = .ok (.ldc2_w 174, 3) := by decide +kernel
theorem dX4_days_22 : decode cX4_days 22 = .ok (.invokestatic 40, 3) := by decide +kernel
theorem dX4_days_25 : decode cX4_days 25 = .ok (.ifCond .ne 6, 3) := by decide +kernel
theorem dX4_days_28 : decode cX4_days 28 = .ok (.bipush (-102), 2) := by decide +kernel
theorem dX4_days_30 : decode cX4_days 30 = .ok (.ireturn, 1) := by decide +kernel
theorem dX4_days_31 : decode cX4_days 31 = .ok (.aload_n 0, 1) := by decide +kernel
theorem dX4_days_32 : decode cX4_days 32 = .ok (.invokevirtual 89, 3) := by decide +kernel
theorem dX4_days_35 : decode cX4_days 35 = .ok (.ifCond .eq 6, 3) := by decide +kernel
theorem dX4_days_38 : decode cX4_days 38 = .ok (.bipush (-103), 2) := by decide +kernel
theorem dX4_days_40 : decode cX4_days 40 = .ok (.ireturn, 1) := by decide +kernel
theorem dX4_days_41 : decode cX4_days 41 = .ok (.aload_n 0, 1) := by decide +kernel
theorem dX4_days_42 : decode cX4_days 42 = .ok (.iload_n 2, 1) := by decide +kernel
theorem dX4_days_43 : decode cX4_days 43 = .ok (.putfield 164, 3) := by decide +kernel
theorem dX4_days_46 : decode cX4_days 46 = .ok (.iconst 0, 1) := by decide +kernel
theorem dX4_days_47 : decode cX4_days 47 = .ok (.istore 4, 2) := by decide +kernel
theorem dX4_days_49 : decode cX4_days 49 = .ok (.iconst 0, 1) := by decide +kernel
theorem dX4_days_50 : decode cX4_days 50 = .ok (.istore 5, 2) := by decide +kernel
theorem dX4_days_52 : decode cX4_days 52 = .ok (.iconst 0, 1) := by decide +kernel
theorem dX4_days_53 : decode cX4_days 53 = .ok (.istore 6, 2) := by decide +kernel
theorem dX4_days_55 : decode cX4_days 55 = .ok (.iload 6, 2) := by decide +kernel
theorem dX4_days_57 : decode cX4_days 57 = .ok (.iload_n 1, 1) := by decide +kernel
theorem dX4_days_58 : decode cX4_days 58 = .ok (.if_icmp .ge 44, 3) := by decide +kernel
theorem dX4_days_61 : decode cX4_days 61 = .ok (.aload_n 0, 1) := by decide +kernel
theorem dX4_days_62 : decode cX4_days 62 = .ok (.bipush 6, 2) := by decide +kernel
theorem dX4_days_64 : decode cX4_days 64 = .ok (.invokevirtual 176, 3) := by decide +kernel
theorem dX4_days_67 : decode cX4_days 67 = .ok (.istore 7, 2) := by decide +kernel
theorem dX4_days_69 : decode cX4_days 69 = .ok (.aload_n 0, 1) := by decide +kernel
theorem dX4_days_70 : decode cX4_days 70 = .ok (.iload 7, 2) := by decide +kernel
theorem dX4_days_72 : decode cX4_days 72 = .ok (.aload_n 0, 1) := by decide +kernel
theorem dX4_days_73 : decode cX4_days 73 = .ok (.bipush 9, 2) := by decide +kernel
theorem dX4_days_75 : decode cX4_days 75 = .ok (.invokevirtual 176, 3) := by decide +kernel
theorem dX4_days_78 : decode cX4_days 78 = .ok (.iconst 1, 1) := by decide +kernel
theorem dX4_days_79 : decode cX4_days 79 = .ok (.iadd, 1) := by decide +kernel
theorem dX4_days_80 : decode cX4_days 80 = .ok (.iconst 0, 1) := by decide +kernel
theorem dX4_days_81 : decode cX4_days 81 = .ok (.invokevirtual 130, 3) := by decide +kernel
theorem dX4_days_84 : decode cX4_days 84 = .ok (.invokestatic 127, 3) := by decide +kernel
theorem dX4_days_87 : decode cX4_days 87 = .ok (.istore 5, 2) := by decide +kernel
theorem dX4_days_89 : decode cX4_days 89 = .ok (.iload 4, 2) := by decide +kernel
theorem dX4_days_91 : decode cX4_days 91 = .ok (.iload 5, 2) := by decide +kernel
theorem dX4_days_93 : decode cX4_days 93 = .ok (.iadd, 1) := by decide +kernel
theorem dX4_days_94 : decode cX4_days 94 = .ok (.istore 4, 2) := by decide +kernel
theorem dX4_days_96 : decode cX4_days 96 = .ok (.iinc 6 1, 3) := by decide +kernel
theorem dX4_days_99 : decode cX4_days 99 = .ok (.goto (-44), 3) := by decide +kernel
theorem dX4_days_102 : decode cX4_days 102 = .ok (.iload_n 3, 1) := by decide +kernel
theorem dX4_days_103 : decode cX4_days 103 = .ok (.ifCond .ne 8, 3) := by decide +kernel
theorem dX4_days_106 : decode cX4_days 106 = .ok (.iload 4, 2) := by decide +kernel
theorem dX4_days_108 : decode cX4_days 108 = .ok (.goto 17, 3) := by decide +kernel
theorem dX4_days_111 : decode cX4_days 111 = .ok (.iload_n 3, 1) := by decide +kernel
theorem dX4_days_112 : decode cX4_days 112 = .ok (.iconst 1, 1) := by decide +kernel
theorem dX4_days_113 : decode cX4_days 113 = .ok (.if_icmp .ne 8, 3) := by decide +kernel
theorem dX4_days_116 : decode cX4_days 116 = .ok (.iload 5, 2) := by decide +kernel
theorem dX4_days_118 : decode cX4_days 118 = .ok (.goto 7, 3) := by decide +kernel
theorem dX4_days_121 : decode cX4_days 121 = .ok (.aload_n 0, 1) := by decide +kernel
theorem dX4_days_122 : decode cX4_days 122 = .ok (.getfield 164, 3) := by decide +kernel
theorem dX4_days_125 : decode cX4_days 125 = .ok (.ireturn, 1) := by decide +kernel
theorem dX4_image_0 : decode cX4_image 0 = .ok (.aload_n 0, 1) := by decide +kernel
theorem dX4_image_1 : decode cX4_image 1 = .ok (.invokevirtual 89, 3) := by decide +kernel
theorem dX4_image_4 : decode cX4_image 4 = .ok (.ifCond .eq 6, 3) := by decide +kernel
theorem dX4_image_7 : decode cX4_image 7 = .ok (.bipush (-103), 2) := by decide +kernel
theorem dX4_image_9 : decode cX4_image 9 = .ok (.ireturn, 1) := by decide +kernel
theorem dX4_image_10 : decode cX4_image 10 = .ok (.aload_n 0, 1) := by decide +kernel
theorem dX4_image_11 : decode cX4_image 11 = .ok (.getfield 16, 3) := by decide +kernel
theorem dX4_image_14 : decode cX4_image 14 = .ok (.aload_n 0, 1) := by decide +kernel
theorem dX4_image_15 : decode cX4_image 15 = .ok (.getfield 25, 3) := by decide +kernel
theorem dX4_image_18 : decode cX4_image 18 = .ok (.invokestatic 179, 3) := by decide +kernel
theorem dX4_image_21 : decode cX4_image 21 = .ok (.aload_n 0, 1) := by decide +kernel
theorem dX4_image_22 : decode cX4_image 22 = .ok (.getfield 22, 3) := by decide +kernel
theorem dX4_image_25 : decode cX4_image 25 = .ok (.aload_n 0, 1) := by decide +kernel
theorem dX4_image_26 : decode cX4_image 26 = .ok (.getfield 28, 3) := by decide +kernel
theorem dX4_image_29 : decode cX4_image 29 = .ok (.invokestatic 179, 3) := by decide +kernel
theorem dX4_image_32 : decode cX4_image 32 = .ok (.aload_n 0, 1) := by decide +kernel
theorem dX4_image_33 : decode cX4_image 33 = .ok (.getfield 13, 3) := by decide +kernel
theorem dX4_image_36 : decode cX4_image 36 = .ok (.aload_n 0, 1) := by decide +kernel
theorem dX4_image_37 : decode cX4_image 37 = .ok (.getfield 31, 3) := by decide +kernel
theorem dX4_image_40 : decode cX4_image 40 = .ok (.invokestatic 179, 3) := by decide +kernel
theorem dX4_image_43 : decode cX4_image 43 = .ok (.aload_n 0, 1) := by decide +kernel
theorem dX4_image_44 : decode cX4_image 44 = .ok (.aload_n 0, 1) := by decide +kernel
theorem dX4_image_45 : decode cX4_image 45 = .ok (.getfield 80, 3) := by decide +kernel
theorem dX4_image_48 : decode cX4_image 48 = .ok (.putfield 183, 3) := by decide +kernel
theorem dX4_image_51 : decode cX4_image 51 = .ok (.aload_n 0, 1) := by decide +kernel
theorem dX4_image_52 : decode cX4_image 52 = .ok (.aload_n 0, 1) := by decide +kernel
theorem dX4_image_53 : decode cX4_image 53 = .ok (.getfield 62, 3) := by decide +kernel
theorem dX4_image_56 : decode cX4_image 56 = .ok (.putfield 186, 3) := by decide +kernel
theorem dX4_image_59 : decode cX4_image 59 = .ok (.aload_n 0, 1) := by decide +kernel
theorem dX4_image_60 : decode cX4_image 60 = .ok (.aload_n 0, 1) := by decide +kernel
theorem dX4_image_61 : decode cX4_image 61 = .ok (.getfield 68, 3) := by decide +kernel
theorem dX4_image_64 : decode cX4_image 64 = .ok (.putfield 189, 3) := by decide +kernel
theorem dX4_image_67 : decode cX4_image 67 = .ok (.aload_n 0, 1) := by decide +kernel
theorem dX4_image_68 : decode cX4_image 68 = .ok (.aload_n 0, 1) := by decide +kernel
theorem dX4_image_69 : decode cX4_image 69 = .ok (.getfield 71, 3) := by decide +kernel
theorem dX4_image_72 : decode cX4_image 72 = .ok (.putfield 192, 3) := by decide +kernel
theorem dX4_image_75 : decode cX4_image 75 = .ok (.aload_n 0, 1) := by decide +kernel
theorem dX4_image_76 : decode cX4_image 76 = .ok (.aload_n 0, 1) := by decide +kernel
theorem dX4_image_77 : decode cX4_image 77 = .ok (.getfield 74, 3) := by decide +kernel
theorem dX4_image_80 : decode cX4_image 80 = .ok (.putfield 195, 3) := by decide +kernel
theorem dX4_image_83 : decode cX4_image 83 = .ok (.aload_n 0, 1) := by decide +kernel
theorem dX4_image_84 : decode cX4_image 84 = .ok (.aload_n 0, 1) := by decide +kernel
theorem dX4_image_85 : decode cX4_image 85 = .ok (.getfield 77, 3) := by decide +kernel
theorem dX4_image_88 : decode cX4_image 88 = .ok (.putfield 198, 3) := by decide +kernel
theorem dX4_image_91 : decode cX4_image 91 = .ok (.aload_n 0, 1) := by decide +kernel
theorem dX4_image_92 : decode cX4_image 92 = .ok (.aload_n 0, 1) := by decide +kernel
theorem dX4_image_93 : decode cX4_image 93 = .ok (.getfield 83, 3) := by decide +kernel
theorem dX4_image_96 : decode cX4_image 96 = .ok (.putfield 201, 3) := by decide +kernel
theorem dX4_image_99 : decode cX4_image 99 = .ok (.aload_n 0, 1) := by decide +kernel
theorem dX4_image_100 : decode cX4_image 100 = .ok (.aload_n 0, 1) := by decide +kernel
theorem dX4_image_101 : decode cX4_image 101 = .ok (.getfield 86, 3) := by decide +kernel
theorem dX4_image_104 : decode cX4_image 104 = .ok (.putfield 34, 3) := by decide +kernel
theorem dX4_image_107 : decode cX4_image 107 = .ok (.aload_n 0, 1) := by decide +kernel
theorem dX4_image_108 : decode cX4_image 108 = .ok (.getfield 74, 3) := by decide +kernel
theorem dX4_image_111 : decode cX4_image 111 = .ok (.ireturn, 1) := by decide +kernel
theorem dX4_restore_0 : decode cX4_restore 0 = .ok (.aload_n 0, 1) := by decide +kernel
theorem dX4_restore_1 : decode cX4_restore 1 = .ok (.getfield 34, 3) := by decide +kernel
theorem dX4_restore_4 : decode cX4_restore 4 = .ok (.aload_n 0, 1) := by decide +kernel
theorem dX4_restore_5 : decode cX4_restore 5 = .ok (.getfield 86, 3) := by decide +kernel
theorem dX4_restore_8 : decode cX4_restore 8 = .ok (.if_icmp .eq 6, 3) := by decide +kernel
theorem dX4_restore_11 : decode cX4_restore 11 = .ok (.bipush (-103), 2) := by decide +kernel
theorem dX4_restore_13 : decode cX4_restore 13 = .ok (.ireturn, 1) := by decide +kernel
theorem dX4_restore_14 : decode cX4_restore 14 = .ok (.aload_n 0, 1) := by decide +kernel
theorem dX4_restore_15 : decode cX4_restore 15 = .ok (.getfield 25, 3) := by decide +kernel
theorem dX4_restore_18 : decode cX4_restore 18 = .ok (.aload_n 0, 1) := by decide +kernel
theorem dX4_restore_19 : decode cX4_restore 19 = .ok (.getfield 16, 3) := by decide +kernel
theorem dX4_restore_22 : decode cX4_restore 22 = .ok (.invokestatic 179, 3) := by decide +kernel
theorem dX4_restore_25 : decode cX4_restore 25 = .ok (.aload_n 0, 1) := by decide +kernel
theorem dX4_restore_26 : decode cX4_restore 26 = .ok (.getfield 28, 3) := by decide +kernel
theorem dX4_restore_29 : decode cX4_restore 29 = .ok (.aload_n 0, 1) := by decide +kernel
theorem dX4_restore_30 : decode cX4_restore 30 = .ok (.getfield 22, 3) := by decide +kernel
theorem dX4_restore_33 : decode cX4_restore 33 = .ok (.invokestatic 179, 3) := by decide +kernel
theorem dX4_restore_36 : decode cX4_restore 36 = .ok (.aload_n 0, 1) := by decide +kernel
theorem dX4_restore_37 : decode cX4_restore 37 = .ok (.getfield 31, 3) := by decide +kernel
theorem dX4_restore_40 : decode cX4_restore 40 = .ok (.aload_n 0, 1) := by decide +kernel
theorem dX4_restore_41 : decode cX4_restore 41 = .ok (.getfield 13, 3) := by decide +kernel
theorem dX4_restore_44 : decode cX4_restore 44 = .ok (.invokestatic 179, 3) := by decide +kernel
theorem dX4_restore_47 : decode cX4_restore 47 = .ok (.aload_n 0, 1) := by decide +kernel
theorem dX4_restore_48 : decode cX4_restore 48 = .ok (.aload_n 0, 1) := by decide +kernel
theorem dX4_restore_49 : decode cX4_restore 49 = .ok (.getfield 183, 3) := by decide +kernel
theorem dX4_restore_52 : decode cX4_restore 52 = .ok (.putfield 80, 3) := by decide +kernel
theorem dX4_restore_55 : decode cX4_restore 55 = .ok (.aload_n 0, 1) := by decide +kernel
theorem dX4_restore_56 : decode cX4_restore 56 = .ok (.aload_n 0, 1) := by decide +kernel
theorem dX4_restore_57 : decode cX4_restore 57 = .ok (.getfield 186, 3) := by decide +kernel
theorem dX4_restore_60 : decode cX4_restore 60 = .ok (.putfield 62, 3) := by decide +kernel
theorem dX4_restore_63 : decode cX4_restore 63 = .ok (.aload_n 0, 1) := by decide +kernel
theorem dX4_restore_64 : decode cX4_restore 64 = .ok (.aload_n 0, 1) := by decide +kernel
theorem dX4_restore_65 : decode cX4_restore 65 = .ok (.getfield 189, 3) := by decide +kernel
theorem dX4_restore_68 : decode cX4_restore 68 = .ok (.putfield 68, 3) := by decide +kernel
theorem dX4_restore_71 : decode cX4_restore 71 = .ok (.aload_n 0, 1) := by decide +kernel
theorem dX4_restore_72 : decode cX4_restore 72 = .ok (.aload_n 0, 1) := by decide +kernel
theorem dX4_restore_73 : decode cX4_restore 73 = .ok (.getfield 192, 3) := by decide +kernel
theorem dX4_restore_76 : decode cX4_restore 76 = .ok (.putfield 71, 3) := by decide +kernel
theorem dX4_restore_79 : decode cX4_restore 79 = .ok (.aload_n 0, 1) := by decide +kernel
theorem dX4_restore_80 : decode cX4_restore 80 = .ok (.aload_n 0, 1) := by decide +kernel
theorem dX4_restore_81 : decode cX4_restore 81 = .ok (.getfield 195, 3) := by decide +kernel
theorem dX4_restore_84 : decode cX4_restore 84 = .ok (.putfield 74, 3) := by decide +kernel
theorem dX4_restore_87 : decode cX4_restore 87 = .ok (.aload_n 0, 1) := by decide +kernel
theorem dX4_restore_88 : decode cX4_restore 88 = .ok (.aload_n 0, 1) := by decide +kernel
theorem dX4_restore_89 : decode cX4_restore 89 = .ok (.getfield 198, 3) := by decide +kernel
theorem dX4_restore_92 : decode cX4_restore 92 = .ok (.putfield 77, 3) := by decide +kernel
theorem dX4_restore_95 : decode cX4_restore 95 = .ok (.aload_n 0, 1) := by decide +kernel
theorem dX4_restore_96 : decode cX4_restore 96 = .ok (.aload_n 0, 1) := by decide +kernel
theorem dX4_restore_97 : decode cX4_restore 97 = .ok (.getfield 201, 3) := by decide +kernel
theorem dX4_restore_100 : decode cX4_restore 100 = .ok (.putfield 83, 3) := by decide +kernel
theorem dX4_restore_103 : decode cX4_restore 103 = .ok (.aload_n 0, 1) := by decide +kernel
theorem dX4_restore_104 : decode cX4_restore 104 = .ok (.getfield 74, 3) := by decide +kernel
theorem dX4_restore_107 : decode cX4_restore 107 = .ok (.ireturn, 1) := by decide +kernel
theorem dX4_countOf_0 : decode cX4_countOf 0 = .ok (.iload_n 1, 1) := by decide +kernel
theorem dX4_countOf_1 : decode cX4_countOf 1 = .ok (.tableswitch 112 0 9 #[55, 60, 65, 70, 75, 87, 92, 97, 102, 107], 55) := by decide +kernel
theorem dX4_countOf_56 : decode cX4_countOf 56 = .ok (.aload_n 0, 1) := by decide +kernel
theorem dX4_countOf_57 : decode cX4_countOf 57 = .ok (.getfield 80, 3) := by decide +kernel
theorem dX4_countOf_60 : decode cX4_countOf 60 = .ok (.ireturn, 1) := by decide +kernel
theorem dX4_countOf_61 : decode cX4_countOf 61 = .ok (.aload_n 0, 1) := by decide +kernel
theorem dX4_countOf_62 : decode cX4_countOf 62 = .ok (.getfield 62, 3) := by decide +kernel
theorem dX4_countOf_65 : decode cX4_countOf 65 = .ok (.ireturn, 1) := by decide +kernel
theorem dX4_countOf_66 : decode cX4_countOf 66 = .ok (.aload_n 0, 1) := by decide +kernel
theorem dX4_countOf_67 : decode cX4_countOf 67 = .ok (.getfield 65, 3) := by decide +kernel
theorem dX4_countOf_70 : decode cX4_countOf 70 = .ok (.ireturn, 1) := by decide +kernel
theorem dX4_countOf_71 : decode cX4_countOf 71 = .ok (.aload_n 0, 1) := by decide +kernel
theorem dX4_countOf_72 : decode cX4_countOf 72 = .ok (.getfield 68, 3) := by decide +kernel
theorem dX4_countOf_75 : decode cX4_countOf 75 = .ok (.ireturn, 1) := by decide +kernel
theorem dX4_countOf_76 : decode cX4_countOf 76 = .ok (.aload_n 0, 1) := by decide +kernel
theorem dX4_countOf_77 : decode cX4_countOf 77 = .ok (.aload_n 0, 1) := by decide +kernel
theorem dX4_countOf_78 : decode cX4_countOf 78 = .ok (.getfield 71, 3) := by decide +kernel
theorem dX4_countOf_81 : decode cX4_countOf 81 = .ok (.invokevirtual 110, 3) := by decide +kernel
theorem dX4_countOf_84 : decode cX4_countOf 84 = .ok (.invokestatic 127, 3) := by decide +kernel
theorem dX4_countOf_87 : decode cX4_countOf 87 = .ok (.ireturn, 1) := by decide +kernel
theorem dX4_countOf_88 : decode cX4_countOf 88 = .ok (.aload_n 0, 1) := by decide +kernel
theorem dX4_countOf_89 : decode cX4_countOf 89 = .ok (.getfield 74, 3) := by decide +kernel
theorem dX4_countOf_92 : decode cX4_countOf 92 = .ok (.ireturn, 1) := by decide +kernel
theorem dX4_countOf_93 : decode cX4_countOf 93 = .ok (.aload_n 0, 1) := by decide +kernel
theorem dX4_countOf_94 : decode cX4_countOf 94 = .ok (.getfield 77, 3) := by decide +kernel
theorem dX4_countOf_97 : decode cX4_countOf 97 = .ok (.ireturn, 1) := by decide +kernel
theorem dX4_countOf_98 : decode cX4_countOf 98 = .ok (.aload_n 0, 1) := by decide +kernel
theorem dX4_countOf_99 : decode cX4_countOf 99 = .ok (.getfield 83, 3) := by decide +kernel
theorem dX4_countOf_102 : decode cX4_countOf 102 = .ok (.ireturn, 1) := by decide +kernel
theorem dX4_countOf_103 : decode cX4_countOf 103 = .ok (.aload_n 0, 1) := by decide +kernel
theorem dX4_countOf_104 : decode cX4_countOf 104 = .ok (.getfield 44, 3) := by decide +kernel
theorem dX4_countOf_107 : decode cX4_countOf 107 = .ok (.ireturn, 1) := by decide +kernel
theorem dX4_countOf_108 : decode cX4_countOf 108 = .ok (.aload_n 0, 1) := by decide +kernel
theorem dX4_countOf_109 : decode cX4_countOf 109 = .ok (.getfield 86, 3) := by decide +kernel
theorem dX4_countOf_112 : decode cX4_countOf 112 = .ok (.ireturn, 1) := by decide +kernel
theorem dX4_countOf_113 : decode cX4_countOf 113 = .ok (.bipush (-102), 2) := by decide +kernel
theorem dX4_countOf_115 : decode cX4_countOf 115 = .ok (.ireturn, 1) := by decide +kernel
theorem dX4_count_0 : decode cX4_count 0 = .ok (.aload_n 0, 1) := by decide +kernel
theorem dX4_count_1 : decode cX4_count 1 = .ok (.iload_n 1, 1) := by decide +kernel
theorem dX4_count_2 : decode cX4_count 2 = .ok (.invokevirtual 204, 3) := by decide +kernel
theorem dX4_count_5 : decode cX4_count 5 = .ok (.ireturn, 1) := by decide +kernel
theorem dX4_say_0 : decode cX4_say 0 = .ok (.aload_n 0, 1) := by decide +kernel
theorem dX4_say_1 : decode cX4_say 1 = .ok (.ldc2_w 207, 3) := by decide +kernel
theorem dX4_say_4 : decode cX4_say 4 = .ok (.aload_n 0, 1) := by decide +kernel
theorem dX4_say_5 : decode cX4_say 5 = .ok (.getfield 209, 3) := by decide +kernel
theorem dX4_say_8 : decode cX4_say 8 = .ok (.lmul, 1) := by decide +kernel
theorem dX4_say_9 : decode cX4_say 9 = .ok (.lload_n 1, 1) := by decide +kernel
theorem dX4_say_10 : decode cX4_say 10 = .ok (.ladd, 1) := by decide +kernel
theorem dX4_say_11 : decode cX4_say 11 = .ok (.putfield 209, 3) := by decide +kernel
theorem dX4_say_14 : decode cX4_say 14 = .ok (.return_, 1) := by decide +kernel
theorem dX4_sayTown_0 : decode cX4_sayTown 0 = .ok (.iconst 0, 1) := by decide +kernel
theorem dX4_sayTown_1 : decode cX4_sayTown 1 = .ok (.istore_n 1, 1) := by decide +kernel
theorem dX4_sayTown_2 : decode cX4_sayTown 2 = .ok (.iload_n 1, 1) := by decide +kernel
theorem dX4_sayTown_3 : decode cX4_sayTown 3 = .ok (.bipush 6, 2) := by decide +kernel
theorem dX4_sayTown_5 : decode cX4_sayTown 5 = .ok (.if_icmp .ge 35, 3) := by decide +kernel
theorem dX4_sayTown_8 : decode cX4_sayTown 8 = .ok (.aload_n 0, 1) := by decide +kernel
theorem dX4_sayTown_9 : decode cX4_sayTown 9 = .ok (.aload_n 0, 1) := by decide +kernel
theorem dX4_sayTown_10 : decode cX4_sayTown 10 = .ok (.getfield 13, 3) := by decide +kernel
theorem dX4_sayTown_13 : decode cX4_sayTown 13 = .ok (.iload_n 1, 1) := by decide +kernel
theorem dX4_sayTown_14 : decode cX4_sayTown 14 = .ok (.iaload, 1) := by decide +kernel
theorem dX4_sayTown_15 : decode cX4_sayTown 15 = .ok (.i2l, 1) := by decide +kernel
theorem dX4_sayTown_16 : decode cX4_sayTown 16 = .ok (.invokevirtual 213, 3) := by decide +kernel
theorem dX4_sayTown_19 : decode cX4_sayTown 19 = .ok (.aload_n 0, 1) := by decide +kernel
theorem dX4_sayTown_20 : decode cX4_sayTown 20 = .ok (.aload_n 0, 1) := by decide +kernel
theorem dX4_sayTown_21 : decode cX4_sayTown 21 = .ok (.iload_n 1, 1) := by decide +kernel
theorem dX4_sayTown_22 : decode cX4_sayTown 22 = .ok (.iconst 5, 1) := by decide +kernel
theorem dX4_sayTown_23 : decode cX4_sayTown 23 = .ok (.aload_n 0, 1) := by decide +kernel
theorem dX4_sayTown_24 : decode cX4_sayTown 24 = .ok (.getfield 71, 3) := by decide +kernel
theorem dX4_sayTown_27 : decode cX4_sayTown 27 = .ok (.invokevirtual 130, 3) := by decide +kernel
theorem dX4_sayTown_30 : decode cX4_sayTown 30 = .ok (.i2l, 1) := by decide +kernel
theorem dX4_sayTown_31 : decode cX4_sayTown 31 = .ok (.invokevirtual 213, 3) := by decide +kernel
theorem dX4_sayTown_34 : decode cX4_sayTown 34 = .ok (.iinc 1 1, 3) := by decide +kernel
theorem dX4_sayTown_37 : decode cX4_sayTown 37 = .ok (.goto (-35), 3) := by decide +kernel
theorem dX4_sayTown_40 : decode cX4_sayTown 40 = .ok (.aload_n 0, 1) := by decide +kernel
theorem dX4_sayTown_41 : decode cX4_sayTown 41 = .ok (.aload_n 0, 1) := by decide +kernel
theorem dX4_sayTown_42 : decode cX4_sayTown 42 = .ok (.iconst 0, 1) := by decide +kernel
theorem dX4_sayTown_43 : decode cX4_sayTown 43 = .ok (.invokevirtual 133, 3) := by decide +kernel
theorem dX4_sayTown_46 : decode cX4_sayTown 46 = .ok (.i2l, 1) := by decide +kernel
theorem dX4_sayTown_47 : decode cX4_sayTown 47 = .ok (.invokevirtual 213, 3) := by decide +kernel
theorem dX4_sayTown_50 : decode cX4_sayTown 50 = .ok (.aload_n 0, 1) := by decide +kernel
theorem dX4_sayTown_51 : decode cX4_sayTown 51 = .ok (.aload_n 0, 1) := by decide +kernel
theorem dX4_sayTown_52 : decode cX4_sayTown 52 = .ok (.iconst 1, 1) := by decide +kernel
theorem dX4_sayTown_53 : decode cX4_sayTown 53 = .ok (.invokevirtual 133, 3) := by decide +kernel
theorem dX4_sayTown_56 : decode cX4_sayTown 56 = .ok (.i2l, 1) := by decide +kernel
theorem dX4_sayTown_57 : decode cX4_sayTown 57 = .ok (.invokevirtual 213, 3) := by decide +kernel
theorem dX4_sayTown_60 : decode cX4_sayTown 60 = .ok (.aload_n 0, 1) := by decide +kernel
theorem dX4_sayTown_61 : decode cX4_sayTown 61 = .ok (.aload_n 0, 1) := by decide +kernel
theorem dX4_sayTown_62 : decode cX4_sayTown 62 = .ok (.aload_n 0, 1) := by decide +kernel
theorem dX4_sayTown_63 : decode cX4_sayTown 63 = .ok (.invokevirtual 120, 3) := by decide +kernel
theorem dX4_sayTown_66 : decode cX4_sayTown 66 = .ok (.iconst 0, 1) := by decide +kernel
theorem dX4_sayTown_67 : decode cX4_sayTown 67 = .ok (.invokevirtual 144, 3) := by decide +kernel
theorem dX4_sayTown_70 : decode cX4_sayTown 70 = .ok (.i2l, 1) := by decide +kernel
theorem dX4_sayTown_71 : decode cX4_sayTown 71 = .ok (.invokevirtual 213, 3) := by decide +kernel
theorem dX4_sayTown_74 : decode cX4_sayTown 74 = .ok (.bipush 10, 2) := by decide +kernel
theorem dX4_sayTown_76 : decode cX4_sayTown 76 = .ok (.istore_n 1, 1) := by decide +kernel
theorem dX4_sayTown_77 : decode cX4_sayTown 77 = .ok (.iload_n 1, 1) := by decide +kernel
theorem dX4_sayTown_78 : decode cX4_sayTown 78 = .ok (.bipush 13, 2) := by decide +kernel
theorem dX4_sayTown_80 : decode cX4_sayTown 80 = .ok (.if_icmp .ge 23, 3) := by decide +kernel
theorem dX4_sayTown_83 : decode cX4_sayTown 83 = .ok (.aload_n 0, 1) := by decide +kernel
theorem dX4_sayTown_84 : decode cX4_sayTown 84 = .ok (.aload_n 0, 1) := by decide +kernel
theorem dX4_sayTown_85 : decode cX4_sayTown 85 = .ok (.aload_n 0, 1) := by decide +kernel
theorem dX4_sayTown_86 : decode cX4_sayTown 86 = .ok (.invokevirtual 120, 3) := by decide +kernel
theorem dX4_sayTown_89 : decode cX4_sayTown 89 = .ok (.iload_n 1, 1) := by decide +kernel
theorem dX4_sayTown_90 : decode cX4_sayTown 90 = .ok (.invokevirtual 144, 3) := by decide +kernel
theorem dX4_sayTown_93 : decode cX4_sayTown 93 = .ok (.i2l, 1) := by decide +kernel
theorem dX4_sayTown_94 : decode cX4_sayTown 94 = .ok (.invokevirtual 213, 3) := by decide +kernel
theorem dX4_sayTown_97 : decode cX4_sayTown 97 = .ok (.iinc 1 1, 3) := by decide +kernel
theorem dX4_sayTown_100 : decode cX4_sayTown 100 = .ok (.goto (-23), 3) := by decide +kernel
theorem dX4_sayTown_103 : decode cX4_sayTown 103 = .ok (.aload_n 0, 1) := by decide +kernel
theorem dX4_sayTown_104 : decode cX4_sayTown 104 = .ok (.aload_n 0, 1) := by decide +kernel
theorem dX4_sayTown_105 : decode cX4_sayTown 105 = .ok (.iconst 0, 1) := by decide +kernel
theorem dX4_sayTown_106 : decode cX4_sayTown 106 = .ok (.invokevirtual 156, 3) := by decide +kernel
theorem dX4_sayTown_109 : decode cX4_sayTown 109 = .ok (.i2l, 1) := by decide +kernel
theorem dX4_sayTown_110 : decode cX4_sayTown 110 = .ok (.invokevirtual 213, 3) := by decide +kernel
theorem dX4_sayTown_113 : decode cX4_sayTown 113 = .ok (.aload_n 0, 1) := by decide +kernel
theorem dX4_sayTown_114 : decode cX4_sayTown 114 = .ok (.aload_n 0, 1) := by decide +kernel
theorem dX4_sayTown_115 : decode cX4_sayTown 115 = .ok (.iconst 1, 1) := by decide +kernel
theorem dX4_sayTown_116 : decode cX4_sayTown 116 = .ok (.invokevirtual 156, 3) := by decide +kernel
theorem dX4_sayTown_119 : decode cX4_sayTown 119 = .ok (.i2l, 1) := by decide +kernel
theorem dX4_sayTown_120 : decode cX4_sayTown 120 = .ok (.invokevirtual 213, 3) := by decide +kernel
theorem dX4_sayTown_123 : decode cX4_sayTown 123 = .ok (.aload_n 0, 1) := by decide +kernel
theorem dX4_sayTown_124 : decode cX4_sayTown 124 = .ok (.aload_n 0, 1) := by decide +kernel
theorem dX4_sayTown_125 : decode cX4_sayTown 125 = .ok (.invokevirtual 159, 3) := by decide +kernel
theorem dX4_sayTown_128 : decode cX4_sayTown 128 = .ok (.i2l, 1) := by decide +kernel
theorem dX4_sayTown_129 : decode cX4_sayTown 129 = .ok (.invokevirtual 213, 3) := by decide +kernel
theorem dX4_sayTown_132 : decode cX4_sayTown 132 = .ok (.return_, 1) := by decide +kernel
theorem dX4_digest_0 : decode cX4_digest 0 = .ok (.aload_n 0, 1) := by decide +kernel
theorem dX4_digest_1 : decode cX4_digest 1 = .ok (.ldc2_w 217, 3) := by decide +kernel
theorem dX4_digest_4 : decode cX4_digest 4 = .ok (.putfield 209, 3) := by decide +kernel
theorem dX4_digest_7 : decode cX4_digest 7 = .ok (.iconst 0, 1) := by decide +kernel
theorem dX4_digest_8 : decode cX4_digest 8 = .ok (.istore_n 1, 1) := by decide +kernel
theorem dX4_digest_9 : decode cX4_digest 9 = .ok (.iload_n 1, 1) := by decide +kernel
theorem dX4_digest_10 : decode cX4_digest 10 = .ok (.aload_n 0, 1) := by decide +kernel
theorem dX4_digest_11 : decode cX4_digest 11 = .ok (.getfield 80, 3) := by decide +kernel
theorem dX4_digest_14 : decode cX4_digest 14 = .ok (.if_icmp .ge 62, 3) := by decide +kernel
theorem dX4_digest_17 : decode cX4_digest 17 = .ok (.iconst 0, 1) := by decide +kernel
theorem dX4_digest_18 : decode cX4_digest 18 = .ok (.istore_n 2, 1) := by decide +kernel
theorem dX4_digest_19 : decode cX4_digest 19 = .ok (.iload_n 2, 1) := by decide +kernel
theorem dX4_digest_20 : decode cX4_digest 20 = .ok (.bipush 6, 2) := by decide +kernel
theorem dX4_digest_22 : decode cX4_digest 22 = .ok (.if_icmp .ge 20, 3) := by decide +kernel
theorem dX4_digest_25 : decode cX4_digest 25 = .ok (.aload_n 0, 1) := by decide +kernel
theorem dX4_digest_26 : decode cX4_digest 26 = .ok (.aload_n 0, 1) := by decide +kernel
theorem dX4_digest_27 : decode cX4_digest 27 = .ok (.iload_n 1, 1) := by decide +kernel
theorem dX4_digest_28 : decode cX4_digest 28 = .ok (.iload_n 2, 1) := by decide +kernel
theorem dX4_digest_29 : decode cX4_digest 29 = .ok (.invokevirtual 116, 3) := by decide +kernel
theorem dX4_digest_32 : decode cX4_digest 32 = .ok (.i2l, 1) := by decide +kernel
theorem dX4_digest_33 : decode cX4_digest 33 = .ok (.invokevirtual 213, 3) := by decide +kernel
theorem dX4_digest_36 : decode cX4_digest 36 = .ok (.iinc 2 1, 3) := by decide +kernel
theorem dX4_digest_39 : decode cX4_digest 39 = .ok (.goto (-20), 3) := by decide +kernel
theorem dX4_digest_42 : decode cX4_digest 42 = .ok (.aload_n 0, 1) := by decide +kernel
theorem dX4_digest_43 : decode cX4_digest 43 = .ok (.aload_n 0, 1) := by decide +kernel
theorem dX4_digest_44 : decode cX4_digest 44 = .ok (.iload_n 1, 1) := by decide +kernel
theorem dX4_digest_45 : decode cX4_digest 45 = .ok (.iconst 2, 1) := by decide +kernel
theorem dX4_digest_46 : decode cX4_digest 46 = .ok (.bipush 9, 2) := by decide +kernel
theorem dX4_digest_48 : decode cX4_digest 48 = .ok (.iconst 0, 1) := by decide +kernel
theorem dX4_digest_49 : decode cX4_digest 49 = .ok (.invokevirtual 150, 3) := by decide +kernel
theorem dX4_digest_52 : decode cX4_digest 52 = .ok (.i2l, 1) := by decide +kernel
theorem dX4_digest_53 : decode cX4_digest 53 = .ok (.invokevirtual 213, 3) := by decide +kernel
theorem dX4_digest_56 : decode cX4_digest 56 = .ok (.aload_n 0, 1) := by decide +kernel
theorem dX4_digest_57 : decode cX4_digest 57 = .ok (.aload_n 0, 1) := by decide +kernel
theorem dX4_digest_58 : decode cX4_digest 58 = .ok (.iload_n 1, 1) := by decide +kernel
theorem dX4_digest_59 : decode cX4_digest 59 = .ok (.iconst 2, 1) := by decide +kernel
theorem dX4_digest_60 : decode cX4_digest 60 = .ok (.bipush 9, 2) := by decide +kernel
theorem dX4_digest_62 : decode cX4_digest 62 = .ok (.iconst 1, 1) := by decide +kernel
theorem dX4_digest_63 : decode cX4_digest 63 = .ok (.invokevirtual 150, 3) := by decide +kernel
theorem dX4_digest_66 : decode cX4_digest 66 = .ok (.i2l, 1) := by decide +kernel
theorem dX4_digest_67 : decode cX4_digest 67 = .ok (.invokevirtual 213, 3) := by decide +kernel
theorem dX4_digest_70 : decode cX4_digest 70 = .ok (.iinc 1 1, 3) := by decide +kernel
theorem dX4_digest_73 : decode cX4_digest 73 = .ok (.goto (-64), 3) := by decide +kernel
theorem dX4_digest_76 : decode cX4_digest 76 = .ok (.aload_n 0, 1) := by decide +kernel
theorem dX4_digest_77 : decode cX4_digest 77 = .ok (.invokevirtual 89, 3) := by decide +kernel
theorem dX4_digest_80 : decode cX4_digest 80 = .ok (.ifCond .ne 7, 3) := by decide +kernel
theorem dX4_digest_83 : decode cX4_digest 83 = .ok (.aload_n 0, 1) := by decide +kernel
theorem dX4_digest_84 : decode cX4_digest 84 = .ok (.invokevirtual 219, 3) := by decide +kernel
theorem dX4_digest_87 : decode cX4_digest 87 = .ok (.iconst 0, 1) := by decide +kernel
theorem dX4_digest_88 : decode cX4_digest 88 = .ok (.istore_n 1, 1) := by decide +kernel
theorem dX4_digest_89 : decode cX4_digest 89 = .ok (.iload_n 1, 1) := by decide +kernel
theorem dX4_digest_90 : decode cX4_digest 90 = .ok (.aload_n 0, 1) := by decide +kernel
theorem dX4_digest_91 : decode cX4_digest 91 = .ok (.getfield 44, 3) := by decide +kernel
theorem dX4_digest_94 : decode cX4_digest 94 = .ok (.if_icmp .ge 20, 3) := by decide +kernel
theorem dX4_digest_97 : decode cX4_digest 97 = .ok (.aload_n 0, 1) := by decide +kernel
theorem dX4_digest_98 : decode cX4_digest 98 = .ok (.aload_n 0, 1) := by decide +kernel
theorem dX4_digest_99 : decode cX4_digest 99 = .ok (.getfield 7, 3) := by decide +kernel
theorem dX4_digest_102 : decode cX4_digest 102 = .ok (.iload_n 1, 1) := by decide +kernel
theorem dX4_digest_103 : decode cX4_digest 103 = .ok (.iaload, 1) := by decide +kernel
theorem dX4_digest_104 : decode cX4_digest 104 = .ok (.i2l, 1) := by decide +kernel
theorem dX4_digest_105 : decode cX4_digest 105 = .ok (.invokevirtual 213, 3) := by decide +kernel
theorem dX4_digest_108 : decode cX4_digest 108 = .ok (.iinc 1 1, 3) := by decide +kernel
theorem dX4_digest_111 : decode cX4_digest 111 = .ok (.goto (-22), 3) := by decide +kernel
theorem dX4_digest_114 : decode cX4_digest 114 = .ok (.iconst 0, 1) := by decide +kernel
theorem dX4_digest_115 : decode cX4_digest 115 = .ok (.istore_n 1, 1) := by decide +kernel
theorem dX4_digest_116 : decode cX4_digest 116 = .ok (.iload_n 1, 1) := by decide +kernel
theorem dX4_digest_117 : decode cX4_digest 117 = .ok (.bipush 10, 2) := by decide +kernel
theorem dX4_digest_119 : decode cX4_digest 119 = .ok (.if_icmp .ge 19, 3) := by decide +kernel
theorem dX4_digest_122 : decode cX4_digest 122 = .ok (.aload_n 0, 1) := by decide +kernel
theorem dX4_digest_123 : decode cX4_digest 123 = .ok (.aload_n 0, 1) := by decide +kernel
theorem dX4_digest_124 : decode cX4_digest 124 = .ok (.iload_n 1, 1) := by decide +kernel
theorem dX4_digest_125 : decode cX4_digest 125 = .ok (.invokevirtual 204, 3) := by decide +kernel
theorem dX4_digest_128 : decode cX4_digest 128 = .ok (.i2l, 1) := by decide +kernel
theorem dX4_digest_129 : decode cX4_digest 129 = .ok (.invokevirtual 213, 3) := by decide +kernel
theorem dX4_digest_132 : decode cX4_digest 132 = .ok (.iinc 1 1, 3) := by decide +kernel
theorem dX4_digest_135 : decode cX4_digest 135 = .ok (.goto (-19), 3) := by decide +kernel
theorem dX4_digest_138 : decode cX4_digest 138 = .ok (.aload_n 0, 1) := by decide +kernel
theorem dX4_digest_139 : decode cX4_digest 139 = .ok (.getfield 209, 3) := by decide +kernel
theorem dX4_digest_142 : decode cX4_digest 142 = .ok (.lreturn, 1) := by decide +kernel
