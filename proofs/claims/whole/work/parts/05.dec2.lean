theorem dX3_init_0 : decode cX3_init 0 = .ok (.aload_n 0, 1) := by decide +kernel
theorem dX3_init_1 : decode cX3_init 1 = .ok (.invokespecial 1, 3) := by decide +kernel
theorem dX3_init_4 : decode cX3_init 4 = .ok (.aload_n 0, 1) := by decide +kernel
theorem dX3_init_5 : decode cX3_init 5 = .ok (.new 7, 3) := by decide +kernel
theorem dX3_init_8 : decode cX3_init 8 = .ok (.dup, 1) := by decide +kernel
theorem dX3_init_9 : decode cX3_init 9 = .ok (.invokespecial 9, 3) := by decide +kernel
theorem dX3_init_12 : decode cX3_init 12 = .ok (.putfield 10, 3) := by decide +kernel
theorem dX3_init_15 : decode cX3_init 15 = .ok (.aload_n 0, 1) := by decide +kernel
theorem dX3_init_16 : decode cX3_init 16 = .ok (.new 16, 3) := by decide +kernel
theorem dX3_init_19 : decode cX3_init 19 = .ok (.dup, 1) := by decide +kernel
theorem dX3_init_20 : decode cX3_init 20 = .ok (.invokespecial 18, 3) := by decide +kernel
theorem dX3_init_23 : decode cX3_init 23 = .ok (.putfield 19, 3) := by decide +kernel
theorem dX3_init_26 : decode cX3_init 26 = .ok (.aload_n 0, 1) := by decide +kernel
theorem dX3_init_27 : decode cX3_init 27 = .ok (.new 16, 3) := by decide +kernel
theorem dX3_init_30 : decode cX3_init 30 = .ok (.dup, 1) := by decide +kernel
theorem dX3_init_31 : decode cX3_init 31 = .ok (.invokespecial 18, 3) := by decide +kernel
theorem dX3_init_34 : decode cX3_init 34 = .ok (.putfield 23, 3) := by decide +kernel
theorem dX3_init_37 : decode cX3_init 37 = .ok (.aload_n 0, 1) := by decide +kernel
theorem dX3_init_38 : decode cX3_init 38 = .ok (.new 26, 3) := by decide +kernel
theorem dX3_init_41 : decode cX3_init 41 = .ok (.dup, 1) := by decide +kernel
theorem dX3_init_42 : decode cX3_init 42 = .ok (.invokespecial 28, 3) := by decide +kernel
theorem dX3_init_45 : decode cX3_init 45 = .ok (.putfield 29, 3) := by decide +kernel
theorem dX3_init_48 : decode cX3_init 48 = .ok (.aload_n 0, 1) := by decide +kernel
theorem dX3_init_49 : decode cX3_init 49 = .ok (.iconst 0, 1) := by decide +kernel
theorem dX3_init_50 : decode cX3_init 50 = .ok (.putfield 33, 3) := by decide +kernel
theorem dX3_init_53 : decode cX3_init 53 = .ok (.aload_n 0, 1) := by decide +kernel
theorem dX3_init_54 : decode cX3_init 54 = .ok (.iconst 0, 1) := by decide +kernel
theorem dX3_init_55 : decode cX3_init 55 = .ok (.putfield 37, 3) := by decide +kernel
theorem dX3_init_58 : decode cX3_init 58 = .ok (.return_, 1) := by decide +kernel
theorem dX3_letter_0 : decode cX3_letter 0 = .ok (.iload_n 1, 1) := by decide +kernel
theorem dX3_letter_1 : decode cX3_letter 1 = .ok (.iconst 1, 1) := by decide +kernel
theorem dX3_letter_2 : decode cX3_letter 2 = .ok (.if_icmp .lt 9, 3) := by decide +kernel
theorem dX3_letter_5 : decode cX3_letter 5 = .ok (.iload_n 1, 1) := by decide +kernel
theorem dX3_letter_6 : decode cX3_letter 6 = .ok (.bipush 126, 2) := by decide +kernel
theorem dX3_letter_8 : decode cX3_letter 8 = .ok (.if_icmp .le 6, 3) := by decide +kernel
theorem dX3_letter_11 : decode cX3_letter 11 = .ok (.bipush (-102), 2) := by decide +kernel
theorem dX3_letter_13 : decode cX3_letter 13 = .ok (.ireturn, 1) := by decide +kernel
theorem dX3_letter_14 : decode cX3_letter 14 = .ok (.aload_n 0, 1) := by decide +kernel
theorem dX3_letter_15 : decode cX3_letter 15 = .ok (.getfield 10, 3) := by decide +kernel
theorem dX3_letter_18 : decode cX3_letter 18 = .ok (.iload_n 1, 1) := by decide +kernel
theorem dX3_letter_19 : decode cX3_letter 19 = .ok (.invokevirtual 41, 3) := by decide +kernel
theorem dX3_letter_22 : decode cX3_letter 22 = .ok (.ireturn, 1) := by decide +kernel
theorem dX3_blank_0 : decode cX3_blank 0 = .ok (.aload_n 0, 1) := by decide +kernel
theorem dX3_blank_1 : decode cX3_blank 1 = .ok (.getfield 10, 3) := by decide +kernel
theorem dX3_blank_4 : decode cX3_blank 4 = .ok (.invokevirtual 45, 3) := by decide +kernel
theorem dX3_blank_7 : decode cX3_blank 7 = .ok (.ireturn, 1) := by decide +kernel
theorem dX3_fault_0 : decode cX3_fault 0 = .ok (.aload_n 0, 1) := by decide +kernel
theorem dX3_fault_1 : decode cX3_fault 1 = .ok (.getfield 10, 3) := by decide +kernel
theorem dX3_fault_4 : decode cX3_fault 4 = .ok (.invokevirtual 49, 3) := by decide +kernel
theorem dX3_fault_7 : decode cX3_fault 7 = .ok (.ireturn, 1) := by decide +kernel
theorem dX3_town_0 : decode cX3_town 0 = .ok (.aload_n 0, 1) := by decide +kernel
theorem dX3_town_1 : decode cX3_town 1 = .ok (.getfield 10, 3) := by decide +kernel
theorem dX3_town_4 : decode cX3_town 4 = .ok (.invokevirtual 52, 3) := by decide +kernel
theorem dX3_town_7 : decode cX3_town 7 = .ok (.ifCond .ne 6, 3) := by decide +kernel
theorem dX3_town_10 : decode cX3_town 10 = .ok (.bipush (-103), 2) := by decide +kernel
theorem dX3_town_12 : decode cX3_town 12 = .ok (.ireturn, 1) := by decide +kernel
theorem dX3_town_13 : decode cX3_town 13 = .ok (.aload_n 0, 1) := by decide +kernel
theorem dX3_town_14 : decode cX3_town 14 = .ok (.getfield 19, 3) := by decide +kernel
theorem dX3_town_17 : decode cX3_town 17 = .ok (.aload_n 0, 1) := by decide +kernel
theorem dX3_town_18 : decode cX3_town 18 = .ok (.getfield 10, 3) := by decide +kernel
theorem dX3_town_21 : decode cX3_town 21 = .ok (.invokevirtual 56, 3) := by decide +kernel
theorem dX3_town_24 : decode cX3_town 24 = .ok (.aload_n 0, 1) := by decide +kernel
theorem dX3_town_25 : decode cX3_town 25 = .ok (.getfield 10, 3) := by decide +kernel
theorem dX3_town_28 : decode cX3_town 28 = .ok (.invokevirtual 45, 3) := by decide +kernel
theorem dX3_town_31 : decode cX3_town 31 = .ok (.pop, 1) := by decide +kernel
theorem dX3_town_32 : decode cX3_town 32 = .ok (.aload_n 0, 1) := by decide +kernel
theorem dX3_town_33 : decode cX3_town 33 = .ok (.iconst 0, 1) := by decide +kernel
theorem dX3_town_34 : decode cX3_town 34 = .ok (.putfield 33, 3) := by decide +kernel
theorem dX3_town_37 : decode cX3_town 37 = .ok (.aload_n 0, 1) := by decide +kernel
theorem dX3_town_38 : decode cX3_town 38 = .ok (.dup, 1) := by decide +kernel
theorem dX3_town_39 : decode cX3_town 39 = .ok (.getfield 37, 3) := by decide +kernel
theorem dX3_town_42 : decode cX3_town 42 = .ok (.iconst 1, 1) := by decide +kernel
theorem dX3_town_43 : decode cX3_town 43 = .ok (.iadd, 1) := by decide +kernel
theorem dX3_town_44 : decode cX3_town 44 = .ok (.putfield 37, 3) := by decide +kernel
theorem dX3_town_47 : decode cX3_town 47 = .ok (.aload_n 0, 1) := by decide +kernel
theorem dX3_town_48 : decode cX3_town 48 = .ok (.getfield 19, 3) := by decide +kernel
theorem dX3_town_51 : decode cX3_town 51 = .ok (.invokevirtual 60, 3) := by decide +kernel
theorem dX3_town_54 : decode cX3_town 54 = .ok (.ireturn, 1) := by decide +kernel
theorem dX3_noise_0 : decode cX3_noise 0 = .ok (.aload_n 0, 1) := by decide +kernel
theorem dX3_noise_1 : decode cX3_noise 1 = .ok (.iload_n 1, 1) := by decide +kernel
theorem dX3_noise_2 : decode cX3_noise 2 = .ok (.invokevirtual 63, 3) := by decide +kernel
theorem dX3_noise_5 : decode cX3_noise 5 = .ok (.ifCond .eq 15, 3) := by decide +kernel
theorem dX3_noise_8 : decode cX3_noise 8 = .ok (.aload_n 0, 1) := by decide +kernel
theorem dX3_noise_9 : decode cX3_noise 9 = .ok (.getfield 19, 3) := by decide +kernel
theorem dX3_noise_12 : decode cX3_noise 12 = .ok (.getfield 67, 3) := by decide +kernel
theorem dX3_noise_15 : decode cX3_noise 15 = .ok (.iload_n 1, 1) := by decide +kernel
theorem dX3_noise_16 : decode cX3_noise 16 = .ok (.iaload, 1) := by decide +kernel
theorem dX3_noise_17 : decode cX3_noise 17 = .ok (.goto 5, 3) := by decide +kernel
theorem dX3_noise_20 : decode cX3_noise 20 = .ok (.bipush (-101), 2) := by decide +kernel
theorem dX3_noise_22 : decode cX3_noise 22 = .ok (.ireturn, 1) := by decide +kernel
theorem dX3_hum_0 : decode cX3_hum 0 = .ok (.aload_n 0, 1) := by decide +kernel
theorem dX3_hum_1 : decode cX3_hum 1 = .ok (.iload_n 1, 1) := by decide +kernel
theorem dX3_hum_2 : decode cX3_hum 2 = .ok (.invokevirtual 63, 3) := by decide +kernel
theorem dX3_hum_5 : decode cX3_hum 5 = .ok (.ifCond .ne 6, 3) := by decide +kernel
theorem dX3_hum_8 : decode cX3_hum 8 = .ok (.bipush (-101), 2) := by decide +kernel
theorem dX3_hum_10 : decode cX3_hum 10 = .ok (.ireturn, 1) := by decide +kernel
theorem dX3_hum_11 : decode cX3_hum 11 = .ok (.iload_n 2, 1) := by decide +kernel
theorem dX3_hum_12 : decode cX3_hum 12 = .ok (.ifCond .lt 9, 3) := by decide +kernel
theorem dX3_hum_15 : decode cX3_hum 15 = .ok (.iload_n 2, 1) := by decide +kernel
theorem dX3_hum_16 : decode cX3_hum 16 = .ok (.bipush 9, 2) := by decide +kernel
theorem dX3_hum_18 : decode cX3_hum 18 = .ok (.if_icmp .le 6, 3) := by decide +kernel
theorem dX3_hum_21 : decode cX3_hum 21 = .ok (.bipush (-102), 2) := by decide +kernel
theorem dX3_hum_23 : decode cX3_hum 23 = .ok (.ireturn, 1) := by decide +kernel
theorem dX3_hum_24 : decode cX3_hum 24 = .ok (.aload_n 0, 1) := by decide +kernel
theorem dX3_hum_25 : decode cX3_hum 25 = .ok (.getfield 19, 3) := by decide +kernel
theorem dX3_hum_28 : decode cX3_hum 28 = .ok (.getfield 67, 3) := by decide +kernel
theorem dX3_hum_31 : decode cX3_hum 31 = .ok (.iload_n 1, 1) := by decide +kernel
theorem dX3_hum_32 : decode cX3_hum 32 = .ok (.iaload, 1) := by decide +kernel
theorem dX3_hum_33 : decode cX3_hum 33 = .ok (.istore_n 3, 1) := by decide +kernel
theorem dX3_hum_34 : decode cX3_hum 34 = .ok (.aload_n 0, 1) := by decide +kernel
theorem dX3_hum_35 : decode cX3_hum 35 = .ok (.getfield 19, 3) := by decide +kernel
theorem dX3_hum_38 : decode cX3_hum 38 = .ok (.getfield 67, 3) := by decide +kernel
theorem dX3_hum_41 : decode cX3_hum 41 = .ok (.iload_n 1, 1) := by decide +kernel
theorem dX3_hum_42 : decode cX3_hum 42 = .ok (.iload_n 2, 1) := by decide +kernel
theorem dX3_hum_43 : decode cX3_hum 43 = .ok (.iastore, 1) := by decide +kernel
theorem dX3_hum_44 : decode cX3_hum 44 = .ok (.iload_n 3, 1) := by decide +kernel
theorem dX3_hum_45 : decode cX3_hum 45 = .ok (.ireturn, 1) := by decide +kernel
theorem dX3_listener_0 : decode cX3_listener 0 = .ok (.iload_n 1, 1) := by decide +kernel
theorem dX3_listener_1 : decode cX3_listener 1 = .ok (.invokestatic 71, 3) := by decide +kernel
theorem dX3_listener_4 : decode cX3_listener 4 = .ok (.ifCond .ne 6, 3) := by decide +kernel
theorem dX3_listener_7 : decode cX3_listener 7 = .ok (.bipush (-102), 2) := by decide +kernel
theorem dX3_listener_9 : decode cX3_listener 9 = .ok (.ireturn, 1) := by decide +kernel
theorem dX3_listener_10 : decode cX3_listener 10 = .ok (.aload_n 0, 1) := by decide +kernel
theorem dX3_listener_11 : decode cX3_listener 11 = .ok (.iload_n 2, 1) := by decide +kernel
theorem dX3_listener_12 : decode cX3_listener 12 = .ok (.invokevirtual 63, 3) := by decide +kernel
theorem dX3_listener_15 : decode cX3_listener 15 = .ok (.ifCond .ne 6, 3) := by decide +kernel
theorem dX3_listener_18 : decode cX3_listener 18 = .ok (.bipush (-101), 2) := by decide +kernel
theorem dX3_listener_20 : decode cX3_listener 20 = .ok (.ireturn, 1) := by decide +kernel
theorem dX3_listener_21 : decode cX3_listener 21 = .ok (.aload_n 0, 1) := by decide +kernel
theorem dX3_listener_22 : decode cX3_listener 22 = .ok (.getfield 19, 3) := by decide +kernel
theorem dX3_listener_25 : decode cX3_listener 25 = .ok (.iload_n 1, 1) := by decide +kernel
theorem dX3_listener_26 : decode cX3_listener 26 = .ok (.iload_n 2, 1) := by decide +kernel
theorem dX3_listener_27 : decode cX3_listener 27 = .ok (.invokevirtual 74, 3) := by decide +kernel
theorem dX3_listener_30 : decode cX3_listener 30 = .ok (.ireturn, 1) := by decide +kernel
theorem dX3_about_0 : decode cX3_about 0 = .ok (.aload_n 0, 1) := by decide +kernel
theorem dX3_about_1 : decode cX3_about 1 = .ok (.iload_n 1, 1) := by decide +kernel
theorem dX3_about_2 : decode cX3_about 2 = .ok (.invokevirtual 78, 3) := by decide +kernel
theorem dX3_about_5 : decode cX3_about 5 = .ok (.ifCond .ne 6, 3) := by decide +kernel
theorem dX3_about_8 : decode cX3_about 8 = .ok (.bipush (-101), 2) := by decide +kernel
theorem dX3_about_10 : decode cX3_about 10 = .ok (.ireturn, 1) := by decide +kernel
theorem dX3_about_11 : decode cX3_about 11 = .ok (.iload_n 2, 1) := by decide +kernel
theorem dX3_about_12 : decode cX3_about 12 = .ok (.tableswitch 111 0 5 #[40, 50, 60, 79, 91, 101], 40) := by decide +kernel
theorem dX3_about_52 : decode cX3_about 52 = .ok (.aload_n 0, 1) := by decide +kernel
theorem dX3_about_53 : decode cX3_about 53 = .ok (.getfield 19, 3) := by decide +kernel
theorem dX3_about_56 : decode cX3_about 56 = .ok (.getfield 81, 3) := by decide +kernel
theorem dX3_about_59 : decode cX3_about 59 = .ok (.iload_n 1, 1) := by decide +kernel
theorem dX3_about_60 : decode cX3_about 60 = .ok (.iaload, 1) := by decide +kernel
theorem dX3_about_61 : decode cX3_about 61 = .ok (.ireturn, 1) := by decide +kernel
theorem dX3_about_62 : decode cX3_about 62 = .ok (.aload_n 0, 1) := by decide +kernel
theorem dX3_about_63 : decode cX3_about 63 = .ok (.getfield 19, 3) := by decide +kernel
theorem dX3_about_66 : decode cX3_about 66 = .ok (.getfield 84, 3) := by decide +kernel
theorem dX3_about_69 : decode cX3_about 69 = .ok (.iload_n 1, 1) := by decide +kernel
theorem dX3_about_70 : decode cX3_about 70 = .ok (.iaload, 1) := by decide +kernel
theorem dX3_about_71 : decode cX3_about 71 = .ok (.ireturn, 1) := by decide +kernel
theorem dX3_about_72 : decode cX3_about 72 = .ok (.aload_n 0, 1) := by decide +kernel
theorem dX3_about_73 : decode cX3_about 73 = .ok (.getfield 19, 3) := by decide +kernel
theorem dX3_about_76 : decode cX3_about 76 = .ok (.aload_n 0, 1) := by decide +kernel
theorem dX3_about_77 : decode cX3_about 77 = .ok (.getfield 19, 3) := by decide +kernel
theorem dX3_about_80 : decode cX3_about 80 = .ok (.getfield 87, 3) := by decide +kernel
theorem dX3_about_83 : decode cX3_about 83 = .ok (.invokevirtual 90, 3) := by decide +kernel
theorem dX3_about_86 : decode cX3_about 86 = .ok (.iload_n 1, 1) := by decide +kernel
theorem dX3_about_87 : decode cX3_about 87 = .ok (.invokestatic 93, 3) := by decide +kernel
theorem dX3_about_90 : decode cX3_about 90 = .ok (.ireturn, 1) := by decide +kernel
theorem dX3_about_91 : decode cX3_about 91 = .ok (.aload_n 0, 1) := by decide +kernel
theorem dX3_about_92 : decode cX3_about 92 = .ok (.getfield 19, 3) := by decide +kernel
theorem dX3_about_95 : decode cX3_about 95 = .ok (.getfield 87, 3) := by decide +kernel
theorem dX3_about_98 : decode cX3_about 98 = .ok (.iload_n 1, 1) := by decide +kernel
theorem dX3_about_99 : decode cX3_about 99 = .ok (.invokestatic 93, 3) := by decide +kernel
theorem dX3_about_102 : decode cX3_about 102 = .ok (.ireturn, 1) := by decide +kernel
theorem dX3_about_103 : decode cX3_about 103 = .ok (.aload_n 0, 1) := by decide +kernel
theorem dX3_about_104 : decode cX3_about 104 = .ok (.getfield 19, 3) := by decide +kernel
theorem dX3_about_107 : decode cX3_about 107 = .ok (.getfield 96, 3) := by decide +kernel
theorem dX3_about_110 : decode cX3_about 110 = .ok (.iload_n 1, 1) := by decide +kernel
theorem dX3_about_111 : decode cX3_about 111 = .ok (.iaload, 1) := by decide +kernel
theorem dX3_about_112 : decode cX3_about 112 = .ok (.ireturn, 1) := by decide +kernel
theorem dX3_about_113 : decode cX3_about 113 = .ok (.aload_n 0, 1) := by decide +kernel
theorem dX3_about_114 : decode cX3_about 114 = .ok (.getfield 19, 3) := by decide +kernel
theorem dX3_about_117 : decode cX3_about 117 = .ok (.getfield 99, 3) := by decide +kernel
theorem dX3_about_120 : decode cX3_about 120 = .ok (.iload_n 1, 1) := by decide +kernel
theorem dX3_about_121 : decode cX3_about 121 = .ok (.iaload, 1) := by decide +kernel
theorem dX3_about_122 : decode cX3_about 122 = .ok (.ireturn, 1) := by decide +kernel
theorem dX3_about_123 : decode cX3_about 123 = .ok (.bipush (-102), 2) := by decide +kernel
theorem dX3_about_125 : decode cX3_about 125 = .ok (.ireturn, 1) := by decide +kernel
theorem dX3_as_0 : decode cX3_as 0 = .ok (.aload_n 0, 1) := by decide +kernel
theorem dX3_as_1 : decode cX3_as 1 = .ok (.iload_n 1, 1) := by decide +kernel
theorem dX3_as_2 : decode cX3_as 2 = .ok (.invokevirtual 78, 3) := by decide +kernel
theorem dX3_as_5 : decode cX3_as 5 = .ok (.ifCond .ne 6, 3) := by decide +kernel
theorem dX3_as_8 : decode cX3_as 8 = .ok (.bipush (-101), 2) := by decide +kernel
theorem dX3_as_10 : decode cX3_as 10 = .ok (.ireturn, 1) := by decide +kernel
theorem dX3_as_11 : decode cX3_as 11 = .ok (.iload_n 2, 1) := by decide +kernel
theorem dX3_as_12 : decode cX3_as 12 = .ok (.invokestatic 71, 3) := by decide +kernel
theorem dX3_as_15 : decode cX3_as 15 = .ok (.ifCond .ne 6, 3) := by decide +kernel
theorem dX3_as_18 : decode cX3_as 18 = .ok (.bipush (-102), 2) := by decide +kernel
theorem dX3_as_20 : decode cX3_as 20 = .ok (.ireturn, 1) := by decide +kernel
theorem dX3_as_21 : decode cX3_as 21 = .ok (.aload_n 0, 1) := by decide +kernel
theorem dX3_as_22 : decode cX3_as 22 = .ok (.getfield 19, 3) := by decide +kernel
theorem dX3_as_25 : decode cX3_as 25 = .ok (.getfield 81, 3) := by decide +kernel
theorem dX3_as_28 : decode cX3_as 28 = .ok (.iload_n 1, 1) := by decide +kernel
theorem dX3_as_29 : decode cX3_as 29 = .ok (.iaload, 1) := by decide +kernel
theorem dX3_as_30 : decode cX3_as 30 = .ok (.iload_n 2, 1) := by decide +kernel
theorem dX3_as_31 : decode cX3_as 31 = .ok (.invokestatic 102, 3) := by decide +kernel
theorem dX3_as_34 : decode cX3_as 34 = .ok (.ifCond .eq 7, 3) := by decide +kernel
theorem dX3_as_37 : decode cX3_as 37 = .ok (.iload_n 1, 1) := by decide +kernel
theorem dX3_as_38 : decode cX3_as 38 = .ok (.goto 4, 3) := by decide +kernel
theorem dX3_as_41 : decode cX3_as 41 = .ok (.iconst (-1), 1) := by decide +kernel
theorem dX3_as_42 : decode cX3_as 42 = .ok (.ireturn, 1) := by decide +kernel
theorem dX3_move_0 : decode cX3_move 0 = .ok (.aload_n 0, 1) := by decide +kernel
theorem dX3_move_1 : decode cX3_move 1 = .ok (.iload_n 1, 1) := by decide +kernel
theorem dX3_move_2 : decode cX3_move 2 = .ok (.invokevirtual 78, 3) := by decide +kernel
theorem dX3_move_5 : decode cX3_move 5 = .ok (.ifCond .eq 11, 3) := by decide +kernel
theorem dX3_move_8 : decode cX3_move 8 = .ok (.aload_n 0, 1) := by decide +kernel
theorem dX3_move_9 : decode cX3_move 9 = .ok (.iload_n 2, 1) := by decide +kernel
theorem dX3_move_10 : decode cX3_move 10 = .ok (.invokevirtual 63, 3) := by decide +kernel
theorem dX3_move_13 : decode cX3_move 13 = .ok (.ifCond .ne 6, 3) := by decide +kernel
theorem dX3_move_16 : decode cX3_move 16 = .ok (.bipush (-101), 2) := by decide +kernel
theorem dX3_move_18 : decode cX3_move 18 = .ok (.ireturn, 1) := by decide +kernel
theorem dX3_move_19 : decode cX3_move 19 = .ok (.aload_n 0, 1) := by decide +kernel
theorem dX3_move_20 : decode cX3_move 20 = .ok (.getfield 19, 3) := by decide +kernel
theorem dX3_move_23 : decode cX3_move 23 = .ok (.getfield 84, 3) := by decide +kernel
theorem dX3_move_26 : decode cX3_move 26 = .ok (.iload_n 1, 1) := by decide +kernel
theorem dX3_move_27 : decode cX3_move 27 = .ok (.iaload, 1) := by decide +kernel
theorem dX3_move_28 : decode cX3_move 28 = .ok (.istore_n 3, 1) := by decide +kernel
theorem dX3_move_29 : decode cX3_move 29 = .ok (.aload_n 0, 1) := by decide +kernel
theorem dX3_move_30 : decode cX3_move 30 = .ok (.getfield 19, 3) := by decide +kernel
theorem dX3_move_33 : decode cX3_move 33 = .ok (.getfield 84, 3) := by decide +kernel
theorem dX3_move_36 : decode cX3_move 36 = .ok (.iload_n 1, 1) := by decide +kernel
theorem dX3_move_37 : decode cX3_move 37 = .ok (.iload_n 2, 1) := by decide +kernel
theorem dX3_move_38 : decode cX3_move 38 = .ok (.iastore, 1) := by decide +kernel
theorem dX3_move_39 : decode cX3_move 39 = .ok (.iload_n 3, 1) := by decide +kernel
theorem dX3_move_40 : decode cX3_move 40 = .ok (.ireturn, 1) := by decide +kernel
theorem dX3_cry_0 : decode cX3_cry 0 = .ok (.aload_n 0, 1) := by decide +kernel
theorem dX3_cry_1 : decode cX3_cry 1 = .ok (.iload_n 1, 1) := by decide +kernel
theorem dX3_cry_2 : decode cX3_cry 2 = .ok (.invokevirtual 63, 3) := by decide +kernel
theorem dX3_cry_5 : decode cX3_cry 5 = .ok (.ifCond .ne 6, 3) := by decide +kernel
theorem dX3_cry_8 : decode cX3_cry 8 = .ok (.bipush (-101), 2) := by decide +kernel
theorem dX3_cry_10 : decode cX3_cry 10 = .ok (.ireturn, 1) := by decide +kernel
theorem dX3_cry_11 : decode cX3_cry 11 = .ok (.iload_n 2, 1) := by decide +kernel
theorem dX3_cry_12 : decode cX3_cry 12 = .ok (.invokestatic 106, 3) := by decide +kernel
theorem dX3_cry_15 : decode cX3_cry 15 = .ok (.ifCond .ne 6, 3) := by decide +kernel
theorem dX3_cry_18 : decode cX3_cry 18 = .ok (.bipush (-102), 2) := by decide +kernel
theorem dX3_cry_20 : decode cX3_cry 20 = .ok (.ireturn, 1) := by decide +kernel
theorem dX3_cry_21 : decode cX3_cry 21 = .ok (.aload_n 0, 1) := by decide +kernel
theorem dX3_cry_22 : decode cX3_cry 22 = .ok (.getfield 19, 3) := by decide +kernel
theorem dX3_cry_25 : decode cX3_cry 25 = .ok (.getfield 109, 3) := by decide +kernel
theorem dX3_cry_28 : decode cX3_cry 28 = .ok (.iload_n 2, 1) := by decide +kernel
theorem dX3_cry_29 : decode cX3_cry 29 = .ok (.if_icmp .ge 8, 3) := by decide +kernel
theorem dX3_cry_32 : decode cX3_cry 32 = .ok (.bipush (-103), 2) := by decide +kernel
theorem dX3_cry_34 : decode cX3_cry 34 = .ok (.goto 12, 3) := by decide +kernel
theorem dX3_cry_37 : decode cX3_cry 37 = .ok (.aload_n 0, 1) := by decide +kernel
theorem dX3_cry_38 : decode cX3_cry 38 = .ok (.getfield 19, 3) := by decide +kernel
theorem dX3_cry_41 : decode cX3_cry 41 = .ok (.iload_n 1, 1) := by decide +kernel
theorem dX3_cry_42 : decode cX3_cry 42 = .ok (.iload_n 2, 1) := by decide +kernel
theorem dX3_cry_43 : decode cX3_cry 43 = .ok (.invokevirtual 112, 3) := by decide +kernel
theorem dX3_cry_46 : decode cX3_cry 46 = .ok (.ireturn, 1) := by decide +kernel
theorem dX3_would_0 : decode cX3_would 0 = .ok (.aload_n 0, 1) := by decide +kernel
theorem dX3_would_1 : decode cX3_would 1 = .ok (.iload_n 1, 1) := by decide +kernel
theorem dX3_would_2 : decode cX3_would 2 = .ok (.invokevirtual 63, 3) := by decide +kernel
theorem dX3_would_5 : decode cX3_would 5 = .ok (.ifCond .ne 6, 3) := by decide +kernel
theorem dX3_would_8 : decode cX3_would 8 = .ok (.bipush (-101), 2) := by decide +kernel
theorem dX3_would_10 : decode cX3_would 10 = .ok (.ireturn, 1) := by decide +kernel
theorem dX3_would_11 : decode cX3_would 11 = .ok (.iload_n 2, 1) := by decide +kernel
theorem dX3_would_12 : decode cX3_would 12 = .ok (.invokestatic 106, 3) := by decide +kernel
theorem dX3_would_15 : decode cX3_would 15 = .ok (.ifCond .ne 6, 3) := by decide +kernel
theorem dX3_would_18 : decode cX3_would 18 = .ok (.bipush (-102), 2) := by decide +kernel
theorem dX3_would_20 : decode cX3_would 20 = .ok (.ireturn, 1) := by decide +kernel
theorem dX3_would_21 : decode cX3_would 21 = .ok (.aload_n 0, 1) := by decide +kernel
theorem dX3_would_22 : decode cX3_would 22 = .ok (.getfield 19, 3) := by decide +kernel
theorem dX3_would_25 : decode cX3_would 25 = .ok (.aload_n 0, 1) := by decide +kernel
theorem dX3_would_26 : decode cX3_would 26 = .ok (.getfield 19, 3) := by decide +kernel
theorem dX3_would_29 : decode cX3_would 29 = .ok (.aload_n 0, 1) := by decide +kernel
theorem dX3_would_30 : decode cX3_would 30 = .ok (.getfield 19, 3) := by decide +kernel
theorem dX3_would_33 : decode cX3_would 33 = .ok (.getfield 87, 3) := by decide +kernel
theorem dX3_would_36 : decode cX3_would 36 = .ok (.iload_n 1, 1) := by decide +kernel
theorem dX3_would_37 : decode cX3_would 37 = .ok (.iload_n 2, 1) := by decide +kernel
theorem dX3_would_38 : decode cX3_would 38 = .ok (.iconst 0, 1) := by decide +kernel
theorem dX3_would_39 : decode cX3_would 39 = .ok (.invokevirtual 115, 3) := by decide +kernel
theorem dX3_would_42 : decode cX3_would 42 = .ok (.invokevirtual 90, 3) := by decide +kernel
theorem dX3_would_45 : decode cX3_would 45 = .ok (.ireturn, 1) := by decide +kernel
theorem dX3_honey_0 : decode cX3_honey 0 = .ok (.aload_n 0, 1) := by decide +kernel
theorem dX3_honey_1 : decode cX3_honey 1 = .ok (.invokevirtual 119, 3) := by decide +kernel
theorem dX3_honey_4 : decode cX3_honey 4 = .ok (.ifCond .eq 13, 3) := by decide +kernel
theorem dX3_honey_7 : decode cX3_honey 7 = .ok (.aload_n 0, 1) := by decide +kernel
theorem dX3_honey_8 : decode cX3_honey 8 = .ok (.getfield 19, 3) := by decide +kernel
theorem dX3_honey_11 : decode cX3_honey 11 = .ok (.invokevirtual 122, 3) := by decide +kernel
theorem dX3_honey_14 : decode cX3_honey 14 = .ok (.goto 5, 3) := by decide +kernel
theorem dX3_honey_17 : decode cX3_honey 17 = .ok (.bipush (-103), 2) := by decide +kernel
theorem dX3_honey_19 : decode cX3_honey 19 = .ok (.ireturn, 1) := by decide +kernel
theorem dX3_day_0 : decode cX3_day 0 = .ok (.aload_n 0, 1) := by decide +kernel
theorem dX3_day_1 : decode cX3_day 1 = .ok (.invokevirtual 119, 3) := by decide +kernel
theorem dX3_day_4 : decode cX3_day 4 = .ok (.ifCond .eq 13, 3) := by decide +kernel
theorem dX3_day_7 : decode cX3_day 7 = .ok (.aload_n 0, 1) := by decide +kernel
theorem dX3_day_8 : decode cX3_day 8 = .ok (.getfield 19, 3) := by decide +kernel
theorem dX3_day_11 : decode cX3_day 11 = .ok (.invokevirtual 125, 3) := by decide +kernel
theorem dX3_day_14 : decode cX3_day 14 = .ok (.goto 5, 3) := by decide +kernel
theorem dX3_day_17 : decode cX3_day 17 = .ok (.bipush (-103), 2) := by decide +kernel
theorem dX3_day_19 : decode cX3_day 19 = .ok (.ireturn, 1) := by decide +kernel
theorem dX3_decree_0 : decode cX3_decree 0 = .ok (.aload_n 0, 1) := by decide +kernel
theorem dX3_decree_1 : decode cX3_decree 1 = .ok (.invokevirtual 119, 3) := by decide +kernel
theorem dX3_decree_4 : decode cX3_decree 4 = .ok (.ifCond .eq 13, 3) := by decide +kernel
theorem dX3_decree_7 : decode cX3_decree 7 = .ok (.aload_n 0, 1) := by decide +kernel
theorem dX3_decree_8 : decode cX3_decree 8 = .ok (.getfield 19, 3) := by decide +kernel
theorem dX3_decree_11 : decode cX3_decree 11 = .ok (.invokevirtual 128, 3) := by decide +kernel
theorem dX3_decree_14 : decode cX3_decree 14 = .ok (.goto 5, 3) := by decide +kernel
theorem dX3_decree_17 : decode cX3_decree 17 = .ok (.bipush (-103), 2) := by decide +kernel
theorem dX3_decree_19 : decode cX3_decree 19 = .ok (.ireturn, 1) := by decide +kernel
theorem dX3_least_0 : decode cX3_least 0 = .ok (.iload_n 1, 1) := by decide +kernel
theorem dX3_least_1 : decode cX3_least 1 = .ok (.ifCond .lt 8, 3) := by decide +kernel
theorem dX3_least_4 : decode cX3_least 4 = .ok (.iload_n 1, 1) := by decide +kernel
theorem dX3_least_5 : decode cX3_least 5 = .ok (.iconst 1, 1) := by decide +kernel
theorem dX3_least_6 : decode cX3_least 6 = .ok (.if_icmp .le 6, 3) := by decide +kernel
theorem dX3_least_9 : decode cX3_least 9 = .ok (.bipush (-102), 2) := by decide +kernel
theorem dX3_least_11 : decode cX3_least 11 = .ok (.ireturn, 1) := by decide +kernel
theorem dX3_least_12 : decode cX3_least 12 = .ok (.aload_n 0, 1) := by decide +kernel
theorem dX3_least_13 : decode cX3_least 13 = .ok (.invokevirtual 119, 3) := by decide +kernel
theorem dX3_least_16 : decode cX3_least 16 = .ok (.ifCond .ne 6, 3) := by decide +kernel
theorem dX3_least_19 : decode cX3_least 19 = .ok (.bipush (-103), 2) := by decide +kernel
theorem dX3_least_21 : decode cX3_least 21 = .ok (.ireturn, 1) := by decide +kernel
theorem dX3_least_22 : decode cX3_least 22 = .ok (.aload_n 0, 1) := by decide +kernel
theorem dX3_least_23 : decode cX3_least 23 = .ok (.getfield 29, 3) := by decide +kernel
theorem dX3_least_26 : decode cX3_least 26 = .ok (.aload_n 0, 1) := by decide +kernel
theorem dX3_least_27 : decode cX3_least 27 = .ok (.getfield 19, 3) := by decide +kernel
theorem dX3_least_30 : decode cX3_least 30 = .ok (.invokevirtual 131, 3) := by decide +kernel
theorem dX3_least_33 : decode cX3_least 33 = .ok (.iload_n 1, 1) := by decide +kernel
theorem dX3_least_34 : decode cX3_least 34 = .ok (.ifCond .ne 13, 3) := by decide +kernel
theorem dX3_least_37 : decode cX3_least 37 = .ok (.aload_n 0, 1) := by decide +kernel
theorem dX3_least_38 : decode cX3_least 38 = .ok (.getfield 29, 3) := by decide +kernel
theorem dX3_least_41 : decode cX3_least 41 = .ok (.getfield 135, 3) := by decide +kernel
theorem dX3_least_44 : decode cX3_least 44 = .ok (.goto 10, 3) := by decide +kernel
theorem dX3_least_47 : decode cX3_least 47 = .ok (.aload_n 0, 1) := by decide +kernel
theorem dX3_least_48 : decode cX3_least 48 = .ok (.getfield 29, 3) := by decide +kernel
theorem dX3_least_51 : decode cX3_least 51 = .ok (.getfield 138, 3) := by decide +kernel
theorem dX3_least_54 : decode cX3_least 54 = .ok (.ireturn, 1) := by decide +kernel
theorem dX3_cover_0 : decode cX3_cover 0 = .ok (.iload_n 2, 1) := by decide +kernel
theorem dX3_cover_1 : decode cX3_cover 1 = .ok (.ifCond .eq 15, 3) := by decide +kernel
theorem dX3_cover_4 : decode cX3_cover 4 = .ok (.iload_n 2, 1) := by decide +kernel
theorem dX3_cover_5 : decode cX3_cover 5 = .ok (.bipush 10, 2) := by decide +kernel
theorem dX3_cover_7 : decode cX3_cover 7 = .ok (.if_icmp .lt 13, 3) := by decide +kernel
theorem dX3_cover_10 : decode cX3_cover 10 = .ok (.iload_n 2, 1) := by decide +kernel
theorem dX3_cover_11 : decode cX3_cover 11 = .ok (.bipush 12, 2) := by decide +kernel
theorem dX3_cover_13 : decode cX3_cover 13 = .ok (.if_icmp .gt 7, 3) := by decide +kernel
theorem dX3_cover_16 : decode cX3_cover 16 = .ok (.iconst 1, 1) := by decide +kernel
theorem dX3_cover_17 : decode cX3_cover 17 = .ok (.goto 4, 3) := by decide +kernel
theorem dX3_cover_20 : decode cX3_cover 20 = .ok (.iconst 0, 1) := by decide +kernel
theorem dX3_cover_21 : decode cX3_cover 21 = .ok (.istore_n 3, 1) := by decide +kernel
theorem dX3_cover_22 : decode cX3_cover 22 = .ok (.iload_n 1, 1) := by decide +kernel
theorem dX3_cover_23 : decode cX3_cover 23 = .ok (.ifCond .lt 18, 3) := by decide +kernel
theorem dX3_cover_26 : decode cX3_cover 26 = .ok (.iload_n 1, 1) := by decide +kernel
theorem dX3_cover_27 : decode cX3_cover 27 = .ok (.aload_n 0, 1) := by decide +kernel
theorem dX3_cover_28 : decode cX3_cover 28 = .ok (.getfield 19, 3) := by decide +kernel
theorem dX3_cover_31 : decode cX3_cover 31 = .ok (.invokevirtual 141, 3) := by decide +kernel
theorem dX3_cover_34 : decode cX3_cover 34 = .ok (.if_icmp .gt 7, 3) := by decide +kernel
theorem dX3_cover_37 : decode cX3_cover 37 = .ok (.iload_n 3, 1) := by decide +kernel
theorem dX3_cover_38 : decode cX3_cover 38 = .ok (.ifCond .ne 6, 3) := by decide +kernel
theorem dX3_cover_41 : decode cX3_cover 41 = .ok (.bipush (-102), 2) := by decide +kernel
theorem dX3_cover_43 : decode cX3_cover 43 = .ok (.ireturn, 1) := by decide +kernel
theorem dX3_cover_44 : decode cX3_cover 44 = .ok (.aload_n 0, 1) := by decide +kernel
theorem dX3_cover_45 : decode cX3_cover 45 = .ok (.invokevirtual 119, 3) := by decide +kernel
theorem dX3_cover_48 : decode cX3_cover 48 = .ok (.ifCond .eq 18, 3) := by decide +kernel
theorem dX3_cover_51 : decode cX3_cover 51 = .ok (.aload_n 0, 1) := by decide +kernel
theorem dX3_cover_52 : decode cX3_cover 52 = .ok (.getfield 19, 3) := by decide +kernel
theorem dX3_cover_55 : decode cX3_cover 55 = .ok (.iload_n 1, 1) := by decide +kernel
theorem dX3_cover_56 : decode cX3_cover 56 = .ok (.invokestatic 144, 3) := by decide +kernel
theorem dX3_cover_59 : decode cX3_cover 59 = .ok (.iload_n 2, 1) := by decide +kernel
theorem dX3_cover_60 : decode cX3_cover 60 = .ok (.invokestatic 148, 3) := by decide +kernel
theorem dX3_cover_63 : decode cX3_cover 63 = .ok (.goto 5, 3) := by decide +kernel
theorem dX3_cover_66 : decode cX3_cover 66 = .ok (.bipush (-103), 2) := by decide +kernel
theorem dX3_cover_68 : decode cX3_cover 68 = .ok (.ireturn, 1) := by decide +kernel
theorem dX3_hush_0 : decode cX3_hush 0 = .ok (.aload_n 0, 1) := by decide +kernel
theorem dX3_hush_1 : decode cX3_hush 1 = .ok (.iload_n 1, 1) := by decide +kernel
theorem dX3_hush_2 : decode cX3_hush 2 = .ok (.invokevirtual 78, 3) := by decide +kernel
theorem dX3_hush_5 : decode cX3_hush 5 = .ok (.ifCond .eq 11, 3) := by decide +kernel
theorem dX3_hush_8 : decode cX3_hush 8 = .ok (.aload_n 0, 1) := by decide +kernel
theorem dX3_hush_9 : decode cX3_hush 9 = .ok (.iload_n 2, 1) := by decide +kernel
theorem dX3_hush_10 : decode cX3_hush 10 = .ok (.invokevirtual 63, 3) := by decide +kernel
theorem dX3_hush_13 : decode cX3_hush 13 = .ok (.ifCond .ne 6, 3) := by decide +kernel
theorem dX3_hush_16 : decode cX3_hush 16 = .ok (.bipush (-101), 2) := by decide +kernel
theorem dX3_hush_18 : decode cX3_hush 18 = .ok (.ireturn, 1) := by decide +kernel
theorem dX3_hush_19 : decode cX3_hush 19 = .ok (.iload_n 3, 1) := by decide +kernel
theorem dX3_hush_20 : decode cX3_hush 20 = .ok (.invokestatic 106, 3) := by decide +kernel
theorem dX3_hush_23 : decode cX3_hush 23 = .ok (.ifCond .eq 14, 3) := by decide +kernel
theorem dX3_hush_26 : decode cX3_hush 26 = .ok (.iload 4, 2) := by decide +kernel
theorem dX3_hush_28 : decode cX3_hush 28 = .ok (.ifCond .lt 9, 3) := by decide +kernel
theorem dX3_hush_31 : decode cX3_hush 31 = .ok (.iload 4, 2) := by decide +kernel
theorem dX3_hush_33 : decode cX3_hush 33 = .ok (.iconst 1, 1) := by decide +kernel
theorem dX3_hush_34 : decode cX3_hush 34 = .ok (.if_icmp .le 6, 3) := by decide +kernel
theorem dX3_hush_37 : decode cX3_hush 37 = .ok (.bipush (-102), 2) := by decide +kernel
theorem dX3_hush_39 : decode cX3_hush 39 = .ok (.ireturn, 1) := by decide +kernel
theorem dX3_hush_40 : decode cX3_hush 40 = .ok (.aload_n 0, 1) := by decide +kernel
theorem dX3_hush_41 : decode cX3_hush 41 = .ok (.getfield 19, 3) := by decide +kernel
theorem dX3_hush_44 : decode cX3_hush 44 = .ok (.iload_n 1, 1) := by decide +kernel
theorem dX3_hush_45 : decode cX3_hush 45 = .ok (.iload_n 2, 1) := by decide +kernel
theorem dX3_hush_46 : decode cX3_hush 46 = .ok (.iload_n 3, 1) := by decide +kernel
theorem dX3_hush_47 : decode cX3_hush 47 = .ok (.invokestatic 151, 3) := by decide +kernel
theorem dX3_hush_50 : decode cX3_hush 50 = .ok (.istore 5, 2) := by decide +kernel
theorem dX3_hush_52 : decode cX3_hush 52 = .ok (.iload 4, 2) := by decide +kernel
theorem dX3_hush_54 : decode cX3_hush 54 = .ok (.ifCond .ne 11, 3) := by decide +kernel
theorem dX3_hush_57 : decode cX3_hush 57 = .ok (.iload 5, 2) := by decide +kernel
theorem dX3_hush_59 : decode cX3_hush 59 = .ok (.invokestatic 155, 3) := by decide +kernel
theorem dX3_hush_62 : decode cX3_hush 62 = .ok (.goto 5, 3) := by decide +kernel
theorem dX3_hush_65 : decode cX3_hush 65 = .ok (.iload 5, 2) := by decide +kernel
theorem dX3_hush_67 : decode cX3_hush 67 = .ok (.ireturn, 1) := by decide +kernel
theorem dX3_tell_0 : decode cX3_tell 0 = .ok (.aload_n 0, 1) := by decide +kernel
theorem dX3_tell_1 : decode cX3_tell 1 = .ok (.iload_n 1, 1) := by decide +kernel
theorem dX3_tell_2 : decode cX3_tell 2 = .ok (.invokevirtual 78, 3) := by decide +kernel
theorem dX3_tell_5 : decode cX3_tell 5 = .ok (.ifCond .ne 6, 3) := by decide +kernel
theorem dX3_tell_8 : decode cX3_tell 8 = .ok (.bipush (-101), 2) := by decide +kernel
theorem dX3_tell_10 : decode cX3_tell 10 = .ok (.ireturn, 1) := by decide +kernel
theorem dX3_tell_11 : decode cX3_tell 11 = .ok (.aload_n 0, 1) := by decide +kernel
theorem dX3_tell_12 : decode cX3_tell 12 = .ok (.getfield 19, 3) := by decide +kernel
theorem dX3_tell_15 : decode cX3_tell 15 = .ok (.getfield 158, 3) := by decide +kernel
theorem dX3_tell_18 : decode cX3_tell 18 = .ok (.bipush 8, 2) := by decide +kernel
theorem dX3_tell_20 : decode cX3_tell 20 = .ok (.if_icmp .lt 8, 3) := by decide +kernel
theorem dX3_tell_23 : decode cX3_tell 23 = .ok (.bipush (-104), 2) := by decide +kernel
theorem dX3_tell_25 : decode cX3_tell 25 = .ok (.goto 12, 3) := by decide +kernel
theorem dX3_tell_28 : decode cX3_tell 28 = .ok (.aload_n 0, 1) := by decide +kernel
theorem dX3_tell_29 : decode cX3_tell 29 = .ok (.getfield 19, 3) := by decide +kernel
theorem dX3_tell_32 : decode cX3_tell 32 = .ok (.iload_n 1, 1) := by decide +kernel
theorem dX3_tell_33 : decode cX3_tell 33 = .ok (.iload_n 2, 1) := by decide +kernel
theorem dX3_tell_34 : decode cX3_tell 34 = .ok (.invokevirtual 161, 3) := by decide +kernel
theorem dX3_tell_37 : decode cX3_tell 37 = .ok (.ireturn, 1) := by decide +kernel
theorem dX3_forget_0 : decode cX3_forget 0 = .ok (.aload_n 0, 1) := by decide +kernel
theorem dX3_forget_1 : decode cX3_forget 1 = .ok (.getfield 19, 3) := by decide +kernel
theorem dX3_forget_4 : decode cX3_forget 4 = .ok (.invokevirtual 165, 3) := by decide +kernel
theorem dX3_forget_7 : decode cX3_forget 7 = .ok (.ireturn, 1) := by decide +kernel
theorem dX3_where_0 : decode cX3_where 0 = .ok (.iload_n 1, 1) := by decide +kernel
theorem dX3_where_1 : decode cX3_where 1 = .ok (.ifCond .lt 8, 3) := by decide +kernel
theorem dX3_where_4 : decode cX3_where 4 = .ok (.iload_n 1, 1) := by decide +kernel
theorem dX3_where_5 : decode cX3_where 5 = .ok (.iconst 1, 1) := by decide +kernel
theorem dX3_where_6 : decode cX3_where 6 = .ok (.if_icmp .le 6, 3) := by decide +kernel
theorem dX3_where_9 : decode cX3_where 9 = .ok (.bipush (-102), 2) := by decide +kernel
theorem dX3_where_11 : decode cX3_where 11 = .ok (.ireturn, 1) := by decide +kernel
theorem dX3_where_12 : decode cX3_where 12 = .ok (.aload_n 0, 1) := by decide +kernel
theorem dX3_where_13 : decode cX3_where 13 = .ok (.invokevirtual 119, 3) := by decide +kernel
theorem dX3_where_16 : decode cX3_where 16 = .ok (.ifCond .ne 6, 3) := by decide +kernel
theorem dX3_where_19 : decode cX3_where 19 = .ok (.bipush (-103), 2) := by decide +kernel
theorem dX3_where_21 : decode cX3_where 21 = .ok (.ireturn, 1) := by decide +kernel
theorem dX3_where_22 : decode cX3_where 22 = .ok (.aload_n 0, 1) := by decide +kernel
theorem dX3_where_23 : decode cX3_where 23 = .ok (.getfield 29, 3) := by decide +kernel
theorem dX3_where_26 : decode cX3_where 26 = .ok (.aload_n 0, 1) := by decide +kernel
theorem dX3_where_27 : decode cX3_where 27 = .ok (.getfield 19, 3) := by decide +kernel
theorem dX3_where_30 : decode cX3_where 30 = .ok (.invokevirtual 168, 3) := by decide +kernel
theorem dX3_where_33 : decode cX3_where 33 = .ok (.iload_n 1, 1) := by decide +kernel
theorem dX3_where_34 : decode cX3_where 34 = .ok (.ifCond .ne 13, 3) := by decide +kernel
theorem dX3_where_37 : decode cX3_where 37 = .ok (.aload_n 0, 1) := by decide +kernel
theorem dX3_where_38 : decode cX3_where 38 = .ok (.getfield 29, 3) := by decide +kernel
theorem dX3_where_41 : decode cX3_where 41 = .ok (.getfield 171, 3) := by decide +kernel
theorem dX3_where_44 : decode cX3_where 44 = .ok (.goto 10, 3) := by decide +kernel
theorem dX3_where_47 : decode cX3_where 47 = .ok (.aload_n 0, 1) := by decide +kernel
theorem dX3_where_48 : decode cX3_where 48 = .ok (.getfield 29, 3) := by decide +kernel
theorem dX3_where_51 : decode cX3_where 51 = .ok (.getfield 174, 3) := by decide +kernel
theorem dX3_where_54 : decode cX3_where 54 = .ok (.ireturn, 1) := by decide +kernel
theorem dX3_ask_0 : decode cX3_ask 0 = .ok (.aload_n 0, 1) := by decide +kernel
theorem dX3_ask_1 : decode cX3_ask 1 = .ok (.invokevirtual 119, 3) := by decide +kernel
theorem dX3_ask_4 : decode cX3_ask 4 = .ok (.ifCond .ne 6, 3) := by decide +kernel
theorem dX3_ask_7 : decode cX3_ask 7 = .ok (.bipush (-103), 2) := by decide +kernel
theorem dX3_ask_9 : decode cX3_ask 9 = .ok (.ireturn, 1) := by decide +kernel
theorem dX3_ask_10 : decode cX3_ask 10 = .ok (.aload_n 0, 1) := by decide +kernel
theorem dX3_ask_11 : decode cX3_ask 11 = .ok (.getfield 29, 3) := by decide +kernel
theorem dX3_ask_14 : decode cX3_ask 14 = .ok (.aload_n 0, 1) := by decide +kernel
theorem dX3_ask_15 : decode cX3_ask 15 = .ok (.getfield 19, 3) := by decide +kernel
theorem dX3_ask_18 : decode cX3_ask 18 = .ok (.invokevirtual 168, 3) := by decide +kernel
theorem dX3_ask_21 : decode cX3_ask 21 = .ok (.aload_n 0, 1) := by decide +kernel
theorem dX3_ask_22 : decode cX3_ask 22 = .ok (.getfield 29, 3) := by decide +kernel
theorem dX3_ask_25 : decode cX3_ask 25 = .ok (.aload_n 0, 1) := by decide +kernel
theorem dX3_ask_26 : decode cX3_ask 26 = .ok (.getfield 19, 3) := by decide +kernel
theorem dX3_ask_29 : decode cX3_ask 29 = .ok (.getfield 177, 3) := by decide +kernel
theorem dX3_ask_32 : decode cX3_ask 32 = .ok (.invokevirtual 180, 3) := by decide +kernel
theorem dX3_ask_35 : decode cX3_ask 35 = .ok (.ireturn, 1) := by decide +kernel
theorem dX3_days_0 : decode cX3_days 0 = .ok (.iload_n 1, 1) := by decide +kernel
theorem dX3_days_1 : decode cX3_days 1 = .ok (.iconst 1, 1) := by decide +kernel
theorem dX3_days_2 : decode cX3_days 2 = .ok (.if_icmp .lt 22, 3) := by decide +kernel
theorem dX3_days_5 : decode cX3_days 5 = .ok (.iload_n 1, 1) := by decide +kernel
theorem dX3_days_6 : decode cX3_days 6 = .ok (.bipush 60, 2) := by decide +kernel
theorem dX3_days_8 : decode cX3_days 8 = .ok (.if_icmp .gt 16, 3) := by decide +kernel
theorem dX3_days_11 : decode cX3_days 11 = .ok (.iload_n 2, 1) := by decide +kernel
theorem dX3_days_12 : decode cX3_days 12 = .ok (.ifCond .lt 12, 3) := by decide +kernel
theorem dX3_days_15 : decode cX3_days 15 = .ok (.iload_n 3, 1) := by decide +kernel
theorem dX3_days_16 : decode cX3_days 16 = .ok (.ifCond .lt 8, 3) := by decide +kernel
theorem dX3_days_19 : decode cX3_days 19 = .ok (.iload_n 3, 1) := by decide +kernel
theorem dX3_days_20 : decode cX3_days 20 = .ok (.iconst 2, 1) := by decide +kernel
theorem dX3_days_21 : decode cX3_days 21 = .ok (.if_icmp .le 6, 3) := by decide +kernel
theorem dX3_days_24 : decode cX3_days 24 = .ok (.bipush (-102), 2) := by decide +kernel
theorem dX3_days_26 : decode cX3_days 26 = .ok (.ireturn, 1) := by decide +kernel
theorem dX3_days_27 : decode cX3_days 27 = .ok (.aload_n 0, 1) := by decide +kernel
theorem dX3_days_28 : decode cX3_days 28 = .ok (.invokevirtual 119, 3) := by decide +kernel
theorem dX3_days_31 : decode cX3_days 31 = .ok (.ifCond .ne 6, 3) := by decide +kernel
theorem dX3_days_34 : decode cX3_days 34 = .ok (.bipush (-103), 2) := by decide +kernel
theorem dX3_days_36 : decode cX3_days 36 = .ok (.ireturn, 1) := by decide +kernel
theorem dX3_days_37 : decode cX3_days 37 = .ok (.aload_n 0, 1) := by decide +kernel
theorem dX3_days_38 : decode cX3_days 38 = .ok (.getfield 29, 3) := by decide +kernel
theorem dX3_days_41 : decode cX3_days 41 = .ok (.aload_n 0, 1) := by decide +kernel
theorem dX3_days_42 : decode cX3_days 42 = .ok (.getfield 19, 3) := by decide +kernel
theorem dX3_days_45 : decode cX3_days 45 = .ok (.iload_n 1, 1) := by decide +kernel
theorem dX3_days_46 : decode cX3_days 46 = .ok (.iload_n 2, 1) := by decide +kernel
theorem dX3_days_47 : decode cX3_days 47 = .ok (.invokevirtual 183, 3) := by decide +kernel
theorem dX3_days_50 : decode cX3_days 50 = .ok (.iload_n 3, 1) := by decide +kernel
theorem dX3_days_51 : decode cX3_days 51 = .ok (.lookupswitch 41 #[(0, 25), (1, 33)], 25) := by decide +kernel
theorem dX3_days_76 : decode cX3_days 76 = .ok (.aload_n 0, 1) := by decide +kernel
theorem dX3_days_77 : decode cX3_days 77 = .ok (.getfield 29, 3) := by decide +kernel
theorem dX3_days_80 : decode cX3_days 80 = .ok (.getfield 187, 3) := by decide +kernel
theorem dX3_days_83 : decode cX3_days 83 = .ok (.ireturn, 1) := by decide +kernel
theorem dX3_days_84 : decode cX3_days 84 = .ok (.aload_n 0, 1) := by decide +kernel
theorem dX3_days_85 : decode cX3_days 85 = .ok (.getfield 29, 3) := by decide +kernel
theorem dX3_days_88 : decode cX3_days 88 = .ok (.getfield 190, 3) := by decide +kernel
theorem dX3_days_91 : decode cX3_days 91 = .ok (.ireturn, 1) := by decide +kernel
theorem dX3_days_92 : decode cX3_days 92 = .ok (.aload_n 0, 1) := by decide +kernel
theorem dX3_days_93 : decode cX3_days 93 = .ok (.getfield 29, 3) := by decide +kernel
theorem dX3_days_96 : decode cX3_days 96 = .ok (.getfield 193, 3) := by decide +kernel
theorem dX3_days_99 : decode cX3_days 99 = .ok (.ireturn, 1) := by decide +kernel
theorem dX3_image_0 : decode cX3_image 0 = .ok (.aload_n 0, 1) := by decide +kernel
theorem dX3_image_1 : decode cX3_image 1 = .ok (.invokevirtual 119, 3) := by decide +kernel
theorem dX3_image_4 : decode cX3_image 4 = .ok (.ifCond .ne 6, 3) := by decide +kernel
theorem dX3_image_7 : decode cX3_image 7 = .ok (.bipush (-103), 2) := by decide +kernel
theorem dX3_image_9 : decode cX3_image 9 = .ok (.ireturn, 1) := by decide +kernel
theorem dX3_image_10 : decode cX3_image 10 = .ok (.aload_n 0, 1) := by decide +kernel
theorem dX3_image_11 : decode cX3_image 11 = .ok (.getfield 23, 3) := by decide +kernel
theorem dX3_image_14 : decode cX3_image 14 = .ok (.aload_n 0, 1) := by decide +kernel
theorem dX3_image_15 : decode cX3_image 15 = .ok (.getfield 19, 3) := by decide +kernel
theorem dX3_image_18 : decode cX3_image 18 = .ok (.invokevirtual 196, 3) := by decide +kernel
theorem dX3_image_21 : decode cX3_image 21 = .ok (.aload_n 0, 1) := by decide +kernel
theorem dX3_image_22 : decode cX3_image 22 = .ok (.iconst 1, 1) := by decide +kernel
theorem dX3_image_23 : decode cX3_image 23 = .ok (.putfield 33, 3) := by decide +kernel
theorem dX3_image_26 : decode cX3_image 26 = .ok (.aload_n 0, 1) := by decide +kernel
theorem dX3_image_27 : decode cX3_image 27 = .ok (.getfield 19, 3) := by decide +kernel
theorem dX3_image_30 : decode cX3_image 30 = .ok (.getfield 199, 3) := by decide +kernel
theorem dX3_image_33 : decode cX3_image 33 = .ok (.ireturn, 1) := by decide +kernel
theorem dX3_restore_0 : decode cX3_restore 0 = .ok (.aload_n 0, 1) := by decide +kernel
theorem dX3_restore_1 : decode cX3_restore 1 = .ok (.getfield 33, 3) := by decide +kernel
theorem dX3_restore_4 : decode cX3_restore 4 = .ok (.ifCond .ne 6, 3) := by decide +kernel
theorem dX3_restore_7 : decode cX3_restore 7 = .ok (.bipush (-103), 2) := by decide +kernel
theorem dX3_restore_9 : decode cX3_restore 9 = .ok (.ireturn, 1) := by decide +kernel
theorem dX3_restore_10 : decode cX3_restore 10 = .ok (.aload_n 0, 1) := by decide +kernel
theorem dX3_restore_11 : decode cX3_restore 11 = .ok (.getfield 19, 3) := by decide +kernel
theorem dX3_restore_14 : decode cX3_restore 14 = .ok (.aload_n 0, 1) := by decide +kernel
theorem dX3_restore_15 : decode cX3_restore 15 = .ok (.getfield 23, 3) := by decide +kernel
theorem dX3_restore_18 : decode cX3_restore 18 = .ok (.invokevirtual 196, 3) := by decide +kernel
theorem dX3_restore_21 : decode cX3_restore 21 = .ok (.aload_n 0, 1) := by decide +kernel
theorem dX3_restore_22 : decode cX3_restore 22 = .ok (.getfield 19, 3) := by decide +kernel
theorem dX3_restore_25 : decode cX3_restore 25 = .ok (.getfield 199, 3) := by decide +kernel
theorem dX3_restore_28 : decode cX3_restore 28 = .ok (.ireturn, 1) := by decide +kernel
theorem dX3_count_0 : decode cX3_count 0 = .ok (.iload_n 1, 1) := by decide +kernel
theorem dX3_count_1 : decode cX3_count 1 = .ok (.tableswitch 142 0 9 #[55, 63, 71, 79, 87, 105, 113, 121, 129, 137], 55) := by decide +kernel
theorem dX3_count_56 : decode cX3_count 56 = .ok (.aload_n 0, 1) := by decide +kernel
theorem dX3_count_57 : decode cX3_count 57 = .ok (.getfield 19, 3) := by decide +kernel
theorem dX3_count_60 : decode cX3_count 60 = .ok (.getfield 177, 3) := by decide +kernel
theorem dX3_count_63 : decode cX3_count 63 = .ok (.ireturn, 1) := by decide +kernel
theorem dX3_count_64 : decode cX3_count 64 = .ok (.aload_n 0, 1) := by decide +kernel
theorem dX3_count_65 : decode cX3_count 65 = .ok (.getfield 19, 3) := by decide +kernel
theorem dX3_count_68 : decode cX3_count 68 = .ok (.getfield 109, 3) := by decide +kernel
theorem dX3_count_71 : decode cX3_count 71 = .ok (.ireturn, 1) := by decide +kernel
theorem dX3_count_72 : decode cX3_count 72 = .ok (.aload_n 0, 1) := by decide +kernel
theorem dX3_count_73 : decode cX3_count 73 = .ok (.getfield 19, 3) := by decide +kernel
theorem dX3_count_76 : decode cX3_count 76 = .ok (.getfield 202, 3) := by decide +kernel
theorem dX3_count_79 : decode cX3_count 79 = .ok (.ireturn, 1) := by decide +kernel
theorem dX3_count_80 : decode cX3_count 80 = .ok (.aload_n 0, 1) := by decide +kernel
theorem dX3_count_81 : decode cX3_count 81 = .ok (.getfield 19, 3) := by decide +kernel
theorem dX3_count_84 : decode cX3_count 84 = .ok (.getfield 205, 3) := by decide +kernel
theorem dX3_count_87 : decode cX3_count 87 = .ok (.ireturn, 1) := by decide +kernel
theorem dX3_count_88 : decode cX3_count 88 = .ok (.aload_n 0, 1) := by decide +kernel
theorem dX3_count_89 : decode cX3_count 89 = .ok (.getfield 19, 3) := by decide +kernel
theorem dX3_count_92 : decode cX3_count 92 = .ok (.aload_n 0, 1) := by decide +kernel
theorem dX3_count_93 : decode cX3_count 93 = .ok (.getfield 19, 3) := by decide +kernel
theorem dX3_count_96 : decode cX3_count 96 = .ok (.getfield 87, 3) := by decide +kernel
theorem dX3_count_99 : decode cX3_count 99 = .ok (.invokevirtual 90, 3) := by decide +kernel
theorem dX3_count_102 : decode cX3_count 102 = .ok (.invokestatic 208, 3) := by decide +kernel
theorem dX3_count_105 : decode cX3_count 105 = .ok (.ireturn, 1) := by decide +kernel
theorem dX3_count_106 : decode cX3_count 106 = .ok (.aload_n 0, 1) := by decide +kernel
theorem dX3_count_107 : decode cX3_count 107 = .ok (.getfield 19, 3) := by decide +kernel
theorem dX3_count_110 : decode cX3_count 110 = .ok (.getfield 199, 3) := by decide +kernel
theorem dX3_count_113 : decode cX3_count 113 = .ok (.ireturn, 1) := by decide +kernel
theorem dX3_count_114 : decode cX3_count 114 = .ok (.aload_n 0, 1) := by decide +kernel
theorem dX3_count_115 : decode cX3_count 115 = .ok (.getfield 19, 3) := by decide +kernel
theorem dX3_count_118 : decode cX3_count 118 = .ok (.getfield 213, 3) := by decide +kernel
theorem dX3_count_121 : decode cX3_count 121 = .ok (.ireturn, 1) := by decide +kernel
theorem dX3_count_122 : decode cX3_count 122 = .ok (.aload_n 0, 1) := by decide +kernel
theorem dX3_count_123 : decode cX3_count 123 = .ok (.getfield 19, 3) := by decide +kernel
theorem dX3_count_126 : decode cX3_count 126 = .ok (.getfield 158, 3) := by decide +kernel
theorem dX3_count_129 : decode cX3_count 129 = .ok (.ireturn, 1) := by decide +kernel
theorem dX3_count_130 : decode cX3_count 130 = .ok (.aload_n 0, 1) := by decide +kernel
theorem dX3_count_131 : decode cX3_count 131 = .ok (.getfield 10, 3) := by decide +kernel
theorem dX3_count_134 : decode cX3_count 134 = .ok (.getfield 216, 3) := by decide +kernel
theorem dX3_count_137 : decode cX3_count 137 = .ok (.ireturn, 1) := by decide +kernel
theorem dX3_count_138 : decode cX3_count 138 = .ok (.aload_n 0, 1) := by decide +kernel
theorem dX3_count_139 : decode cX3_count 139 = .ok (.getfield 37, 3) := by decide +kernel
theorem dX3_count_142 : decode cX3_count 142 = .ok (.ireturn, 1) := by decide +kernel
theorem dX3_count_143 : decode cX3_count 143 = .ok (.bipush (-102), 2) := by decide +kernel
theorem dX3_count_145 : decode cX3_count 145 = .ok (.ireturn, 1) := by decide +kernel
theorem dX3_digest_0 : decode cX3_digest 0 = .ok (.aload_n 0, 1) := by decide +kernel
theorem dX3_digest_1 : decode cX3_digest 1 = .ok (.ldc2_w 219, 3) := by decide +kernel
theorem dX3_digest_4 : decode cX3_digest 4 = .ok (.invokevirtual 221, 3) := by decide +kernel
theorem dX3_digest_7 : decode cX3_digest 7 = .ok (.lstore_n 1, 1) := by decide +kernel
theorem dX3_digest_8 : decode cX3_digest 8 = .ok (.aload_n 0, 1) := by decide +kernel
theorem dX3_digest_9 : decode cX3_digest 9 = .ok (.invokevirtual 119, 3) := by decide +kernel
theorem dX3_digest_12 : decode cX3_digest 12 = .ok (.ifCond .eq 13, 3) := by decide +kernel
theorem dX3_digest_15 : decode cX3_digest 15 = .ok (.aload_n 0, 1) := by decide +kernel
theorem dX3_digest_16 : decode cX3_digest 16 = .ok (.aload_n 0, 1) := by decide +kernel
theorem dX3_digest_17 : decode cX3_digest 17 = .ok (.lload_n 1, 1) := by decide +kernel
theorem dX3_digest_18 : decode cX3_digest 18 = .ok (.invokevirtual 225, 3) := by decide +kernel
theorem dX3_digest_21 : decode cX3_digest 21 = .ok (.invokevirtual 228, 3) := by decide +kernel
theorem dX3_digest_24 : decode cX3_digest 24 = .ok (.lstore_n 1, 1) := by decide +kernel
theorem dX3_digest_25 : decode cX3_digest 25 = .ok (.iconst 0, 1) := by decide +kernel
theorem dX3_digest_26 : decode cX3_digest 26 = .ok (.istore_n 3, 1) := by decide +kernel
theorem dX3_digest_27 : decode cX3_digest 27 = .ok (.iload_n 3, 1) := by decide +kernel
theorem dX3_digest_28 : decode cX3_digest 28 = .ok (.aload_n 0, 1) := by decide +kernel
theorem dX3_digest_29 : decode cX3_digest 29 = .ok (.getfield 10, 3) := by decide +kernel
theorem dX3_digest_32 : decode cX3_digest 32 = .ok (.getfield 216, 3) := by decide +kernel
theorem dX3_digest_35 : decode cX3_digest 35 = .ok (.if_icmp .ge 24, 3) := by decide +kernel
theorem dX3_digest_38 : decode cX3_digest 38 = .ok (.lload_n 1, 1) := by decide +kernel
theorem dX3_digest_39 : decode cX3_digest 39 = .ok (.aload_n 0, 1) := by decide +kernel
theorem dX3_digest_40 : decode cX3_digest 40 = .ok (.getfield 10, 3) := by decide +kernel
theorem dX3_digest_43 : decode cX3_digest 43 = .ok (.getfield 231, 3) := by decide +kernel
theorem dX3_digest_46 : decode cX3_digest 46 = .ok (.iload_n 3, 1) := by decide +kernel
theorem dX3_digest_47 : decode cX3_digest 47 = .ok (.iaload, 1) := by decide +kernel
theorem dX3_digest_48 : decode cX3_digest 48 = .ok (.i2l, 1) := by decide +kernel
theorem dX3_digest_49 : decode cX3_digest 49 = .ok (.invokestatic 234, 3) := by decide +kernel
theorem dX3_digest_52 : decode cX3_digest 52 = .ok (.lstore_n 1, 1) := by decide +kernel
theorem dX3_digest_53 : decode cX3_digest 53 = .ok (.iinc 3 1, 3) := by decide +kernel
theorem dX3_digest_56 : decode cX3_digest 56 = .ok (.goto (-29), 3) := by decide +kernel
theorem dX3_digest_59 : decode cX3_digest 59 = .ok (.iconst 0, 1) := by decide +kernel
theorem dX3_digest_60 : decode cX3_digest 60 = .ok (.istore_n 3, 1) := by decide +kernel
theorem dX3_digest_61 : decode cX3_digest 61 = .ok (.iload_n 3, 1) := by decide +kernel
theorem dX3_digest_62 : decode cX3_digest 62 = .ok (.bipush 9, 2) := by decide +kernel
theorem dX3_digest_64 : decode cX3_digest 64 = .ok (.if_icmp .gt 20, 3) := by decide +kernel
theorem dX3_digest_67 : decode cX3_digest 67 = .ok (.lload_n 1, 1) := by decide +kernel
theorem dX3_digest_68 : decode cX3_digest 68 = .ok (.aload_n 0, 1) := by decide +kernel
theorem dX3_digest_69 : decode cX3_digest 69 = .ok (.iload_n 3, 1) := by decide +kernel
theorem dX3_digest_70 : decode cX3_digest 70 = .ok (.invokevirtual 238, 3) := by decide +kernel
theorem dX3_digest_73 : decode cX3_digest 73 = .ok (.i2l, 1) := by decide +kernel
theorem dX3_digest_74 : decode cX3_digest 74 = .ok (.invokestatic 234, 3) := by decide +kernel
theorem dX3_digest_77 : decode cX3_digest 77 = .ok (.lstore_n 1, 1) := by decide +kernel
theorem dX3_digest_78 : decode cX3_digest 78 = .ok (.iinc 3 1, 3) := by decide +kernel
theorem dX3_digest_81 : decode cX3_digest 81 = .ok (.goto (-20), 3) := by decide +kernel
theorem dX3_digest_84 : decode cX3_digest 84 = .ok (.lload_n 1, 1) := by decide +kernel
theorem dX3_digest_85 : decode cX3_digest 85 = .ok (.lreturn, 1) := by decide +kernel
theorem dX3_foldListeners_0 : decode cX3_foldListeners 0 = .ok (.lload_n 1, 1) := by decide +kernel
theorem dX3_foldListeners_1 : decode cX3_foldListeners 1 = .ok (.lstore_n 3, 1) := by decide +kernel
theorem dX3_foldListeners_2 : decode cX3_foldListeners 2 = .ok (.iconst 0, 1) := by decide +kernel
theorem dX3_foldListeners_3 : decode cX3_foldListeners 3 = .ok (.istore 5, 2) := by decide +kernel
theorem dX3_foldListeners_5 : decode cX3_foldListeners 5 = .ok (.iload 5, 2) := by decide +kernel
theorem dX3_foldListeners_7 : decode cX3_foldListeners 7 = .ok (.aload_n 0, 1) := by decide +kernel
theorem dX3_foldListeners_8 : decode cX3_foldListeners 8 = .ok (.getfield 19, 3) := by decide +kernel
theorem dX3_foldListeners_11 : decode cX3_foldListeners 11 = .ok (.getfield 177, 3) := by decide +kernel
theorem dX3_foldListeners_14 : decode cX3_foldListeners 14 = .ok (.if_icmp .ge 71, 3) := by decide +kernel
theorem dX3_foldListeners_17 : decode cX3_foldListeners 17 = .ok (.iconst 0, 1) := by decide +kernel
theorem dX3_foldListeners_18 : decode cX3_foldListeners 18 = .ok (.istore 6, 2) := by decide +kernel
theorem dX3_foldListeners_20 : decode cX3_foldListeners 20 = .ok (.iload 6, 2) := by decide +kernel
theorem dX3_foldListeners_22 : decode cX3_foldListeners 22 = .ok (.iconst 5, 1) := by decide +kernel
theorem dX3_foldListeners_23 : decode cX3_foldListeners 23 = .ok (.if_icmp .gt 23, 3) := by decide +kernel
theorem dX3_foldListeners_26 : decode cX3_foldListeners 26 = .ok (.lload_n 3, 1) := by decide +kernel
theorem dX3_foldListeners_27 : decode cX3_foldListeners 27 = .ok (.aload_n 0, 1) := by decide +kernel
theorem dX3_foldListeners_28 : decode cX3_foldListeners 28 = .ok (.iload 5, 2) := by decide +kernel
theorem dX3_foldListeners_30 : decode cX3_foldListeners 30 = .ok (.iload 6, 2) := by decide +kernel
theorem dX3_foldListeners_32 : decode cX3_foldListeners 32 = .ok (.invokevirtual 241, 3) := by decide +kernel
theorem dX3_foldListeners_35 : decode cX3_foldListeners 35 = .ok (.i2l, 1) := by decide +kernel
theorem dX3_foldListeners_36 : decode cX3_foldListeners 36 = .ok (.invokestatic 234, 3) := by decide +kernel
theorem dX3_foldListeners_39 : decode cX3_foldListeners 39 = .ok (.lstore_n 3, 1) := by decide +kernel
theorem dX3_foldListeners_40 : decode cX3_foldListeners 40 = .ok (.iinc 6 1, 3) := by decide +kernel
theorem dX3_foldListeners_43 : decode cX3_foldListeners 43 = .ok (.goto (-23), 3) := by decide +kernel
theorem dX3_foldListeners_46 : decode cX3_foldListeners 46 = .ok (.aload_n 0, 1) := by decide +kernel
theorem dX3_foldListeners_47 : decode cX3_foldListeners 47 = .ok (.getfield 19, 3) := by decide +kernel
theorem dX3_foldListeners_50 : decode cX3_foldListeners 50 = .ok (.iload 5, 2) := by decide +kernel
theorem dX3_foldListeners_52 : decode cX3_foldListeners 52 = .ok (.iconst 2, 1) := by decide +kernel
theorem dX3_foldListeners_53 : decode cX3_foldListeners 53 = .ok (.bipush 9, 2) := by decide +kernel
theorem dX3_foldListeners_55 : decode cX3_foldListeners 55 = .ok (.invokestatic 151, 3) := by decide +kernel
theorem dX3_foldListeners_58 : decode cX3_foldListeners 58 = .ok (.istore 6, 2) := by decide +kernel
theorem dX3_foldListeners_60 : decode cX3_foldListeners 60 = .ok (.lload_n 3, 1) := by decide +kernel
theorem dX3_foldListeners_61 : decode cX3_foldListeners 61 = .ok (.iload 6, 2) := by decide +kernel
theorem dX3_foldListeners_63 : decode cX3_foldListeners 63 = .ok (.invokestatic 155, 3) := by decide +kernel
theorem dX3_foldListeners_66 : decode cX3_foldListeners 66 = .ok (.i2l, 1) := by decide +kernel
theorem dX3_foldListeners_67 : decode cX3_foldListeners 67 = .ok (.invokestatic 234, 3) := by decide +kernel
theorem dX3_foldListeners_70 : decode cX3_foldListeners 70 = .ok (.lstore_n 3, 1) := by decide +kernel
theorem dX3_foldListeners_71 : decode cX3_foldListeners 71 = .ok (.lload_n 3, 1) := by decide +kernel
theorem dX3_foldListeners_72 : decode cX3_foldListeners 72 = .ok (.iload 6, 2) := by decide +kernel
theorem dX3_foldListeners_74 : decode cX3_foldListeners 74 = .ok (.i2l, 1) := by decide +kernel
theorem dX3_foldListeners_75 : decode cX3_foldListeners 75 = .ok (.invokestatic 234, 3) := by decide +kernel
theorem dX3_foldListeners_78 : decode cX3_foldListeners 78 = .ok (.lstore_n 3, 1) := by decide +kernel
theorem dX3_foldListeners_79 : decode cX3_foldListeners 79 = .ok (.iinc 5 1, 3) := by decide +kernel
theorem dX3_foldListeners_82 : decode cX3_foldListeners 82 = .ok (.goto (-77), 3) := by decide +kernel
theorem dX3_foldListeners_85 : decode cX3_foldListeners 85 = .ok (.lload_n 3, 1) := by decide +kernel
theorem dX3_foldListeners_86 : decode cX3_foldListeners 86 = .ok (.lreturn, 1) := by decide +kernel
theorem dX3_foldPlaces_0 : decode cX3_foldPlaces 0 = .ok (.lload_n 1, 1) := by decide +kernel
theorem dX3_foldPlaces_1 : decode cX3_foldPlaces 1 = .ok (.lstore_n 3, 1) := by decide +kernel
theorem dX3_foldPlaces_2 : decode cX3_foldPlaces 2 = .ok (.iconst 0, 1) := by decide +kernel
theorem dX3_foldPlaces_3 : decode cX3_foldPlaces 3 = .ok (.istore 5, 2) := by decide +kernel
theorem dX3_foldPlaces_5 : decode cX3_foldPlaces 5 = .ok (.iload 5, 2) := by decide +kernel
theorem dX3_foldPlaces_7 : decode cX3_foldPlaces 7 = .ok (.bipush 6, 2) := by decide +kernel
theorem dX3_foldPlaces_9 : decode cX3_foldPlaces 9 = .ok (.if_icmp .ge 34, 3) := by decide +kernel
theorem dX3_foldPlaces_12 : decode cX3_foldPlaces 12 = .ok (.lload_n 3, 1) := by decide +kernel
theorem dX3_foldPlaces_13 : decode cX3_foldPlaces 13 = .ok (.aload_n 0, 1) := by decide +kernel
theorem dX3_foldPlaces_14 : decode cX3_foldPlaces 14 = .ok (.iload 5, 2) := by decide +kernel
theorem dX3_foldPlaces_16 : decode cX3_foldPlaces 16 = .ok (.invokevirtual 244, 3) := by decide +kernel
theorem dX3_foldPlaces_19 : decode cX3_foldPlaces 19 = .ok (.i2l, 1) := by decide +kernel
theorem dX3_foldPlaces_20 : decode cX3_foldPlaces 20 = .ok (.invokestatic 234, 3) := by decide +kernel
theorem dX3_foldPlaces_23 : decode cX3_foldPlaces 23 = .ok (.lstore_n 3, 1) := by decide +kernel
theorem dX3_foldPlaces_24 : decode cX3_foldPlaces 24 = .ok (.lload_n 3, 1) := by decide +kernel
theorem dX3_foldPlaces_25 : decode cX3_foldPlaces 25 = .ok (.aload_n 0, 1) := by decide +kernel
theorem dX3_foldPlaces_26 : decode cX3_foldPlaces 26 = .ok (.iload 5, 2) := by decide +kernel
theorem dX3_foldPlaces_28 : decode cX3_foldPlaces 28 = .ok (.iconst 5, 1) := by decide +kernel
theorem dX3_foldPlaces_29 : decode cX3_foldPlaces 29 = .ok (.invokevirtual 246, 3) := by decide +kernel
theorem dX3_foldPlaces_32 : decode cX3_foldPlaces 32 = .ok (.i2l, 1) := by decide +kernel
theorem dX3_foldPlaces_33 : decode cX3_foldPlaces 33 = .ok (.invokestatic 234, 3) := by decide +kernel
theorem dX3_foldPlaces_36 : decode cX3_foldPlaces 36 = .ok (.lstore_n 3, 1) := by decide +kernel
theorem dX3_foldPlaces_37 : decode cX3_foldPlaces 37 = .ok (.iinc 5 1, 3) := by decide +kernel
theorem dX3_foldPlaces_40 : decode cX3_foldPlaces 40 = .ok (.goto (-35), 3) := by decide +kernel
theorem dX3_foldPlaces_43 : decode cX3_foldPlaces 43 = .ok (.lload_n 3, 1) := by decide +kernel
theorem dX3_foldPlaces_44 : decode cX3_foldPlaces 44 = .ok (.lreturn, 1) := by decide +kernel
theorem dX3_foldQuestions_0 : decode cX3_foldQuestions 0 = .ok (.lload_n 1, 1) := by decide +kernel
theorem dX3_foldQuestions_1 : decode cX3_foldQuestions 1 = .ok (.aload_n 0, 1) := by decide +kernel
theorem dX3_foldQuestions_2 : decode cX3_foldQuestions 2 = .ok (.iconst 0, 1) := by decide +kernel
theorem dX3_foldQuestions_3 : decode cX3_foldQuestions 3 = .ok (.invokevirtual 249, 3) := by decide +kernel
theorem dX3_foldQuestions_6 : decode cX3_foldQuestions 6 = .ok (.i2l, 1) := by decide +kernel
theorem dX3_foldQuestions_7 : decode cX3_foldQuestions 7 = .ok (.invokestatic 234, 3) := by decide +kernel
theorem dX3_foldQuestions_10 : decode cX3_foldQuestions 10 = .ok (.aload_n 0, 1) := by decide +kernel
theorem dX3_foldQuestions_11 : decode cX3_foldQuestions 11 = .ok (.iconst 1, 1) := by decide +kernel
theorem dX3_foldQuestions_12 : decode cX3_foldQuestions 12 = .ok (.invokevirtual 249, 3) := by decide +kernel
theorem dX3_foldQuestions_15 : decode cX3_foldQuestions 15 = .ok (.i2l, 1) := by decide +kernel
theorem dX3_foldQuestions_16 : decode cX3_foldQuestions 16 = .ok (.invokestatic 234, 3) := by decide +kernel
theorem dX3_foldQuestions_19 : decode cX3_foldQuestions 19 = .ok (.lstore_n 3, 1) := by decide +kernel
theorem dX3_foldQuestions_20 : decode cX3_foldQuestions 20 = .ok (.aload_n 0, 1) := by decide +kernel
theorem dX3_foldQuestions_21 : decode cX3_foldQuestions 21 = .ok (.getfield 19, 3) := by decide +kernel
theorem dX3_foldQuestions_24 : decode cX3_foldQuestions 24 = .ok (.aload_n 0, 1) := by decide +kernel
theorem dX3_foldQuestions_25 : decode cX3_foldQuestions 25 = .ok (.getfield 19, 3) := by decide +kernel
theorem dX3_foldQuestions_28 : decode cX3_foldQuestions 28 = .ok (.invokevirtual 141, 3) := by decide +kernel
theorem dX3_foldQuestions_31 : decode cX3_foldQuestions 31 = .ok (.invokestatic 144, 3) := by decide +kernel
theorem dX3_foldQuestions_34 : decode cX3_foldQuestions 34 = .ok (.istore 5, 2) := by decide +kernel
theorem dX3_foldQuestions_36 : decode cX3_foldQuestions 36 = .ok (.lload_n 3, 1) := by decide +kernel
theorem dX3_foldQuestions_37 : decode cX3_foldQuestions 37 = .ok (.iload 5, 2) := by decide +kernel
theorem dX3_foldQuestions_39 : decode cX3_foldQuestions 39 = .ok (.iconst 0, 1) := by decide +kernel
theorem dX3_foldQuestions_40 : decode cX3_foldQuestions 40 = .ok (.invokestatic 148, 3) := by decide +kernel
theorem dX3_foldQuestions_43 : decode cX3_foldQuestions 43 = .ok (.i2l, 1) := by decide +kernel
theorem dX3_foldQuestions_44 : decode cX3_foldQuestions 44 = .ok (.invokestatic 234, 3) := by decide +kernel
theorem dX3_foldQuestions_47 : decode cX3_foldQuestions 47 = .ok (.lstore_n 3, 1) := by decide +kernel
theorem dX3_foldQuestions_48 : decode cX3_foldQuestions 48 = .ok (.bipush 10, 2) := by decide +kernel
theorem dX3_foldQuestions_50 : decode cX3_foldQuestions 50 = .ok (.istore 6, 2) := by decide +kernel
theorem dX3_foldQuestions_52 : decode cX3_foldQuestions 52 = .ok (.iload 6, 2) := by decide +kernel
theorem dX3_foldQuestions_54 : decode cX3_foldQuestions 54 = .ok (.bipush 12, 2) := by decide +kernel
theorem dX3_foldQuestions_56 : decode cX3_foldQuestions 56 = .ok (.if_icmp .gt 22, 3) := by decide +kernel
theorem dX3_foldQuestions_59 : decode cX3_foldQuestions 59 = .ok (.lload_n 3, 1) := by decide +kernel
theorem dX3_foldQuestions_60 : decode cX3_foldQuestions 60 = .ok (.iload 5, 2) := by decide +kernel
theorem dX3_foldQuestions_62 : decode cX3_foldQuestions 62 = .ok (.iload 6, 2) := by decide +kernel
theorem dX3_foldQuestions_64 : decode cX3_foldQuestions 64 = .ok (.invokestatic 148, 3) := by decide +kernel
theorem dX3_foldQuestions_67 : decode cX3_foldQuestions 67 = .ok (.i2l, 1) := by decide +kernel
theorem dX3_foldQuestions_68 : decode cX3_foldQuestions 68 = .ok (.invokestatic 234, 3) := by decide +kernel
theorem dX3_foldQuestions_71 : decode cX3_foldQuestions 71 = .ok (.lstore_n 3, 1) := by decide +kernel
theorem dX3_foldQuestions_72 : decode cX3_foldQuestions 72 = .ok (.iinc 6 1, 3) := by decide +kernel
theorem dX3_foldQuestions_75 : decode cX3_foldQuestions 75 = .ok (.goto (-23), 3) := by decide +kernel
theorem dX3_foldQuestions_78 : decode cX3_foldQuestions 78 = .ok (.lload_n 3, 1) := by decide +kernel
theorem dX3_foldQuestions_79 : decode cX3_foldQuestions 79 = .ok (.aload_n 0, 1) := by decide +kernel
theorem dX3_foldQuestions_80 : decode cX3_foldQuestions 80 = .ok (.iconst 0, 1) := by decide +kernel
theorem dX3_foldQuestions_81 : decode cX3_foldQuestions 81 = .ok (.invokevirtual 252, 3) := by decide +kernel
theorem dX3_foldQuestions_84 : decode cX3_foldQuestions 84 = .ok (.i2l, 1) := by decide +kernel
theorem dX3_foldQuestions_85 : decode cX3_foldQuestions 85 = .ok (.invokestatic 234, 3) := by decide +kernel
theorem dX3_foldQuestions_88 : decode cX3_foldQuestions 88 = .ok (.aload_n 0, 1) := by decide +kernel
theorem dX3_foldQuestions_89 : decode cX3_foldQuestions 89 = .ok (.iconst 1, 1) := by decide +kernel
theorem dX3_foldQuestions_90 : decode cX3_foldQuestions 90 = .ok (.invokevirtual 252, 3) := by decide +kernel
theorem dX3_foldQuestions_93 : decode cX3_foldQuestions 93 = .ok (.i2l, 1) := by decide +kernel
theorem dX3_foldQuestions_94 : decode cX3_foldQuestions 94 = .ok (.invokestatic 234, 3) := by decide +kernel
theorem dX3_foldQuestions_97 : decode cX3_foldQuestions 97 = .ok (.aload_n 0, 1) := by decide +kernel
theorem dX3_foldQuestions_98 : decode cX3_foldQuestions 98 = .ok (.invokevirtual 255, 3) := by decide +kernel
theorem dX3_foldQuestions_101 : decode cX3_foldQuestions 101 = .ok (.i2l, 1) := by decide +kernel
theorem dX3_foldQuestions_102 : decode cX3_foldQuestions 102 = .ok (.invokestatic 234, 3) := by decide +kernel
theorem dX3_foldQuestions_105 : decode cX3_foldQuestions 105 = .ok (.lreturn, 1) := by decide +kernel
theorem dX3_fold_0 : decode cX3_fold 0 = .ok (.ldc2_w 258, 3) := by decide +kernel
theorem dX3_fold_3 : decode cX3_fold 3 = .ok (.lload_n 0, 1) := by decide +kernel
theorem dX3_fold_4 : decode cX3_fold 4 = .ok (.lmul, 1) := by decide +kernel
theorem dX3_fold_5 : decode cX3_fold 5 = .ok (.lload_n 2, 1) := by decide +kernel
theorem dX3_fold_6 : decode cX3_fold 6 = .ok (.ladd, 1) := by decide +kernel
theorem dX3_fold_7 : decode cX3_fold 7 = .ok (.lreturn, 1) := by decide +kernel
theorem dX3_hasTown_0 : decode cX3_hasTown 0 = .ok (.aload_n 0, 1) := by decide +kernel
theorem dX3_hasTown_1 : decode cX3_hasTown 1 = .ok (.getfield 37, 3) := by decide +kernel
theorem dX3_hasTown_4 : decode cX3_hasTown 4 = .ok (.ifCond .le 7, 3) := by decide +kernel
theorem dX3_hasTown_7 : decode cX3_hasTown 7 = .ok (.iconst 1, 1) := by decide +kernel
theorem dX3_hasTown_8 : decode cX3_hasTown 8 = .ok (.goto 4, 3) := by decide +kernel
theorem dX3_hasTown_11 : decode cX3_hasTown 11 = .ok (.iconst 0, 1) := by decide +kernel
theorem dX3_hasTown_12 : decode cX3_hasTown 12 = .ok (.ireturn, 1) := by decide +kernel
theorem dX3_isPlace_0 : decode cX3_isPlace 0 = .ok (.aload_n 0, 1) := by decide +kernel
theorem dX3_isPlace_1 : decode cX3_isPlace 1 = .ok (.invokevirtual 119, 3) := by decide +kernel
theorem dX3_isPlace_4 : decode cX3_isPlace 4 = .ok (.ifCond .eq 17, 3) := by decide +kernel
theorem dX3_isPlace_7 : decode cX3_isPlace 7 = .ok (.iload_n 1, 1) := by decide +kernel
theorem dX3_isPlace_8 : decode cX3_isPlace 8 = .ok (.ifCond .lt 13, 3) := by decide +kernel
theorem dX3_isPlace_11 : decode cX3_isPlace 11 = .ok (.iload_n 1, 1) := by decide +kernel
theorem dX3_isPlace_12 : decode cX3_isPlace 12 = .ok (.bipush 6, 2) := by decide +kernel
theorem dX3_isPlace_14 : decode cX3_isPlace 14 = .ok (.if_icmp .ge 7, 3) := by decide +kernel
theorem dX3_isPlace_17 : decode cX3_isPlace 17 = .ok (.iconst 1, 1) := by decide +kernel
theorem dX3_isPlace_18 : decode cX3_isPlace 18 = .ok (.goto 4, 3) := by decide +kernel
theorem dX3_isPlace_21 : decode cX3_isPlace 21 = .ok (.iconst 0, 1) := by decide +kernel
theorem dX3_isPlace_22 : decode cX3_isPlace 22 = .ok (.ireturn, 1) := by decide +kernel
theorem dX3_isListener_0 : decode cX3_isListener 0 = .ok (.iload_n 1, 1) := by decide +kernel
theorem dX3_isListener_1 : decode cX3_isListener 1 = .ok (.ifCond .lt 18, 3) := by decide +kernel
theorem dX3_isListener_4 : decode cX3_isListener 4 = .ok (.iload_n 1, 1) := by decide +kernel
theorem dX3_isListener_5 : decode cX3_isListener 5 = .ok (.aload_n 0, 1) := by decide +kernel
theorem dX3_isListener_6 : decode cX3_isListener 6 = .ok (.getfield 19, 3) := by decide +kernel
theorem dX3_isListener_9 : decode cX3_isListener 9 = .ok (.getfield 177, 3) := by decide +kernel
theorem dX3_isListener_12 : decode cX3_isListener 12 = .ok (.if_icmp .ge 7, 3) := by decide +kernel
theorem dX3_isListener_15 : decode cX3_isListener 15 = .ok (.iconst 1, 1) := by decide +kernel
theorem dX3_isListener_16 : decode cX3_isListener 16 = .ok (.goto 4, 3) := by decide +kernel
theorem dX3_isListener_19 : decode cX3_isListener 19 = .ok (.iconst 0, 1) := by decide +kernel
theorem dX3_isListener_20 : decode cX3_isListener 20 = .ok (.ireturn, 1) := by decide +kernel
theorem dX3_isKind_0 : decode cX3_isKind 0 = .ok (.iload_n 0, 1) := by decide +kernel
theorem dX3_isKind_1 : decode cX3_isKind 1 = .ok (.ifCond .lt 12, 3) := by decide +kernel
theorem dX3_isKind_4 : decode cX3_isKind 4 = .ok (.iload_n 0, 1) := by decide +kernel
theorem dX3_isKind_5 : decode cX3_isKind 5 = .ok (.iconst 4, 1) := by decide +kernel
theorem dX3_isKind_6 : decode cX3_isKind 6 = .ok (.if_icmp .gt 7, 3) := by decide +kernel
theorem dX3_isKind_9 : decode cX3_isKind 9 = .ok (.iconst 1, 1) := by decide +kernel
theorem dX3_isKind_10 : decode cX3_isKind 10 = .ok (.goto 4, 3) := by decide +kernel
theorem dX3_isKind_13 : decode cX3_isKind 13 = .ok (.iconst 0, 1) := by decide +kernel
theorem dX3_isKind_14 : decode cX3_isKind 14 = .ok (.ireturn, 1) := by decide +kernel
theorem dX3_isLoud_0 : decode cX3_isLoud 0 = .ok (.iload_n 0, 1) := by decide +kernel
theorem dX3_isLoud_1 : decode cX3_isLoud 1 = .ok (.iconst 1, 1) := by decide +kernel
theorem dX3_isLoud_2 : decode cX3_isLoud 2 = .ok (.if_icmp .lt 13, 3) := by decide +kernel
theorem dX3_isLoud_5 : decode cX3_isLoud 5 = .ok (.iload_n 0, 1) := by decide +kernel
theorem dX3_isLoud_6 : decode cX3_isLoud 6 = .ok (.bipush 9, 2) := by decide +kernel
theorem dX3_isLoud_8 : decode cX3_isLoud 8 = .ok (.if_icmp .gt 7, 3) := by decide +kernel
theorem dX3_isLoud_11 : decode cX3_isLoud 11 = .ok (.iconst 1, 1) := by decide +kernel
theorem dX3_isLoud_12 : decode cX3_isLoud 12 = .ok (.goto 4, 3) := by decide +kernel
theorem dX3_isLoud_15 : decode cX3_isLoud 15 = .ok (.iconst 0, 1) := by decide +kernel
theorem dX3_isLoud_16 : decode cX3_isLoud 16 = .ok (.ireturn, 1) := by decide +kernel
theorem dX3_isOfKind_0 : decode cX3_isOfKind 0 = .ok (.iload_n 1, 1) := by decide +kernel
theorem dX3_isOfKind_1 : decode cX3_isOfKind 1 = .ok (.ifCond .eq 18, 3) := by decide +kernel
theorem dX3_isOfKind_4 : decode cX3_isOfKind 4 = .ok (.iload_n 0, 1) := by decide +kernel
theorem dX3_isOfKind_5 : decode cX3_isOfKind 5 = .ok (.iload_n 1, 1) := by decide +kernel
theorem dX3_isOfKind_6 : decode cX3_isOfKind 6 = .ok (.if_icmp .eq 13, 3) := by decide +kernel
theorem dX3_isOfKind_9 : decode cX3_isOfKind 9 = .ok (.iload_n 0, 1) := by decide +kernel
theorem dX3_isOfKind_10 : decode cX3_isOfKind 10 = .ok (.iconst 4, 1) := by decide +kernel
theorem dX3_isOfKind_11 : decode cX3_isOfKind 11 = .ok (.if_icmp .ne 12, 3) := by decide +kernel
theorem dX3_isOfKind_14 : decode cX3_isOfKind 14 = .ok (.iload_n 1, 1) := by decide +kernel
theorem dX3_isOfKind_15 : decode cX3_isOfKind 15 = .ok (.iconst 3, 1) := by decide +kernel
theorem dX3_isOfKind_16 : decode cX3_isOfKind 16 = .ok (.if_icmp .ne 7, 3) := by decide +kernel
theorem dX3_isOfKind_19 : decode cX3_isOfKind 19 = .ok (.iconst 1, 1) := by decide +kernel
theorem dX3_isOfKind_20 : decode cX3_isOfKind 20 = .ok (.goto 4, 3) := by decide +kernel
theorem dX3_isOfKind_23 : decode cX3_isOfKind 23 = .ok (.iconst 0, 1) := by decide +kernel
theorem dX3_isOfKind_24 : decode cX3_isOfKind 24 = .ok (.ireturn, 1) := by decide +kernel
theorem dX3_bit_0 : decode cX3_bit 0 = .ok (.iload_n 0, 1) := by decide +kernel
theorem dX3_bit_1 : decode cX3_bit 1 = .ok (.iload_n 1, 1) := by decide +kernel
theorem dX3_bit_2 : decode cX3_bit 2 = .ok (.ishr, 1) := by decide +kernel
theorem dX3_bit_3 : decode cX3_bit 3 = .ok (.iconst 1, 1) := by decide +kernel
theorem dX3_bit_4 : decode cX3_bit 4 = .ok (.iand, 1) := by decide +kernel
theorem dX3_bit_5 : decode cX3_bit 5 = .ok (.ireturn, 1) := by decide +kernel
theorem dX3_howMany_0 : decode cX3_howMany 0 = .ok (.iload_n 0, 1) := by decide +kernel
theorem dX3_howMany_1 : decode cX3_howMany 1 = .ok (.ifCond .ge 7, 3) := by decide +kernel
theorem dX3_howMany_4 : decode cX3_howMany 4 = .ok (.iload_n 0, 1) := by decide +kernel
theorem dX3_howMany_5 : decode cX3_howMany 5 = .ok (.goto 7, 3) := by decide +kernel
theorem dX3_howMany_8 : decode cX3_howMany 8 = .ok (.iload_n 0, 1) := by decide +kernel
theorem dX3_howMany_9 : decode cX3_howMany 9 = .ok (.invokestatic 208, 3) := by decide +kernel
theorem dX3_howMany_12 : decode cX3_howMany 12 = .ok (.ireturn, 1) := by decide +kernel
