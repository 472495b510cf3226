theorem d_Cc_init_60 : decode c_Cc_init 60 = .ok (.new 32, 3) := by decide +kernel
theorem d_Cc_init_63 : decode c_Cc_init 63 = .ok (.dup, 1) := by decide +kernel
theorem d_Cc_init_64 : decode c_Cc_init 64 = .ok (.invokespecial 34, 3) := by decide +kernel
theorem d_Cc_init_67 : decode c_Cc_init 67 = .ok (.putfield 35, 3) := by decide +kernel
theorem d_Cc_init_70 : decode c_Cc_init 70 = .ok (.aload_n 0, 1) := by decide +kernel
theorem d_Cc_init_71 : decode c_Cc_init 71 = .ok (.new 39, 3) := by decide +kernel
theorem d_Cc_init_74 : decode c_Cc_init 74 = .ok (.dup, 1) := by decide +kernel
theorem d_Cc_init_75 : decode c_Cc_init 75 = .ok (.invokespecial 41, 3) := by decide +kernel
theorem d_Cc_init_78 : decode c_Cc_init 78 = .ok (.putfield 42, 3) := by decide +kernel
theorem d_Cc_init_81 : decode c_Cc_init 81 = .ok (.return_, 1) := by decide +kernel
theorem d_Cc_roll_0 : decode c_Cc_roll 0 = .ok (.iload_n 1, 1) := by decide +kernel
theorem d_Cc_roll_1 : decode c_Cc_roll 1 = .ok (.invokestatic 46, 3) := by decide +kernel
theorem d_Cc_roll_4 : decode c_Cc_roll 4 = .ok (.ifCond .eq 14, 3) := by decide +kernel
theorem d_Cc_roll_7 : decode c_Cc_roll 7 = .ok (.iload_n 2, 1) := by decide +kernel
theorem d_Cc_roll_8 : decode c_Cc_roll 8 = .ok (.iconst 5, 1) := by decide +kernel
theorem d_Cc_roll_9 : decode c_Cc_roll 9 = .ok (.if_icmp .lt 9, 3) := by decide +kernel
theorem d_Cc_roll_12 : decode c_Cc_roll 12 = .ok (.iload_n 2, 1) := by decide +kernel
theorem d_Cc_roll_13 : decode c_Cc_roll 13 = .ok (.bipush 60, 2) := by decide +kernel
theorem d_Cc_roll_15 : decode c_Cc_roll 15 = .ok (.if_icmp .le 6, 3) := by decide +kernel
theorem d_Cc_roll_18 : decode c_Cc_roll 18 = .ok (.bipush (-2), 2) := by decide +kernel
theorem d_Cc_roll_20 : decode c_Cc_roll 20 = .ok (.ireturn, 1) := by decide +kernel
theorem d_Cc_roll_21 : decode c_Cc_roll 21 = .ok (.iload_n 3, 1) := by decide +kernel
theorem d_Cc_roll_22 : decode c_Cc_roll 22 = .ok (.iconst 1, 1) := by decide +kernel
theorem d_Cc_roll_23 : decode c_Cc_roll 23 = .ok (.if_icmp .lt 22, 3) := by decide +kernel
theorem d_Cc_roll_26 : decode c_Cc_roll 26 = .ok (.iload_n 3, 1) := by decide +kernel
theorem d_Cc_roll_27 : decode c_Cc_roll 27 = .ok (.sipush 999, 3) := by decide +kernel
theorem d_Cc_roll_30 : decode c_Cc_roll 30 = .ok (.if_icmp .gt 15, 3) := by decide +kernel
theorem d_Cc_roll_33 : decode c_Cc_roll 33 = .ok (.iload 4, 2) := by decide +kernel
theorem d_Cc_roll_35 : decode c_Cc_roll 35 = .ok (.ifCond .lt 10, 3) := by decide +kernel
theorem d_Cc_roll_38 : decode c_Cc_roll 38 = .ok (.iload 4, 2) := by decide +kernel
theorem d_Cc_roll_40 : decode c_Cc_roll 40 = .ok (.bipush 99, 2) := by decide +kernel
theorem d_Cc_roll_42 : decode c_Cc_roll 42 = .ok (.if_icmp .le 6, 3) := by decide +kernel
theorem d_Cc_roll_45 : decode c_Cc_roll 45 = .ok (.bipush (-2), 2) := by decide +kernel
theorem d_Cc_roll_47 : decode c_Cc_roll 47 = .ok (.ireturn, 1) := by decide +kernel
theorem d_Cc_roll_48 : decode c_Cc_roll 48 = .ok (.aload_n 0, 1) := by decide +kernel
theorem d_Cc_roll_49 : decode c_Cc_roll 49 = .ok (.getfield 10, 3) := by decide +kernel
theorem d_Cc_roll_52 : decode c_Cc_roll 52 = .ok (.getfield 50, 3) := by decide +kernel
theorem d_Cc_roll_55 : decode c_Cc_roll 55 = .ok (.getfield 54, 3) := by decide +kernel
theorem d_Cc_roll_58 : decode c_Cc_roll 58 = .ok (.bipush 12, 2) := by decide +kernel
theorem d_Cc_roll_60 : decode c_Cc_roll 60 = .ok (.if_icmp .lt 6, 3) := by decide +kernel
theorem d_Cc_roll_63 : decode c_Cc_roll 63 = .ok (.bipush (-3), 2) := by decide +kernel
theorem d_Cc_roll_65 : decode c_Cc_roll 65 = .ok (.ireturn, 1) := by decide +kernel
theorem d_Cc_roll_66 : decode c_Cc_roll 66 = .ok (.aload_n 0, 1) := by decide +kernel
theorem d_Cc_roll_67 : decode c_Cc_roll 67 = .ok (.getfield 28, 3) := by decide +kernel
theorem d_Cc_roll_70 : decode c_Cc_roll 70 = .ok (.aload_n 0, 1) := by decide +kernel
theorem d_Cc_roll_71 : decode c_Cc_roll 71 = .ok (.getfield 10, 3) := by decide +kernel
theorem d_Cc_roll_74 : decode c_Cc_roll 74 = .ok (.invokevirtual 60, 3) := by decide +kernel
theorem d_Cc_roll_77 : decode c_Cc_roll 77 = .ok (.aload_n 0, 1) := by decide +kernel
theorem d_Cc_roll_78 : decode c_Cc_roll 78 = .ok (.getfield 10, 3) := by decide +kernel
theorem d_Cc_roll_81 : decode c_Cc_roll 81 = .ok (.getfield 50, 3) := by decide +kernel
theorem d_Cc_roll_84 : decode c_Cc_roll 84 = .ok (.iload_n 1, 1) := by decide +kernel
theorem d_Cc_roll_85 : decode c_Cc_roll 85 = .ok (.iload_n 2, 1) := by decide +kernel
theorem d_Cc_roll_86 : decode c_Cc_roll 86 = .ok (.iload_n 3, 1) := by decide +kernel
theorem d_Cc_roll_87 : decode c_Cc_roll 87 = .ok (.iload 4, 2) := by decide +kernel
theorem d_Cc_roll_89 : decode c_Cc_roll 89 = .ok (.invokevirtual 64, 3) := by decide +kernel
theorem d_Cc_roll_92 : decode c_Cc_roll 92 = .ok (.ireturn, 1) := by decide +kernel
theorem d_Cc_rooms_0 : decode c_Cc_rooms 0 = .ok (.aload_n 0, 1) := by decide +kernel
theorem d_Cc_rooms_1 : decode c_Cc_rooms 1 = .ok (.getfield 35, 3) := by decide +kernel
theorem d_Cc_rooms_4 : decode c_Cc_rooms 4 = .ok (.invokevirtual 68, 3) := by decide +kernel
theorem d_Cc_rooms_7 : decode c_Cc_rooms 7 = .ok (.istore_n 1, 1) := by decide +kernel
theorem d_Cc_rooms_8 : decode c_Cc_rooms 8 = .ok (.iload_n 1, 1) := by decide +kernel
theorem d_Cc_rooms_9 : decode c_Cc_rooms 9 = .ok (.ifCond .lt 8, 3) := by decide +kernel
theorem d_Cc_rooms_12 : decode c_Cc_rooms 12 = .ok (.bipush (-100), 2) := by decide +kernel
theorem d_Cc_rooms_14 : decode c_Cc_rooms 14 = .ok (.iload_n 1, 1) := by decide +kernel
theorem d_Cc_rooms_15 : decode c_Cc_rooms 15 = .ok (.isub, 1) := by decide +kernel
theorem d_Cc_rooms_16 : decode c_Cc_rooms 16 = .ok (.ireturn, 1) := by decide +kernel
theorem d_Cc_rooms_17 : decode c_Cc_rooms 17 = .ok (.aload_n 0, 1) := by decide +kernel
theorem d_Cc_rooms_18 : decode c_Cc_rooms 18 = .ok (.getfield 35, 3) := by decide +kernel
theorem d_Cc_rooms_21 : decode c_Cc_rooms 21 = .ok (.getfield 72, 3) := by decide +kernel
theorem d_Cc_rooms_24 : decode c_Cc_rooms 24 = .ok (.getfield 76, 3) := by decide +kernel
theorem d_Cc_rooms_27 : decode c_Cc_rooms 27 = .ok (.istore_n 2, 1) := by decide +kernel
theorem d_Cc_rooms_28 : decode c_Cc_rooms 28 = .ok (.aload_n 0, 1) := by decide +kernel
theorem d_Cc_rooms_29 : decode c_Cc_rooms 29 = .ok (.getfield 10, 3) := by decide +kernel
theorem d_Cc_rooms_32 : decode c_Cc_rooms 32 = .ok (.getfield 79, 3) := by decide +kernel
theorem d_Cc_rooms_35 : decode c_Cc_rooms 35 = .ok (.getfield 76, 3) := by decide +kernel
theorem d_Cc_rooms_38 : decode c_Cc_rooms 38 = .ok (.iload_n 2, 1) := by decide +kernel
theorem d_Cc_rooms_39 : decode c_Cc_rooms 39 = .ok (.iadd, 1) := by decide +kernel
theorem d_Cc_rooms_40 : decode c_Cc_rooms 40 = .ok (.bipush 20, 2) := by decide +kernel
theorem d_Cc_rooms_42 : decode c_Cc_rooms 42 = .ok (.if_icmp .le 6, 3) := by decide +kernel
theorem d_Cc_rooms_45 : decode c_Cc_rooms 45 = .ok (.bipush (-3), 2) := by decide +kernel
theorem d_Cc_rooms_47 : decode c_Cc_rooms 47 = .ok (.ireturn, 1) := by decide +kernel
theorem d_Cc_rooms_48 : decode c_Cc_rooms 48 = .ok (.aload_n 0, 1) := by decide +kernel
theorem d_Cc_rooms_49 : decode c_Cc_rooms 49 = .ok (.getfield 28, 3) := by decide +kernel
theorem d_Cc_rooms_52 : decode c_Cc_rooms 52 = .ok (.aload_n 0, 1) := by decide +kernel
theorem d_Cc_rooms_53 : decode c_Cc_rooms 53 = .ok (.getfield 10, 3) := by decide +kernel
theorem d_Cc_rooms_56 : decode c_Cc_rooms 56 = .ok (.invokevirtual 60, 3) := by decide +kernel
theorem d_Cc_rooms_59 : decode c_Cc_rooms 59 = .ok (.aload_n 0, 1) := by decide +kernel
theorem d_Cc_rooms_60 : decode c_Cc_rooms 60 = .ok (.getfield 10, 3) := by decide +kernel
theorem d_Cc_rooms_63 : decode c_Cc_rooms 63 = .ok (.getfield 79, 3) := by decide +kernel
theorem d_Cc_rooms_66 : decode c_Cc_rooms 66 = .ok (.aload_n 0, 1) := by decide +kernel
theorem d_Cc_rooms_67 : decode c_Cc_rooms 67 = .ok (.getfield 35, 3) := by decide +kernel
theorem d_Cc_rooms_70 : decode c_Cc_rooms 70 = .ok (.getfield 72, 3) := by decide +kernel
theorem d_Cc_rooms_73 : decode c_Cc_rooms 73 = .ok (.invokevirtual 82, 3) := by decide +kernel
theorem d_Cc_rooms_76 : decode c_Cc_rooms 76 = .ok (.iload_n 2, 1) := by decide +kernel
theorem d_Cc_rooms_77 : decode c_Cc_rooms 77 = .ok (.ireturn, 1) := by decide +kernel
theorem d_Cc_cover_0 : decode c_Cc_cover 0 = .ok (.aload_n 0, 1) := by decide +kernel
theorem d_Cc_cover_1 : decode c_Cc_cover 1 = .ok (.getfield 10, 3) := by decide +kernel
theorem d_Cc_cover_4 : decode c_Cc_cover 4 = .ok (.getfield 79, 3) := by decide +kernel
theorem d_Cc_cover_7 : decode c_Cc_cover 7 = .ok (.iload_n 1, 1) := by decide +kernel
theorem d_Cc_cover_8 : decode c_Cc_cover 8 = .ok (.invokevirtual 86, 3) := by decide +kernel
theorem d_Cc_cover_11 : decode c_Cc_cover 11 = .ok (.ifCond .eq 17, 3) := by decide +kernel
theorem d_Cc_cover_14 : decode c_Cc_cover 14 = .ok (.aload_n 0, 1) := by decide +kernel
theorem d_Cc_cover_15 : decode c_Cc_cover 15 = .ok (.getfield 10, 3) := by decide +kernel
theorem d_Cc_cover_18 : decode c_Cc_cover 18 = .ok (.getfield 50, 3) := by decide +kernel
theorem d_Cc_cover_21 : decode c_Cc_cover 21 = .ok (.iload_n 2, 1) := by decide +kernel
theorem d_Cc_cover_22 : decode c_Cc_cover 22 = .ok (.invokevirtual 89, 3) := by decide +kernel
theorem d_Cc_cover_25 : decode c_Cc_cover 25 = .ok (.ifCond .ne 5, 3) := by decide +kernel
theorem d_Cc_cover_28 : decode c_Cc_cover 28 = .ok (.iconst (-1), 1) := by decide +kernel
theorem d_Cc_cover_29 : decode c_Cc_cover 29 = .ok (.ireturn, 1) := by decide +kernel
theorem d_Cc_cover_30 : decode c_Cc_cover 30 = .ok (.iload_n 3, 1) := by decide +kernel
theorem d_Cc_cover_31 : decode c_Cc_cover 31 = .ok (.invokestatic 90, 3) := by decide +kernel
theorem d_Cc_cover_34 : decode c_Cc_cover 34 = .ok (.ifCond .ne 6, 3) := by decide +kernel
theorem d_Cc_cover_37 : decode c_Cc_cover 37 = .ok (.bipush (-2), 2) := by decide +kernel
theorem d_Cc_cover_39 : decode c_Cc_cover 39 = .ok (.ireturn, 1) := by decide +kernel
theorem d_Cc_cover_40 : decode c_Cc_cover 40 = .ok (.aload_n 0, 1) := by decide +kernel
theorem d_Cc_cover_41 : decode c_Cc_cover 41 = .ok (.getfield 19, 3) := by decide +kernel
theorem d_Cc_cover_44 : decode c_Cc_cover 44 = .ok (.aload_n 0, 1) := by decide +kernel
theorem d_Cc_cover_45 : decode c_Cc_cover 45 = .ok (.getfield 10, 3) := by decide +kernel
theorem d_Cc_cover_48 : decode c_Cc_cover 48 = .ok (.invokevirtual 93, 3) := by decide +kernel
theorem d_Cc_cover_51 : decode c_Cc_cover 51 = .ok (.aload_n 0, 1) := by decide +kernel
theorem d_Cc_cover_52 : decode c_Cc_cover 52 = .ok (.getfield 19, 3) := by decide +kernel
theorem d_Cc_cover_55 : decode c_Cc_cover 55 = .ok (.iload_n 1, 1) := by decide +kernel
theorem d_Cc_cover_56 : decode c_Cc_cover 56 = .ok (.iload_n 2, 1) := by decide +kernel
theorem d_Cc_cover_57 : decode c_Cc_cover 57 = .ok (.iload_n 3, 1) := by decide +kernel
theorem d_Cc_cover_58 : decode c_Cc_cover 58 = .ok (.invokevirtual 96, 3) := by decide +kernel
theorem d_Cc_cover_61 : decode c_Cc_cover 61 = .ok (.istore 4, 2) := by decide +kernel
theorem d_Cc_cover_63 : decode c_Cc_cover 63 = .ok (.iload 4, 2) := by decide +kernel
theorem d_Cc_cover_65 : decode c_Cc_cover 65 = .ok (.ifCond .ge 6, 3) := by decide +kernel
theorem d_Cc_cover_68 : decode c_Cc_cover 68 = .ok (.iload 4, 2) := by decide +kernel
theorem d_Cc_cover_70 : decode c_Cc_cover 70 = .ok (.ireturn, 1) := by decide +kernel
theorem d_Cc_cover_71 : decode c_Cc_cover 71 = .ok (.aload_n 0, 1) := by decide +kernel
theorem d_Cc_cover_72 : decode c_Cc_cover 72 = .ok (.getfield 28, 3) := by decide +kernel
theorem d_Cc_cover_75 : decode c_Cc_cover 75 = .ok (.aload_n 0, 1) := by decide +kernel
theorem d_Cc_cover_76 : decode c_Cc_cover 76 = .ok (.getfield 10, 3) := by decide +kernel
theorem d_Cc_cover_79 : decode c_Cc_cover 79 = .ok (.invokevirtual 60, 3) := by decide +kernel
theorem d_Cc_cover_82 : decode c_Cc_cover 82 = .ok (.aload_n 0, 1) := by decide +kernel
theorem d_Cc_cover_83 : decode c_Cc_cover 83 = .ok (.getfield 10, 3) := by decide +kernel
theorem d_Cc_cover_86 : decode c_Cc_cover 86 = .ok (.aload_n 0, 1) := by decide +kernel
theorem d_Cc_cover_87 : decode c_Cc_cover 87 = .ok (.getfield 19, 3) := by decide +kernel
theorem d_Cc_cover_90 : decode c_Cc_cover 90 = .ok (.invokevirtual 93, 3) := by decide +kernel
theorem d_Cc_cover_93 : decode c_Cc_cover 93 = .ok (.iload 4, 2) := by decide +kernel
theorem d_Cc_cover_95 : decode c_Cc_cover 95 = .ok (.ireturn, 1) := by decide +kernel
theorem d_Cc_takeUp_0 : decode c_Cc_takeUp 0 = .ok (.aload_n 0, 1) := by decide +kernel
theorem d_Cc_takeUp_1 : decode c_Cc_takeUp 1 = .ok (.getfield 10, 3) := by decide +kernel
theorem d_Cc_takeUp_4 : decode c_Cc_takeUp 4 = .ok (.getfield 79, 3) := by decide +kernel
theorem d_Cc_takeUp_7 : decode c_Cc_takeUp 7 = .ok (.iload_n 1, 1) := by decide +kernel
theorem d_Cc_takeUp_8 : decode c_Cc_takeUp 8 = .ok (.invokevirtual 86, 3) := by decide +kernel
theorem d_Cc_takeUp_11 : decode c_Cc_takeUp 11 = .ok (.ifCond .ne 5, 3) := by decide +kernel
theorem d_Cc_takeUp_14 : decode c_Cc_takeUp 14 = .ok (.iconst (-1), 1) := by decide +kernel
theorem d_Cc_takeUp_15 : decode c_Cc_takeUp 15 = .ok (.ireturn, 1) := by decide +kernel
theorem d_Cc_takeUp_16 : decode c_Cc_takeUp 16 = .ok (.aload_n 0, 1) := by decide +kernel
theorem d_Cc_takeUp_17 : decode c_Cc_takeUp 17 = .ok (.getfield 10, 3) := by decide +kernel
theorem d_Cc_takeUp_20 : decode c_Cc_takeUp 20 = .ok (.getfield 79, 3) := by decide +kernel
theorem d_Cc_takeUp_23 : decode c_Cc_takeUp 23 = .ok (.iload_n 1, 1) := by decide +kernel
theorem d_Cc_takeUp_24 : decode c_Cc_takeUp 24 = .ok (.invokevirtual 100, 3) := by decide +kernel
theorem d_Cc_takeUp_27 : decode c_Cc_takeUp 27 = .ok (.ifCond .ne 6, 3) := by decide +kernel
theorem d_Cc_takeUp_30 : decode c_Cc_takeUp 30 = .ok (.bipush (-5), 2) := by decide +kernel
theorem d_Cc_takeUp_32 : decode c_Cc_takeUp 32 = .ok (.ireturn, 1) := by decide +kernel
theorem d_Cc_takeUp_33 : decode c_Cc_takeUp 33 = .ok (.aload_n 0, 1) := by decide +kernel
theorem d_Cc_takeUp_34 : decode c_Cc_takeUp 34 = .ok (.getfield 28, 3) := by decide +kernel
theorem d_Cc_takeUp_37 : decode c_Cc_takeUp 37 = .ok (.aload_n 0, 1) := by decide +kernel
theorem d_Cc_takeUp_38 : decode c_Cc_takeUp 38 = .ok (.getfield 10, 3) := by decide +kernel
theorem d_Cc_takeUp_41 : decode c_Cc_takeUp 41 = .ok (.invokevirtual 60, 3) := by decide +kernel
theorem d_Cc_takeUp_44 : decode c_Cc_takeUp 44 = .ok (.aload_n 0, 1) := by decide +kernel
theorem d_Cc_takeUp_45 : decode c_Cc_takeUp 45 = .ok (.getfield 10, 3) := by decide +kernel
theorem d_Cc_takeUp_48 : decode c_Cc_takeUp 48 = .ok (.iload_n 1, 1) := by decide +kernel
theorem d_Cc_takeUp_49 : decode c_Cc_takeUp 49 = .ok (.invokevirtual 103, 3) := by decide +kernel
theorem d_Cc_takeUp_52 : decode c_Cc_takeUp 52 = .ok (.ireturn, 1) := by decide +kernel
theorem d_Cc_sell_0 : decode c_Cc_sell 0 = .ok (.aload_n 0, 1) := by decide +kernel
theorem d_Cc_sell_1 : decode c_Cc_sell 1 = .ok (.getfield 10, 3) := by decide +kernel
theorem d_Cc_sell_4 : decode c_Cc_sell 4 = .ok (.getfield 107, 3) := by decide +kernel
theorem d_Cc_sell_7 : decode c_Cc_sell 7 = .ok (.iload_n 1, 1) := by decide +kernel
theorem d_Cc_sell_8 : decode c_Cc_sell 8 = .ok (.invokevirtual 111, 3) := by decide +kernel
theorem d_Cc_sell_11 : decode c_Cc_sell 11 = .ok (.istore_n 2, 1) := by decide +kernel
theorem d_Cc_sell_12 : decode c_Cc_sell 12 = .ok (.iload_n 2, 1) := by decide +kernel
theorem d_Cc_sell_13 : decode c_Cc_sell 13 = .ok (.ifCond .ge 5, 3) := by decide +kernel
theorem d_Cc_sell_16 : decode c_Cc_sell 16 = .ok (.iconst (-1), 1) := by decide +kernel
theorem d_Cc_sell_17 : decode c_Cc_sell 17 = .ok (.ireturn, 1) := by decide +kernel
theorem d_Cc_sell_18 : decode c_Cc_sell 18 = .ok (.aload_n 0, 1) := by decide +kernel
theorem d_Cc_sell_19 : decode c_Cc_sell 19 = .ok (.getfield 28, 3) := by decide +kernel
theorem d_Cc_sell_22 : decode c_Cc_sell 22 = .ok (.aload_n 0, 1) := by decide +kernel
theorem d_Cc_sell_23 : decode c_Cc_sell 23 = .ok (.getfield 10, 3) := by decide +kernel
theorem d_Cc_sell_26 : decode c_Cc_sell 26 = .ok (.invokevirtual 60, 3) := by decide +kernel
theorem d_Cc_sell_29 : decode c_Cc_sell 29 = .ok (.aload_n 0, 1) := by decide +kernel
theorem d_Cc_sell_30 : decode c_Cc_sell 30 = .ok (.getfield 10, 3) := by decide +kernel
theorem d_Cc_sell_33 : decode c_Cc_sell 33 = .ok (.iload_n 2, 1) := by decide +kernel
theorem d_Cc_sell_34 : decode c_Cc_sell 34 = .ok (.invokevirtual 116, 3) := by decide +kernel
theorem d_Cc_sell_37 : decode c_Cc_sell 37 = .ok (.ireturn, 1) := by decide +kernel
theorem d_Cc_clear_0 : decode c_Cc_clear 0 = .ok (.aload_n 0, 1) := by decide +kernel
theorem d_Cc_clear_1 : decode c_Cc_clear 1 = .ok (.getfield 10, 3) := by decide +kernel
theorem d_Cc_clear_4 : decode c_Cc_clear 4 = .ok (.getfield 50, 3) := by decide +kernel
theorem d_Cc_clear_7 : decode c_Cc_clear 7 = .ok (.iload_n 1, 1) := by decide +kernel
theorem d_Cc_clear_8 : decode c_Cc_clear 8 = .ok (.invokevirtual 89, 3) := by decide +kernel
theorem d_Cc_clear_11 : decode c_Cc_clear 11 = .ok (.ifCond .ne 5, 3) := by decide +kernel
theorem d_Cc_clear_14 : decode c_Cc_clear 14 = .ok (.iconst (-1), 1) := by decide +kernel
theorem d_Cc_clear_15 : decode c_Cc_clear 15 = .ok (.ireturn, 1) := by decide +kernel
theorem d_Cc_clear_16 : decode c_Cc_clear 16 = .ok (.iload_n 2, 1) := by decide +kernel
theorem d_Cc_clear_17 : decode c_Cc_clear 17 = .ok (.iconst 1, 1) := by decide +kernel
theorem d_Cc_clear_18 : decode c_Cc_clear 18 = .ok (.if_icmp .lt 10, 3) := by decide +kernel
theorem d_Cc_clear_21 : decode c_Cc_clear 21 = .ok (.iload_n 2, 1) := by decide +kernel
theorem d_Cc_clear_22 : decode c_Cc_clear 22 = .ok (.sipush 9999, 3) := by decide +kernel
theorem d_Cc_clear_25 : decode c_Cc_clear 25 = .ok (.if_icmp .le 6, 3) := by decide +kernel
theorem d_Cc_clear_28 : decode c_Cc_clear 28 = .ok (.bipush (-2), 2) := by decide +kernel
theorem d_Cc_clear_30 : decode c_Cc_clear 30 = .ok (.ireturn, 1) := by decide +kernel
theorem d_Cc_clear_31 : decode c_Cc_clear 31 = .ok (.aload_n 0, 1) := by decide +kernel
theorem d_Cc_clear_32 : decode c_Cc_clear 32 = .ok (.getfield 10, 3) := by decide +kernel
theorem d_Cc_clear_35 : decode c_Cc_clear 35 = .ok (.getfield 107, 3) := by decide +kernel
theorem d_Cc_clear_38 : decode c_Cc_clear 38 = .ok (.iload_n 1, 1) := by decide +kernel
theorem d_Cc_clear_39 : decode c_Cc_clear 39 = .ok (.iload_n 2, 1) := by decide +kernel
theorem d_Cc_clear_40 : decode c_Cc_clear 40 = .ok (.invokevirtual 119, 3) := by decide +kernel
theorem d_Cc_clear_43 : decode c_Cc_clear 43 = .ok (.ifCond .ne 6, 3) := by decide +kernel
theorem d_Cc_clear_46 : decode c_Cc_clear 46 = .ok (.bipush (-5), 2) := by decide +kernel
theorem d_Cc_clear_48 : decode c_Cc_clear 48 = .ok (.ireturn, 1) := by decide +kernel
theorem d_Cc_clear_49 : decode c_Cc_clear 49 = .ok (.aload_n 0, 1) := by decide +kernel
theorem d_Cc_clear_50 : decode c_Cc_clear 50 = .ok (.getfield 28, 3) := by decide +kernel
theorem d_Cc_clear_53 : decode c_Cc_clear 53 = .ok (.aload_n 0, 1) := by decide +kernel
theorem d_Cc_clear_54 : decode c_Cc_clear 54 = .ok (.getfield 10, 3) := by decide +kernel
theorem d_Cc_clear_57 : decode c_Cc_clear 57 = .ok (.invokevirtual 60, 3) := by decide +kernel
theorem d_Cc_clear_60 : decode c_Cc_clear 60 = .ok (.aload_n 0, 1) := by decide +kernel
theorem d_Cc_clear_61 : decode c_Cc_clear 61 = .ok (.getfield 10, 3) := by decide +kernel
theorem d_Cc_clear_64 : decode c_Cc_clear 64 = .ok (.iload_n 1, 1) := by decide +kernel
theorem d_Cc_clear_65 : decode c_Cc_clear 65 = .ok (.iload_n 2, 1) := by decide +kernel
theorem d_Cc_clear_66 : decode c_Cc_clear 66 = .ok (.invokevirtual 123, 3) := by decide +kernel
theorem d_Cc_clear_69 : decode c_Cc_clear 69 = .ok (.ireturn, 1) := by decide +kernel
theorem d_Cc_set_0 : decode c_Cc_set 0 = .ok (.iload_n 1, 1) := by decide +kernel
theorem d_Cc_set_1 : decode c_Cc_set 1 = .ok (.iload_n 2, 1) := by decide +kernel
theorem d_Cc_set_2 : decode c_Cc_set 2 = .ok (.invokestatic 126, 3) := by decide +kernel
theorem d_Cc_set_5 : decode c_Cc_set 5 = .ok (.ifCond .ne 6, 3) := by decide +kernel
theorem d_Cc_set_8 : decode c_Cc_set 8 = .ok (.bipush (-2), 2) := by decide +kernel
theorem d_Cc_set_10 : decode c_Cc_set 10 = .ok (.ireturn, 1) := by decide +kernel
theorem d_Cc_set_11 : decode c_Cc_set 11 = .ok (.aload_n 0, 1) := by decide +kernel
theorem d_Cc_set_12 : decode c_Cc_set 12 = .ok (.getfield 10, 3) := by decide +kernel
theorem d_Cc_set_15 : decode c_Cc_set 15 = .ok (.getfield 130, 3) := by decide +kernel
theorem d_Cc_set_18 : decode c_Cc_set 18 = .ok (.iload_n 1, 1) := by decide +kernel
theorem d_Cc_set_19 : decode c_Cc_set 19 = .ok (.invokevirtual 134, 3) := by decide +kernel
theorem d_Cc_set_22 : decode c_Cc_set 22 = .ok (.istore_n 3, 1) := by decide +kernel
theorem d_Cc_set_23 : decode c_Cc_set 23 = .ok (.iload_n 2, 1) := by decide +kernel
theorem d_Cc_set_24 : decode c_Cc_set 24 = .ok (.iload_n 3, 1) := by decide +kernel
theorem d_Cc_set_25 : decode c_Cc_set 25 = .ok (.if_icmp .ne 6, 3) := by decide +kernel
theorem d_Cc_set_28 : decode c_Cc_set 28 = .ok (.bipush (-5), 2) := by decide +kernel
theorem d_Cc_set_30 : decode c_Cc_set 30 = .ok (.ireturn, 1) := by decide +kernel
theorem d_Cc_set_31 : decode c_Cc_set 31 = .ok (.aload_n 0, 1) := by decide +kernel
theorem d_Cc_set_32 : decode c_Cc_set 32 = .ok (.getfield 28, 3) := by decide +kernel
theorem d_Cc_set_35 : decode c_Cc_set 35 = .ok (.aload_n 0, 1) := by decide +kernel
theorem d_Cc_set_36 : decode c_Cc_set 36 = .ok (.getfield 10, 3) := by decide +kernel
theorem d_Cc_set_39 : decode c_Cc_set 39 = .ok (.invokevirtual 60, 3) := by decide +kernel
theorem d_Cc_set_42 : decode c_Cc_set 42 = .ok (.aload_n 0, 1) := by decide +kernel
theorem d_Cc_set_43 : decode c_Cc_set 43 = .ok (.getfield 10, 3) := by decide +kernel
theorem d_Cc_set_46 : decode c_Cc_set 46 = .ok (.getfield 130, 3) := by decide +kernel
theorem d_Cc_set_49 : decode c_Cc_set 49 = .ok (.iload_n 1, 1) := by decide +kernel
theorem d_Cc_set_50 : decode c_Cc_set 50 = .ok (.iload_n 2, 1) := by decide +kernel
theorem d_Cc_set_51 : decode c_Cc_set 51 = .ok (.invokevirtual 139, 3) := by decide +kernel
theorem d_Cc_set_54 : decode c_Cc_set 54 = .ok (.iload_n 3, 1) := by decide +kernel
theorem d_Cc_set_55 : decode c_Cc_set 55 = .ok (.ireturn, 1) := by decide +kernel
theorem d_Cc_isSetting_0 : decode c_Cc_isSetting 0 = .ok (.iload_n 0, 1) := by decide +kernel
theorem d_Cc_isSetting_1 : decode c_Cc_isSetting 1 = .ok (.tableswitch 115 0 4 #[35, 50, 67, 83, 100], 35) := by decide +kernel
theorem d_Cc_isSetting_36 : decode c_Cc_isSetting 36 = .ok (.iload_n 1, 1) := by decide +kernel
theorem d_Cc_isSetting_37 : decode c_Cc_isSetting 37 = .ok (.ifCond .lt 12, 3) := by decide +kernel
theorem d_Cc_isSetting_40 : decode c_Cc_isSetting 40 = .ok (.iload_n 1, 1) := by decide +kernel
theorem d_Cc_isSetting_41 : decode c_Cc_isSetting 41 = .ok (.iconst 2, 1) := by decide +kernel
theorem d_Cc_isSetting_42 : decode c_Cc_isSetting 42 = .ok (.if_icmp .gt 7, 3) := by decide +kernel
theorem d_Cc_isSetting_45 : decode c_Cc_isSetting 45 = .ok (.iconst 1, 1) := by decide +kernel
theorem d_Cc_isSetting_46 : decode c_Cc_isSetting 46 = .ok (.goto 4, 3) := by decide +kernel
theorem d_Cc_isSetting_49 : decode c_Cc_isSetting 49 = .ok (.iconst 0, 1) := by decide +kernel
theorem d_Cc_isSetting_50 : decode c_Cc_isSetting 50 = .ok (.ireturn, 1) := by decide +kernel
theorem d_Cc_isSetting_51 : decode c_Cc_isSetting 51 = .ok (.iload_n 1, 1) := by decide +kernel
theorem d_Cc_isSetting_52 : decode c_Cc_isSetting 52 = .ok (.iconst 1, 1) := by decide +kernel
theorem d_Cc_isSetting_53 : decode c_Cc_isSetting 53 = .ok (.if_icmp .lt 13, 3) := by decide +kernel
theorem d_Cc_isSetting_56 : decode c_Cc_isSetting 56 = .ok (.iload_n 1, 1) := by decide +kernel
theorem d_Cc_isSetting_57 : decode c_Cc_isSetting 57 = .ok (.bipush 20, 2) := by decide +kernel
theorem d_Cc_isSetting_59 : decode c_Cc_isSetting 59 = .ok (.if_icmp .gt 7, 3) := by decide +kernel
theorem d_Cc_isSetting_62 : decode c_Cc_isSetting 62 = .ok (.iconst 1, 1) := by decide +kernel
theorem d_Cc_isSetting_63 : decode c_Cc_isSetting 63 = .ok (.goto 4, 3) := by decide +kernel
theorem d_Cc_isSetting_66 : decode c_Cc_isSetting 66 = .ok (.iconst 0, 1) := by decide +kernel
theorem d_Cc_isSetting_67 : decode c_Cc_isSetting 67 = .ok (.ireturn, 1) := by decide +kernel
theorem d_Cc_isSetting_68 : decode c_Cc_isSetting 68 = .ok (.iload_n 1, 1) := by decide +kernel
theorem d_Cc_isSetting_69 : decode c_Cc_isSetting 69 = .ok (.ifCond .lt 13, 3) := by decide +kernel
theorem d_Cc_isSetting_72 : decode c_Cc_isSetting 72 = .ok (.iload_n 1, 1) := by decide +kernel
theorem d_Cc_isSetting_73 : decode c_Cc_isSetting 73 = .ok (.bipush 99, 2) := by decide +kernel
theorem d_Cc_isSetting_75 : decode c_Cc_isSetting 75 = .ok (.if_icmp .gt 7, 3) := by decide +kernel
theorem d_Cc_isSetting_78 : decode c_Cc_isSetting 78 = .ok (.iconst 1, 1) := by decide +kernel
theorem d_Cc_isSetting_79 : decode c_Cc_isSetting 79 = .ok (.goto 4, 3) := by decide +kernel
theorem d_Cc_isSetting_82 : decode c_Cc_isSetting 82 = .ok (.iconst 0, 1) := by decide +kernel
theorem d_Cc_isSetting_83 : decode c_Cc_isSetting 83 = .ok (.ireturn, 1) := by decide +kernel
theorem d_Cc_isSetting_84 : decode c_Cc_isSetting 84 = .ok (.iload_n 1, 1) := by decide +kernel
theorem d_Cc_isSetting_85 : decode c_Cc_isSetting 85 = .ok (.iconst 1, 1) := by decide +kernel
theorem d_Cc_isSetting_86 : decode c_Cc_isSetting 86 = .ok (.if_icmp .lt 13, 3) := by decide +kernel
theorem d_Cc_isSetting_89 : decode c_Cc_isSetting 89 = .ok (.iload_n 1, 1) := by decide +kernel
theorem d_Cc_isSetting_90 : decode c_Cc_isSetting 90 = .ok (.bipush 9, 2) := by decide +kernel
theorem d_Cc_isSetting_92 : decode c_Cc_isSetting 92 = .ok (.if_icmp .gt 7, 3) := by decide +kernel
theorem d_Cc_isSetting_95 : decode c_Cc_isSetting 95 = .ok (.iconst 1, 1) := by decide +kernel
theorem d_Cc_isSetting_96 : decode c_Cc_isSetting 96 = .ok (.goto 4, 3) := by decide +kernel
theorem d_Cc_isSetting_99 : decode c_Cc_isSetting 99 = .ok (.iconst 0, 1) := by decide +kernel
theorem d_Cc_isSetting_100 : decode c_Cc_isSetting 100 = .ok (.ireturn, 1) := by decide +kernel
theorem d_Cc_isSetting_101 : decode c_Cc_isSetting 101 = .ok (.iload_n 1, 1) := by decide +kernel
theorem d_Cc_isSetting_102 : decode c_Cc_isSetting 102 = .ok (.ifCond .eq 8, 3) := by decide +kernel
theorem d_Cc_isSetting_105 : decode c_Cc_isSetting 105 = .ok (.iload_n 1, 1) := by decide +kernel
theorem d_Cc_isSetting_106 : decode c_Cc_isSetting 106 = .ok (.iconst 1, 1) := by decide +kernel
theorem d_Cc_isSetting_107 : decode c_Cc_isSetting 107 = .ok (.if_icmp .ne 7, 3) := by decide +kernel
theorem d_Cc_isSetting_110 : decode c_Cc_isSetting 110 = .ok (.iconst 1, 1) := by decide +kernel
theorem d_Cc_isSetting_111 : decode c_Cc_isSetting 111 = .ok (.goto 4, 3) := by decide +kernel
theorem d_Cc_isSetting_114 : decode c_Cc_isSetting 114 = .ok (.iconst 0, 1) := by decide +kernel
theorem d_Cc_isSetting_115 : decode c_Cc_isSetting 115 = .ok (.ireturn, 1) := by decide +kernel
theorem d_Cc_isSetting_116 : decode c_Cc_isSetting 116 = .ok (.iconst 0, 1) := by decide +kernel
theorem d_Cc_isSetting_117 : decode c_Cc_isSetting 117 = .ok (.ireturn, 1) := by decide +kernel
theorem d_Cc_type_0 : decode c_Cc_type 0 = .ok (.aload_n 0, 1) := by decide +kernel
theorem d_Cc_type_1 : decode c_Cc_type 1 = .ok (.getfield 35, 3) := by decide +kernel
theorem d_Cc_type_4 : decode c_Cc_type 4 = .ok (.iload_n 1, 1) := by decide +kernel
theorem d_Cc_type_5 : decode c_Cc_type 5 = .ok (.invokevirtual 143, 3) := by decide +kernel
theorem d_Cc_type_8 : decode c_Cc_type 8 = .ok (.ifCond .eq 13, 3) := by decide +kernel
theorem d_Cc_type_11 : decode c_Cc_type 11 = .ok (.aload_n 0, 1) := by decide +kernel
theorem d_Cc_type_12 : decode c_Cc_type 12 = .ok (.getfield 35, 3) := by decide +kernel
theorem d_Cc_type_15 : decode c_Cc_type 15 = .ok (.getfield 146, 3) := by decide +kernel
theorem d_Cc_type_18 : decode c_Cc_type 18 = .ok (.goto 5, 3) := by decide +kernel
theorem d_Cc_type_21 : decode c_Cc_type 21 = .ok (.bipush (-3), 2) := by decide +kernel
theorem d_Cc_type_23 : decode c_Cc_type 23 = .ok (.ireturn, 1) := by decide +kernel
theorem d_Cc_clearText_0 : decode c_Cc_clearText 0 = .ok (.aload_n 0, 1) := by decide +kernel
theorem d_Cc_clearText_1 : decode c_Cc_clearText 1 = .ok (.getfield 35, 3) := by decide +kernel
theorem d_Cc_clearText_4 : decode c_Cc_clearText 4 = .ok (.getfield 146, 3) := by decide +kernel
theorem d_Cc_clearText_7 : decode c_Cc_clearText 7 = .ok (.istore_n 1, 1) := by decide +kernel
theorem d_Cc_clearText_8 : decode c_Cc_clearText 8 = .ok (.aload_n 0, 1) := by decide +kernel
theorem d_Cc_clearText_9 : decode c_Cc_clearText 9 = .ok (.getfield 35, 3) := by decide +kernel
theorem d_Cc_clearText_12 : decode c_Cc_clearText 12 = .ok (.iconst 0, 1) := by decide +kernel
theorem d_Cc_clearText_13 : decode c_Cc_clearText 13 = .ok (.putfield 146, 3) := by decide +kernel
theorem d_Cc_clearText_16 : decode c_Cc_clearText 16 = .ok (.iload_n 1, 1) := by decide +kernel
theorem d_Cc_clearText_17 : decode c_Cc_clearText 17 = .ok (.ireturn, 1) := by decide +kernel
theorem d_Cc_fault_0 : decode c_Cc_fault 0 = .ok (.aload_n 0, 1) := by decide +kernel
theorem d_Cc_fault_1 : decode c_Cc_fault 1 = .ok (.getfield 35, 3) := by decide +kernel
theorem d_Cc_fault_4 : decode c_Cc_fault 4 = .ok (.invokevirtual 68, 3) := by decide +kernel
theorem d_Cc_fault_7 : decode c_Cc_fault 7 = .ok (.ireturn, 1) := by decide +kernel
theorem d_Cc_undo_0 : decode c_Cc_undo 0 = .ok (.aload_n 0, 1) := by decide +kernel
theorem d_Cc_undo_1 : decode c_Cc_undo 1 = .ok (.getfield 28, 3) := by decide +kernel
theorem d_Cc_undo_4 : decode c_Cc_undo 4 = .ok (.getfield 149, 3) := by decide +kernel
theorem d_Cc_undo_7 : decode c_Cc_undo 7 = .ok (.ifCond .ne 6, 3) := by decide +kernel
theorem d_Cc_undo_10 : decode c_Cc_undo 10 = .ok (.bipush (-5), 2) := by decide +kernel
theorem d_Cc_undo_12 : decode c_Cc_undo 12 = .ok (.ireturn, 1) := by decide +kernel
theorem d_Cc_undo_13 : decode c_Cc_undo 13 = .ok (.aload_n 0, 1) := by decide +kernel
theorem d_Cc_undo_14 : decode c_Cc_undo 14 = .ok (.getfield 28, 3) := by decide +kernel
theorem d_Cc_undo_17 : decode c_Cc_undo 17 = .ok (.aload_n 0, 1) := by decide +kernel
theorem d_Cc_undo_18 : decode c_Cc_undo 18 = .ok (.getfield 10, 3) := by decide +kernel
theorem d_Cc_undo_21 : decode c_Cc_undo 21 = .ok (.invokevirtual 150, 3) := by decide +kernel
theorem d_Cc_undo_24 : decode c_Cc_undo 24 = .ok (.aload_n 0, 1) := by decide +kernel
theorem d_Cc_undo_25 : decode c_Cc_undo 25 = .ok (.getfield 28, 3) := by decide +kernel
theorem d_Cc_undo_28 : decode c_Cc_undo 28 = .ok (.getfield 149, 3) := by decide +kernel
theorem d_Cc_undo_31 : decode c_Cc_undo 31 = .ok (.ireturn, 1) := by decide +kernel
theorem d_Cc_keep_0 : decode c_Cc_keep 0 = .ok (.aload_n 0, 1) := by decide +kernel
theorem d_Cc_keep_1 : decode c_Cc_keep 1 = .ok (.getfield 16, 3) := by decide +kernel
theorem d_Cc_keep_4 : decode c_Cc_keep 4 = .ok (.aload_n 0, 1) := by decide +kernel
theorem d_Cc_keep_5 : decode c_Cc_keep 5 = .ok (.getfield 10, 3) := by decide +kernel
theorem d_Cc_keep_8 : decode c_Cc_keep 8 = .ok (.invokevirtual 93, 3) := by decide +kernel
theorem d_Cc_keep_11 : decode c_Cc_keep 11 = .ok (.aload_n 0, 1) := by decide +kernel
theorem d_Cc_keep_12 : decode c_Cc_keep 12 = .ok (.iconst 1, 1) := by decide +kernel
theorem d_Cc_keep_13 : decode c_Cc_keep 13 = .ok (.putfield 153, 3) := by decide +kernel
theorem d_Cc_keep_16 : decode c_Cc_keep 16 = .ok (.aload_n 0, 1) := by decide +kernel
theorem d_Cc_keep_17 : decode c_Cc_keep 17 = .ok (.getfield 10, 3) := by decide +kernel
theorem d_Cc_keep_20 : decode c_Cc_keep 20 = .ok (.getfield 79, 3) := by decide +kernel
theorem d_Cc_keep_23 : decode c_Cc_keep 23 = .ok (.getfield 76, 3) := by decide +kernel
theorem d_Cc_keep_26 : decode c_Cc_keep 26 = .ok (.ireturn, 1) := by decide +kernel
theorem d_Cc_restore_0 : decode c_Cc_restore 0 = .ok (.aload_n 0, 1) := by decide +kernel
theorem d_Cc_restore_1 : decode c_Cc_restore 1 = .ok (.getfield 153, 3) := by decide +kernel
theorem d_Cc_restore_4 : decode c_Cc_restore 4 = .ok (.ifCond .ne 6, 3) := by decide +kernel
theorem d_Cc_restore_7 : decode c_Cc_restore 7 = .ok (.bipush (-5), 2) := by decide +kernel
theorem d_Cc_restore_9 : decode c_Cc_restore 9 = .ok (.ireturn, 1) := by decide +kernel
theorem d_Cc_restore_10 : decode c_Cc_restore 10 = .ok (.aload_n 0, 1) := by decide +kernel
theorem d_Cc_restore_11 : decode c_Cc_restore 11 = .ok (.getfield 28, 3) := by decide +kernel
theorem d_Cc_restore_14 : decode c_Cc_restore 14 = .ok (.aload_n 0, 1) := by decide +kernel
theorem d_Cc_restore_15 : decode c_Cc_restore 15 = .ok (.getfield 10, 3) := by decide +kernel
theorem d_Cc_restore_18 : decode c_Cc_restore 18 = .ok (.invokevirtual 60, 3) := by decide +kernel
theorem d_Cc_restore_21 : decode c_Cc_restore 21 = .ok (.aload_n 0, 1) := by decide +kernel
theorem d_Cc_restore_22 : decode c_Cc_restore 22 = .ok (.getfield 10, 3) := by decide +kernel
theorem d_Cc_restore_25 : decode c_Cc_restore 25 = .ok (.aload_n 0, 1) := by decide +kernel
theorem d_Cc_restore_26 : decode c_Cc_restore 26 = .ok (.getfield 16, 3) := by decide +kernel
theorem d_Cc_restore_29 : decode c_Cc_restore 29 = .ok (.invokevirtual 93, 3) := by decide +kernel
theorem d_Cc_restore_32 : decode c_Cc_restore 32 = .ok (.aload_n 0, 1) := by decide +kernel
theorem d_Cc_restore_33 : decode c_Cc_restore 33 = .ok (.getfield 10, 3) := by decide +kernel
theorem d_Cc_restore_36 : decode c_Cc_restore 36 = .ok (.getfield 79, 3) := by decide +kernel
theorem d_Cc_restore_39 : decode c_Cc_restore 39 = .ok (.getfield 76, 3) := by decide +kernel
theorem d_Cc_restore_42 : decode c_Cc_restore 42 = .ok (.ireturn, 1) := by decide +kernel
theorem d_Cc_rollOf_0 : decode c_Cc_rollOf 0 = .ok (.aload_n 0, 1) := by decide +kernel
theorem d_Cc_rollOf_1 : decode c_Cc_rollOf 1 = .ok (.getfield 10, 3) := by decide +kernel
theorem d_Cc_rollOf_4 : decode c_Cc_rollOf 4 = .ok (.getfield 50, 3) := by decide +kernel
theorem d_Cc_rollOf_7 : decode c_Cc_rollOf 7 = .ok (.iload_n 1, 1) := by decide +kernel
theorem d_Cc_rollOf_8 : decode c_Cc_rollOf 8 = .ok (.invokevirtual 89, 3) := by decide +kernel
theorem d_Cc_rollOf_11 : decode c_Cc_rollOf 11 = .ok (.ifCond .ne 5, 3) := by decide +kernel
theorem d_Cc_rollOf_14 : decode c_Cc_rollOf 14 = .ok (.iconst (-1), 1) := by decide +kernel
theorem d_Cc_rollOf_15 : decode c_Cc_rollOf 15 = .ok (.ireturn, 1) := by decide +kernel
theorem d_Cc_rollOf_16 : decode c_Cc_rollOf 16 = .ok (.iload_n 2, 1) := by decide +kernel
theorem d_Cc_rollOf_17 : decode c_Cc_rollOf 17 = .ok (.tableswitch 199 0 9 #[55, 70, 85, 100, 115, 127, 139, 154, 169, 184], 55) := by decide +kernel
theorem d_Cc_rollOf_72 : decode c_Cc_rollOf 72 = .ok (.aload_n 0, 1) := by decide +kernel
theorem d_Cc_rollOf_73 : decode c_Cc_rollOf 73 = .ok (.getfield 10, 3) := by decide +kernel
theorem d_Cc_rollOf_76 : decode c_Cc_rollOf 76 = .ok (.getfield 50, 3) := by decide +kernel
theorem d_Cc_rollOf_79 : decode c_Cc_rollOf 79 = .ok (.getfield 157, 3) := by decide +kernel
theorem d_Cc_rollOf_82 : decode c_Cc_rollOf 82 = .ok (.iload_n 1, 1) := by decide +kernel
theorem d_Cc_rollOf_83 : decode c_Cc_rollOf 83 = .ok (.invokevirtual 134, 3) := by decide +kernel
theorem d_Cc_rollOf_86 : decode c_Cc_rollOf 86 = .ok (.ireturn, 1) := by decide +kernel
theorem d_Cc_rollOf_87 : decode c_Cc_rollOf 87 = .ok (.aload_n 0, 1) := by decide +kernel
theorem d_Cc_rollOf_88 : decode c_Cc_rollOf 88 = .ok (.getfield 10, 3) := by decide +kernel
theorem d_Cc_rollOf_91 : decode c_Cc_rollOf 91 = .ok (.getfield 50, 3) := by decide +kernel
theorem d_Cc_rollOf_94 : decode c_Cc_rollOf 94 = .ok (.getfield 160, 3) := by decide +kernel
theorem d_Cc_rollOf_97 : decode c_Cc_rollOf 97 = .ok (.iload_n 1, 1) := by decide +kernel
theorem d_Cc_rollOf_98 : decode c_Cc_rollOf 98 = .ok (.invokevirtual 134, 3) := by decide +kernel
theorem d_Cc_rollOf_101 : decode c_Cc_rollOf 101 = .ok (.ireturn, 1) := by decide +kernel
theorem d_Cc_rollOf_102 : decode c_Cc_rollOf 102 = .ok (.aload_n 0, 1) := by decide +kernel
theorem d_Cc_rollOf_103 : decode c_Cc_rollOf 103 = .ok (.getfield 10, 3) := by decide +kernel
theorem d_Cc_rollOf_106 : decode c_Cc_rollOf 106 = .ok (.getfield 50, 3) := by decide +kernel
theorem d_Cc_rollOf_109 : decode c_Cc_rollOf 109 = .ok (.getfield 163, 3) := by decide +kernel
theorem d_Cc_rollOf_112 : decode c_Cc_rollOf 112 = .ok (.iload_n 1, 1) := by decide +kernel
theorem d_Cc_rollOf_113 : decode c_Cc_rollOf 113 = .ok (.invokevirtual 134, 3) := by decide +kernel
theorem d_Cc_rollOf_116 : decode c_Cc_rollOf 116 = .ok (.ireturn, 1) := by decide +kernel
theorem d_Cc_rollOf_117 : decode c_Cc_rollOf 117 = .ok (.aload_n 0, 1) := by decide +kernel
theorem d_Cc_rollOf_118 : decode c_Cc_rollOf 118 = .ok (.getfield 10, 3) := by decide +kernel
theorem d_Cc_rollOf_121 : decode c_Cc_rollOf 121 = .ok (.getfield 50, 3) := by decide +kernel
theorem d_Cc_rollOf_124 : decode c_Cc_rollOf 124 = .ok (.getfield 166, 3) := by decide +kernel
theorem d_Cc_rollOf_127 : decode c_Cc_rollOf 127 = .ok (.iload_n 1, 1) := by decide +kernel
theorem d_Cc_rollOf_128 : decode c_Cc_rollOf 128 = .ok (.invokevirtual 134, 3) := by decide +kernel
theorem d_Cc_rollOf_131 : decode c_Cc_rollOf 131 = .ok (.ireturn, 1) := by decide +kernel
theorem d_Cc_rollOf_132 : decode c_Cc_rollOf 132 = .ok (.aload_n 0, 1) := by decide +kernel
theorem d_Cc_rollOf_133 : decode c_Cc_rollOf 133 = .ok (.getfield 10, 3) := by decide +kernel
theorem d_Cc_rollOf_136 : decode c_Cc_rollOf 136 = .ok (.getfield 107, 3) := by decide +kernel
theorem d_Cc_rollOf_139 : decode c_Cc_rollOf 139 = .ok (.iload_n 1, 1) := by decide +kernel
theorem d_Cc_rollOf_140 : decode c_Cc_rollOf 140 = .ok (.invokevirtual 169, 3) := by decide +kernel
theorem d_Cc_rollOf_143 : decode c_Cc_rollOf 143 = .ok (.ireturn, 1) := by decide +kernel
theorem d_Cc_rollOf_144 : decode c_Cc_rollOf 144 = .ok (.aload_n 0, 1) := by decide +kernel
theorem d_Cc_rollOf_145 : decode c_Cc_rollOf 145 = .ok (.getfield 10, 3) := by decide +kernel
theorem d_Cc_rollOf_148 : decode c_Cc_rollOf 148 = .ok (.getfield 107, 3) := by decide +kernel
theorem d_Cc_rollOf_151 : decode c_Cc_rollOf 151 = .ok (.iload_n 1, 1) := by decide +kernel
theorem d_Cc_rollOf_152 : decode c_Cc_rollOf 152 = .ok (.invokevirtual 172, 3) := by decide +kernel
theorem d_Cc_rollOf_155 : decode c_Cc_rollOf 155 = .ok (.ireturn, 1) := by decide +kernel
theorem d_Cc_rollOf_156 : decode c_Cc_rollOf 156 = .ok (.aload_n 0, 1) := by decide +kernel
theorem d_Cc_rollOf_157 : decode c_Cc_rollOf 157 = .ok (.getfield 10, 3) := by decide +kernel
theorem d_Cc_rollOf_160 : decode c_Cc_rollOf 160 = .ok (.getfield 50, 3) := by decide +kernel
theorem d_Cc_rollOf_163 : decode c_Cc_rollOf 163 = .ok (.getfield 175, 3) := by decide +kernel
theorem d_Cc_rollOf_166 : decode c_Cc_rollOf 166 = .ok (.iload_n 1, 1) := by decide +kernel
theorem d_Cc_rollOf_167 : decode c_Cc_rollOf 167 = .ok (.invokevirtual 134, 3) := by decide +kernel
theorem d_Cc_rollOf_170 : decode c_Cc_rollOf 170 = .ok (.ireturn, 1) := by decide +kernel
theorem d_Cc_rollOf_171 : decode c_Cc_rollOf 171 = .ok (.aload_n 0, 1) := by decide +kernel
theorem d_Cc_rollOf_172 : decode c_Cc_rollOf 172 = .ok (.getfield 10, 3) := by decide +kernel
theorem d_Cc_rollOf_175 : decode c_Cc_rollOf 175 = .ok (.getfield 50, 3) := by decide +kernel
theorem d_Cc_rollOf_178 : decode c_Cc_rollOf 178 = .ok (.getfield 178, 3) := by decide +kernel
theorem d_Cc_rollOf_181 : decode c_Cc_rollOf 181 = .ok (.iload_n 1, 1) := by decide +kernel
theorem d_Cc_rollOf_182 : decode c_Cc_rollOf 182 = .ok (.invokevirtual 134, 3) := by decide +kernel
theorem d_Cc_rollOf_185 : decode c_Cc_rollOf 185 = .ok (.ireturn, 1) := by decide +kernel
theorem d_Cc_rollOf_186 : decode c_Cc_rollOf 186 = .ok (.aload_n 0, 1) := by decide +kernel
theorem d_Cc_rollOf_187 : decode c_Cc_rollOf 187 = .ok (.getfield 10, 3) := by decide +kernel
theorem d_Cc_rollOf_190 : decode c_Cc_rollOf 190 = .ok (.getfield 50, 3) := by decide +kernel
theorem d_Cc_rollOf_193 : decode c_Cc_rollOf 193 = .ok (.getfield 181, 3) := by decide +kernel
theorem d_Cc_rollOf_196 : decode c_Cc_rollOf 196 = .ok (.iload_n 1, 1) := by decide +kernel
theorem d_Cc_rollOf_197 : decode c_Cc_rollOf 197 = .ok (.invokevirtual 134, 3) := by decide +kernel
theorem d_Cc_rollOf_200 : decode c_Cc_rollOf 200 = .ok (.ireturn, 1) := by decide +kernel
theorem d_Cc_rollOf_201 : decode c_Cc_rollOf 201 = .ok (.aload_n 0, 1) := by decide +kernel
theorem d_Cc_rollOf_202 : decode c_Cc_rollOf 202 = .ok (.getfield 10, 3) := by decide +kernel
theorem d_Cc_rollOf_205 : decode c_Cc_rollOf 205 = .ok (.getfield 50, 3) := by decide +kernel
theorem d_Cc_rollOf_208 : decode c_Cc_rollOf 208 = .ok (.getfield 184, 3) := by decide +kernel
theorem d_Cc_rollOf_211 : decode c_Cc_rollOf 211 = .ok (.iload_n 1, 1) := by decide +kernel
theorem d_Cc_rollOf_212 : decode c_Cc_rollOf 212 = .ok (.invokevirtual 134, 3) := by decide +kernel
theorem d_Cc_rollOf_215 : decode c_Cc_rollOf 215 = .ok (.ireturn, 1) := by decide +kernel
theorem d_Cc_rollOf_216 : decode c_Cc_rollOf 216 = .ok (.bipush (-2), 2) := by decide +kernel
theorem d_Cc_rollOf_218 : decode c_Cc_rollOf 218 = .ok (.ireturn, 1) := by decide +kernel
theorem d_Cc_offcut_0 : decode c_Cc_offcut 0 = .ok (.aload_n 0, 1) := by decide +kernel
theorem d_Cc_offcut_1 : decode c_Cc_offcut 1 = .ok (.getfield 10, 3) := by decide +kernel
theorem d_Cc_offcut_4 : decode c_Cc_offcut 4 = .ok (.getfield 107, 3) := by decide +kernel
theorem d_Cc_offcut_7 : decode c_Cc_offcut 7 = .ok (.iload_n 1, 1) := by decide +kernel
theorem d_Cc_offcut_8 : decode c_Cc_offcut 8 = .ok (.invokevirtual 111, 3) := by decide +kernel
theorem d_Cc_offcut_11 : decode c_Cc_offcut 11 = .ok (.istore_n 3, 1) := by decide +kernel
theorem d_Cc_offcut_12 : decode c_Cc_offcut 12 = .ok (.iload_n 3, 1) := by decide +kernel
theorem d_Cc_offcut_13 : decode c_Cc_offcut 13 = .ok (.ifCond .ge 5, 3) := by decide +kernel
theorem d_Cc_offcut_16 : decode c_Cc_offcut 16 = .ok (.iconst (-1), 1) := by decide +kernel
theorem d_Cc_offcut_17 : decode c_Cc_offcut 17 = .ok (.ireturn, 1) := by decide +kernel
theorem d_Cc_offcut_18 : decode c_Cc_offcut 18 = .ok (.iload_n 2, 1) := by decide +kernel
theorem d_Cc_offcut_19 : decode c_Cc_offcut 19 = .ok (.tableswitch 70 0 2 #[25, 40, 55], 25) := by decide +kernel
theorem d_Cc_offcut_44 : decode c_Cc_offcut 44 = .ok (.aload_n 0, 1) := by decide +kernel
theorem d_Cc_offcut_45 : decode c_Cc_offcut 45 = .ok (.getfield 10, 3) := by decide +kernel
theorem d_Cc_offcut_48 : decode c_Cc_offcut 48 = .ok (.getfield 107, 3) := by decide +kernel
theorem d_Cc_offcut_51 : decode c_Cc_offcut 51 = .ok (.getfield 187, 3) := by decide +kernel
theorem d_Cc_offcut_54 : decode c_Cc_offcut 54 = .ok (.iload_n 3, 1) := by decide +kernel
theorem d_Cc_offcut_55 : decode c_Cc_offcut 55 = .ok (.invokevirtual 134, 3) := by decide +kernel
theorem d_Cc_offcut_58 : decode c_Cc_offcut 58 = .ok (.ireturn, 1) := by decide +kernel
theorem d_Cc_offcut_59 : decode c_Cc_offcut 59 = .ok (.aload_n 0, 1) := by decide +kernel
theorem d_Cc_offcut_60 : decode c_Cc_offcut 60 = .ok (.getfield 10, 3) := by decide +kernel
theorem d_Cc_offcut_63 : decode c_Cc_offcut 63 = .ok (.getfield 107, 3) := by decide +kernel
theorem d_Cc_offcut_66 : decode c_Cc_offcut 66 = .ok (.getfield 190, 3) := by decide +kernel
theorem d_Cc_offcut_69 : decode c_Cc_offcut 69 = .ok (.iload_n 3, 1) := by decide +kernel
theorem d_Cc_offcut_70 : decode c_Cc_offcut 70 = .ok (.invokevirtual 134, 3) := by decide +kernel
theorem d_Cc_offcut_73 : decode c_Cc_offcut 73 = .ok (.ireturn, 1) := by decide +kernel
theorem d_Cc_offcut_74 : decode c_Cc_offcut 74 = .ok (.aload_n 0, 1) := by decide +kernel
theorem d_Cc_offcut_75 : decode c_Cc_offcut 75 = .ok (.getfield 10, 3) := by decide +kernel
theorem d_Cc_offcut_78 : decode c_Cc_offcut 78 = .ok (.getfield 107, 3) := by decide +kernel
theorem d_Cc_offcut_81 : decode c_Cc_offcut 81 = .ok (.getfield 191, 3) := by decide +kernel
theorem d_Cc_offcut_84 : decode c_Cc_offcut 84 = .ok (.iload_n 3, 1) := by decide +kernel
theorem d_Cc_offcut_85 : decode c_Cc_offcut 85 = .ok (.invokevirtual 134, 3) := by decide +kernel
theorem d_Cc_offcut_88 : decode c_Cc_offcut 88 = .ok (.ireturn, 1) := by decide +kernel
theorem d_Cc_offcut_89 : decode c_Cc_offcut 89 = .ok (.bipush (-2), 2) := by decide +kernel
theorem d_Cc_offcut_91 : decode c_Cc_offcut 91 = .ok (.ireturn, 1) := by decide +kernel
theorem d_Cc_sorted_0 : decode c_Cc_sorted 0 = .ok (.iload_n 1, 1) := by decide +kernel
theorem d_Cc_sorted_1 : decode c_Cc_sorted 1 = .ok (.ifCond .ge 6, 3) := by decide +kernel
theorem d_Cc_sorted_4 : decode c_Cc_sorted 4 = .ok (.bipush (-2), 2) := by decide +kernel
theorem d_Cc_sorted_6 : decode c_Cc_sorted 6 = .ok (.ireturn, 1) := by decide +kernel
theorem d_Cc_sorted_7 : decode c_Cc_sorted 7 = .ok (.aload_n 0, 1) := by decide +kernel
theorem d_Cc_sorted_8 : decode c_Cc_sorted 8 = .ok (.getfield 10, 3) := by decide +kernel
theorem d_Cc_sorted_11 : decode c_Cc_sorted 11 = .ok (.getfield 107, 3) := by decide +kernel
theorem d_Cc_sorted_14 : decode c_Cc_sorted 14 = .ok (.iload_n 1, 1) := by decide +kernel
theorem d_Cc_sorted_15 : decode c_Cc_sorted 15 = .ok (.invokevirtual 193, 3) := by decide +kernel
theorem d_Cc_sorted_18 : decode c_Cc_sorted 18 = .ok (.istore_n 2, 1) := by decide +kernel
theorem d_Cc_sorted_19 : decode c_Cc_sorted 19 = .ok (.iload_n 2, 1) := by decide +kernel
theorem d_Cc_sorted_20 : decode c_Cc_sorted 20 = .ok (.ifCond .ge 8, 3) := by decide +kernel
theorem d_Cc_sorted_23 : decode c_Cc_sorted 23 = .ok (.bipush (-5), 2) := by decide +kernel
theorem d_Cc_sorted_25 : decode c_Cc_sorted 25 = .ok (.goto 17, 3) := by decide +kernel
theorem d_Cc_sorted_28 : decode c_Cc_sorted 28 = .ok (.aload_n 0, 1) := by decide +kernel
theorem d_Cc_sorted_29 : decode c_Cc_sorted 29 = .ok (.getfield 10, 3) := by decide +kernel
theorem d_Cc_sorted_32 : decode c_Cc_sorted 32 = .ok (.getfield 107, 3) := by decide +kernel
theorem d_Cc_sorted_35 : decode c_Cc_sorted 35 = .ok (.getfield 196, 3) := by decide +kernel
theorem d_Cc_sorted_38 : decode c_Cc_sorted 38 = .ok (.iload_n 2, 1) := by decide +kernel
theorem d_Cc_sorted_39 : decode c_Cc_sorted 39 = .ok (.invokevirtual 134, 3) := by decide +kernel
theorem d_Cc_sorted_42 : decode c_Cc_sorted 42 = .ok (.ireturn, 1) := by decide +kernel
theorem d_Cc_room_0 : decode c_Cc_room 0 = .ok (.aload_n 0, 1) := by decide +kernel
theorem d_Cc_room_1 : decode c_Cc_room 1 = .ok (.getfield 10, 3) := by decide +kernel
theorem d_Cc_room_4 : decode c_Cc_room 4 = .ok (.getfield 79, 3) := by decide +kernel
theorem d_Cc_room_7 : decode c_Cc_room 7 = .ok (.iload_n 1, 1) := by decide +kernel
theorem d_Cc_room_8 : decode c_Cc_room 8 = .ok (.invokevirtual 86, 3) := by decide +kernel
theorem d_Cc_room_11 : decode c_Cc_room 11 = .ok (.ifCond .ne 5, 3) := by decide +kernel
theorem d_Cc_room_14 : decode c_Cc_room 14 = .ok (.iconst (-1), 1) := by decide +kernel
theorem d_Cc_room_15 : decode c_Cc_room 15 = .ok (.ireturn, 1) := by decide +kernel
theorem d_Cc_room_16 : decode c_Cc_room 16 = .ok (.iload_n 2, 1) := by decide +kernel
theorem d_Cc_room_17 : decode c_Cc_room 17 = .ok (.ifCond .lt 9, 3) := by decide +kernel
theorem d_Cc_room_20 : decode c_Cc_room 20 = .ok (.iload_n 2, 1) := by decide +kernel
theorem d_Cc_room_21 : decode c_Cc_room 21 = .ok (.bipush 8, 2) := by decide +kernel
theorem d_Cc_room_23 : decode c_Cc_room 23 = .ok (.if_icmp .le 6, 3) := by decide +kernel
theorem d_Cc_room_26 : decode c_Cc_room 26 = .ok (.bipush (-2), 2) := by decide +kernel
theorem d_Cc_room_28 : decode c_Cc_room 28 = .ok (.ireturn, 1) := by decide +kernel
theorem d_Cc_room_29 : decode c_Cc_room 29 = .ok (.aload_n 0, 1) := by decide +kernel
theorem d_Cc_room_30 : decode c_Cc_room 30 = .ok (.getfield 10, 3) := by decide +kernel
theorem d_Cc_room_33 : decode c_Cc_room 33 = .ok (.getfield 79, 3) := by decide +kernel
theorem d_Cc_room_36 : decode c_Cc_room 36 = .ok (.iload_n 1, 1) := by decide +kernel
theorem d_Cc_room_37 : decode c_Cc_room 37 = .ok (.invokevirtual 100, 3) := by decide +kernel
theorem d_Cc_room_40 : decode c_Cc_room 40 = .ok (.istore_n 3, 1) := by decide +kernel
theorem d_Cc_room_41 : decode c_Cc_room 41 = .ok (.iload_n 2, 1) := by decide +kernel
theorem d_Cc_room_42 : decode c_Cc_room 42 = .ok (.tableswitch 82 0 3 #[30, 45, 57, 72], 30) := by decide +kernel
theorem d_Cc_room_72 : decode c_Cc_room 72 = .ok (.aload_n 0, 1) := by decide +kernel
theorem d_Cc_room_73 : decode c_Cc_room 73 = .ok (.getfield 10, 3) := by decide +kernel
theorem d_Cc_room_76 : decode c_Cc_room 76 = .ok (.getfield 79, 3) := by decide +kernel
theorem d_Cc_room_79 : decode c_Cc_room 79 = .ok (.getfield 199, 3) := by decide +kernel
theorem d_Cc_room_82 : decode c_Cc_room 82 = .ok (.iload_n 1, 1) := by decide +kernel
theorem d_Cc_room_83 : decode c_Cc_room 83 = .ok (.invokevirtual 134, 3) := by decide +kernel
theorem d_Cc_room_86 : decode c_Cc_room 86 = .ok (.ireturn, 1) := by decide +kernel
theorem d_Cc_room_87 : decode c_Cc_room 87 = .ok (.aload_n 0, 1) := by decide +kernel
theorem d_Cc_room_88 : decode c_Cc_room 88 = .ok (.getfield 10, 3) := by decide +kernel
theorem d_Cc_room_91 : decode c_Cc_room 91 = .ok (.getfield 79, 3) := by decide +kernel
theorem d_Cc_room_94 : decode c_Cc_room 94 = .ok (.iload_n 1, 1) := by decide +kernel
theorem d_Cc_room_95 : decode c_Cc_room 95 = .ok (.invokevirtual 202, 3) := by decide +kernel
theorem d_Cc_room_98 : decode c_Cc_room 98 = .ok (.ireturn, 1) := by decide +kernel
theorem d_Cc_room_99 : decode c_Cc_room 99 = .ok (.aload_n 0, 1) := by decide +kernel
theorem d_Cc_room_100 : decode c_Cc_room 100 = .ok (.getfield 10, 3) := by decide +kernel
theorem d_Cc_room_103 : decode c_Cc_room 103 = .ok (.getfield 79, 3) := by decide +kernel
theorem d_Cc_room_106 : decode c_Cc_room 106 = .ok (.getfield 205, 3) := by decide +kernel
theorem d_Cc_room_109 : decode c_Cc_room 109 = .ok (.iload_n 1, 1) := by decide +kernel
theorem d_Cc_room_110 : decode c_Cc_room 110 = .ok (.invokevirtual 134, 3) := by decide +kernel
theorem d_Cc_room_113 : decode c_Cc_room 113 = .ok (.ireturn, 1) := by decide +kernel
theorem d_Cc_room_114 : decode c_Cc_room 114 = .ok (.iload_n 3, 1) := by decide +kernel
theorem d_Cc_room_115 : decode c_Cc_room 115 = .ok (.ifCond .eq 7, 3) := by decide +kernel
theorem d_Cc_room_118 : decode c_Cc_room 118 = .ok (.iconst 1, 1) := by decide +kernel
theorem d_Cc_room_119 : decode c_Cc_room 119 = .ok (.goto 4, 3) := by decide +kernel
theorem d_Cc_room_122 : decode c_Cc_room 122 = .ok (.iconst 0, 1) := by decide +kernel
theorem d_Cc_room_123 : decode c_Cc_room 123 = .ok (.ireturn, 1) := by decide +kernel
theorem d_Cc_room_124 : decode c_Cc_room 124 = .ok (.iload_n 3, 1) := by decide +kernel
theorem d_Cc_room_125 : decode c_Cc_room 125 = .ok (.ifCond .eq 12, 3) := by decide +kernel
theorem d_Cc_room_128 : decode c_Cc_room 128 = .ok (.aload_n 0, 1) := by decide +kernel
theorem d_Cc_room_129 : decode c_Cc_room 129 = .ok (.iload_n 1, 1) := by decide +kernel
theorem d_Cc_room_130 : decode c_Cc_room 130 = .ok (.iload_n 2, 1) := by decide +kernel
theorem d_Cc_room_131 : decode c_Cc_room 131 = .ok (.invokevirtual 208, 3) := by decide +kernel
theorem d_Cc_room_134 : decode c_Cc_room 134 = .ok (.goto 5, 3) := by decide +kernel
theorem d_Cc_room_137 : decode c_Cc_room 137 = .ok (.bipush (-5), 2) := by decide +kernel
theorem d_Cc_room_139 : decode c_Cc_room 139 = .ok (.ireturn, 1) := by decide +kernel
theorem d_Cc_covering_0 : decode c_Cc_covering 0 = .ok (.iload_n 2, 1) := by decide +kernel
theorem d_Cc_covering_1 : decode c_Cc_covering 1 = .ok (.tableswitch 85 4 7 #[31, 46, 61, 73], 31) := by decide +kernel
theorem d_Cc_covering_32 : decode c_Cc_covering 32 = .ok (.aload_n 0, 1) := by decide +kernel
theorem d_Cc_covering_33 : decode c_Cc_covering 33 = .ok (.getfield 10, 3) := by decide +kernel
theorem d_Cc_covering_36 : decode c_Cc_covering 36 = .ok (.getfield 79, 3) := by decide +kernel
theorem d_Cc_covering_39 : decode c_Cc_covering 39 = .ok (.getfield 211, 3) := by decide +kernel
theorem d_Cc_covering_42 : decode c_Cc_covering 42 = .ok (.iload_n 1, 1) := by decide +kernel
theorem d_Cc_covering_43 : decode c_Cc_covering 43 = .ok (.invokevirtual 134, 3) := by decide +kernel
theorem d_Cc_covering_46 : decode c_Cc_covering 46 = .ok (.ireturn, 1) := by decide +kernel
theorem d_Cc_covering_47 : decode c_Cc_covering 47 = .ok (.aload_n 0, 1) := by decide +kernel
theorem d_Cc_covering_48 : decode c_Cc_covering 48 = .ok (.getfield 10, 3) := by decide +kernel
theorem d_Cc_covering_51 : decode c_Cc_covering 51 = .ok (.getfield 79, 3) := by decide +kernel
theorem d_Cc_covering_54 : decode c_Cc_covering 54 = .ok (.getfield 212, 3) := by decide +kernel
theorem d_Cc_covering_57 : decode c_Cc_covering 57 = .ok (.iload_n 1, 1) := by decide +kernel
theorem d_Cc_covering_58 : decode c_Cc_covering 58 = .ok (.invokevirtual 134, 3) := by decide +kernel
theorem d_Cc_covering_61 : decode c_Cc_covering 61 = .ok (.ireturn, 1) := by decide +kernel
theorem d_Cc_covering_62 : decode c_Cc_covering 62 = .ok (.aload_n 0, 1) := by decide +kernel
theorem d_Cc_covering_63 : decode c_Cc_covering 63 = .ok (.getfield 10, 3) := by decide +kernel
theorem d_Cc_covering_66 : decode c_Cc_covering 66 = .ok (.getfield 79, 3) := by decide +kernel
theorem d_Cc_covering_69 : decode c_Cc_covering 69 = .ok (.iload_n 1, 1) := by decide +kernel
theorem d_Cc_covering_70 : decode c_Cc_covering 70 = .ok (.invokevirtual 215, 3) := by decide +kernel
theorem d_Cc_covering_73 : decode c_Cc_covering 73 = .ok (.ireturn, 1) := by decide +kernel
theorem d_Cc_covering_74 : decode c_Cc_covering 74 = .ok (.aload_n 0, 1) := by decide +kernel
theorem d_Cc_covering_75 : decode c_Cc_covering 75 = .ok (.getfield 10, 3) := by decide +kernel
theorem d_Cc_covering_78 : decode c_Cc_covering 78 = .ok (.getfield 79, 3) := by decide +kernel
theorem d_Cc_covering_81 : decode c_Cc_covering 81 = .ok (.iload_n 1, 1) := by decide +kernel
theorem d_Cc_covering_82 : decode c_Cc_covering 82 = .ok (.invokevirtual 218, 3) := by decide +kernel
theorem d_Cc_covering_85 : decode c_Cc_covering 85 = .ok (.ireturn, 1) := by decide +kernel
theorem d_Cc_covering_86 : decode c_Cc_covering 86 = .ok (.aload_n 0, 1) := by decide +kernel
theorem d_Cc_covering_87 : decode c_Cc_covering 87 = .ok (.getfield 10, 3) := by decide +kernel
theorem d_Cc_covering_90 : decode c_Cc_covering 90 = .ok (.getfield 79, 3) := by decide +kernel
theorem d_Cc_covering_93 : decode c_Cc_covering 93 = .ok (.getfield 221, 3) := by decide +kernel
theorem d_Cc_covering_96 : decode c_Cc_covering 96 = .ok (.iload_n 1, 1) := by decide +kernel
theorem d_Cc_covering_97 : decode c_Cc_covering 97 = .ok (.invokevirtual 134, 3) := by decide +kernel
theorem d_Cc_covering_100 : decode c_Cc_covering 100 = .ok (.ireturn, 1) := by decide +kernel
theorem d_Cc_strip_0 : decode c_Cc_strip 0 = .ok (.aload_n 0, 1) := by decide +kernel
theorem d_Cc_strip_1 : decode c_Cc_strip 1 = .ok (.getfield 10, 3) := by decide +kernel
theorem d_Cc_strip_4 : decode c_Cc_strip 4 = .ok (.getfield 79, 3) := by decide +kernel
theorem d_Cc_strip_7 : decode c_Cc_strip 7 = .ok (.iload_n 1, 1) := by decide +kernel
theorem d_Cc_strip_8 : decode c_Cc_strip 8 = .ok (.invokevirtual 86, 3) := by decide +kernel
theorem d_Cc_strip_11 : decode c_Cc_strip 11 = .ok (.ifCond .ne 5, 3) := by decide +kernel
theorem d_Cc_strip_14 : decode c_Cc_strip 14 = .ok (.iconst (-1), 1) := by decide +kernel
theorem d_Cc_strip_15 : decode c_Cc_strip 15 = .ok (.ireturn, 1) := by decide +kernel
theorem d_Cc_strip_16 : decode c_Cc_strip 16 = .ok (.iload_n 2, 1) := by decide +kernel
theorem d_Cc_strip_17 : decode c_Cc_strip 17 = .ok (.ifCond .lt 12, 3) := by decide +kernel
theorem d_Cc_strip_20 : decode c_Cc_strip 20 = .ok (.iload_n 3, 1) := by decide +kernel
theorem d_Cc_strip_21 : decode c_Cc_strip 21 = .ok (.ifCond .lt 8, 3) := by decide +kernel
theorem d_Cc_strip_24 : decode c_Cc_strip 24 = .ok (.iload_n 3, 1) := by decide +kernel
theorem d_Cc_strip_25 : decode c_Cc_strip 25 = .ok (.iconst 2, 1) := by decide +kernel
theorem d_Cc_strip_26 : decode c_Cc_strip 26 = .ok (.if_icmp .le 6, 3) := by decide +kernel
theorem d_Cc_strip_29 : decode c_Cc_strip 29 = .ok (.bipush (-2), 2) := by decide +kernel
theorem d_Cc_strip_31 : decode c_Cc_strip 31 = .ok (.ireturn, 1) := by decide +kernel
theorem d_Cc_strip_32 : decode c_Cc_strip 32 = .ok (.iload_n 2, 1) := by decide +kernel
theorem d_Cc_strip_33 : decode c_Cc_strip 33 = .ok (.aload_n 0, 1) := by decide +kernel
theorem d_Cc_strip_34 : decode c_Cc_strip 34 = .ok (.getfield 10, 3) := by decide +kernel
theorem d_Cc_strip_37 : decode c_Cc_strip 37 = .ok (.getfield 79, 3) := by decide +kernel
theorem d_Cc_strip_40 : decode c_Cc_strip 40 = .ok (.iload_n 1, 1) := by decide +kernel
theorem d_Cc_strip_41 : decode c_Cc_strip 41 = .ok (.invokevirtual 215, 3) := by decide +kernel
theorem d_Cc_strip_44 : decode c_Cc_strip 44 = .ok (.if_icmp .lt 6, 3) := by decide +kernel
theorem d_Cc_strip_47 : decode c_Cc_strip 47 = .ok (.bipush (-5), 2) := by decide +kernel
theorem d_Cc_strip_49 : decode c_Cc_strip 49 = .ok (.ireturn, 1) := by decide +kernel
theorem d_Cc_strip_50 : decode c_Cc_strip 50 = .ok (.iload_n 3, 1) := by decide +kernel
theorem d_Cc_strip_51 : decode c_Cc_strip 51 = .ok (.lookupswitch 51 #[(0, 25), (1, 38)], 25) := by decide +kernel
theorem d_Cc_strip_76 : decode c_Cc_strip 76 = .ok (.aload_n 0, 1) := by decide +kernel
theorem d_Cc_strip_77 : decode c_Cc_strip 77 = .ok (.getfield 10, 3) := by decide +kernel
theorem d_Cc_strip_80 : decode c_Cc_strip 80 = .ok (.getfield 79, 3) := by decide +kernel
theorem d_Cc_strip_83 : decode c_Cc_strip 83 = .ok (.iload_n 1, 1) := by decide +kernel
theorem d_Cc_strip_84 : decode c_Cc_strip 84 = .ok (.iload_n 2, 1) := by decide +kernel
theorem d_Cc_strip_85 : decode c_Cc_strip 85 = .ok (.invokevirtual 222, 3) := by decide +kernel
theorem d_Cc_strip_88 : decode c_Cc_strip 88 = .ok (.ireturn, 1) := by decide +kernel
theorem d_Cc_strip_89 : decode c_Cc_strip 89 = .ok (.aload_n 0, 1) := by decide +kernel
theorem d_Cc_strip_90 : decode c_Cc_strip 90 = .ok (.getfield 10, 3) := by decide +kernel
theorem d_Cc_strip_93 : decode c_Cc_strip 93 = .ok (.getfield 79, 3) := by decide +kernel
theorem d_Cc_strip_96 : decode c_Cc_strip 96 = .ok (.iload_n 1, 1) := by decide +kernel
theorem d_Cc_strip_97 : decode c_Cc_strip 97 = .ok (.iload_n 2, 1) := by decide +kernel
theorem d_Cc_strip_98 : decode c_Cc_strip 98 = .ok (.invokevirtual 225, 3) := by decide +kernel
theorem d_Cc_strip_101 : decode c_Cc_strip 101 = .ok (.ireturn, 1) := by decide +kernel
theorem d_Cc_strip_102 : decode c_Cc_strip 102 = .ok (.aload_n 0, 1) := by decide +kernel
theorem d_Cc_strip_103 : decode c_Cc_strip 103 = .ok (.getfield 10, 3) := by decide +kernel
theorem d_Cc_strip_106 : decode c_Cc_strip 106 = .ok (.getfield 79, 3) := by decide +kernel
theorem d_Cc_strip_109 : decode c_Cc_strip 109 = .ok (.iload_n 1, 1) := by decide +kernel
theorem d_Cc_strip_110 : decode c_Cc_strip 110 = .ok (.iload_n 2, 1) := by decide +kernel
theorem d_Cc_strip_111 : decode c_Cc_strip 111 = .ok (.invokevirtual 228, 3) := by decide +kernel
theorem d_Cc_strip_114 : decode c_Cc_strip 114 = .ok (.ireturn, 1) := by decide +kernel
theorem d_Cc_count_0 : decode c_Cc_count 0 = .ok (.iload_n 1, 1) := by decide +kernel
theorem d_Cc_count_1 : decode c_Cc_count 1 = .ok (.tableswitch 177 0 10 #[59, 70, 81, 92, 103, 114, 128, 142, 153, 161, 169], 59) := by decide +kernel
theorem d_Cc_count_60 : decode c_Cc_count 60 = .ok (.aload_n 0, 1) := by decide +kernel
theorem d_Cc_count_61 : decode c_Cc_count 61 = .ok (.getfield 10, 3) := by decide +kernel
theorem d_Cc_count_64 : decode c_Cc_count 64 = .ok (.getfield 50, 3) := by decide +kernel
theorem d_Cc_count_67 : decode c_Cc_count 67 = .ok (.getfield 54, 3) := by decide +kernel
theorem d_Cc_count_70 : decode c_Cc_count 70 = .ok (.ireturn, 1) := by decide +kernel
theorem d_Cc_count_71 : decode c_Cc_count 71 = .ok (.aload_n 0, 1) := by decide +kernel
theorem d_Cc_count_72 : decode c_Cc_count 72 = .ok (.getfield 10, 3) := by decide +kernel
theorem d_Cc_count_75 : decode c_Cc_count 75 = .ok (.getfield 79, 3) := by decide +kernel
theorem d_Cc_count_78 : decode c_Cc_count 78 = .ok (.getfield 76, 3) := by decide +kernel
theorem d_Cc_count_81 : decode c_Cc_count 81 = .ok (.ireturn, 1) := by decide +kernel
theorem d_Cc_count_82 : decode c_Cc_count 82 = .ok (.aload_n 0, 1) := by decide +kernel
theorem d_Cc_count_83 : decode c_Cc_count 83 = .ok (.getfield 10, 3) := by decide +kernel
theorem d_Cc_count_86 : decode c_Cc_count 86 = .ok (.getfield 79, 3) := by decide +kernel
theorem d_Cc_count_89 : decode c_Cc_count 89 = .ok (.invokevirtual 231, 3) := by decide +kernel
theorem d_Cc_count_92 : decode c_Cc_count 92 = .ok (.ireturn, 1) := by decide +kernel
theorem d_Cc_count_93 : decode c_Cc_count 93 = .ok (.aload_n 0, 1) := by decide +kernel
theorem d_Cc_count_94 : decode c_Cc_count 94 = .ok (.getfield 10, 3) := by decide +kernel
theorem d_Cc_count_97 : decode c_Cc_count 97 = .ok (.getfield 107, 3) := by decide +kernel
theorem d_Cc_count_100 : decode c_Cc_count 100 = .ok (.getfield 234, 3) := by decide +kernel
theorem d_Cc_count_103 : decode c_Cc_count 103 = .ok (.ireturn, 1) := by decide +kernel
theorem d_Cc_count_104 : decode c_Cc_count 104 = .ok (.aload_n 0, 1) := by decide +kernel
theorem d_Cc_count_105 : decode c_Cc_count 105 = .ok (.getfield 10, 3) := by decide +kernel
theorem d_Cc_count_108 : decode c_Cc_count 108 = .ok (.getfield 107, 3) := by decide +kernel
theorem d_Cc_count_111 : decode c_Cc_count 111 = .ok (.getfield 237, 3) := by decide +kernel
theorem d_Cc_count_114 : decode c_Cc_count 114 = .ok (.ireturn, 1) := by decide +kernel
theorem d_Cc_count_115 : decode c_Cc_count 115 = .ok (.aload_n 0, 1) := by decide +kernel
theorem d_Cc_count_116 : decode c_Cc_count 116 = .ok (.getfield 10, 3) := by decide +kernel
theorem d_Cc_count_119 : decode c_Cc_count 119 = .ok (.getfield 50, 3) := by decide +kernel
theorem d_Cc_count_122 : decode c_Cc_count 122 = .ok (.getfield 178, 3) := by decide +kernel
theorem d_Cc_count_125 : decode c_Cc_count 125 = .ok (.invokevirtual 238, 3) := by decide +kernel
theorem d_Cc_count_128 : decode c_Cc_count 128 = .ok (.ireturn, 1) := by decide +kernel
theorem d_Cc_count_129 : decode c_Cc_count 129 = .ok (.aload_n 0, 1) := by decide +kernel
theorem d_Cc_count_130 : decode c_Cc_count 130 = .ok (.getfield 10, 3) := by decide +kernel
theorem d_Cc_count_133 : decode c_Cc_count 133 = .ok (.getfield 50, 3) := by decide +kernel
theorem d_Cc_count_136 : decode c_Cc_count 136 = .ok (.getfield 175, 3) := by decide +kernel
theorem d_Cc_count_139 : decode c_Cc_count 139 = .ok (.invokevirtual 238, 3) := by decide +kernel
theorem d_Cc_count_142 : decode c_Cc_count 142 = .ok (.ireturn, 1) := by decide +kernel
theorem d_Cc_count_143 : decode c_Cc_count 143 = .ok (.aload_n 0, 1) := by decide +kernel
theorem d_Cc_count_144 : decode c_Cc_count 144 = .ok (.getfield 10, 3) := by decide +kernel
theorem d_Cc_count_147 : decode c_Cc_count 147 = .ok (.getfield 79, 3) := by decide +kernel
theorem d_Cc_count_150 : decode c_Cc_count 150 = .ok (.invokevirtual 241, 3) := by decide +kernel
theorem d_Cc_count_153 : decode c_Cc_count 153 = .ok (.ireturn, 1) := by decide +kernel
theorem d_Cc_count_154 : decode c_Cc_count 154 = .ok (.aload_n 0, 1) := by decide +kernel
theorem d_Cc_count_155 : decode c_Cc_count 155 = .ok (.getfield 10, 3) := by decide +kernel
theorem d_Cc_count_158 : decode c_Cc_count 158 = .ok (.getfield 244, 3) := by decide +kernel
theorem d_Cc_count_161 : decode c_Cc_count 161 = .ok (.ireturn, 1) := by decide +kernel
theorem d_Cc_count_162 : decode c_Cc_count 162 = .ok (.aload_n 0, 1) := by decide +kernel
theorem d_Cc_count_163 : decode c_Cc_count 163 = .ok (.getfield 28, 3) := by decide +kernel
theorem d_Cc_count_166 : decode c_Cc_count 166 = .ok (.getfield 149, 3) := by decide +kernel
theorem d_Cc_count_169 : decode c_Cc_count 169 = .ok (.ireturn, 1) := by decide +kernel
theorem d_Cc_count_170 : decode c_Cc_count 170 = .ok (.aload_n 0, 1) := by decide +kernel
theorem d_Cc_count_171 : decode c_Cc_count 171 = .ok (.getfield 35, 3) := by decide +kernel
theorem d_Cc_count_174 : decode c_Cc_count 174 = .ok (.getfield 146, 3) := by decide +kernel
theorem d_Cc_count_177 : decode c_Cc_count 177 = .ok (.ireturn, 1) := by decide +kernel
theorem d_Cc_count_178 : decode c_Cc_count 178 = .ok (.aload_n 0, 1) := by decide +kernel
theorem d_Cc_count_179 : decode c_Cc_count 179 = .ok (.iload_n 1, 1) := by decide +kernel
theorem d_Cc_count_180 : decode c_Cc_count 180 = .ok (.bipush 11, 2) := by decide +kernel
theorem d_Cc_count_182 : decode c_Cc_count 182 = .ok (.isub, 1) := by decide +kernel
theorem d_Cc_count_183 : decode c_Cc_count 183 = .ok (.invokevirtual 247, 3) := by decide +kernel
theorem d_Cc_count_186 : decode c_Cc_count 186 = .ok (.ireturn, 1) := by decide +kernel
theorem d_Cc_setting_0 : decode c_Cc_setting 0 = .ok (.iload_n 1, 1) := by decide +kernel
theorem d_Cc_setting_1 : decode c_Cc_setting 1 = .ok (.ifCond .lt 8, 3) := by decide +kernel
theorem d_Cc_setting_4 : decode c_Cc_setting 4 = .ok (.iload_n 1, 1) := by decide +kernel
theorem d_Cc_setting_5 : decode c_Cc_setting 5 = .ok (.iconst 5, 1) := by decide +kernel
theorem d_Cc_setting_6 : decode c_Cc_setting 6 = .ok (.if_icmp .lt 8, 3) := by decide +kernel
theorem d_Cc_setting_9 : decode c_Cc_setting 9 = .ok (.bipush (-2), 2) := by decide +kernel
theorem d_Cc_setting_11 : decode c_Cc_setting 11 = .ok (.goto 14, 3) := by decide +kernel
theorem d_Cc_setting_14 : decode c_Cc_setting 14 = .ok (.aload_n 0, 1) := by decide +kernel
theorem d_Cc_setting_15 : decode c_Cc_setting 15 = .ok (.getfield 10, 3) := by decide +kernel
theorem d_Cc_setting_18 : decode c_Cc_setting 18 = .ok (.getfield 130, 3) := by decide +kernel
theorem d_Cc_setting_21 : decode c_Cc_setting 21 = .ok (.iload_n 1, 1) := by decide +kernel
theorem d_Cc_setting_22 : decode c_Cc_setting 22 = .ok (.invokevirtual 134, 3) := by decide +kernel
theorem d_Cc_setting_25 : decode c_Cc_setting 25 = .ok (.ireturn, 1) := by decide +kernel
theorem d_Cc_wasted_0 : decode c_Cc_wasted 0 = .ok (.aload_n 0, 1) := by decide +kernel
theorem d_Cc_wasted_1 : decode c_Cc_wasted 1 = .ok (.getfield 10, 3) := by decide +kernel
theorem d_Cc_wasted_4 : decode c_Cc_wasted 4 = .ok (.getfield 50, 3) := by decide +kernel
theorem d_Cc_wasted_7 : decode c_Cc_wasted 7 = .ok (.iload_n 1, 1) := by decide +kernel
theorem d_Cc_wasted_8 : decode c_Cc_wasted 8 = .ok (.invokevirtual 89, 3) := by decide +kernel
theorem d_Cc_wasted_11 : decode c_Cc_wasted 11 = .ok (.ifCond .eq 20, 3) := by decide +kernel
theorem d_Cc_wasted_14 : decode c_Cc_wasted 14 = .ok (.aload_n 0, 1) := by decide +kernel
theorem d_Cc_wasted_15 : decode c_Cc_wasted 15 = .ok (.getfield 10, 3) := by decide +kernel
theorem d_Cc_wasted_18 : decode c_Cc_wasted 18 = .ok (.getfield 50, 3) := by decide +kernel
theorem d_Cc_wasted_21 : decode c_Cc_wasted 21 = .ok (.getfield 184, 3) := by decide +kernel
theorem d_Cc_wasted_24 : decode c_Cc_wasted 24 = .ok (.iload_n 1, 1) := by decide +kernel
theorem d_Cc_wasted_25 : decode c_Cc_wasted 25 = .ok (.invokevirtual 134, 3) := by decide +kernel
theorem d_Cc_wasted_28 : decode c_Cc_wasted 28 = .ok (.goto 4, 3) := by decide +kernel
theorem d_Cc_wasted_31 : decode c_Cc_wasted 31 = .ok (.iconst 0, 1) := by decide +kernel
theorem d_Cc_wasted_32 : decode c_Cc_wasted 32 = .ok (.istore_n 2, 1) := by decide +kernel
theorem d_Cc_wasted_33 : decode c_Cc_wasted 33 = .ok (.iload_n 2, 1) := by decide +kernel
theorem d_Cc_wasted_34 : decode c_Cc_wasted 34 = .ok (.ifCond .gt 7, 3) := by decide +kernel
theorem d_Cc_wasted_37 : decode c_Cc_wasted 37 = .ok (.ldc2_w 250, 3) := by decide +kernel
theorem d_Cc_wasted_40 : decode c_Cc_wasted 40 = .ok (.dreturn, 1) := by decide +kernel
theorem d_Cc_wasted_41 : decode c_Cc_wasted 41 = .ok (.aload_n 0, 1) := by decide +kernel
theorem d_Cc_wasted_42 : decode c_Cc_wasted 42 = .ok (.getfield 10, 3) := by decide +kernel
theorem d_Cc_wasted_45 : decode c_Cc_wasted 45 = .ok (.getfield 50, 3) := by decide +kernel
theorem d_Cc_wasted_48 : decode c_Cc_wasted 48 = .ok (.getfield 178, 3) := by decide +kernel
theorem d_Cc_wasted_51 : decode c_Cc_wasted 51 = .ok (.iload_n 1, 1) := by decide +kernel
theorem d_Cc_wasted_52 : decode c_Cc_wasted 52 = .ok (.invokevirtual 134, 3) := by decide +kernel
theorem d_Cc_wasted_55 : decode c_Cc_wasted 55 = .ok (.i2d, 1) := by decide +kernel
theorem d_Cc_wasted_56 : decode c_Cc_wasted 56 = .ok (.iload_n 2, 1) := by decide +kernel
theorem d_Cc_wasted_57 : decode c_Cc_wasted 57 = .ok (.i2d, 1) := by decide +kernel
theorem d_Cc_wasted_58 : decode c_Cc_wasted 58 = .ok (.ddiv, 1) := by decide +kernel
theorem d_Cc_wasted_59 : decode c_Cc_wasted 59 = .ok (.dreturn, 1) := by decide +kernel
theorem d_Cc_ifCovered_0 : decode c_Cc_ifCovered 0 = .ok (.aload_n 0, 1) := by decide +kernel
theorem d_Cc_ifCovered_1 : decode c_Cc_ifCovered 1 = .ok (.getfield 10, 3) := by decide +kernel
theorem d_Cc_ifCovered_4 : decode c_Cc_ifCovered 4 = .ok (.getfield 79, 3) := by decide +kernel
theorem d_Cc_ifCovered_7 : decode c_Cc_ifCovered 7 = .ok (.iload_n 1, 1) := by decide +kernel
theorem d_Cc_ifCovered_8 : decode c_Cc_ifCovered 8 = .ok (.invokevirtual 86, 3) := by decide +kernel
theorem d_Cc_ifCovered_11 : decode c_Cc_ifCovered 11 = .ok (.ifCond .eq 17, 3) := by decide +kernel
theorem d_Cc_ifCovered_14 : decode c_Cc_ifCovered 14 = .ok (.aload_n 0, 1) := by decide +kernel
theorem d_Cc_ifCovered_15 : decode c_Cc_ifCovered 15 = .ok (.getfield 10, 3) := by decide +kernel
theorem d_Cc_ifCovered_18 : decode c_Cc_ifCovered 18 = .ok (.getfield 50, 3) := by decide +kernel
theorem d_Cc_ifCovered_21 : decode c_Cc_ifCovered 21 = .ok (.iload_n 2, 1) := by decide +kernel
theorem d_Cc_ifCovered_22 : decode c_Cc_ifCovered 22 = .ok (.invokevirtual 89, 3) := by decide +kernel
theorem d_Cc_ifCovered_25 : decode c_Cc_ifCovered 25 = .ok (.ifCond .ne 5, 3) := by decide +kernel
theorem d_Cc_ifCovered_28 : decode c_Cc_ifCovered 28 = .ok (.iconst (-1), 1) := by decide +kernel
theorem d_Cc_ifCovered_29 : decode c_Cc_ifCovered 29 = .ok (.ireturn, 1) := by decide +kernel
theorem d_Cc_ifCovered_30 : decode c_Cc_ifCovered 30 = .ok (.iload_n 3, 1) := by decide +kernel
theorem d_Cc_ifCovered_31 : decode c_Cc_ifCovered 31 = .ok (.invokestatic 90, 3) := by decide +kernel
theorem d_Cc_ifCovered_34 : decode c_Cc_ifCovered 34 = .ok (.ifCond .eq 14, 3) := by decide +kernel
theorem d_Cc_ifCovered_37 : decode c_Cc_ifCovered 37 = .ok (.iload 4, 2) := by decide +kernel
theorem d_Cc_ifCovered_39 : decode c_Cc_ifCovered 39 = .ok (.ifCond .lt 9, 3) := by decide +kernel
theorem d_Cc_ifCovered_42 : decode c_Cc_ifCovered 42 = .ok (.iload 4, 2) := by decide +kernel
theorem d_Cc_ifCovered_44 : decode c_Cc_ifCovered 44 = .ok (.iconst 5, 1) := by decide +kernel
theorem d_Cc_ifCovered_45 : decode c_Cc_ifCovered 45 = .ok (.if_icmp .le 6, 3) := by decide +kernel
theorem d_Cc_ifCovered_48 : decode c_Cc_ifCovered 48 = .ok (.bipush (-2), 2) := by decide +kernel
theorem d_Cc_ifCovered_50 : decode c_Cc_ifCovered 50 = .ok (.ireturn, 1) := by decide +kernel
theorem d_Cc_ifCovered_51 : decode c_Cc_ifCovered 51 = .ok (.aload_n 0, 1) := by decide +kernel
theorem d_Cc_ifCovered_52 : decode c_Cc_ifCovered 52 = .ok (.getfield 19, 3) := by decide +kernel
theorem d_Cc_ifCovered_55 : decode c_Cc_ifCovered 55 = .ok (.aload_n 0, 1) := by decide +kernel
theorem d_Cc_ifCovered_56 : decode c_Cc_ifCovered 56 = .ok (.getfield 10, 3) := by decide +kernel
theorem d_Cc_ifCovered_59 : decode c_Cc_ifCovered 59 = .ok (.invokevirtual 93, 3) := by decide +kernel
theorem d_Cc_ifCovered_62 : decode c_Cc_ifCovered 62 = .ok (.aload_n 0, 1) := by decide +kernel
theorem d_Cc_ifCovered_63 : decode c_Cc_ifCovered 63 = .ok (.getfield 19, 3) := by decide +kernel
theorem d_Cc_ifCovered_66 : decode c_Cc_ifCovered 66 = .ok (.iload_n 1, 1) := by decide +kernel
theorem d_Cc_ifCovered_67 : decode c_Cc_ifCovered 67 = .ok (.iload_n 2, 1) := by decide +kernel
theorem d_Cc_ifCovered_68 : decode c_Cc_ifCovered 68 = .ok (.iload_n 3, 1) := by decide +kernel
theorem d_Cc_ifCovered_69 : decode c_Cc_ifCovered 69 = .ok (.invokevirtual 96, 3) := by decide +kernel
theorem d_Cc_ifCovered_72 : decode c_Cc_ifCovered 72 = .ok (.istore 5, 2) := by decide +kernel
theorem d_Cc_ifCovered_74 : decode c_Cc_ifCovered 74 = .ok (.iload 5, 2) := by decide +kernel
theorem d_Cc_ifCovered_76 : decode c_Cc_ifCovered 76 = .ok (.ifCond .ge 6, 3) := by decide +kernel
theorem d_Cc_ifCovered_79 : decode c_Cc_ifCovered 79 = .ok (.iload 5, 2) := by decide +kernel
theorem d_Cc_ifCovered_81 : decode c_Cc_ifCovered 81 = .ok (.ireturn, 1) := by decide +kernel
theorem d_Cc_ifCovered_82 : decode c_Cc_ifCovered 82 = .ok (.iload 4, 2) := by decide +kernel
theorem d_Cc_ifCovered_84 : decode c_Cc_ifCovered 84 = .ok (.tableswitch 123 0 4 #[36, 39, 51, 63, 93], 36) := by decide +kernel
theorem d_Cc_ifCovered_120 : decode c_Cc_ifCovered 120 = .ok (.iload 5, 2) := by decide +kernel
theorem d_Cc_ifCovered_122 : decode c_Cc_ifCovered 122 = .ok (.ireturn, 1) := by decide +kernel
theorem d_Cc_ifCovered_123 : decode c_Cc_ifCovered 123 = .ok (.aload_n 0, 1) := by decide +kernel
theorem d_Cc_ifCovered_124 : decode c_Cc_ifCovered 124 = .ok (.getfield 19, 3) := by decide +kernel
theorem d_Cc_ifCovered_127 : decode c_Cc_ifCovered 127 = .ok (.getfield 79, 3) := by decide +kernel
theorem d_Cc_ifCovered_130 : decode c_Cc_ifCovered 130 = .ok (.iload_n 1, 1) := by decide +kernel
theorem d_Cc_ifCovered_131 : decode c_Cc_ifCovered 131 = .ok (.invokevirtual 215, 3) := by decide +kernel
theorem d_Cc_ifCovered_134 : decode c_Cc_ifCovered 134 = .ok (.ireturn, 1) := by decide +kernel
theorem d_Cc_ifCovered_135 : decode c_Cc_ifCovered 135 = .ok (.aload_n 0, 1) := by decide +kernel
theorem d_Cc_ifCovered_136 : decode c_Cc_ifCovered 136 = .ok (.getfield 19, 3) := by decide +kernel
theorem d_Cc_ifCovered_139 : decode c_Cc_ifCovered 139 = .ok (.getfield 79, 3) := by decide +kernel
theorem d_Cc_ifCovered_142 : decode c_Cc_ifCovered 142 = .ok (.iload_n 1, 1) := by decide +kernel
theorem d_Cc_ifCovered_143 : decode c_Cc_ifCovered 143 = .ok (.invokevirtual 218, 3) := by decide +kernel
theorem d_Cc_ifCovered_146 : decode c_Cc_ifCovered 146 = .ok (.ireturn, 1) := by decide +kernel
theorem d_Cc_ifCovered_147 : decode c_Cc_ifCovered 147 = .ok (.aload_n 0, 1) := by decide +kernel
theorem d_Cc_ifCovered_148 : decode c_Cc_ifCovered 148 = .ok (.getfield 19, 3) := by decide +kernel
theorem d_Cc_ifCovered_151 : decode c_Cc_ifCovered 151 = .ok (.getfield 50, 3) := by decide +kernel
theorem d_Cc_ifCovered_154 : decode c_Cc_ifCovered 154 = .ok (.getfield 178, 3) := by decide +kernel
theorem d_Cc_ifCovered_157 : decode c_Cc_ifCovered 157 = .ok (.iload_n 2, 1) := by decide +kernel
theorem d_Cc_ifCovered_158 : decode c_Cc_ifCovered 158 = .ok (.invokevirtual 134, 3) := by decide +kernel
theorem d_Cc_ifCovered_161 : decode c_Cc_ifCovered 161 = .ok (.aload_n 0, 1) := by decide +kernel
theorem d_Cc_ifCovered_162 : decode c_Cc_ifCovered 162 = .ok (.getfield 10, 3) := by decide +kernel
theorem d_Cc_ifCovered_165 : decode c_Cc_ifCovered 165 = .ok (.getfield 50, 3) := by decide +kernel
theorem d_Cc_ifCovered_168 : decode c_Cc_ifCovered 168 = .ok (.getfield 178, 3) := by decide +kernel
theorem d_Cc_ifCovered_171 : decode c_Cc_ifCovered 171 = .ok (.iload_n 2, 1) := by decide +kernel
theorem d_Cc_ifCovered_172 : decode c_Cc_ifCovered 172 = .ok (.invokevirtual 134, 3) := by decide +kernel
theorem d_Cc_ifCovered_175 : decode c_Cc_ifCovered 175 = .ok (.isub, 1) := by decide +kernel
theorem d_Cc_ifCovered_176 : decode c_Cc_ifCovered 176 = .ok (.ireturn, 1) := by decide +kernel
theorem d_Cc_ifCovered_177 : decode c_Cc_ifCovered 177 = .ok (.aload_n 0, 1) := by decide +kernel
theorem d_Cc_ifCovered_178 : decode c_Cc_ifCovered 178 = .ok (.getfield 10, 3) := by decide +kernel
theorem d_Cc_ifCovered_181 : decode c_Cc_ifCovered 181 = .ok (.getfield 50, 3) := by decide +kernel
theorem d_Cc_ifCovered_184 : decode c_Cc_ifCovered 184 = .ok (.getfield 163, 3) := by decide +kernel
theorem d_Cc_ifCovered_187 : decode c_Cc_ifCovered 187 = .ok (.iload_n 2, 1) := by decide +kernel
theorem d_Cc_ifCovered_188 : decode c_Cc_ifCovered 188 = .ok (.invokevirtual 134, 3) := by decide +kernel
theorem d_Cc_ifCovered_191 : decode c_Cc_ifCovered 191 = .ok (.aload_n 0, 1) := by decide +kernel
theorem d_Cc_ifCovered_192 : decode c_Cc_ifCovered 192 = .ok (.getfield 19, 3) := by decide +kernel
theorem d_Cc_ifCovered_195 : decode c_Cc_ifCovered 195 = .ok (.getfield 50, 3) := by decide +kernel
theorem d_Cc_ifCovered_198 : decode c_Cc_ifCovered 198 = .ok (.getfield 163, 3) := by decide +kernel
theorem d_Cc_ifCovered_201 : decode c_Cc_ifCovered 201 = .ok (.iload_n 2, 1) := by decide +kernel
theorem d_Cc_ifCovered_202 : decode c_Cc_ifCovered 202 = .ok (.invokevirtual 134, 3) := by decide +kernel
theorem d_Cc_ifCovered_205 : decode c_Cc_ifCovered 205 = .ok (.isub, 1) := by decide +kernel
theorem d_Cc_ifCovered_206 : decode c_Cc_ifCovered 206 = .ok (.ireturn, 1) := by decide +kernel
theorem d_Cc_ifCovered_207 : decode c_Cc_ifCovered 207 = .ok (.aload_n 0, 1) := by decide +kernel
theorem d_Cc_ifCovered_208 : decode c_Cc_ifCovered 208 = .ok (.getfield 19, 3) := by decide +kernel
theorem d_Cc_ifCovered_211 : decode c_Cc_ifCovered 211 = .ok (.getfield 79, 3) := by decide +kernel
theorem d_Cc_ifCovered_214 : decode c_Cc_ifCovered 214 = .ok (.iload_n 1, 1) := by decide +kernel
theorem d_Cc_ifCovered_215 : decode c_Cc_ifCovered 215 = .ok (.invokevirtual 252, 3) := by decide +kernel
theorem d_Cc_ifCovered_218 : decode c_Cc_ifCovered 218 = .ok (.ireturn, 1) := by decide +kernel
theorem d_Cc_best_0 : decode c_Cc_best 0 = .ok (.aload_n 0, 1) := by decide +kernel
theorem d_Cc_best_1 : decode c_Cc_best 1 = .ok (.getfield 10, 3) := by decide +kernel
theorem d_Cc_best_4 : decode c_Cc_best 4 = .ok (.getfield 79, 3) := by decide +kernel
theorem d_Cc_best_7 : decode c_Cc_best 7 = .ok (.iload_n 1, 1) := by decide +kernel
theorem d_Cc_best_8 : decode c_Cc_best 8 = .ok (.invokevirtual 86, 3) := by decide +kernel
theorem d_Cc_best_11 : decode c_Cc_best 11 = .ok (.ifCond .ne 5, 3) := by decide +kernel
theorem d_Cc_best_14 : decode c_Cc_best 14 = .ok (.iconst (-1), 1) := by decide +kernel
theorem d_Cc_best_15 : decode c_Cc_best 15 = .ok (.ireturn, 1) := by decide +kernel
theorem d_Cc_best_16 : decode c_Cc_best 16 = .ok (.iload_n 2, 1) := by decide +kernel
theorem d_Cc_best_17 : decode c_Cc_best 17 = .ok (.invokestatic 46, 3) := by decide +kernel
theorem d_Cc_best_20 : decode c_Cc_best 20 = .ok (.ifCond .eq 12, 3) := by decide +kernel
theorem d_Cc_best_23 : decode c_Cc_best 23 = .ok (.iload_n 3, 1) := by decide +kernel
theorem d_Cc_best_24 : decode c_Cc_best 24 = .ok (.ifCond .lt 8, 3) := by decide +kernel
theorem d_Cc_best_27 : decode c_Cc_best 27 = .ok (.iload_n 3, 1) := by decide +kernel
theorem d_Cc_best_28 : decode c_Cc_best 28 = .ok (.iconst 3, 1) := by decide +kernel
theorem d_Cc_best_29 : decode c_Cc_best 29 = .ok (.if_icmp .le 6, 3) := by decide +kernel
theorem d_Cc_best_32 : decode c_Cc_best 32 = .ok (.bipush (-2), 2) := by decide +kernel
theorem d_Cc_best_34 : decode c_Cc_best 34 = .ok (.ireturn, 1) := by decide +kernel
theorem d_Cc_best_35 : decode c_Cc_best 35 = .ok (.aload_n 0, 1) := by decide +kernel
theorem d_Cc_best_36 : decode c_Cc_best 36 = .ok (.aload_n 0, 1) := by decide +kernel
theorem d_Cc_best_37 : decode c_Cc_best 37 = .ok (.getfield 10, 3) := by decide +kernel
theorem d_Cc_best_40 : decode c_Cc_best 40 = .ok (.iload_n 1, 1) := by decide +kernel
theorem d_Cc_best_41 : decode c_Cc_best 41 = .ok (.iload_n 2, 1) := by decide +kernel
theorem d_Cc_best_42 : decode c_Cc_best 42 = .ok (.invokevirtual 255, 3) := by decide +kernel
theorem d_Cc_best_45 : decode c_Cc_best 45 = .ok (.aload_n 0, 1) := by decide +kernel
theorem d_Cc_best_46 : decode c_Cc_best 46 = .ok (.getfield 42, 3) := by decide +kernel
theorem d_Cc_best_49 : decode c_Cc_best 49 = .ok (.getfield 259, 3) := by decide +kernel
theorem d_Cc_best_52 : decode c_Cc_best 52 = .ok (.ifCond .ne 6, 3) := by decide +kernel
theorem d_Cc_best_55 : decode c_Cc_best 55 = .ok (.bipush (-5), 2) := by decide +kernel
theorem d_Cc_best_57 : decode c_Cc_best 57 = .ok (.ireturn, 1) := by decide +kernel
theorem d_Cc_best_58 : decode c_Cc_best 58 = .ok (.iload_n 3, 1) := by decide +kernel
theorem d_Cc_best_59 : decode c_Cc_best 59 = .ok (.tableswitch 49 0 2 #[25, 33, 41], 25) := by decide +kernel
theorem d_Cc_best_84 : decode c_Cc_best 84 = .ok (.aload_n 0, 1) := by decide +kernel
theorem d_Cc_best_85 : decode c_Cc_best 85 = .ok (.getfield 42, 3) := by decide +kernel
theorem d_Cc_best_88 : decode c_Cc_best 88 = .ok (.getfield 262, 3) := by decide +kernel
theorem d_Cc_best_91 : decode c_Cc_best 91 = .ok (.ireturn, 1) := by decide +kernel
theorem d_Cc_best_92 : decode c_Cc_best 92 = .ok (.aload_n 0, 1) := by decide +kernel
theorem d_Cc_best_93 : decode c_Cc_best 93 = .ok (.getfield 42, 3) := by decide +kernel
theorem d_Cc_best_96 : decode c_Cc_best 96 = .ok (.getfield 264, 3) := by decide +kernel
theorem d_Cc_best_99 : decode c_Cc_best 99 = .ok (.ireturn, 1) := by decide +kernel
theorem d_Cc_best_100 : decode c_Cc_best 100 = .ok (.aload_n 0, 1) := by decide +kernel
theorem d_Cc_best_101 : decode c_Cc_best 101 = .ok (.getfield 42, 3) := by decide +kernel
theorem d_Cc_best_104 : decode c_Cc_best 104 = .ok (.getfield 266, 3) := by decide +kernel
theorem d_Cc_best_107 : decode c_Cc_best 107 = .ok (.ireturn, 1) := by decide +kernel
theorem d_Cc_best_108 : decode c_Cc_best 108 = .ok (.aload_n 0, 1) := by decide +kernel
theorem d_Cc_best_109 : decode c_Cc_best 109 = .ok (.getfield 42, 3) := by decide +kernel
theorem d_Cc_best_112 : decode c_Cc_best 112 = .ok (.getfield 268, 3) := by decide +kernel
theorem d_Cc_best_115 : decode c_Cc_best 115 = .ok (.ireturn, 1) := by decide +kernel
theorem d_Cc_suits_0 : decode c_Cc_suits 0 = .ok (.aload_n 0, 1) := by decide +kernel
theorem d_Cc_suits_1 : decode c_Cc_suits 1 = .ok (.getfield 10, 3) := by decide +kernel
theorem d_Cc_suits_4 : decode c_Cc_suits 4 = .ok (.getfield 107, 3) := by decide +kernel
theorem d_Cc_suits_7 : decode c_Cc_suits 7 = .ok (.iload_n 1, 1) := by decide +kernel
theorem d_Cc_suits_8 : decode c_Cc_suits 8 = .ok (.invokevirtual 111, 3) := by decide +kernel
theorem d_Cc_suits_11 : decode c_Cc_suits 11 = .ok (.istore_n 2, 1) := by decide +kernel
theorem d_Cc_suits_12 : decode c_Cc_suits 12 = .ok (.iload_n 2, 1) := by decide +kernel
theorem d_Cc_suits_13 : decode c_Cc_suits 13 = .ok (.ifCond .ge 5, 3) := by decide +kernel
theorem d_Cc_suits_16 : decode c_Cc_suits 16 = .ok (.iconst (-1), 1) := by decide +kernel
theorem d_Cc_suits_17 : decode c_Cc_suits 17 = .ok (.ireturn, 1) := by decide +kernel
theorem d_Cc_suits_18 : decode c_Cc_suits 18 = .ok (.aload_n 0, 1) := by decide +kernel
theorem d_Cc_suits_19 : decode c_Cc_suits 19 = .ok (.getfield 10, 3) := by decide +kernel
theorem d_Cc_suits_22 : decode c_Cc_suits 22 = .ok (.getfield 79, 3) := by decide +kernel
theorem d_Cc_suits_25 : decode c_Cc_suits 25 = .ok (.getfield 76, 3) := by decide +kernel
theorem d_Cc_suits_28 : decode c_Cc_suits 28 = .ok (.istore_n 3, 1) := by decide +kernel
theorem d_Cc_suits_29 : decode c_Cc_suits 29 = .ok (.iconst 0, 1) := by decide +kernel
theorem d_Cc_suits_30 : decode c_Cc_suits 30 = .ok (.istore 4, 2) := by decide +kernel
theorem d_Cc_suits_32 : decode c_Cc_suits 32 = .ok (.iload 4, 2) := by decide +kernel
theorem d_Cc_suits_34 : decode c_Cc_suits 34 = .ok (.iload_n 3, 1) := by decide +kernel
theorem d_Cc_suits_35 : decode c_Cc_suits 35 = .ok (.if_icmp .ge 25, 3) := by decide +kernel
theorem d_Cc_suits_38 : decode c_Cc_suits 38 = .ok (.aload_n 0, 1) := by decide +kernel
theorem d_Cc_suits_39 : decode c_Cc_suits 39 = .ok (.getfield 10, 3) := by decide +kernel
theorem d_Cc_suits_42 : decode c_Cc_suits 42 = .ok (.iload_n 2, 1) := by decide +kernel
theorem d_Cc_suits_43 : decode c_Cc_suits 43 = .ok (.iload 4, 2) := by decide +kernel
theorem d_Cc_suits_45 : decode c_Cc_suits 45 = .ok (.invokevirtual 270, 3) := by decide +kernel
theorem d_Cc_suits_48 : decode c_Cc_suits 48 = .ok (.ifCond .eq 6, 3) := by decide +kernel
theorem d_Cc_suits_51 : decode c_Cc_suits 51 = .ok (.iload 4, 2) := by decide +kernel
theorem d_Cc_suits_53 : decode c_Cc_suits 53 = .ok (.ireturn, 1) := by decide +kernel
theorem d_Cc_suits_54 : decode c_Cc_suits 54 = .ok (.iinc 4 1, 3) := by decide +kernel
theorem d_Cc_suits_57 : decode c_Cc_suits 57 = .ok (.goto (-25), 3) := by decide +kernel
theorem d_Cc_suits_60 : decode c_Cc_suits 60 = .ok (.bipush (-5), 2) := by decide +kernel
theorem d_Cc_suits_62 : decode c_Cc_suits 62 = .ok (.ireturn, 1) := by decide +kernel
theorem d_Cc_coverAll_0 : decode c_Cc_coverAll 0 = .ok (.iload_n 1, 1) := by decide +kernel
theorem d_Cc_coverAll_1 : decode c_Cc_coverAll 1 = .ok (.invokestatic 46, 3) := by decide +kernel
theorem d_Cc_coverAll_4 : decode c_Cc_coverAll 4 = .ok (.ifCond .eq 12, 3) := by decide +kernel
theorem d_Cc_coverAll_7 : decode c_Cc_coverAll 7 = .ok (.iload_n 2, 1) := by decide +kernel
theorem d_Cc_coverAll_8 : decode c_Cc_coverAll 8 = .ok (.ifCond .lt 8, 3) := by decide +kernel
theorem d_Cc_coverAll_11 : decode c_Cc_coverAll 11 = .ok (.iload_n 2, 1) := by decide +kernel
theorem d_Cc_coverAll_12 : decode c_Cc_coverAll 12 = .ok (.iconst 1, 1) := by decide +kernel
theorem d_Cc_coverAll_13 : decode c_Cc_coverAll 13 = .ok (.if_icmp .le 6, 3) := by decide +kernel
theorem d_Cc_coverAll_16 : decode c_Cc_coverAll 16 = .ok (.bipush (-2), 2) := by decide +kernel
theorem d_Cc_coverAll_18 : decode c_Cc_coverAll 18 = .ok (.ireturn, 1) := by decide +kernel
theorem d_Cc_coverAll_19 : decode c_Cc_coverAll 19 = .ok (.aload_n 0, 1) := by decide +kernel
theorem d_Cc_coverAll_20 : decode c_Cc_coverAll 20 = .ok (.getfield 22, 3) := by decide +kernel
theorem d_Cc_coverAll_23 : decode c_Cc_coverAll 23 = .ok (.aload_n 0, 1) := by decide +kernel
theorem d_Cc_coverAll_24 : decode c_Cc_coverAll 24 = .ok (.getfield 10, 3) := by decide +kernel
theorem d_Cc_coverAll_27 : decode c_Cc_coverAll 27 = .ok (.invokevirtual 93, 3) := by decide +kernel
theorem d_Cc_coverAll_30 : decode c_Cc_coverAll 30 = .ok (.aload_n 0, 1) := by decide +kernel
theorem d_Cc_coverAll_31 : decode c_Cc_coverAll 31 = .ok (.getfield 22, 3) := by decide +kernel
theorem d_Cc_coverAll_34 : decode c_Cc_coverAll 34 = .ok (.getfield 79, 3) := by decide +kernel
theorem d_Cc_coverAll_37 : decode c_Cc_coverAll 37 = .ok (.getfield 76, 3) := by decide +kernel
theorem d_Cc_coverAll_40 : decode c_Cc_coverAll 40 = .ok (.istore_n 3, 1) := by decide +kernel
theorem d_Cc_coverAll_41 : decode c_Cc_coverAll 41 = .ok (.iconst 0, 1) := by decide +kernel
theorem d_Cc_coverAll_42 : decode c_Cc_coverAll 42 = .ok (.istore 4, 2) := by decide +kernel
theorem d_Cc_coverAll_44 : decode c_Cc_coverAll 44 = .ok (.iconst 0, 1) := by decide +kernel
theorem d_Cc_coverAll_45 : decode c_Cc_coverAll 45 = .ok (.istore 5, 2) := by decide +kernel
theorem d_Cc_coverAll_47 : decode c_Cc_coverAll 47 = .ok (.iconst 0, 1) := by decide +kernel
theorem d_Cc_coverAll_48 : decode c_Cc_coverAll 48 = .ok (.istore 6, 2) := by decide +kernel
theorem d_Cc_coverAll_50 : decode c_Cc_coverAll 50 = .ok (.iload 6, 2) := by decide +kernel
theorem d_Cc_coverAll_52 : decode c_Cc_coverAll 52 = .ok (.iload_n 3, 1) := by decide +kernel
theorem d_Cc_coverAll_53 : decode c_Cc_coverAll 53 = .ok (.if_icmp .ge 69, 3) := by decide +kernel
theorem d_Cc_coverAll_56 : decode c_Cc_coverAll 56 = .ok (.aload_n 0, 1) := by decide +kernel
theorem d_Cc_coverAll_57 : decode c_Cc_coverAll 57 = .ok (.aload_n 0, 1) := by decide +kernel
theorem d_Cc_coverAll_58 : decode c_Cc_coverAll 58 = .ok (.getfield 22, 3) := by decide +kernel
theorem d_Cc_coverAll_61 : decode c_Cc_coverAll 61 = .ok (.iload 6, 2) := by decide +kernel
theorem d_Cc_coverAll_63 : decode c_Cc_coverAll 63 = .ok (.iload_n 1, 1) := by decide +kernel
theorem d_Cc_coverAll_64 : decode c_Cc_coverAll 64 = .ok (.invokevirtual 255, 3) := by decide +kernel
theorem d_Cc_coverAll_67 : decode c_Cc_coverAll 67 = .ok (.aload_n 0, 1) := by decide +kernel
theorem d_Cc_coverAll_68 : decode c_Cc_coverAll 68 = .ok (.getfield 42, 3) := by decide +kernel
theorem d_Cc_coverAll_71 : decode c_Cc_coverAll 71 = .ok (.getfield 259, 3) := by decide +kernel
theorem d_Cc_coverAll_74 : decode c_Cc_coverAll 74 = .ok (.ifCond .eq 42, 3) := by decide +kernel
theorem d_Cc_coverAll_77 : decode c_Cc_coverAll 77 = .ok (.aload_n 0, 1) := by decide +kernel
theorem d_Cc_coverAll_78 : decode c_Cc_coverAll 78 = .ok (.getfield 22, 3) := by decide +kernel
theorem d_Cc_coverAll_81 : decode c_Cc_coverAll 81 = .ok (.iload 6, 2) := by decide +kernel
theorem d_Cc_coverAll_83 : decode c_Cc_coverAll 83 = .ok (.aload_n 0, 1) := by decide +kernel
theorem d_Cc_coverAll_84 : decode c_Cc_coverAll 84 = .ok (.getfield 42, 3) := by decide +kernel
theorem d_Cc_coverAll_87 : decode c_Cc_coverAll 87 = .ok (.getfield 262, 3) := by decide +kernel
theorem d_Cc_coverAll_90 : decode c_Cc_coverAll 90 = .ok (.aload_n 0, 1) := by decide +kernel
theorem d_Cc_coverAll_91 : decode c_Cc_coverAll 91 = .ok (.getfield 42, 3) := by decide +kernel
theorem d_Cc_coverAll_94 : decode c_Cc_coverAll 94 = .ok (.getfield 264, 3) := by decide +kernel
theorem d_Cc_coverAll_97 : decode c_Cc_coverAll 97 = .ok (.invokevirtual 96, 3) := by decide +kernel
theorem d_Cc_coverAll_100 : decode c_Cc_coverAll 100 = .ok (.pop, 1) := by decide +kernel
theorem d_Cc_coverAll_101 : decode c_Cc_coverAll 101 = .ok (.iinc 4 1, 3) := by decide +kernel
theorem d_Cc_coverAll_104 : decode c_Cc_coverAll 104 = .ok (.iload 5, 2) := by decide +kernel
theorem d_Cc_coverAll_106 : decode c_Cc_coverAll 106 = .ok (.aload_n 0, 1) := by decide +kernel
theorem d_Cc_coverAll_107 : decode c_Cc_coverAll 107 = .ok (.getfield 42, 3) := by decide +kernel
theorem d_Cc_coverAll_110 : decode c_Cc_coverAll 110 = .ok (.getfield 266, 3) := by decide +kernel
theorem d_Cc_coverAll_113 : decode c_Cc_coverAll 113 = .ok (.iadd, 1) := by decide +kernel
theorem d_Cc_coverAll_114 : decode c_Cc_coverAll 114 = .ok (.istore 5, 2) := by decide +kernel
theorem d_Cc_coverAll_116 : decode c_Cc_coverAll 116 = .ok (.iinc 6 1, 3) := by decide +kernel
theorem d_Cc_coverAll_119 : decode c_Cc_coverAll 119 = .ok (.goto (-69), 3) := by decide +kernel
theorem d_Cc_coverAll_122 : decode c_Cc_coverAll 122 = .ok (.iload_n 2, 1) := by decide +kernel
theorem d_Cc_coverAll_123 : decode c_Cc_coverAll 123 = .ok (.ifCond .ne 8, 3) := by decide +kernel
theorem d_Cc_coverAll_126 : decode c_Cc_coverAll 126 = .ok (.iload 4, 2) := by decide +kernel
theorem d_Cc_coverAll_128 : decode c_Cc_coverAll 128 = .ok (.goto 5, 3) := by decide +kernel
theorem d_Cc_coverAll_131 : decode c_Cc_coverAll 131 = .ok (.iload 5, 2) := by decide +kernel
theorem d_Cc_coverAll_133 : decode c_Cc_coverAll 133 = .ok (.ireturn, 1) := by decide +kernel
theorem d_Cc_choose_0 : decode c_Cc_choose 0 = .ok (.aload_n 0, 1) := by decide +kernel
theorem d_Cc_choose_1 : decode c_Cc_choose 1 = .ok (.getfield 42, 3) := by decide +kernel
theorem d_Cc_choose_4 : decode c_Cc_choose 4 = .ok (.iconst 0, 1) := by decide +kernel
theorem d_Cc_choose_5 : decode c_Cc_choose 5 = .ok (.putfield 259, 3) := by decide +kernel
theorem d_Cc_choose_8 : decode c_Cc_choose 8 = .ok (.aload_n 1, 1) := by decide +kernel
theorem d_Cc_choose_9 : decode c_Cc_choose 9 = .ok (.getfield 50, 3) := by decide +kernel
theorem d_Cc_choose_12 : decode c_Cc_choose 12 = .ok (.getfield 54, 3) := by decide +kernel
theorem d_Cc_choose_15 : decode c_Cc_choose 15 = .ok (.istore 4, 2) := by decide +kernel
theorem d_Cc_choose_17 : decode c_Cc_choose 17 = .ok (.iconst 0, 1) := by decide +kernel
theorem d_Cc_choose_18 : decode c_Cc_choose 18 = .ok (.istore 5, 2) := by decide +kernel
theorem d_Cc_choose_20 : decode c_Cc_choose 20 = .ok (.iload 5, 2) := by decide +kernel
theorem d_Cc_choose_22 : decode c_Cc_choose 22 = .ok (.iload 4, 2) := by decide +kernel
theorem d_Cc_choose_24 : decode c_Cc_choose 24 = .ok (.if_icmp .ge 115, 3) := by decide +kernel
theorem d_Cc_choose_27 : decode c_Cc_choose 27 = .ok (.aload_n 1, 1) := by decide +kernel
theorem d_Cc_choose_28 : decode c_Cc_choose 28 = .ok (.getfield 50, 3) := by decide +kernel
theorem d_Cc_choose_31 : decode c_Cc_choose 31 = .ok (.getfield 157, 3) := by decide +kernel
theorem d_Cc_choose_34 : decode c_Cc_choose 34 = .ok (.iload 5, 2) := by decide +kernel
theorem d_Cc_choose_36 : decode c_Cc_choose 36 = .ok (.invokevirtual 134, 3) := by decide +kernel
theorem d_Cc_choose_39 : decode c_Cc_choose 39 = .ok (.iload_n 3, 1) := by decide +kernel
theorem d_Cc_choose_40 : decode c_Cc_choose 40 = .ok (.if_icmp .eq 6, 3) := by decide +kernel
theorem d_Cc_choose_43 : decode c_Cc_choose 43 = .ok (.goto 90, 3) := by decide +kernel
theorem d_Cc_choose_46 : decode c_Cc_choose 46 = .ok (.iconst 0, 1) := by decide +kernel
theorem d_Cc_choose_47 : decode c_Cc_choose 47 = .ok (.istore 6, 2) := by decide +kernel
theorem d_Cc_choose_49 : decode c_Cc_choose 49 = .ok (.iload 6, 2) := by decide +kernel
theorem d_Cc_choose_51 : decode c_Cc_choose 51 = .ok (.iconst 1, 1) := by decide +kernel
theorem d_Cc_choose_52 : decode c_Cc_choose 52 = .ok (.if_icmp .gt 81, 3) := by decide +kernel
theorem d_Cc_choose_55 : decode c_Cc_choose 55 = .ok (.aload_n 0, 1) := by decide +kernel
theorem d_Cc_choose_56 : decode c_Cc_choose 56 = .ok (.getfield 19, 3) := by decide +kernel
theorem d_Cc_choose_59 : decode c_Cc_choose 59 = .ok (.aload_n 1, 1) := by decide +kernel
theorem d_Cc_choose_60 : decode c_Cc_choose 60 = .ok (.invokevirtual 93, 3) := by decide +kernel
theorem d_Cc_choose_63 : decode c_Cc_choose 63 = .ok (.aload_n 0, 1) := by decide +kernel
theorem d_Cc_choose_64 : decode c_Cc_choose 64 = .ok (.getfield 19, 3) := by decide +kernel
theorem d_Cc_choose_67 : decode c_Cc_choose 67 = .ok (.iload_n 2, 1) := by decide +kernel
theorem d_Cc_choose_68 : decode c_Cc_choose 68 = .ok (.iload 5, 2) := by decide +kernel
theorem d_Cc_choose_70 : decode c_Cc_choose 70 = .ok (.iload 6, 2) := by decide +kernel
theorem d_Cc_choose_72 : decode c_Cc_choose 72 = .ok (.invokevirtual 96, 3) := by decide +kernel
theorem d_Cc_choose_75 : decode c_Cc_choose 75 = .ok (.istore 7, 2) := by decide +kernel
theorem d_Cc_choose_77 : decode c_Cc_choose 77 = .ok (.iload 7, 2) := by decide +kernel
theorem d_Cc_choose_79 : decode c_Cc_choose 79 = .ok (.ifCond .lt 48, 3) := by decide +kernel
theorem d_Cc_choose_82 : decode c_Cc_choose 82 = .ok (.aload_n 0, 1) := by decide +kernel
theorem d_Cc_choose_83 : decode c_Cc_choose 83 = .ok (.getfield 19, 3) := by decide +kernel
theorem d_Cc_choose_86 : decode c_Cc_choose 86 = .ok (.getfield 50, 3) := by decide +kernel
theorem d_Cc_choose_89 : decode c_Cc_choose 89 = .ok (.getfield 178, 3) := by decide +kernel
theorem d_Cc_choose_92 : decode c_Cc_choose 92 = .ok (.iload 5, 2) := by decide +kernel
theorem d_Cc_choose_94 : decode c_Cc_choose 94 = .ok (.invokevirtual 134, 3) := by decide +kernel
theorem d_Cc_choose_97 : decode c_Cc_choose 97 = .ok (.aload_n 1, 1) := by decide +kernel
theorem d_Cc_choose_98 : decode c_Cc_choose 98 = .ok (.getfield 50, 3) := by decide +kernel
theorem d_Cc_choose_101 : decode c_Cc_choose 101 = .ok (.getfield 178, 3) := by decide +kernel
theorem d_Cc_choose_104 : decode c_Cc_choose 104 = .ok (.iload 5, 2) := by decide +kernel
theorem d_Cc_choose_106 : decode c_Cc_choose 106 = .ok (.invokevirtual 134, 3) := by decide +kernel
theorem d_Cc_choose_109 : decode c_Cc_choose 109 = .ok (.isub, 1) := by decide +kernel
theorem d_Cc_choose_110 : decode c_Cc_choose 110 = .ok (.istore 8, 2) := by decide +kernel
theorem d_Cc_choose_112 : decode c_Cc_choose 112 = .ok (.aload_n 0, 1) := by decide +kernel
theorem d_Cc_choose_113 : decode c_Cc_choose 113 = .ok (.getfield 42, 3) := by decide +kernel
theorem d_Cc_choose_116 : decode c_Cc_choose 116 = .ok (.iload 5, 2) := by decide +kernel
theorem d_Cc_choose_118 : decode c_Cc_choose 118 = .ok (.iload 6, 2) := by decide +kernel
theorem d_Cc_choose_120 : decode c_Cc_choose 120 = .ok (.iload 8, 2) := by decide +kernel
theorem d_Cc_choose_122 : decode c_Cc_choose 122 = .ok (.iload 7, 2) := by decide +kernel
theorem d_Cc_choose_124 : decode c_Cc_choose 124 = .ok (.invokevirtual 273, 3) := by decide +kernel
theorem d_Cc_choose_127 : decode c_Cc_choose 127 = .ok (.iinc 6 1, 3) := by decide +kernel
theorem d_Cc_choose_130 : decode c_Cc_choose 130 = .ok (.goto (-81), 3) := by decide +kernel
theorem d_Cc_choose_133 : decode c_Cc_choose 133 = .ok (.iinc 5 1, 3) := by decide +kernel
theorem d_Cc_choose_136 : decode c_Cc_choose 136 = .ok (.goto (-116), 3) := by decide +kernel
theorem d_Cc_choose_139 : decode c_Cc_choose 139 = .ok (.return_, 1) := by decide +kernel
theorem d_Cc_isKind_0 : decode c_Cc_isKind 0 = .ok (.iload_n 0, 1) := by decide +kernel
theorem d_Cc_isKind_1 : decode c_Cc_isKind 1 = .ok (.ifCond .lt 13, 3) := by decide +kernel
theorem d_Cc_isKind_4 : decode c_Cc_isKind 4 = .ok (.iload_n 0, 1) := by decide +kernel
theorem d_Cc_isKind_5 : decode c_Cc_isKind 5 = .ok (.bipush 9, 2) := by decide +kernel
theorem d_Cc_isKind_7 : decode c_Cc_isKind 7 = .ok (.if_icmp .gt 7, 3) := by decide +kernel
theorem d_Cc_isKind_10 : decode c_Cc_isKind 10 = .ok (.iconst 1, 1) := by decide +kernel
theorem d_Cc_isKind_11 : decode c_Cc_isKind 11 = .ok (.goto 4, 3) := by decide +kernel
theorem d_Cc_isKind_14 : decode c_Cc_isKind 14 = .ok (.iconst 0, 1) := by decide +kernel
theorem d_Cc_isKind_15 : decode c_Cc_isKind 15 = .ok (.ireturn, 1) := by decide +kernel
theorem d_Cc_isWay_0 : decode c_Cc_isWay 0 = .ok (.iload_n 0, 1) := by decide +kernel
theorem d_Cc_isWay_1 : decode c_Cc_isWay 1 = .ok (.ifCond .eq 8, 3) := by decide +kernel
theorem d_Cc_isWay_4 : decode c_Cc_isWay 4 = .ok (.iload_n 0, 1) := by decide +kernel
theorem d_Cc_isWay_5 : decode c_Cc_isWay 5 = .ok (.iconst 1, 1) := by decide +kernel
theorem d_Cc_isWay_6 : decode c_Cc_isWay 6 = .ok (.if_icmp .ne 7, 3) := by decide +kernel
theorem d_Cc_isWay_9 : decode c_Cc_isWay 9 = .ok (.iconst 1, 1) := by decide +kernel
theorem d_Cc_isWay_10 : decode c_Cc_isWay 10 = .ok (.goto 4, 3) := by decide +kernel
theorem d_Cc_isWay_13 : decode c_Cc_isWay 13 = .ok (.iconst 0, 1) := by decide +kernel
theorem d_Cc_isWay_14 : decode c_Cc_isWay 14 = .ok (.ireturn, 1) := by decide +kernel
theorem d_Mo_init_0 : decode c_Mo_init 0 = .ok (.aload_n 0, 1) := by decide +kernel
theorem d_Mo_init_1 : decode c_Mo_init 1 = .ok (.invokespecial 1, 3) := by decide +kernel
theorem d_Mo_init_4 : decode c_Mo_init 4 = .ok (.aload_n 0, 1) := by decide +kernel
theorem d_Mo_init_5 : decode c_Mo_init 5 = .ok (.sipush 1953, 3) := by decide +kernel
theorem d_Mo_init_8 : decode c_Mo_init 8 = .ok (.newarray .int, 2) := by decide +kernel
theorem d_Mo_init_10 : decode c_Mo_init 10 = .ok (.putfield 7, 3) := by decide +kernel
theorem d_Mo_init_13 : decode c_Mo_init 13 = .ok (.aload_n 0, 1) := by decide +kernel
theorem d_Mo_init_14 : decode c_Mo_init 14 = .ok (.sipush 1953, 3) := by decide +kernel
theorem d_Mo_init_17 : decode c_Mo_init 17 = .ok (.newarray .int, 2) := by decide +kernel
theorem d_Mo_init_19 : decode c_Mo_init 19 = .ok (.putfield 13, 3) := by decide +kernel
theorem d_Mo_init_22 : decode c_Mo_init 22 = .ok (.aload_n 0, 1) := by decide +kernel
theorem d_Mo_init_23 : decode c_Mo_init 23 = .ok (.sipush 1953, 3) := by decide +kernel
theorem d_Mo_init_26 : decode c_Mo_init 26 = .ok (.newarray .int, 2) := by decide +kernel
theorem d_Mo_init_28 : decode c_Mo_init 28 = .ok (.putfield 16, 3) := by decide +kernel
theorem d_Mo_init_31 : decode c_Mo_init 31 = .ok (.aload_n 0, 1) := by decide +kernel
theorem d_Mo_init_32 : decode c_Mo_init 32 = .ok (.sipush 1953, 3) := by decide +kernel
theorem d_Mo_init_35 : decode c_Mo_init 35 = .ok (.newarray .int, 2) := by decide +kernel
theorem d_Mo_init_37 : decode c_Mo_init 37 = .ok (.putfield 19, 3) := by decide +kernel
theorem d_Mo_init_40 : decode c_Mo_init 40 = .ok (.aload_n 0, 1) := by decide +kernel
theorem d_Mo_init_41 : decode c_Mo_init 41 = .ok (.sipush 7812, 3) := by decide +kernel
theorem d_Mo_init_44 : decode c_Mo_init 44 = .ok (.newarray .int, 2) := by decide +kernel
theorem d_Mo_init_46 : decode c_Mo_init 46 = .ok (.putfield 22, 3) := by decide +kernel
theorem d_Mo_init_49 : decode c_Mo_init 49 = .ok (.aload_n 0, 1) := by decide +kernel
theorem d_Mo_init_50 : decode c_Mo_init 50 = .ok (.bipush 60, 2) := by decide +kernel
theorem d_Mo_init_52 : decode c_Mo_init 52 = .ok (.newarray .int, 2) := by decide +kernel
theorem d_Mo_init_54 : decode c_Mo_init 54 = .ok (.putfield 25, 3) := by decide +kernel
theorem d_Mo_init_57 : decode c_Mo_init 57 = .ok (.aload_n 0, 1) := by decide +kernel
theorem d_Mo_init_58 : decode c_Mo_init 58 = .ok (.bipush 8, 2) := by decide +kernel
theorem d_Mo_init_60 : decode c_Mo_init 60 = .ok (.newarray .int, 2) := by decide +kernel
theorem d_Mo_init_62 : decode c_Mo_init 62 = .ok (.putfield 28, 3) := by decide +kernel
theorem d_Mo_init_65 : decode c_Mo_init 65 = .ok (.aload_n 0, 1) := by decide +kernel
theorem d_Mo_init_66 : decode c_Mo_init 66 = .ok (.getfield 7, 3) := by decide +kernel
theorem d_Mo_init_69 : decode c_Mo_init 69 = .ok (.iconst 5, 1) := by decide +kernel
theorem d_Mo_init_70 : decode c_Mo_init 70 = .ok (.iconst 3, 1) := by decide +kernel
theorem d_Mo_init_71 : decode c_Mo_init 71 = .ok (.iastore, 1) := by decide +kernel
theorem d_Mo_init_72 : decode c_Mo_init 72 = .ok (.aload_n 0, 1) := by decide +kernel
theorem d_Mo_init_73 : decode c_Mo_init 73 = .ok (.getfield 7, 3) := by decide +kernel
theorem d_Mo_init_76 : decode c_Mo_init 76 = .ok (.bipush 6, 2) := by decide +kernel
theorem d_Mo_init_78 : decode c_Mo_init 78 = .ok (.iconst 2, 1) := by decide +kernel
theorem d_Mo_init_79 : decode c_Mo_init 79 = .ok (.iastore, 1) := by decide +kernel
theorem d_Mo_init_80 : decode c_Mo_init 80 = .ok (.aload_n 0, 1) := by decide +kernel
theorem d_Mo_init_81 : decode c_Mo_init 81 = .ok (.getfield 7, 3) := by decide +kernel
theorem d_Mo_init_84 : decode c_Mo_init 84 = .ok (.bipush 7, 2) := by decide +kernel
theorem d_Mo_init_86 : decode c_Mo_init 86 = .ok (.iconst 3, 1) := by decide +kernel
theorem d_Mo_init_87 : decode c_Mo_init 87 = .ok (.iastore, 1) := by decide +kernel
theorem d_Mo_init_88 : decode c_Mo_init 88 = .ok (.return_, 1) := by decide +kernel
theorem d_Mo_in_0 : decode c_Mo_in 0 = .ok (.iload_n 0, 1) := by decide +kernel
theorem d_Mo_in_1 : decode c_Mo_in 1 = .ok (.iload_n 1, 1) := by decide +kernel
theorem d_Mo_in_2 : decode c_Mo_in 2 = .ok (.if_icmp .lt 12, 3) := by decide +kernel
theorem d_Mo_in_5 : decode c_Mo_in 5 = .ok (.iload_n 0, 1) := by decide +kernel
theorem d_Mo_in_6 : decode c_Mo_in 6 = .ok (.iload_n 2, 1) := by decide +kernel
theorem d_Mo_in_7 : decode c_Mo_in 7 = .ok (.if_icmp .gt 7, 3) := by decide +kernel
theorem d_Mo_in_10 : decode c_Mo_in 10 = .ok (.iconst 1, 1) := by decide +kernel
theorem d_Mo_in_11 : decode c_Mo_in 11 = .ok (.goto 4, 3) := by decide +kernel
theorem d_Mo_in_14 : decode c_Mo_in 14 = .ok (.iconst 0, 1) := by decide +kernel
theorem d_Mo_in_15 : decode c_Mo_in 15 = .ok (.ireturn, 1) := by decide +kernel
theorem d_Mo_record_0 : decode c_Mo_record 0 = .ok (.aload_n 0, 1) := by decide +kernel
theorem d_Mo_record_1 : decode c_Mo_record 1 = .ok (.getfield 31, 3) := by decide +kernel
theorem d_Mo_record_4 : decode c_Mo_record 4 = .ok (.iconst 4, 1) := by decide +kernel
theorem d_Mo_record_5 : decode c_Mo_record 5 = .ok (.if_icmp .ne 44, 3) := by decide +kernel
theorem d_Mo_record_8 : decode c_Mo_record 8 = .ok (.iconst 0, 1) := by decide +kernel
theorem d_Mo_record_9 : decode c_Mo_record 9 = .ok (.istore_n 1, 1) := by decide +kernel
theorem d_Mo_record_10 : decode c_Mo_record 10 = .ok (.iload_n 1, 1) := by decide +kernel
theorem d_Mo_record_11 : decode c_Mo_record 11 = .ok (.sipush 5859, 3) := by decide +kernel
theorem d_Mo_record_14 : decode c_Mo_record 14 = .ok (.if_icmp .ge 25, 3) := by decide +kernel
theorem d_Mo_record_17 : decode c_Mo_record 17 = .ok (.aload_n 0, 1) := by decide +kernel
theorem d_Mo_record_18 : decode c_Mo_record 18 = .ok (.getfield 22, 3) := by decide +kernel
theorem d_Mo_record_21 : decode c_Mo_record 21 = .ok (.iload_n 1, 1) := by decide +kernel
theorem d_Mo_record_22 : decode c_Mo_record 22 = .ok (.aload_n 0, 1) := by decide +kernel
theorem d_Mo_record_23 : decode c_Mo_record 23 = .ok (.getfield 22, 3) := by decide +kernel
theorem d_Mo_record_26 : decode c_Mo_record 26 = .ok (.iload_n 1, 1) := by decide +kernel
theorem d_Mo_record_27 : decode c_Mo_record 27 = .ok (.sipush 1953, 3) := by decide +kernel
theorem d_Mo_record_30 : decode c_Mo_record 30 = .ok (.iadd, 1) := by decide +kernel
theorem d_Mo_record_31 : decode c_Mo_record 31 = .ok (.iaload, 1) := by decide +kernel
theorem d_Mo_record_32 : decode c_Mo_record 32 = .ok (.iastore, 1) := by decide +kernel
theorem d_Mo_record_33 : decode c_Mo_record 33 = .ok (.iinc 1 1, 3) := by decide +kernel
theorem d_Mo_record_36 : decode c_Mo_record 36 = .ok (.goto (-26), 3) := by decide +kernel
theorem d_Mo_record_39 : decode c_Mo_record 39 = .ok (.aload_n 0, 1) := by decide +kernel
theorem d_Mo_record_40 : decode c_Mo_record 40 = .ok (.dup, 1) := by decide +kernel
theorem d_Mo_record_41 : decode c_Mo_record 41 = .ok (.getfield 31, 3) := by decide +kernel
theorem d_Mo_record_44 : decode c_Mo_record 44 = .ok (.iconst 1, 1) := by decide +kernel
theorem d_Mo_record_45 : decode c_Mo_record 45 = .ok (.isub, 1) := by decide +kernel
theorem d_Mo_record_46 : decode c_Mo_record 46 = .ok (.putfield 31, 3) := by decide +kernel
theorem d_Mo_record_49 : decode c_Mo_record 49 = .ok (.iconst 0, 1) := by decide +kernel
theorem d_Mo_record_50 : decode c_Mo_record 50 = .ok (.istore_n 1, 1) := by decide +kernel
theorem d_Mo_record_51 : decode c_Mo_record 51 = .ok (.iload_n 1, 1) := by decide +kernel
theorem d_Mo_record_52 : decode c_Mo_record 52 = .ok (.sipush 1953, 3) := by decide +kernel
theorem d_Mo_record_55 : decode c_Mo_record 55 = .ok (.if_icmp .ge 30, 3) := by decide +kernel
theorem d_Mo_record_58 : decode c_Mo_record 58 = .ok (.aload_n 0, 1) := by decide +kernel
theorem d_Mo_record_59 : decode c_Mo_record 59 = .ok (.getfield 22, 3) := by decide +kernel
theorem d_Mo_record_62 : decode c_Mo_record 62 = .ok (.sipush 1953, 3) := by decide +kernel
theorem d_Mo_record_65 : decode c_Mo_record 65 = .ok (.aload_n 0, 1) := by decide +kernel
theorem d_Mo_record_66 : decode c_Mo_record 66 = .ok (.getfield 31, 3) := by decide +kernel
theorem d_Mo_record_69 : decode c_Mo_record 69 = .ok (.imul, 1) := by decide +kernel
theorem d_Mo_record_70 : decode c_Mo_record 70 = .ok (.iload_n 1, 1) := by decide +kernel
theorem d_Mo_record_71 : decode c_Mo_record 71 = .ok (.iadd, 1) := by decide +kernel
theorem d_Mo_record_72 : decode c_Mo_record 72 = .ok (.aload_n 0, 1) := by decide +kernel
theorem d_Mo_record_73 : decode c_Mo_record 73 = .ok (.getfield 7, 3) := by decide +kernel
theorem d_Mo_record_76 : decode c_Mo_record 76 = .ok (.iload_n 1, 1) := by decide +kernel
theorem d_Mo_record_77 : decode c_Mo_record 77 = .ok (.iaload, 1) := by decide +kernel
theorem d_Mo_record_78 : decode c_Mo_record 78 = .ok (.iastore, 1) := by decide +kernel
theorem d_Mo_record_79 : decode c_Mo_record 79 = .ok (.iinc 1 1, 3) := by decide +kernel
theorem d_Mo_record_82 : decode c_Mo_record 82 = .ok (.goto (-31), 3) := by decide +kernel
theorem d_Mo_record_85 : decode c_Mo_record 85 = .ok (.aload_n 0, 1) := by decide +kernel
theorem d_Mo_record_86 : decode c_Mo_record 86 = .ok (.dup, 1) := by decide +kernel
theorem d_Mo_record_87 : decode c_Mo_record 87 = .ok (.getfield 31, 3) := by decide +kernel
theorem d_Mo_record_90 : decode c_Mo_record 90 = .ok (.iconst 1, 1) := by decide +kernel
theorem d_Mo_record_91 : decode c_Mo_record 91 = .ok (.iadd, 1) := by decide +kernel
theorem d_Mo_record_92 : decode c_Mo_record 92 = .ok (.putfield 31, 3) := by decide +kernel
theorem d_Mo_record_95 : decode c_Mo_record 95 = .ok (.return_, 1) := by decide +kernel
theorem d_Mo_lay_0 : decode c_Mo_lay 0 = .ok (.iconst 0, 1) := by decide +kernel
theorem d_Mo_lay_1 : decode c_Mo_lay 1 = .ok (.istore_n 1, 1) := by decide +kernel
theorem d_Mo_lay_2 : decode c_Mo_lay 2 = .ok (.iload_n 1, 1) := by decide +kernel
theorem d_Mo_lay_3 : decode c_Mo_lay 3 = .ok (.sipush 1953, 3) := by decide +kernel
theorem d_Mo_lay_6 : decode c_Mo_lay 6 = .ok (.if_icmp .ge 21, 3) := by decide +kernel
theorem d_Mo_lay_9 : decode c_Mo_lay 9 = .ok (.aload_n 0, 1) := by decide +kernel
theorem d_Mo_lay_10 : decode c_Mo_lay 10 = .ok (.getfield 16, 3) := by decide +kernel
theorem d_Mo_lay_13 : decode c_Mo_lay 13 = .ok (.iload_n 1, 1) := by decide +kernel
theorem d_Mo_lay_14 : decode c_Mo_lay 14 = .ok (.aload_n 0, 1) := by decide +kernel
theorem d_Mo_lay_15 : decode c_Mo_lay 15 = .ok (.getfield 7, 3) := by decide +kernel
theorem d_Mo_lay_18 : decode c_Mo_lay 18 = .ok (.iload_n 1, 1) := by decide +kernel
theorem d_Mo_lay_19 : decode c_Mo_lay 19 = .ok (.iaload, 1) := by decide +kernel
theorem d_Mo_lay_20 : decode c_Mo_lay 20 = .ok (.iastore, 1) := by decide +kernel
theorem d_Mo_lay_21 : decode c_Mo_lay 21 = .ok (.iinc 1 1, 3) := by decide +kernel
theorem d_Mo_lay_24 : decode c_Mo_lay 24 = .ok (.goto (-22), 3) := by decide +kernel
theorem d_Mo_lay_27 : decode c_Mo_lay 27 = .ok (.return_, 1) := by decide +kernel
theorem d_Mo_takeBack_0 : decode c_Mo_takeBack 0 = .ok (.iconst 0, 1) := by decide +kernel
theorem d_Mo_takeBack_1 : decode c_Mo_takeBack 1 = .ok (.istore_n 1, 1) := by decide +kernel
theorem d_Mo_takeBack_2 : decode c_Mo_takeBack 2 = .ok (.iload_n 1, 1) := by decide +kernel
theorem d_Mo_takeBack_3 : decode c_Mo_takeBack 3 = .ok (.sipush 1953, 3) := by decide +kernel
theorem d_Mo_takeBack_6 : decode c_Mo_takeBack 6 = .ok (.if_icmp .ge 21, 3) := by decide +kernel
theorem d_Mo_takeBack_9 : decode c_Mo_takeBack 9 = .ok (.aload_n 0, 1) := by decide +kernel
theorem d_Mo_takeBack_10 : decode c_Mo_takeBack 10 = .ok (.getfield 7, 3) := by decide +kernel
theorem d_Mo_takeBack_13 : decode c_Mo_takeBack 13 = .ok (.iload_n 1, 1) := by decide +kernel
theorem d_Mo_takeBack_14 : decode c_Mo_takeBack 14 = .ok (.aload_n 0, 1) := by decide +kernel
theorem d_Mo_takeBack_15 : decode c_Mo_takeBack 15 = .ok (.getfield 16, 3) := by decide +kernel
theorem d_Mo_takeBack_18 : decode c_Mo_takeBack 18 = .ok (.iload_n 1, 1) := by decide +kernel
theorem d_Mo_takeBack_19 : decode c_Mo_takeBack 19 = .ok (.iaload, 1) := by decide +kernel
theorem d_Mo_takeBack_20 : decode c_Mo_takeBack 20 = .ok (.iastore, 1) := by decide +kernel
theorem d_Mo_takeBack_21 : decode c_Mo_takeBack 21 = .ok (.iinc 1 1, 3) := by decide +kernel
theorem d_Mo_takeBack_24 : decode c_Mo_takeBack 24 = .ok (.goto (-22), 3) := by decide +kernel
theorem d_Mo_takeBack_27 : decode c_Mo_takeBack 27 = .ok (.return_, 1) := by decide +kernel
theorem d_Mo_of_0 : decode c_Mo_of 0 = .ok (.aload_n 0, 1) := by decide +kernel
theorem d_Mo_of_1 : decode c_Mo_of 1 = .ok (.getfield 7, 3) := by decide +kernel
theorem d_Mo_of_4 : decode c_Mo_of 4 = .ok (.bipush 9, 2) := by decide +kernel
theorem d_Mo_of_6 : decode c_Mo_of 6 = .ok (.bipush 7, 2) := by decide +kernel
theorem d_Mo_of_8 : decode c_Mo_of 8 = .ok (.iload_n 1, 1) := by decide +kernel
theorem d_Mo_of_9 : decode c_Mo_of 9 = .ok (.imul, 1) := by decide +kernel
theorem d_Mo_of_10 : decode c_Mo_of 10 = .ok (.iadd, 1) := by decide +kernel
theorem d_Mo_of_11 : decode c_Mo_of 11 = .ok (.iload_n 2, 1) := by decide +kernel
theorem d_Mo_of_12 : decode c_Mo_of 12 = .ok (.iadd, 1) := by decide +kernel
theorem d_Mo_of_13 : decode c_Mo_of 13 = .ok (.iaload, 1) := by decide +kernel
theorem d_Mo_of_14 : decode c_Mo_of 14 = .ok (.ireturn, 1) := by decide +kernel
theorem d_Mo_add_0 : decode c_Mo_add 0 = .ok (.aload_n 0, 1) := by decide +kernel
theorem d_Mo_add_1 : decode c_Mo_add 1 = .ok (.getfield 7, 3) := by decide +kernel
theorem d_Mo_add_4 : decode c_Mo_add 4 = .ok (.bipush 9, 2) := by decide +kernel
theorem d_Mo_add_6 : decode c_Mo_add 6 = .ok (.bipush 7, 2) := by decide +kernel
theorem d_Mo_add_8 : decode c_Mo_add 8 = .ok (.iload_n 1, 1) := by decide +kernel
theorem d_Mo_add_9 : decode c_Mo_add 9 = .ok (.imul, 1) := by decide +kernel
theorem d_Mo_add_10 : decode c_Mo_add 10 = .ok (.iadd, 1) := by decide +kernel
theorem d_Mo_add_11 : decode c_Mo_add 11 = .ok (.iload_n 2, 1) := by decide +kernel
theorem d_Mo_add_12 : decode c_Mo_add 12 = .ok (.iadd, 1) := by decide +kernel
theorem d_Mo_add_13 : decode c_Mo_add 13 = .ok (.dup2, 1) := by decide +kernel
theorem d_Mo_add_14 : decode c_Mo_add 14 = .ok (.iaload, 1) := by decide +kernel
theorem d_Mo_add_15 : decode c_Mo_add 15 = .ok (.iload_n 3, 1) := by decide +kernel
theorem d_Mo_add_16 : decode c_Mo_add 16 = .ok (.iadd, 1) := by decide +kernel
theorem d_Mo_add_17 : decode c_Mo_add 17 = .ok (.iastore, 1) := by decide +kernel
theorem d_Mo_add_18 : decode c_Mo_add 18 = .ok (.return_, 1) := by decide +kernel
theorem d_Mo_at_0 : decode c_Mo_at 0 = .ok (.aload_n 0, 1) := by decide +kernel
theorem d_Mo_at_1 : decode c_Mo_at 1 = .ok (.getfield 7, 3) := by decide +kernel
theorem d_Mo_at_4 : decode c_Mo_at 4 = .ok (.sipush 993, 3) := by decide +kernel
theorem d_Mo_at_7 : decode c_Mo_at 7 = .ok (.bipush 12, 2) := by decide +kernel
theorem d_Mo_at_9 : decode c_Mo_at 9 = .ok (.iload_n 1, 1) := by decide +kernel
theorem d_Mo_at_10 : decode c_Mo_at 10 = .ok (.imul, 1) := by decide +kernel
theorem d_Mo_at_11 : decode c_Mo_at 11 = .ok (.iadd, 1) := by decide +kernel
theorem d_Mo_at_12 : decode c_Mo_at 12 = .ok (.iload_n 2, 1) := by decide +kernel
theorem d_Mo_at_13 : decode c_Mo_at 13 = .ok (.iadd, 1) := by decide +kernel
theorem d_Mo_at_14 : decode c_Mo_at 14 = .ok (.iaload, 1) := by decide +kernel
theorem d_Mo_at_15 : decode c_Mo_at 15 = .ok (.ireturn, 1) := by decide +kernel
theorem d_Mo_put_0 : decode c_Mo_put 0 = .ok (.aload_n 0, 1) := by decide +kernel
theorem d_Mo_put_1 : decode c_Mo_put 1 = .ok (.getfield 7, 3) := by decide +kernel
theorem d_Mo_put_4 : decode c_Mo_put 4 = .ok (.sipush 993, 3) := by decide +kernel
theorem d_Mo_put_7 : decode c_Mo_put 7 = .ok (.bipush 12, 2) := by decide +kernel
theorem d_Mo_put_9 : decode c_Mo_put 9 = .ok (.iload_n 1, 1) := by decide +kernel
theorem d_Mo_put_10 : decode c_Mo_put 10 = .ok (.imul, 1) := by decide +kernel
theorem d_Mo_put_11 : decode c_Mo_put 11 = .ok (.iadd, 1) := by decide +kernel
theorem d_Mo_put_12 : decode c_Mo_put 12 = .ok (.iload_n 2, 1) := by decide +kernel
theorem d_Mo_put_13 : decode c_Mo_put 13 = .ok (.iadd, 1) := by decide +kernel
theorem d_Mo_put_14 : decode c_Mo_put 14 = .ok (.iload_n 3, 1) := by decide +kernel
theorem d_Mo_put_15 : decode c_Mo_put 15 = .ok (.iastore, 1) := by decide +kernel
theorem d_Mo_put_16 : decode c_Mo_put 16 = .ok (.return_, 1) := by decide +kernel
theorem d_Mo_isRoll_0 : decode c_Mo_isRoll 0 = .ok (.iload_n 1, 1) := by decide +kernel
theorem d_Mo_isRoll_1 : decode c_Mo_isRoll 1 = .ok (.iconst 0, 1) := by decide +kernel
theorem d_Mo_isRoll_2 : decode c_Mo_isRoll 2 = .ok (.aload_n 0, 1) := by decide +kernel
theorem d_Mo_isRoll_3 : decode c_Mo_isRoll 3 = .ok (.getfield 7, 3) := by decide +kernel
theorem d_Mo_isRoll_6 : decode c_Mo_isRoll 6 = .ok (.iconst 0, 1) := by decide +kernel
theorem d_Mo_isRoll_7 : decode c_Mo_isRoll 7 = .ok (.iaload, 1) := by decide +kernel
theorem d_Mo_isRoll_8 : decode c_Mo_isRoll 8 = .ok (.iconst 1, 1) := by decide +kernel
theorem d_Mo_isRoll_9 : decode c_Mo_isRoll 9 = .ok (.isub, 1) := by decide +kernel
theorem d_Mo_isRoll_10 : decode c_Mo_isRoll 10 = .ok (.invokestatic 35, 3) := by decide +kernel
theorem d_Mo_isRoll_13 : decode c_Mo_isRoll 13 = .ok (.ireturn, 1) := by decide +kernel
theorem d_Mo_isRoom_0 : decode c_Mo_isRoom 0 = .ok (.iload_n 1, 1) := by decide +kernel
theorem d_Mo_isRoom_1 : decode c_Mo_isRoom 1 = .ok (.iconst 0, 1) := by decide +kernel
theorem d_Mo_isRoom_2 : decode c_Mo_isRoom 2 = .ok (.aload_n 0, 1) := by decide +kernel
theorem d_Mo_isRoom_3 : decode c_Mo_isRoom 3 = .ok (.getfield 7, 3) := by decide +kernel
theorem d_Mo_isRoom_6 : decode c_Mo_isRoom 6 = .ok (.iconst 2, 1) := by decide +kernel
theorem d_Mo_isRoom_7 : decode c_Mo_isRoom 7 = .ok (.iaload, 1) := by decide +kernel
theorem d_Mo_isRoom_8 : decode c_Mo_isRoom 8 = .ok (.iconst 1, 1) := by decide +kernel
theorem d_Mo_isRoom_9 : decode c_Mo_isRoom 9 = .ok (.isub, 1) := by decide +kernel
theorem d_Mo_isRoom_10 : decode c_Mo_isRoom 10 = .ok (.invokestatic 35, 3) := by decide +kernel
theorem d_Mo_isRoom_13 : decode c_Mo_isRoom 13 = .ok (.ireturn, 1) := by decide +kernel
theorem d_Mo_isKept_0 : decode c_Mo_isKept 0 = .ok (.iload_n 1, 1) := by decide +kernel
theorem d_Mo_isKept_1 : decode c_Mo_isKept 1 = .ok (.iconst 0, 1) := by decide +kernel
theorem d_Mo_isKept_2 : decode c_Mo_isKept 2 = .ok (.aload_n 0, 1) := by decide +kernel
theorem d_Mo_isKept_3 : decode c_Mo_isKept 3 = .ok (.getfield 7, 3) := by decide +kernel
theorem d_Mo_isKept_6 : decode c_Mo_isKept 6 = .ok (.iconst 1, 1) := by decide +kernel
theorem d_Mo_isKept_7 : decode c_Mo_isKept 7 = .ok (.iaload, 1) := by decide +kernel
theorem d_Mo_isKept_8 : decode c_Mo_isKept 8 = .ok (.iconst 1, 1) := by decide +kernel
theorem d_Mo_isKept_9 : decode c_Mo_isKept 9 = .ok (.isub, 1) := by decide +kernel
theorem d_Mo_isKept_10 : decode c_Mo_isKept 10 = .ok (.invokestatic 35, 3) := by decide +kernel
theorem d_Mo_isKept_13 : decode c_Mo_isKept 13 = .ok (.ifCond .eq 21, 3) := by decide +kernel
theorem d_Mo_isKept_16 : decode c_Mo_isKept 16 = .ok (.aload_n 0, 1) := by decide +kernel
theorem d_Mo_isKept_17 : decode c_Mo_isKept 17 = .ok (.getfield 7, 3) := by decide +kernel
theorem d_Mo_isKept_20 : decode c_Mo_isKept 20 = .ok (.bipush 93, 2) := by decide +kernel
theorem d_Mo_isKept_22 : decode c_Mo_isKept 22 = .ok (.iconst 3, 1) := by decide +kernel
theorem d_Mo_isKept_23 : decode c_Mo_isKept 23 = .ok (.iload_n 1, 1) := by decide +kernel
theorem d_Mo_isKept_24 : decode c_Mo_isKept 24 = .ok (.imul, 1) := by decide +kernel
theorem d_Mo_isKept_25 : decode c_Mo_isKept 25 = .ok (.iadd, 1) := by decide +kernel
theorem d_Mo_isKept_26 : decode c_Mo_isKept 26 = .ok (.iaload, 1) := by decide +kernel
theorem d_Mo_isKept_27 : decode c_Mo_isKept 27 = .ok (.ifCond .le 7, 3) := by decide +kernel
theorem d_Mo_isKept_30 : decode c_Mo_isKept 30 = .ok (.iconst 1, 1) := by decide +kernel
theorem d_Mo_isKept_31 : decode c_Mo_isKept 31 = .ok (.goto 4, 3) := by decide +kernel
theorem d_Mo_isKept_34 : decode c_Mo_isKept 34 = .ok (.iconst 0, 1) := by decide +kernel
theorem d_Mo_isKept_35 : decode c_Mo_isKept 35 = .ok (.ireturn, 1) := by decide +kernel
theorem d_Mo_rollOfOffcut_0 : decode c_Mo_rollOfOffcut 0 = .ok (.aload_n 0, 1) := by decide +kernel
theorem d_Mo_rollOfOffcut_1 : decode c_Mo_rollOfOffcut 1 = .ok (.getfield 7, 3) := by decide +kernel
theorem d_Mo_rollOfOffcut_4 : decode c_Mo_rollOfOffcut 4 = .ok (.bipush 93, 2) := by decide +kernel
theorem d_Mo_rollOfOffcut_6 : decode c_Mo_rollOfOffcut 6 = .ok (.iconst 3, 1) := by decide +kernel
theorem d_Mo_rollOfOffcut_7 : decode c_Mo_rollOfOffcut 7 = .ok (.iload_n 1, 1) := by decide +kernel
theorem d_Mo_rollOfOffcut_8 : decode c_Mo_rollOfOffcut 8 = .ok (.imul, 1) := by decide +kernel
theorem d_Mo_rollOfOffcut_9 : decode c_Mo_rollOfOffcut 9 = .ok (.iadd, 1) := by decide +kernel
theorem d_Mo_rollOfOffcut_10 : decode c_Mo_rollOfOffcut 10 = .ok (.iaload, 1) := by decide +kernel
theorem d_Mo_rollOfOffcut_11 : decode c_Mo_rollOfOffcut 11 = .ok (.iconst 1, 1) := by decide +kernel
theorem d_Mo_rollOfOffcut_12 : decode c_Mo_rollOfOffcut 12 = .ok (.isub, 1) := by decide +kernel
theorem d_Mo_rollOfOffcut_13 : decode c_Mo_rollOfOffcut 13 = .ok (.ireturn, 1) := by decide +kernel
theorem d_Mo_widthOf_0 : decode c_Mo_widthOf 0 = .ok (.aload_n 0, 1) := by decide +kernel
theorem d_Mo_widthOf_1 : decode c_Mo_widthOf 1 = .ok (.getfield 7, 3) := by decide +kernel
theorem d_Mo_widthOf_4 : decode c_Mo_widthOf 4 = .ok (.bipush 93, 2) := by decide +kernel
theorem d_Mo_widthOf_6 : decode c_Mo_widthOf 6 = .ok (.iconst 3, 1) := by decide +kernel
theorem d_Mo_widthOf_7 : decode c_Mo_widthOf 7 = .ok (.iload_n 1, 1) := by decide +kernel
theorem d_Mo_widthOf_8 : decode c_Mo_widthOf 8 = .ok (.imul, 1) := by decide +kernel
theorem d_Mo_widthOf_9 : decode c_Mo_widthOf 9 = .ok (.iadd, 1) := by decide +kernel
theorem d_Mo_widthOf_10 : decode c_Mo_widthOf 10 = .ok (.iconst 1, 1) := by decide +kernel
theorem d_Mo_widthOf_11 : decode c_Mo_widthOf 11 = .ok (.iadd, 1) := by decide +kernel
theorem d_Mo_widthOf_12 : decode c_Mo_widthOf 12 = .ok (.iaload, 1) := by decide +kernel
theorem d_Mo_widthOf_13 : decode c_Mo_widthOf 13 = .ok (.ireturn, 1) := by decide +kernel
theorem d_Mo_lengthOf_0 : decode c_Mo_lengthOf 0 = .ok (.aload_n 0, 1) := by decide +kernel
theorem d_Mo_lengthOf_1 : decode c_Mo_lengthOf 1 = .ok (.getfield 7, 3) := by decide +kernel
theorem d_Mo_lengthOf_4 : decode c_Mo_lengthOf 4 = .ok (.bipush 93, 2) := by decide +kernel
theorem d_Mo_lengthOf_6 : decode c_Mo_lengthOf 6 = .ok (.iconst 3, 1) := by decide +kernel
theorem d_Mo_lengthOf_7 : decode c_Mo_lengthOf 7 = .ok (.iload_n 1, 1) := by decide +kernel
theorem d_Mo_lengthOf_8 : decode c_Mo_lengthOf 8 = .ok (.imul, 1) := by decide +kernel
theorem d_Mo_lengthOf_9 : decode c_Mo_lengthOf 9 = .ok (.iadd, 1) := by decide +kernel
theorem d_Mo_lengthOf_10 : decode c_Mo_lengthOf 10 = .ok (.iconst 2, 1) := by decide +kernel
theorem d_Mo_lengthOf_11 : decode c_Mo_lengthOf 11 = .ok (.iadd, 1) := by decide +kernel
theorem d_Mo_lengthOf_12 : decode c_Mo_lengthOf 12 = .ok (.iaload, 1) := by decide +kernel
theorem d_Mo_lengthOf_13 : decode c_Mo_lengthOf 13 = .ok (.ireturn, 1) := by decide +kernel
theorem d_Mo_areaOf_0 : decode c_Mo_areaOf 0 = .ok (.aload_n 0, 1) := by decide +kernel
theorem d_Mo_areaOf_1 : decode c_Mo_areaOf 1 = .ok (.iload_n 1, 1) := by decide +kernel
theorem d_Mo_areaOf_2 : decode c_Mo_areaOf 2 = .ok (.invokevirtual 39, 3) := by decide +kernel
theorem d_Mo_areaOf_5 : decode c_Mo_areaOf 5 = .ok (.aload_n 0, 1) := by decide +kernel
theorem d_Mo_areaOf_6 : decode c_Mo_areaOf 6 = .ok (.iload_n 1, 1) := by decide +kernel
theorem d_Mo_areaOf_7 : decode c_Mo_areaOf 7 = .ok (.invokevirtual 43, 3) := by decide +kernel
theorem d_Mo_areaOf_10 : decode c_Mo_areaOf 10 = .ok (.imul, 1) := by decide +kernel
theorem d_Mo_areaOf_11 : decode c_Mo_areaOf 11 = .ok (.ireturn, 1) := by decide +kernel
theorem d_Mo_keptOnes_0 : decode c_Mo_keptOnes 0 = .ok (.iconst 0, 1) := by decide +kernel
theorem d_Mo_keptOnes_1 : decode c_Mo_keptOnes 1 = .ok (.istore_n 1, 1) := by decide +kernel
theorem d_Mo_keptOnes_2 : decode c_Mo_keptOnes 2 = .ok (.iconst 0, 1) := by decide +kernel
theorem d_Mo_keptOnes_3 : decode c_Mo_keptOnes 3 = .ok (.istore_n 2, 1) := by decide +kernel
theorem d_Mo_keptOnes_4 : decode c_Mo_keptOnes 4 = .ok (.iload_n 2, 1) := by decide +kernel
theorem d_Mo_keptOnes_5 : decode c_Mo_keptOnes 5 = .ok (.aload_n 0, 1) := by decide +kernel
theorem d_Mo_keptOnes_6 : decode c_Mo_keptOnes 6 = .ok (.getfield 7, 3) := by decide +kernel
theorem d_Mo_keptOnes_9 : decode c_Mo_keptOnes 9 = .ok (.iconst 1, 1) := by decide +kernel
theorem d_Mo_keptOnes_10 : decode c_Mo_keptOnes 10 = .ok (.iaload, 1) := by decide +kernel
theorem d_Mo_keptOnes_11 : decode c_Mo_keptOnes 11 = .ok (.if_icmp .ge 25, 3) := by decide +kernel
theorem d_Mo_keptOnes_14 : decode c_Mo_keptOnes 14 = .ok (.iload_n 1, 1) := by decide +kernel
theorem d_Mo_keptOnes_15 : decode c_Mo_keptOnes 15 = .ok (.aload_n 0, 1) := by decide +kernel
theorem d_Mo_keptOnes_16 : decode c_Mo_keptOnes 16 = .ok (.iload_n 2, 1) := by decide +kernel
theorem d_Mo_keptOnes_17 : decode c_Mo_keptOnes 17 = .ok (.invokevirtual 46, 3) := by decide +kernel
theorem d_Mo_keptOnes_20 : decode c_Mo_keptOnes 20 = .ok (.ifCond .eq 7, 3) := by decide +kernel
theorem d_Mo_keptOnes_23 : decode c_Mo_keptOnes 23 = .ok (.iconst 1, 1) := by decide +kernel
theorem d_Mo_keptOnes_24 : decode c_Mo_keptOnes 24 = .ok (.goto 4, 3) := by decide +kernel
theorem d_Mo_keptOnes_27 : decode c_Mo_keptOnes 27 = .ok (.iconst 0, 1) := by decide +kernel
theorem d_Mo_keptOnes_28 : decode c_Mo_keptOnes 28 = .ok (.iadd, 1) := by decide +kernel
theorem d_Mo_keptOnes_29 : decode c_Mo_keptOnes 29 = .ok (.istore_n 1, 1) := by decide +kernel
theorem d_Mo_keptOnes_30 : decode c_Mo_keptOnes 30 = .ok (.iinc 2 1, 3) := by decide +kernel
theorem d_Mo_keptOnes_33 : decode c_Mo_keptOnes 33 = .ok (.goto (-29), 3) := by decide +kernel
theorem d_Mo_keptOnes_36 : decode c_Mo_keptOnes 36 = .ok (.iload_n 1, 1) := by decide +kernel
theorem d_Mo_keptOnes_37 : decode c_Mo_keptOnes 37 = .ok (.ireturn, 1) := by decide +kernel
theorem d_Mo_addOffcut_0 : decode c_Mo_addOffcut 0 = .ok (.aload_n 0, 1) := by decide +kernel
theorem d_Mo_addOffcut_1 : decode c_Mo_addOffcut 1 = .ok (.getfield 7, 3) := by decide +kernel
theorem d_Mo_addOffcut_4 : decode c_Mo_addOffcut 4 = .ok (.iconst 1, 1) := by decide +kernel
theorem d_Mo_addOffcut_5 : decode c_Mo_addOffcut 5 = .ok (.iaload, 1) := by decide +kernel
theorem d_Mo_addOffcut_6 : decode c_Mo_addOffcut 6 = .ok (.istore 4, 2) := by decide +kernel
theorem d_Mo_addOffcut_8 : decode c_Mo_addOffcut 8 = .ok (.aload_n 0, 1) := by decide +kernel
theorem d_Mo_addOffcut_9 : decode c_Mo_addOffcut 9 = .ok (.getfield 7, 3) := by decide +kernel
theorem d_Mo_addOffcut_12 : decode c_Mo_addOffcut 12 = .ok (.iconst 1, 1) := by decide +kernel
theorem d_Mo_addOffcut_13 : decode c_Mo_addOffcut 13 = .ok (.dup2, 1) := by decide +kernel
theorem d_Mo_addOffcut_14 : decode c_Mo_addOffcut 14 = .ok (.iaload, 1) := by decide +kernel
theorem d_Mo_addOffcut_15 : decode c_Mo_addOffcut 15 = .ok (.iconst 1, 1) := by decide +kernel
theorem d_Mo_addOffcut_16 : decode c_Mo_addOffcut 16 = .ok (.iadd, 1) := by decide +kernel
theorem d_Mo_addOffcut_17 : decode c_Mo_addOffcut 17 = .ok (.iastore, 1) := by decide +kernel
theorem d_Mo_addOffcut_18 : decode c_Mo_addOffcut 18 = .ok (.aload_n 0, 1) := by decide +kernel
theorem d_Mo_addOffcut_19 : decode c_Mo_addOffcut 19 = .ok (.getfield 7, 3) := by decide +kernel
theorem d_Mo_addOffcut_22 : decode c_Mo_addOffcut 22 = .ok (.bipush 93, 2) := by decide +kernel
theorem d_Mo_addOffcut_24 : decode c_Mo_addOffcut 24 = .ok (.iconst 3, 1) := by decide +kernel
theorem d_Mo_addOffcut_25 : decode c_Mo_addOffcut 25 = .ok (.iload 4, 2) := by decide +kernel
theorem d_Mo_addOffcut_27 : decode c_Mo_addOffcut 27 = .ok (.imul, 1) := by decide +kernel
theorem d_Mo_addOffcut_28 : decode c_Mo_addOffcut 28 = .ok (.iadd, 1) := by decide +kernel
theorem d_Mo_addOffcut_29 : decode c_Mo_addOffcut 29 = .ok (.iload_n 1, 1) := by decide +kernel
theorem d_Mo_addOffcut_30 : decode c_Mo_addOffcut 30 = .ok (.iconst 1, 1) := by decide +kernel
theorem d_Mo_addOffcut_31 : decode c_Mo_addOffcut 31 = .ok (.iadd, 1) := by decide +kernel
theorem d_Mo_addOffcut_32 : decode c_Mo_addOffcut 32 = .ok (.iastore, 1) := by decide +kernel
theorem d_Mo_addOffcut_33 : decode c_Mo_addOffcut 33 = .ok (.aload_n 0, 1) := by decide +kernel
theorem d_Mo_addOffcut_34 : decode c_Mo_addOffcut 34 = .ok (.getfield 7, 3) := by decide +kernel
theorem d_Mo_addOffcut_37 : decode c_Mo_addOffcut 37 = .ok (.bipush 93, 2) := by decide +kernel
theorem d_Mo_addOffcut_39 : decode c_Mo_addOffcut 39 = .ok (.iconst 3, 1) := by decide +kernel
theorem d_Mo_addOffcut_40 : decode c_Mo_addOffcut 40 = .ok (.iload 4, 2) := by decide +kernel
theorem d_Mo_addOffcut_42 : decode c_Mo_addOffcut 42 = .ok (.imul, 1) := by decide +kernel
theorem d_Mo_addOffcut_43 : decode c_Mo_addOffcut 43 = .ok (.iadd, 1) := by decide +kernel
theorem d_Mo_addOffcut_44 : decode c_Mo_addOffcut 44 = .ok (.iconst 1, 1) := by decide +kernel
theorem d_Mo_addOffcut_45 : decode c_Mo_addOffcut 45 = .ok (.iadd, 1) := by decide +kernel
theorem d_Mo_addOffcut_46 : decode c_Mo_addOffcut 46 = .ok (.iload_n 2, 1) := by decide +kernel
theorem d_Mo_addOffcut_47 : decode c_Mo_addOffcut 47 = .ok (.iastore, 1) := by decide +kernel
theorem d_Mo_addOffcut_48 : decode c_Mo_addOffcut 48 = .ok (.aload_n 0, 1) := by decide +kernel
theorem d_Mo_addOffcut_49 : decode c_Mo_addOffcut 49 = .ok (.getfield 7, 3) := by decide +kernel
theorem d_Mo_addOffcut_52 : decode c_Mo_addOffcut 52 = .ok (.bipush 93, 2) := by decide +kernel
theorem d_Mo_addOffcut_54 : decode c_Mo_addOffcut 54 = .ok (.iconst 3, 1) := by decide +kernel
theorem d_Mo_addOffcut_55 : decode c_Mo_addOffcut 55 = .ok (.iload 4, 2) := by decide +kernel
theorem d_Mo_addOffcut_57 : decode c_Mo_addOffcut 57 = .ok (.imul, 1) := by decide +kernel
theorem d_Mo_addOffcut_58 : decode c_Mo_addOffcut 58 = .ok (.iadd, 1) := by decide +kernel
theorem d_Mo_addOffcut_59 : decode c_Mo_addOffcut 59 = .ok (.iconst 2, 1) := by decide +kernel
theorem d_Mo_addOffcut_60 : decode c_Mo_addOffcut 60 = .ok (.iadd, 1) := by decide +kernel
theorem d_Mo_addOffcut_61 : decode c_Mo_addOffcut 61 = .ok (.iload_n 3, 1) := by decide +kernel
theorem d_Mo_addOffcut_62 : decode c_Mo_addOffcut 62 = .ok (.iastore, 1) := by decide +kernel
theorem d_Mo_addOffcut_63 : decode c_Mo_addOffcut 63 = .ok (.return_, 1) := by decide +kernel
theorem d_Mo_drop_0 : decode c_Mo_drop 0 = .ok (.aload_n 0, 1) := by decide +kernel
theorem d_Mo_drop_1 : decode c_Mo_drop 1 = .ok (.getfield 7, 3) := by decide +kernel
theorem d_Mo_drop_4 : decode c_Mo_drop 4 = .ok (.bipush 93, 2) := by decide +kernel
theorem d_Mo_drop_6 : decode c_Mo_drop 6 = .ok (.iconst 3, 1) := by decide +kernel
theorem d_Mo_drop_7 : decode c_Mo_drop 7 = .ok (.iload_n 1, 1) := by decide +kernel
theorem d_Mo_drop_8 : decode c_Mo_drop 8 = .ok (.imul, 1) := by decide +kernel
theorem d_Mo_drop_9 : decode c_Mo_drop 9 = .ok (.iadd, 1) := by decide +kernel
theorem d_Mo_drop_10 : decode c_Mo_drop 10 = .ok (.iconst 0, 1) := by decide +kernel
theorem d_Mo_drop_11 : decode c_Mo_drop 11 = .ok (.iastore, 1) := by decide +kernel
theorem d_Mo_drop_12 : decode c_Mo_drop 12 = .ok (.return_, 1) := by decide +kernel
theorem d_Mo_rest_0 : decode c_Mo_rest 0 = .ok (.iload_n 2, 1) := by decide +kernel
theorem d_Mo_rest_1 : decode c_Mo_rest 1 = .ok (.aload_n 0, 1) := by decide +kernel
theorem d_Mo_rest_2 : decode c_Mo_rest 2 = .ok (.getfield 7, 3) := by decide +kernel
theorem d_Mo_rest_5 : decode c_Mo_rest 5 = .ok (.iconst 5, 1) := by decide +kernel
theorem d_Mo_rest_6 : decode c_Mo_rest 6 = .ok (.iaload, 1) := by decide +kernel
theorem d_Mo_rest_7 : decode c_Mo_rest 7 = .ok (.if_icmp .lt 13, 3) := by decide +kernel
theorem d_Mo_rest_10 : decode c_Mo_rest 10 = .ok (.iload_n 3, 1) := by decide +kernel
theorem d_Mo_rest_11 : decode c_Mo_rest 11 = .ok (.aload_n 0, 1) := by decide +kernel
theorem d_Mo_rest_12 : decode c_Mo_rest 12 = .ok (.getfield 7, 3) := by decide +kernel
theorem d_Mo_rest_15 : decode c_Mo_rest 15 = .ok (.iconst 5, 1) := by decide +kernel
theorem d_Mo_rest_16 : decode c_Mo_rest 16 = .ok (.iaload, 1) := by decide +kernel
theorem d_Mo_rest_17 : decode c_Mo_rest 17 = .ok (.if_icmp .ge 14, 3) := by decide +kernel
theorem d_Mo_rest_20 : decode c_Mo_rest 20 = .ok (.aload_n 0, 1) := by decide +kernel
theorem d_Mo_rest_21 : decode c_Mo_rest 21 = .ok (.iload_n 1, 1) := by decide +kernel
theorem d_Mo_rest_22 : decode c_Mo_rest 22 = .ok (.iconst 5, 1) := by decide +kernel
theorem d_Mo_rest_23 : decode c_Mo_rest 23 = .ok (.iload_n 2, 1) := by decide +kernel
theorem d_Mo_rest_24 : decode c_Mo_rest 24 = .ok (.iload_n 3, 1) := by decide +kernel
theorem d_Mo_rest_25 : decode c_Mo_rest 25 = .ok (.imul, 1) := by decide +kernel
theorem d_Mo_rest_26 : decode c_Mo_rest 26 = .ok (.invokevirtual 50, 3) := by decide +kernel
theorem d_Mo_rest_29 : decode c_Mo_rest 29 = .ok (.iconst 1, 1) := by decide +kernel
theorem d_Mo_rest_30 : decode c_Mo_rest 30 = .ok (.ireturn, 1) := by decide +kernel
theorem d_Mo_rest_31 : decode c_Mo_rest 31 = .ok (.aload_n 0, 1) := by decide +kernel
theorem d_Mo_rest_32 : decode c_Mo_rest 32 = .ok (.getfield 7, 3) := by decide +kernel
theorem d_Mo_rest_35 : decode c_Mo_rest 35 = .ok (.iconst 1, 1) := by decide +kernel
theorem d_Mo_rest_36 : decode c_Mo_rest 36 = .ok (.iaload, 1) := by decide +kernel
theorem d_Mo_rest_37 : decode c_Mo_rest 37 = .ok (.sipush 300, 3) := by decide +kernel
theorem d_Mo_rest_40 : decode c_Mo_rest 40 = .ok (.if_icmp .ne 5, 3) := by decide +kernel
theorem d_Mo_rest_43 : decode c_Mo_rest 43 = .ok (.iconst 0, 1) := by decide +kernel
theorem d_Mo_rest_44 : decode c_Mo_rest 44 = .ok (.ireturn, 1) := by decide +kernel
theorem d_Mo_rest_45 : decode c_Mo_rest 45 = .ok (.aload_n 0, 1) := by decide +kernel
theorem d_Mo_rest_46 : decode c_Mo_rest 46 = .ok (.iload_n 1, 1) := by decide +kernel
theorem d_Mo_rest_47 : decode c_Mo_rest 47 = .ok (.iload_n 2, 1) := by decide +kernel
theorem d_Mo_rest_48 : decode c_Mo_rest 48 = .ok (.iload_n 3, 1) := by decide +kernel
theorem d_Mo_rest_49 : decode c_Mo_rest 49 = .ok (.invokevirtual 54, 3) := by decide +kernel
theorem d_Mo_rest_52 : decode c_Mo_rest 52 = .ok (.iconst 1, 1) := by decide +kernel
theorem d_Mo_rest_53 : decode c_Mo_rest 53 = .ok (.ireturn, 1) := by decide +kernel
theorem d_Mo_greater_0 : decode c_Mo_greater 0 = .ok (.iload_n 0, 1) := by decide +kernel
theorem d_Mo_greater_1 : decode c_Mo_greater 1 = .ok (.iload_n 1, 1) := by decide +kernel
theorem d_Mo_greater_2 : decode c_Mo_greater 2 = .ok (.if_icmp .le 7, 3) := by decide +kernel
theorem d_Mo_greater_5 : decode c_Mo_greater 5 = .ok (.iload_n 0, 1) := by decide +kernel
theorem d_Mo_greater_6 : decode c_Mo_greater 6 = .ok (.goto 4, 3) := by decide +kernel
theorem d_Mo_greater_9 : decode c_Mo_greater 9 = .ok (.iload_n 1, 1) := by decide +kernel
theorem d_Mo_greater_10 : decode c_Mo_greater 10 = .ok (.ireturn, 1) := by decide +kernel
theorem d_Mo_cut_0 : decode c_Mo_cut 0 = .ok (.iload_n 2, 1) := by decide +kernel
theorem d_Mo_cut_1 : decode c_Mo_cut 1 = .ok (.iload 4, 2) := by decide +kernel
theorem d_Mo_cut_3 : decode c_Mo_cut 3 = .ok (.isub, 1) := by decide +kernel
theorem d_Mo_cut_4 : decode c_Mo_cut 4 = .ok (.istore 6, 2) := by decide +kernel
theorem d_Mo_cut_6 : decode c_Mo_cut 6 = .ok (.iload_n 3, 1) := by decide +kernel
theorem d_Mo_cut_7 : decode c_Mo_cut 7 = .ok (.iload 5, 2) := by decide +kernel
theorem d_Mo_cut_9 : decode c_Mo_cut 9 = .ok (.isub, 1) := by decide +kernel
theorem d_Mo_cut_10 : decode c_Mo_cut 10 = .ok (.istore 7, 2) := by decide +kernel
theorem d_Mo_cut_12 : decode c_Mo_cut 12 = .ok (.iload 6, 2) := by decide +kernel
theorem d_Mo_cut_14 : decode c_Mo_cut 14 = .ok (.iload_n 3, 1) := by decide +kernel
theorem d_Mo_cut_15 : decode c_Mo_cut 15 = .ok (.imul, 1) := by decide +kernel
theorem d_Mo_cut_16 : decode c_Mo_cut 16 = .ok (.iload 4, 2) := by decide +kernel
theorem d_Mo_cut_18 : decode c_Mo_cut 18 = .ok (.iload 7, 2) := by decide +kernel
theorem d_Mo_cut_20 : decode c_Mo_cut 20 = .ok (.imul, 1) := by decide +kernel
theorem d_Mo_cut_21 : decode c_Mo_cut 21 = .ok (.invokestatic 57, 3) := by decide +kernel
theorem d_Mo_cut_24 : decode c_Mo_cut 24 = .ok (.istore 8, 2) := by decide +kernel
theorem d_Mo_cut_26 : decode c_Mo_cut 26 = .ok (.iload 6, 2) := by decide +kernel
theorem d_Mo_cut_28 : decode c_Mo_cut 28 = .ok (.iload 5, 2) := by decide +kernel
theorem d_Mo_cut_30 : decode c_Mo_cut 30 = .ok (.imul, 1) := by decide +kernel
theorem d_Mo_cut_31 : decode c_Mo_cut 31 = .ok (.iload_n 2, 1) := by decide +kernel
theorem d_Mo_cut_32 : decode c_Mo_cut 32 = .ok (.iload 7, 2) := by decide +kernel
theorem d_Mo_cut_34 : decode c_Mo_cut 34 = .ok (.imul, 1) := by decide +kernel
theorem d_Mo_cut_35 : decode c_Mo_cut 35 = .ok (.invokestatic 57, 3) := by decide +kernel
theorem d_Mo_cut_38 : decode c_Mo_cut 38 = .ok (.istore 9, 2) := by decide +kernel
theorem d_Mo_cut_40 : decode c_Mo_cut 40 = .ok (.aload_n 0, 1) := by decide +kernel
theorem d_Mo_cut_41 : decode c_Mo_cut 41 = .ok (.getfield 7, 3) := by decide +kernel
theorem d_Mo_cut_44 : decode c_Mo_cut 44 = .ok (.iconst 4, 1) := by decide +kernel
theorem d_Mo_cut_45 : decode c_Mo_cut 45 = .ok (.iaload, 1) := by decide +kernel
theorem d_Mo_cut_46 : decode c_Mo_cut 46 = .ok (.ifCond .eq 20, 3) := by decide +kernel
theorem d_Mo_cut_49 : decode c_Mo_cut 49 = .ok (.aload_n 0, 1) := by decide +kernel
theorem d_Mo_cut_50 : decode c_Mo_cut 50 = .ok (.getfield 7, 3) := by decide +kernel
theorem d_Mo_cut_53 : decode c_Mo_cut 53 = .ok (.iconst 4, 1) := by decide +kernel
theorem d_Mo_cut_54 : decode c_Mo_cut 54 = .ok (.iaload, 1) := by decide +kernel
theorem d_Mo_cut_55 : decode c_Mo_cut 55 = .ok (.iconst 2, 1) := by decide +kernel
theorem d_Mo_cut_56 : decode c_Mo_cut 56 = .ok (.if_icmp .ne 14, 3) := by decide +kernel
theorem d_Mo_cut_59 : decode c_Mo_cut 59 = .ok (.iload 8, 2) := by decide +kernel
theorem d_Mo_cut_61 : decode c_Mo_cut 61 = .ok (.iload 9, 2) := by decide +kernel
theorem d_Mo_cut_63 : decode c_Mo_cut 63 = .ok (.if_icmp .lt 7, 3) := by decide +kernel
theorem d_Mo_cut_66 : decode c_Mo_cut 66 = .ok (.iconst 1, 1) := by decide +kernel
theorem d_Mo_cut_67 : decode c_Mo_cut 67 = .ok (.goto 4, 3) := by decide +kernel
theorem d_Mo_cut_70 : decode c_Mo_cut 70 = .ok (.iconst 0, 1) := by decide +kernel
theorem d_Mo_cut_71 : decode c_Mo_cut 71 = .ok (.istore 10, 2) := by decide +kernel
theorem d_Mo_cut_73 : decode c_Mo_cut 73 = .ok (.aload_n 0, 1) := by decide +kernel
theorem d_Mo_cut_74 : decode c_Mo_cut 74 = .ok (.iload_n 1, 1) := by decide +kernel
theorem d_Mo_cut_75 : decode c_Mo_cut 75 = .ok (.iload 6, 2) := by decide +kernel
theorem d_Mo_cut_77 : decode c_Mo_cut 77 = .ok (.iload 10, 2) := by decide +kernel
theorem d_Mo_cut_79 : decode c_Mo_cut 79 = .ok (.ifCond .eq 7, 3) := by decide +kernel
theorem d_Mo_cut_82 : decode c_Mo_cut 82 = .ok (.iload_n 3, 1) := by decide +kernel
theorem d_Mo_cut_83 : decode c_Mo_cut 83 = .ok (.goto 5, 3) := by decide +kernel
theorem d_Mo_cut_86 : decode c_Mo_cut 86 = .ok (.iload 5, 2) := by decide +kernel
theorem d_Mo_cut_88 : decode c_Mo_cut 88 = .ok (.invokevirtual 61, 3) := by decide +kernel
theorem d_Mo_cut_91 : decode c_Mo_cut 91 = .ok (.istore 11, 2) := by decide +kernel
theorem d_Mo_cut_93 : decode c_Mo_cut 93 = .ok (.iload 11, 2) := by decide +kernel
theorem d_Mo_cut_95 : decode c_Mo_cut 95 = .ok (.ifCond .eq 28, 3) := by decide +kernel
theorem d_Mo_cut_98 : decode c_Mo_cut 98 = .ok (.aload_n 0, 1) := by decide +kernel
theorem d_Mo_cut_99 : decode c_Mo_cut 99 = .ok (.iload_n 1, 1) := by decide +kernel
theorem d_Mo_cut_100 : decode c_Mo_cut 100 = .ok (.iload 10, 2) := by decide +kernel
theorem d_Mo_cut_102 : decode c_Mo_cut 102 = .ok (.ifCond .eq 8, 3) := by decide +kernel
theorem d_Mo_cut_105 : decode c_Mo_cut 105 = .ok (.iload 4, 2) := by decide +kernel
theorem d_Mo_cut_107 : decode c_Mo_cut 107 = .ok (.goto 4, 3) := by decide +kernel
theorem d_Mo_cut_110 : decode c_Mo_cut 110 = .ok (.iload_n 2, 1) := by decide +kernel
theorem d_Mo_cut_111 : decode c_Mo_cut 111 = .ok (.iload 7, 2) := by decide +kernel
theorem d_Mo_cut_113 : decode c_Mo_cut 113 = .ok (.invokevirtual 61, 3) := by decide +kernel
theorem d_Mo_cut_116 : decode c_Mo_cut 116 = .ok (.ifCond .eq 7, 3) := by decide +kernel
theorem d_Mo_cut_119 : decode c_Mo_cut 119 = .ok (.iconst 1, 1) := by decide +kernel
theorem d_Mo_cut_120 : decode c_Mo_cut 120 = .ok (.goto 4, 3) := by decide +kernel
theorem d_Mo_cut_123 : decode c_Mo_cut 123 = .ok (.iconst 0, 1) := by decide +kernel
theorem d_Mo_cut_124 : decode c_Mo_cut 124 = .ok (.istore 11, 2) := by decide +kernel
theorem d_Mo_cut_126 : decode c_Mo_cut 126 = .ok (.iload 11, 2) := by decide +kernel
theorem d_Mo_cut_128 : decode c_Mo_cut 128 = .ok (.ifCond .eq 16, 3) := by decide +kernel
theorem d_Mo_cut_131 : decode c_Mo_cut 131 = .ok (.aload_n 0, 1) := by decide +kernel
theorem d_Mo_cut_132 : decode c_Mo_cut 132 = .ok (.invokevirtual 64, 3) := by decide +kernel
theorem d_Mo_cut_135 : decode c_Mo_cut 135 = .ok (.bipush 60, 2) := by decide +kernel
theorem d_Mo_cut_137 : decode c_Mo_cut 137 = .ok (.if_icmp .gt 7, 3) := by decide +kernel
theorem d_Mo_cut_140 : decode c_Mo_cut 140 = .ok (.iconst 1, 1) := by decide +kernel
theorem d_Mo_cut_141 : decode c_Mo_cut 141 = .ok (.goto 4, 3) := by decide +kernel
theorem d_Mo_cut_144 : decode c_Mo_cut 144 = .ok (.iconst 0, 1) := by decide +kernel
theorem d_Mo_cut_145 : decode c_Mo_cut 145 = .ok (.ireturn, 1) := by decide +kernel
theorem d_Mo_offcutFor_0 : decode c_Mo_offcutFor 0 = .ok (.bipush (-5), 2) := by decide +kernel
theorem d_Mo_offcutFor_2 : decode c_Mo_offcutFor 2 = .ok (.istore 4, 2) := by decide +kernel
theorem d_Mo_offcutFor_4 : decode c_Mo_offcutFor 4 = .ok (.iconst 0, 1) := by decide +kernel
theorem d_Mo_offcutFor_5 : decode c_Mo_offcutFor 5 = .ok (.istore 5, 2) := by decide +kernel
theorem d_Mo_offcutFor_7 : decode c_Mo_offcutFor 7 = .ok (.iload 5, 2) := by decide +kernel
theorem d_Mo_offcutFor_9 : decode c_Mo_offcutFor 9 = .ok (.aload_n 0, 1) := by decide +kernel
theorem d_Mo_offcutFor_10 : decode c_Mo_offcutFor 10 = .ok (.getfield 7, 3) := by decide +kernel
theorem d_Mo_offcutFor_13 : decode c_Mo_offcutFor 13 = .ok (.iconst 1, 1) := by decide +kernel
theorem d_Mo_offcutFor_14 : decode c_Mo_offcutFor 14 = .ok (.iaload, 1) := by decide +kernel
theorem d_Mo_offcutFor_15 : decode c_Mo_offcutFor 15 = .ok (.if_icmp .ge 86, 3) := by decide +kernel
theorem d_Mo_offcutFor_18 : decode c_Mo_offcutFor 18 = .ok (.aload_n 0, 1) := by decide +kernel
theorem d_Mo_offcutFor_19 : decode c_Mo_offcutFor 19 = .ok (.iload 5, 2) := by decide +kernel
theorem d_Mo_offcutFor_21 : decode c_Mo_offcutFor 21 = .ok (.invokevirtual 46, 3) := by decide +kernel
theorem d_Mo_offcutFor_24 : decode c_Mo_offcutFor 24 = .ok (.ifCond .eq 37, 3) := by decide +kernel
theorem d_Mo_offcutFor_27 : decode c_Mo_offcutFor 27 = .ok (.aload_n 0, 1) := by decide +kernel
theorem d_Mo_offcutFor_28 : decode c_Mo_offcutFor 28 = .ok (.iload 5, 2) := by decide +kernel
theorem d_Mo_offcutFor_30 : decode c_Mo_offcutFor 30 = .ok (.invokevirtual 68, 3) := by decide +kernel
theorem d_Mo_offcutFor_33 : decode c_Mo_offcutFor 33 = .ok (.iload_n 1, 1) := by decide +kernel
theorem d_Mo_offcutFor_34 : decode c_Mo_offcutFor 34 = .ok (.if_icmp .ne 27, 3) := by decide +kernel
theorem d_Mo_offcutFor_37 : decode c_Mo_offcutFor 37 = .ok (.aload_n 0, 1) := by decide +kernel
theorem d_Mo_offcutFor_38 : decode c_Mo_offcutFor 38 = .ok (.iload 5, 2) := by decide +kernel
theorem d_Mo_offcutFor_40 : decode c_Mo_offcutFor 40 = .ok (.invokevirtual 39, 3) := by decide +kernel
theorem d_Mo_offcutFor_43 : decode c_Mo_offcutFor 43 = .ok (.iload_n 2, 1) := by decide +kernel
theorem d_Mo_offcutFor_44 : decode c_Mo_offcutFor 44 = .ok (.if_icmp .lt 17, 3) := by decide +kernel
theorem d_Mo_offcutFor_47 : decode c_Mo_offcutFor 47 = .ok (.aload_n 0, 1) := by decide +kernel
theorem d_Mo_offcutFor_48 : decode c_Mo_offcutFor 48 = .ok (.iload 5, 2) := by decide +kernel
theorem d_Mo_offcutFor_50 : decode c_Mo_offcutFor 50 = .ok (.invokevirtual 43, 3) := by decide +kernel
theorem d_Mo_offcutFor_53 : decode c_Mo_offcutFor 53 = .ok (.iload_n 3, 1) := by decide +kernel
theorem d_Mo_offcutFor_54 : decode c_Mo_offcutFor 54 = .ok (.if_icmp .lt 7, 3) := by decide +kernel
theorem d_Mo_offcutFor_57 : decode c_Mo_offcutFor 57 = .ok (.iconst 1, 1) := by decide +kernel
theorem d_Mo_offcutFor_58 : decode c_Mo_offcutFor 58 = .ok (.goto 4, 3) := by decide +kernel
theorem d_Mo_offcutFor_61 : decode c_Mo_offcutFor 61 = .ok (.iconst 0, 1) := by decide +kernel
theorem d_Mo_offcutFor_62 : decode c_Mo_offcutFor 62 = .ok (.istore 6, 2) := by decide +kernel
theorem d_Mo_offcutFor_64 : decode c_Mo_offcutFor 64 = .ok (.iload 6, 2) := by decide +kernel
theorem d_Mo_offcutFor_66 : decode c_Mo_offcutFor 66 = .ok (.ifCond .eq 29, 3) := by decide +kernel
theorem d_Mo_offcutFor_69 : decode c_Mo_offcutFor 69 = .ok (.iload 4, 2) := by decide +kernel
theorem d_Mo_offcutFor_71 : decode c_Mo_offcutFor 71 = .ok (.bipush (-5), 2) := by decide +kernel
theorem d_Mo_offcutFor_73 : decode c_Mo_offcutFor 73 = .ok (.if_icmp .eq 18, 3) := by decide +kernel
theorem d_Mo_offcutFor_76 : decode c_Mo_offcutFor 76 = .ok (.aload_n 0, 1) := by decide +kernel
theorem d_Mo_offcutFor_77 : decode c_Mo_offcutFor 77 = .ok (.iload 5, 2) := by decide +kernel
theorem d_Mo_offcutFor_79 : decode c_Mo_offcutFor 79 = .ok (.invokevirtual 71, 3) := by decide +kernel
theorem d_Mo_offcutFor_82 : decode c_Mo_offcutFor 82 = .ok (.aload_n 0, 1) := by decide +kernel
theorem d_Mo_offcutFor_83 : decode c_Mo_offcutFor 83 = .ok (.iload 4, 2) := by decide +kernel
theorem d_Mo_offcutFor_85 : decode c_Mo_offcutFor 85 = .ok (.invokevirtual 71, 3) := by decide +kernel
theorem d_Mo_offcutFor_88 : decode c_Mo_offcutFor 88 = .ok (.if_icmp .ge 7, 3) := by decide +kernel
theorem d_Mo_offcutFor_91 : decode c_Mo_offcutFor 91 = .ok (.iload 5, 2) := by decide +kernel
theorem d_Mo_offcutFor_93 : decode c_Mo_offcutFor 93 = .ok (.istore 4, 2) := by decide +kernel
theorem d_Mo_offcutFor_95 : decode c_Mo_offcutFor 95 = .ok (.iinc 5 1, 3) := by decide +kernel
theorem d_Mo_offcutFor_98 : decode c_Mo_offcutFor 98 = .ok (.goto (-91), 3) := by decide +kernel
theorem d_Mo_offcutFor_101 : decode c_Mo_offcutFor 101 = .ok (.iload 4, 2) := by decide +kernel
theorem d_Mo_offcutFor_103 : decode c_Mo_offcutFor 103 = .ok (.ireturn, 1) := by decide +kernel
theorem d_Mo_wide_0 : decode c_Mo_wide 0 = .ok (.aload_n 0, 1) := by decide +kernel
theorem d_Mo_wide_1 : decode c_Mo_wide 1 = .ok (.iload_n 1, 1) := by decide +kernel
theorem d_Mo_wide_2 : decode c_Mo_wide 2 = .ok (.iconst 1, 1) := by decide +kernel
theorem d_Mo_wide_3 : decode c_Mo_wide 3 = .ok (.iconst 2, 1) := by decide +kernel
theorem d_Mo_wide_4 : decode c_Mo_wide 4 = .ok (.iload_n 2, 1) := by decide +kernel
theorem d_Mo_wide_5 : decode c_Mo_wide 5 = .ok (.imul, 1) := by decide +kernel
theorem d_Mo_wide_6 : decode c_Mo_wide 6 = .ok (.iadd, 1) := by decide +kernel
theorem d_Mo_wide_7 : decode c_Mo_wide 7 = .ok (.iload_n 3, 1) := by decide +kernel
theorem d_Mo_wide_8 : decode c_Mo_wide 8 = .ok (.iadd, 1) := by decide +kernel
theorem d_Mo_wide_9 : decode c_Mo_wide 9 = .ok (.invokevirtual 74, 3) := by decide +kernel
theorem d_Mo_wide_12 : decode c_Mo_wide 12 = .ok (.ireturn, 1) := by decide +kernel
theorem d_Mo_longs_0 : decode c_Mo_longs 0 = .ok (.aload_n 0, 1) := by decide +kernel
theorem d_Mo_longs_1 : decode c_Mo_longs 1 = .ok (.iload_n 1, 1) := by decide +kernel
theorem d_Mo_longs_2 : decode c_Mo_longs 2 = .ok (.iconst 2, 1) := by decide +kernel
theorem d_Mo_longs_3 : decode c_Mo_longs 3 = .ok (.iconst 2, 1) := by decide +kernel
theorem d_Mo_longs_4 : decode c_Mo_longs 4 = .ok (.iload_n 2, 1) := by decide +kernel
theorem d_Mo_longs_5 : decode c_Mo_longs 5 = .ok (.imul, 1) := by decide +kernel
theorem d_Mo_longs_6 : decode c_Mo_longs 6 = .ok (.iadd, 1) := by decide +kernel
theorem d_Mo_longs_7 : decode c_Mo_longs 7 = .ok (.iload_n 3, 1) := by decide +kernel
theorem d_Mo_longs_8 : decode c_Mo_longs 8 = .ok (.isub, 1) := by decide +kernel
theorem d_Mo_longs_9 : decode c_Mo_longs 9 = .ok (.invokevirtual 74, 3) := by decide +kernel
theorem d_Mo_longs_12 : decode c_Mo_longs 12 = .ok (.ireturn, 1) := by decide +kernel
theorem d_Mo_rounds_0 : decode c_Mo_rounds 0 = .ok (.iload_n 0, 1) := by decide +kernel
theorem d_Mo_rounds_1 : decode c_Mo_rounds 1 = .ok (.iload_n 1, 1) := by decide +kernel
theorem d_Mo_rounds_2 : decode c_Mo_rounds 2 = .ok (.iadd, 1) := by decide +kernel
theorem d_Mo_rounds_3 : decode c_Mo_rounds 3 = .ok (.iconst 1, 1) := by decide +kernel
theorem d_Mo_rounds_4 : decode c_Mo_rounds 4 = .ok (.isub, 1) := by decide +kernel
theorem d_Mo_rounds_5 : decode c_Mo_rounds 5 = .ok (.iload_n 1, 1) := by decide +kernel
theorem d_Mo_rounds_6 : decode c_Mo_rounds 6 = .ok (.idiv, 1) := by decide +kernel
theorem d_Mo_rounds_7 : decode c_Mo_rounds 7 = .ok (.ireturn, 1) := by decide +kernel
theorem d_Mo_stripWidth_0 : decode c_Mo_stripWidth 0 = .ok (.iload_n 0, 1) := by decide +kernel
theorem d_Mo_stripWidth_1 : decode c_Mo_stripWidth 1 = .ok (.iload_n 2, 1) := by decide +kernel
theorem d_Mo_stripWidth_2 : decode c_Mo_stripWidth 2 = .ok (.iload_n 1, 1) := by decide +kernel
theorem d_Mo_stripWidth_3 : decode c_Mo_stripWidth 3 = .ok (.imul, 1) := by decide +kernel
theorem d_Mo_stripWidth_4 : decode c_Mo_stripWidth 4 = .ok (.isub, 1) := by decide +kernel
theorem d_Mo_stripWidth_5 : decode c_Mo_stripWidth 5 = .ok (.istore_n 3, 1) := by decide +kernel
theorem d_Mo_stripWidth_6 : decode c_Mo_stripWidth 6 = .ok (.iload_n 3, 1) := by decide +kernel
theorem d_Mo_stripWidth_7 : decode c_Mo_stripWidth 7 = .ok (.iload_n 1, 1) := by decide +kernel
theorem d_Mo_stripWidth_8 : decode c_Mo_stripWidth 8 = .ok (.if_icmp .ge 7, 3) := by decide +kernel
theorem d_Mo_stripWidth_11 : decode c_Mo_stripWidth 11 = .ok (.iload_n 3, 1) := by decide +kernel
theorem d_Mo_stripWidth_12 : decode c_Mo_stripWidth 12 = .ok (.goto 4, 3) := by decide +kernel
theorem d_Mo_stripWidth_15 : decode c_Mo_stripWidth 15 = .ok (.iload_n 1, 1) := by decide +kernel
theorem d_Mo_stripWidth_16 : decode c_Mo_stripWidth 16 = .ok (.ireturn, 1) := by decide +kernel
theorem d_Mo_isAcross_0 : decode c_Mo_isAcross 0 = .ok (.aload_n 0, 1) := by decide +kernel
theorem d_Mo_isAcross_1 : decode c_Mo_isAcross 1 = .ok (.iload_n 1, 1) := by decide +kernel
theorem d_Mo_isAcross_2 : decode c_Mo_isAcross 2 = .ok (.bipush 7, 2) := by decide +kernel
theorem d_Mo_isAcross_4 : decode c_Mo_isAcross 4 = .ok (.invokevirtual 74, 3) := by decide +kernel
theorem d_Mo_isAcross_7 : decode c_Mo_isAcross 7 = .ok (.iconst 2, 1) := by decide +kernel
theorem d_Mo_isAcross_8 : decode c_Mo_isAcross 8 = .ok (.irem, 1) := by decide +kernel
theorem d_Mo_isAcross_9 : decode c_Mo_isAcross 9 = .ok (.ifCond .ne 7, 3) := by decide +kernel
theorem d_Mo_isAcross_12 : decode c_Mo_isAcross 12 = .ok (.iconst 1, 1) := by decide +kernel
theorem d_Mo_isAcross_13 : decode c_Mo_isAcross 13 = .ok (.goto 4, 3) := by decide +kernel
theorem d_Mo_isAcross_16 : decode c_Mo_isAcross 16 = .ok (.iconst 0, 1) := by decide +kernel
theorem d_Mo_isAcross_17 : decode c_Mo_isAcross 17 = .ok (.iload_n 2, 1) := by decide +kernel
theorem d_Mo_isAcross_18 : decode c_Mo_isAcross 18 = .ok (.iconst 1, 1) := by decide +kernel
theorem d_Mo_isAcross_19 : decode c_Mo_isAcross 19 = .ok (.if_icmp .ne 7, 3) := by decide +kernel
theorem d_Mo_isAcross_22 : decode c_Mo_isAcross 22 = .ok (.iconst 1, 1) := by decide +kernel
theorem d_Mo_isAcross_23 : decode c_Mo_isAcross 23 = .ok (.goto 4, 3) := by decide +kernel
theorem d_Mo_isAcross_26 : decode c_Mo_isAcross 26 = .ok (.iconst 0, 1) := by decide +kernel
theorem d_Mo_isAcross_27 : decode c_Mo_isAcross 27 = .ok (.if_icmp .ne 7, 3) := by decide +kernel
theorem d_Mo_isAcross_30 : decode c_Mo_isAcross 30 = .ok (.iconst 1, 1) := by decide +kernel
theorem d_Mo_isAcross_31 : decode c_Mo_isAcross 31 = .ok (.goto 4, 3) := by decide +kernel
theorem d_Mo_isAcross_34 : decode c_Mo_isAcross 34 = .ok (.iconst 0, 1) := by decide +kernel
theorem d_Mo_isAcross_35 : decode c_Mo_isAcross 35 = .ok (.ireturn, 1) := by decide +kernel
theorem d_Mo_area_0 : decode c_Mo_area 0 = .ok (.iconst 0, 1) := by decide +kernel
theorem d_Mo_area_1 : decode c_Mo_area 1 = .ok (.istore_n 2, 1) := by decide +kernel
theorem d_Mo_area_2 : decode c_Mo_area 2 = .ok (.iconst 0, 1) := by decide +kernel
theorem d_Mo_area_3 : decode c_Mo_area 3 = .ok (.istore_n 3, 1) := by decide +kernel
theorem d_Mo_area_4 : decode c_Mo_area 4 = .ok (.iload_n 3, 1) := by decide +kernel
theorem d_Mo_area_5 : decode c_Mo_area 5 = .ok (.aload_n 0, 1) := by decide +kernel
theorem d_Mo_area_6 : decode c_Mo_area 6 = .ok (.iload_n 1, 1) := by decide +kernel
theorem d_Mo_area_7 : decode c_Mo_area 7 = .ok (.iconst 0, 1) := by decide +kernel
theorem d_Mo_area_8 : decode c_Mo_area 8 = .ok (.invokevirtual 74, 3) := by decide +kernel
theorem d_Mo_area_11 : decode c_Mo_area 11 = .ok (.if_icmp .ge 33, 3) := by decide +kernel
theorem d_Mo_area_14 : decode c_Mo_area 14 = .ok (.iload_n 2, 1) := by decide +kernel
theorem d_Mo_area_15 : decode c_Mo_area 15 = .ok (.aload_n 0, 1) := by decide +kernel
theorem d_Mo_area_16 : decode c_Mo_area 16 = .ok (.iload_n 1, 1) := by decide +kernel
theorem d_Mo_area_17 : decode c_Mo_area 17 = .ok (.iconst 1, 1) := by decide +kernel
theorem d_Mo_area_18 : decode c_Mo_area 18 = .ok (.iconst 2, 1) := by decide +kernel
theorem d_Mo_area_19 : decode c_Mo_area 19 = .ok (.iload_n 3, 1) := by decide +kernel
theorem d_Mo_area_20 : decode c_Mo_area 20 = .ok (.imul, 1) := by decide +kernel
theorem d_Mo_area_21 : decode c_Mo_area 21 = .ok (.iadd, 1) := by decide +kernel
theorem d_Mo_area_22 : decode c_Mo_area 22 = .ok (.invokevirtual 74, 3) := by decide +kernel
theorem d_Mo_area_25 : decode c_Mo_area 25 = .ok (.aload_n 0, 1) := by decide +kernel
theorem d_Mo_area_26 : decode c_Mo_area 26 = .ok (.iload_n 1, 1) := by decide +kernel
theorem d_Mo_area_27 : decode c_Mo_area 27 = .ok (.iconst 2, 1) := by decide +kernel
theorem d_Mo_area_28 : decode c_Mo_area 28 = .ok (.iconst 2, 1) := by decide +kernel
theorem d_Mo_area_29 : decode c_Mo_area 29 = .ok (.iload_n 3, 1) := by decide +kernel
theorem d_Mo_area_30 : decode c_Mo_area 30 = .ok (.imul, 1) := by decide +kernel
theorem d_Mo_area_31 : decode c_Mo_area 31 = .ok (.iadd, 1) := by decide +kernel
theorem d_Mo_area_32 : decode c_Mo_area 32 = .ok (.invokevirtual 74, 3) := by decide +kernel
theorem d_Mo_area_35 : decode c_Mo_area 35 = .ok (.imul, 1) := by decide +kernel
theorem d_Mo_area_36 : decode c_Mo_area 36 = .ok (.iadd, 1) := by decide +kernel
theorem d_Mo_area_37 : decode c_Mo_area 37 = .ok (.istore_n 2, 1) := by decide +kernel
theorem d_Mo_area_38 : decode c_Mo_area 38 = .ok (.iinc 3 1, 3) := by decide +kernel
theorem d_Mo_area_41 : decode c_Mo_area 41 = .ok (.goto (-37), 3) := by decide +kernel
theorem d_Mo_area_44 : decode c_Mo_area 44 = .ok (.iload_n 2, 1) := by decide +kernel
theorem d_Mo_area_45 : decode c_Mo_area 45 = .ok (.ireturn, 1) := by decide +kernel
theorem d_Mo_coverNow_0 : decode c_Mo_coverNow 0 = .ok (.aload_n 0, 1) := by decide +kernel
theorem d_Mo_coverNow_1 : decode c_Mo_coverNow 1 = .ok (.iconst 0, 1) := by decide +kernel
theorem d_Mo_coverNow_2 : decode c_Mo_coverNow 2 = .ok (.putfield 77, 3) := by decide +kernel
theorem d_Mo_coverNow_5 : decode c_Mo_coverNow 5 = .ok (.aload_n 0, 1) := by decide +kernel
theorem d_Mo_coverNow_6 : decode c_Mo_coverNow 6 = .ok (.iconst 0, 1) := by decide +kernel
theorem d_Mo_coverNow_7 : decode c_Mo_coverNow 7 = .ok (.putfield 80, 3) := by decide +kernel
theorem d_Mo_coverNow_10 : decode c_Mo_coverNow 10 = .ok (.aload_n 0, 1) := by decide +kernel
theorem d_Mo_coverNow_11 : decode c_Mo_coverNow 11 = .ok (.iconst 0, 1) := by decide +kernel
theorem d_Mo_coverNow_12 : decode c_Mo_coverNow 12 = .ok (.putfield 83, 3) := by decide +kernel
theorem d_Mo_coverNow_15 : decode c_Mo_coverNow 15 = .ok (.aload_n 0, 1) := by decide +kernel
theorem d_Mo_coverNow_16 : decode c_Mo_coverNow 16 = .ok (.iload_n 1, 1) := by decide +kernel
theorem d_Mo_coverNow_17 : decode c_Mo_coverNow 17 = .ok (.bipush 8, 2) := by decide +kernel
theorem d_Mo_coverNow_19 : decode c_Mo_coverNow 19 = .ok (.invokevirtual 74, 3) := by decide +kernel
theorem d_Mo_coverNow_22 : decode c_Mo_coverNow 22 = .ok (.iconst 1, 1) := by decide +kernel
theorem d_Mo_coverNow_23 : decode c_Mo_coverNow 23 = .ok (.if_icmp .ne 5, 3) := by decide +kernel
theorem d_Mo_coverNow_26 : decode c_Mo_coverNow 26 = .ok (.iconst 1, 1) := by decide +kernel
theorem d_Mo_coverNow_27 : decode c_Mo_coverNow 27 = .ok (.ireturn, 1) := by decide +kernel
theorem d_Mo_coverNow_28 : decode c_Mo_coverNow 28 = .ok (.aload_n 0, 1) := by decide +kernel
theorem d_Mo_coverNow_29 : decode c_Mo_coverNow 29 = .ok (.getfield 7, 3) := by decide +kernel
theorem d_Mo_coverNow_32 : decode c_Mo_coverNow 32 = .ok (.bipush 8, 2) := by decide +kernel
theorem d_Mo_coverNow_34 : decode c_Mo_coverNow 34 = .ok (.iaload, 1) := by decide +kernel
theorem d_Mo_coverNow_35 : decode c_Mo_coverNow 35 = .ok (.iconst 1, 1) := by decide +kernel
theorem d_Mo_coverNow_36 : decode c_Mo_coverNow 36 = .ok (.if_icmp .ne 14, 3) := by decide +kernel
theorem d_Mo_coverNow_39 : decode c_Mo_coverNow 39 = .ok (.aload_n 0, 1) := by decide +kernel
theorem d_Mo_coverNow_40 : decode c_Mo_coverNow 40 = .ok (.iload_n 1, 1) := by decide +kernel
theorem d_Mo_coverNow_41 : decode c_Mo_coverNow 41 = .ok (.iload_n 3, 1) := by decide +kernel
theorem d_Mo_coverNow_42 : decode c_Mo_coverNow 42 = .ok (.invokevirtual 86, 3) := by decide +kernel
theorem d_Mo_coverNow_45 : decode c_Mo_coverNow 45 = .ok (.ifCond .eq 5, 3) := by decide +kernel
theorem d_Mo_coverNow_48 : decode c_Mo_coverNow 48 = .ok (.iconst 2, 1) := by decide +kernel
theorem d_Mo_coverNow_49 : decode c_Mo_coverNow 49 = .ok (.ireturn, 1) := by decide +kernel
theorem d_Mo_coverNow_50 : decode c_Mo_coverNow 50 = .ok (.aload_n 0, 1) := by decide +kernel
theorem d_Mo_coverNow_51 : decode c_Mo_coverNow 51 = .ok (.iload_n 2, 1) := by decide +kernel
theorem d_Mo_coverNow_52 : decode c_Mo_coverNow 52 = .ok (.iconst 1, 1) := by decide +kernel
theorem d_Mo_coverNow_53 : decode c_Mo_coverNow 53 = .ok (.invokevirtual 90, 3) := by decide +kernel
theorem d_Mo_coverNow_56 : decode c_Mo_coverNow 56 = .ok (.istore 4, 2) := by decide +kernel
theorem d_Mo_coverNow_58 : decode c_Mo_coverNow 58 = .ok (.iconst 0, 1) := by decide +kernel
theorem d_Mo_coverNow_59 : decode c_Mo_coverNow 59 = .ok (.istore 5, 2) := by decide +kernel
theorem d_Mo_coverNow_61 : decode c_Mo_coverNow 61 = .ok (.iload 5, 2) := by decide +kernel
theorem d_Mo_coverNow_63 : decode c_Mo_coverNow 63 = .ok (.aload_n 0, 1) := by decide +kernel
theorem d_Mo_coverNow_64 : decode c_Mo_coverNow 64 = .ok (.iload_n 1, 1) := by decide +kernel
theorem d_Mo_coverNow_65 : decode c_Mo_coverNow 65 = .ok (.iconst 0, 1) := by decide +kernel
theorem d_Mo_coverNow_66 : decode c_Mo_coverNow 66 = .ok (.invokevirtual 74, 3) := by decide +kernel
theorem d_Mo_coverNow_69 : decode c_Mo_coverNow 69 = .ok (.if_icmp .ge 246, 3) := by decide +kernel
theorem d_Mo_coverNow_72 : decode c_Mo_coverNow 72 = .ok (.aload_n 0, 1) := by decide +kernel
theorem d_Mo_coverNow_73 : decode c_Mo_coverNow 73 = .ok (.iload_n 1, 1) := by decide +kernel
theorem d_Mo_coverNow_74 : decode c_Mo_coverNow 74 = .ok (.iload 5, 2) := by decide +kernel
theorem d_Mo_coverNow_76 : decode c_Mo_coverNow 76 = .ok (.iload_n 3, 1) := by decide +kernel
theorem d_Mo_coverNow_77 : decode c_Mo_coverNow 77 = .ok (.invokevirtual 93, 3) := by decide +kernel
theorem d_Mo_coverNow_80 : decode c_Mo_coverNow 80 = .ok (.istore 6, 2) := by decide +kernel
theorem d_Mo_coverNow_82 : decode c_Mo_coverNow 82 = .ok (.aload_n 0, 1) := by decide +kernel
theorem d_Mo_coverNow_83 : decode c_Mo_coverNow 83 = .ok (.iload_n 1, 1) := by decide +kernel
theorem d_Mo_coverNow_84 : decode c_Mo_coverNow 84 = .ok (.iload 5, 2) := by decide +kernel
theorem d_Mo_coverNow_86 : decode c_Mo_coverNow 86 = .ok (.iload_n 3, 1) := by decide +kernel
theorem d_Mo_coverNow_87 : decode c_Mo_coverNow 87 = .ok (.invokevirtual 97, 3) := by decide +kernel
theorem d_Mo_coverNow_90 : decode c_Mo_coverNow 90 = .ok (.istore 7, 2) := by decide +kernel
theorem d_Mo_coverNow_92 : decode c_Mo_coverNow 92 = .ok (.iload 6, 2) := by decide +kernel
theorem d_Mo_coverNow_94 : decode c_Mo_coverNow 94 = .ok (.iload 4, 2) := by decide +kernel
theorem d_Mo_coverNow_96 : decode c_Mo_coverNow 96 = .ok (.invokestatic 100, 3) := by decide +kernel
theorem d_Mo_coverNow_99 : decode c_Mo_coverNow 99 = .ok (.istore 8, 2) := by decide +kernel
theorem d_Mo_coverNow_101 : decode c_Mo_coverNow 101 = .ok (.iconst 0, 1) := by decide +kernel
theorem d_Mo_coverNow_102 : decode c_Mo_coverNow 102 = .ok (.istore 9, 2) := by decide +kernel
theorem d_Mo_coverNow_104 : decode c_Mo_coverNow 104 = .ok (.iload 9, 2) := by decide +kernel
theorem d_Mo_coverNow_106 : decode c_Mo_coverNow 106 = .ok (.iload 8, 2) := by decide +kernel
theorem d_Mo_coverNow_108 : decode c_Mo_coverNow 108 = .ok (.if_icmp .ge 185, 3) := by decide +kernel
theorem d_Mo_coverNow_111 : decode c_Mo_coverNow 111 = .ok (.iload 6, 2) := by decide +kernel
theorem d_Mo_coverNow_113 : decode c_Mo_coverNow 113 = .ok (.iload 4, 2) := by decide +kernel
theorem d_Mo_coverNow_115 : decode c_Mo_coverNow 115 = .ok (.iload 9, 2) := by decide +kernel
theorem d_Mo_coverNow_117 : decode c_Mo_coverNow 117 = .ok (.invokestatic 103, 3) := by decide +kernel
theorem d_Mo_coverNow_120 : decode c_Mo_coverNow 120 = .ok (.istore 10, 2) := by decide +kernel
theorem d_Mo_coverNow_122 : decode c_Mo_coverNow 122 = .ok (.aload_n 0, 1) := by decide +kernel
theorem d_Mo_coverNow_123 : decode c_Mo_coverNow 123 = .ok (.iload_n 2, 1) := by decide +kernel
theorem d_Mo_coverNow_124 : decode c_Mo_coverNow 124 = .ok (.iload 10, 2) := by decide +kernel
theorem d_Mo_coverNow_126 : decode c_Mo_coverNow 126 = .ok (.iload 7, 2) := by decide +kernel
theorem d_Mo_coverNow_128 : decode c_Mo_coverNow 128 = .ok (.invokevirtual 106, 3) := by decide +kernel
theorem d_Mo_coverNow_131 : decode c_Mo_coverNow 131 = .ok (.istore 11, 2) := by decide +kernel
theorem d_Mo_coverNow_133 : decode c_Mo_coverNow 133 = .ok (.iload 11, 2) := by decide +kernel
theorem d_Mo_coverNow_135 : decode c_Mo_coverNow 135 = .ok (.bipush (-5), 2) := by decide +kernel
theorem d_Mo_coverNow_137 : decode c_Mo_coverNow 137 = .ok (.if_icmp .ne 16, 3) := by decide +kernel
theorem d_Mo_coverNow_140 : decode c_Mo_coverNow 140 = .ok (.aload_n 0, 1) := by decide +kernel
theorem d_Mo_coverNow_141 : decode c_Mo_coverNow 141 = .ok (.iload_n 2, 1) := by decide +kernel
theorem d_Mo_coverNow_142 : decode c_Mo_coverNow 142 = .ok (.iconst 2, 1) := by decide +kernel
theorem d_Mo_coverNow_143 : decode c_Mo_coverNow 143 = .ok (.invokevirtual 90, 3) := by decide +kernel
theorem d_Mo_coverNow_146 : decode c_Mo_coverNow 146 = .ok (.iload 7, 2) := by decide +kernel
theorem d_Mo_coverNow_148 : decode c_Mo_coverNow 148 = .ok (.if_icmp .ge 5, 3) := by decide +kernel
theorem d_Mo_coverNow_151 : decode c_Mo_coverNow 151 = .ok (.iconst 3, 1) := by decide +kernel
theorem d_Mo_coverNow_152 : decode c_Mo_coverNow 152 = .ok (.ireturn, 1) := by decide +kernel
theorem d_Mo_coverNow_153 : decode c_Mo_coverNow 153 = .ok (.aload_n 0, 1) := by decide +kernel
theorem d_Mo_coverNow_154 : decode c_Mo_coverNow 154 = .ok (.getfield 7, 3) := by decide +kernel
theorem d_Mo_coverNow_157 : decode c_Mo_coverNow 157 = .ok (.sipush 1233, 3) := by decide +kernel
theorem d_Mo_coverNow_160 : decode c_Mo_coverNow 160 = .ok (.bipush 36, 2) := by decide +kernel
theorem d_Mo_coverNow_162 : decode c_Mo_coverNow 162 = .ok (.iload_n 1, 1) := by decide +kernel
theorem d_Mo_coverNow_163 : decode c_Mo_coverNow 163 = .ok (.imul, 1) := by decide +kernel
theorem d_Mo_coverNow_164 : decode c_Mo_coverNow 164 = .ok (.iadd, 1) := by decide +kernel
theorem d_Mo_coverNow_165 : decode c_Mo_coverNow 165 = .ok (.aload_n 0, 1) := by decide +kernel
theorem d_Mo_coverNow_166 : decode c_Mo_coverNow 166 = .ok (.getfield 77, 3) := by decide +kernel
theorem d_Mo_coverNow_169 : decode c_Mo_coverNow 169 = .ok (.iadd, 1) := by decide +kernel
theorem d_Mo_coverNow_170 : decode c_Mo_coverNow 170 = .ok (.iload 11, 2) := by decide +kernel
theorem d_Mo_coverNow_172 : decode c_Mo_coverNow 172 = .ok (.iastore, 1) := by decide +kernel
theorem d_Mo_coverNow_173 : decode c_Mo_coverNow 173 = .ok (.aload_n 0, 1) := by decide +kernel
theorem d_Mo_coverNow_174 : decode c_Mo_coverNow 174 = .ok (.dup, 1) := by decide +kernel
theorem d_Mo_coverNow_175 : decode c_Mo_coverNow 175 = .ok (.getfield 77, 3) := by decide +kernel
theorem d_Mo_coverNow_178 : decode c_Mo_coverNow 178 = .ok (.iconst 1, 1) := by decide +kernel
theorem d_Mo_coverNow_179 : decode c_Mo_coverNow 179 = .ok (.iadd, 1) := by decide +kernel
theorem d_Mo_coverNow_180 : decode c_Mo_coverNow 180 = .ok (.putfield 77, 3) := by decide +kernel
theorem d_Mo_coverNow_183 : decode c_Mo_coverNow 183 = .ok (.aload_n 0, 1) := by decide +kernel
theorem d_Mo_coverNow_184 : decode c_Mo_coverNow 184 = .ok (.dup, 1) := by decide +kernel
theorem d_Mo_coverNow_185 : decode c_Mo_coverNow 185 = .ok (.getfield 83, 3) := by decide +kernel
theorem d_Mo_coverNow_188 : decode c_Mo_coverNow 188 = .ok (.iload 11, 2) := by decide +kernel
theorem d_Mo_coverNow_190 : decode c_Mo_coverNow 190 = .ok (.bipush (-5), 2) := by decide +kernel
theorem d_Mo_coverNow_192 : decode c_Mo_coverNow 192 = .ok (.if_icmp .ne 7, 3) := by decide +kernel
theorem d_Mo_coverNow_195 : decode c_Mo_coverNow 195 = .ok (.iconst 0, 1) := by decide +kernel
theorem d_Mo_coverNow_196 : decode c_Mo_coverNow 196 = .ok (.goto 4, 3) := by decide +kernel
theorem d_Mo_coverNow_199 : decode c_Mo_coverNow 199 = .ok (.iconst 1, 1) := by decide +kernel
theorem d_Mo_coverNow_200 : decode c_Mo_coverNow 200 = .ok (.iadd, 1) := by decide +kernel
theorem d_Mo_coverNow_201 : decode c_Mo_coverNow 201 = .ok (.putfield 83, 3) := by decide +kernel
theorem d_Mo_coverNow_204 : decode c_Mo_coverNow 204 = .ok (.iload 11, 2) := by decide +kernel
theorem d_Mo_coverNow_206 : decode c_Mo_coverNow 206 = .ok (.bipush (-5), 2) := by decide +kernel
theorem d_Mo_coverNow_208 : decode c_Mo_coverNow 208 = .ok (.if_icmp .ne 8, 3) := by decide +kernel
theorem d_Mo_coverNow_211 : decode c_Mo_coverNow 211 = .ok (.iload 4, 2) := by decide +kernel
theorem d_Mo_coverNow_213 : decode c_Mo_coverNow 213 = .ok (.goto 9, 3) := by decide +kernel
theorem d_Mo_coverNow_216 : decode c_Mo_coverNow 216 = .ok (.aload_n 0, 1) := by decide +kernel
theorem d_Mo_coverNow_217 : decode c_Mo_coverNow 217 = .ok (.iload 11, 2) := by decide +kernel
theorem d_Mo_coverNow_219 : decode c_Mo_coverNow 219 = .ok (.invokevirtual 39, 3) := by decide +kernel
theorem d_Mo_coverNow_222 : decode c_Mo_coverNow 222 = .ok (.istore 12, 2) := by decide +kernel
theorem d_Mo_coverNow_224 : decode c_Mo_coverNow 224 = .ok (.iload 11, 2) := by decide +kernel
theorem d_Mo_coverNow_226 : decode c_Mo_coverNow 226 = .ok (.bipush (-5), 2) := by decide +kernel
theorem d_Mo_coverNow_228 : decode c_Mo_coverNow 228 = .ok (.if_icmp .ne 8, 3) := by decide +kernel
theorem d_Mo_coverNow_231 : decode c_Mo_coverNow 231 = .ok (.iload 7, 2) := by decide +kernel
theorem d_Mo_coverNow_233 : decode c_Mo_coverNow 233 = .ok (.goto 9, 3) := by decide +kernel
theorem d_Mo_coverNow_236 : decode c_Mo_coverNow 236 = .ok (.aload_n 0, 1) := by decide +kernel
theorem d_Mo_coverNow_237 : decode c_Mo_coverNow 237 = .ok (.iload 11, 2) := by decide +kernel
theorem d_Mo_coverNow_239 : decode c_Mo_coverNow 239 = .ok (.invokevirtual 43, 3) := by decide +kernel
theorem d_Mo_coverNow_242 : decode c_Mo_coverNow 242 = .ok (.istore 13, 2) := by decide +kernel
theorem d_Mo_coverNow_244 : decode c_Mo_coverNow 244 = .ok (.iload 11, 2) := by decide +kernel
theorem d_Mo_coverNow_246 : decode c_Mo_coverNow 246 = .ok (.bipush (-5), 2) := by decide +kernel
theorem d_Mo_coverNow_248 : decode c_Mo_coverNow 248 = .ok (.if_icmp .ne 15, 3) := by decide +kernel
theorem d_Mo_coverNow_251 : decode c_Mo_coverNow 251 = .ok (.aload_n 0, 1) := by decide +kernel
theorem d_Mo_coverNow_252 : decode c_Mo_coverNow 252 = .ok (.iload_n 2, 1) := by decide +kernel
theorem d_Mo_coverNow_253 : decode c_Mo_coverNow 253 = .ok (.iconst 2, 1) := by decide +kernel
theorem d_Mo_coverNow_254 : decode c_Mo_coverNow 254 = .ok (.iload 7, 2) := by decide +kernel
theorem d_Mo_coverNow_256 : decode c_Mo_coverNow 256 = .ok (.ineg, 1) := by decide +kernel
theorem d_Mo_coverNow_257 : decode c_Mo_coverNow 257 = .ok (.invokevirtual 50, 3) := by decide +kernel
theorem d_Mo_coverNow_260 : decode c_Mo_coverNow 260 = .ok (.goto 9, 3) := by decide +kernel
theorem d_Mo_coverNow_263 : decode c_Mo_coverNow 263 = .ok (.aload_n 0, 1) := by decide +kernel
theorem d_Mo_coverNow_264 : decode c_Mo_coverNow 264 = .ok (.iload 11, 2) := by decide +kernel
theorem d_Mo_coverNow_266 : decode c_Mo_coverNow 266 = .ok (.invokevirtual 109, 3) := by decide +kernel
theorem d_Mo_coverNow_269 : decode c_Mo_coverNow 269 = .ok (.aload_n 0, 1) := by decide +kernel
theorem d_Mo_coverNow_270 : decode c_Mo_coverNow 270 = .ok (.iload_n 2, 1) := by decide +kernel
theorem d_Mo_coverNow_271 : decode c_Mo_coverNow 271 = .ok (.iload 12, 2) := by decide +kernel
theorem d_Mo_coverNow_273 : decode c_Mo_coverNow 273 = .ok (.iload 13, 2) := by decide +kernel
theorem d_Mo_coverNow_275 : decode c_Mo_coverNow 275 = .ok (.iload 10, 2) := by decide +kernel
theorem d_Mo_coverNow_277 : decode c_Mo_coverNow 277 = .ok (.iload 7, 2) := by decide +kernel
theorem d_Mo_coverNow_279 : decode c_Mo_coverNow 279 = .ok (.invokevirtual 113, 3) := by decide +kernel
theorem d_Mo_coverNow_282 : decode c_Mo_coverNow 282 = .ok (.ifCond .ne 5, 3) := by decide +kernel
theorem d_Mo_coverNow_285 : decode c_Mo_coverNow 285 = .ok (.iconst 4, 1) := by decide +kernel
theorem d_Mo_coverNow_286 : decode c_Mo_coverNow 286 = .ok (.ireturn, 1) := by decide +kernel
theorem d_Mo_coverNow_287 : decode c_Mo_coverNow 287 = .ok (.iinc 9 1, 3) := by decide +kernel
theorem d_Mo_coverNow_290 : decode c_Mo_coverNow 290 = .ok (.goto (-186), 3) := by decide +kernel
theorem d_Mo_coverNow_293 : decode c_Mo_coverNow 293 = .ok (.aload_n 0, 1) := by decide +kernel
theorem d_Mo_coverNow_294 : decode c_Mo_coverNow 294 = .ok (.dup, 1) := by decide +kernel
theorem d_Mo_coverNow_295 : decode c_Mo_coverNow 295 = .ok (.getfield 80, 3) := by decide +kernel
theorem d_Mo_coverNow_298 : decode c_Mo_coverNow 298 = .ok (.iload 8, 2) := by decide +kernel
theorem d_Mo_coverNow_300 : decode c_Mo_coverNow 300 = .ok (.iconst 1, 1) := by decide +kernel
theorem d_Mo_coverNow_301 : decode c_Mo_coverNow 301 = .ok (.isub, 1) := by decide +kernel
theorem d_Mo_coverNow_302 : decode c_Mo_coverNow 302 = .ok (.iload 7, 2) := by decide +kernel
theorem d_Mo_coverNow_304 : decode c_Mo_coverNow 304 = .ok (.imul, 1) := by decide +kernel
theorem d_Mo_coverNow_305 : decode c_Mo_coverNow 305 = .ok (.iadd, 1) := by decide +kernel
theorem d_Mo_coverNow_306 : decode c_Mo_coverNow 306 = .ok (.putfield 80, 3) := by decide +kernel
theorem d_Mo_coverNow_309 : decode c_Mo_coverNow 309 = .ok (.iinc 5 1, 3) := by decide +kernel
theorem d_Mo_coverNow_312 : decode c_Mo_coverNow 312 = .ok (.goto (-251), 3) := by decide +kernel
theorem d_Mo_coverNow_315 : decode c_Mo_coverNow 315 = .ok (.aload_n 0, 1) := by decide +kernel
theorem d_Mo_coverNow_316 : decode c_Mo_coverNow 316 = .ok (.aload_n 0, 1) := by decide +kernel
theorem d_Mo_coverNow_317 : decode c_Mo_coverNow 317 = .ok (.iload_n 1, 1) := by decide +kernel
theorem d_Mo_coverNow_318 : decode c_Mo_coverNow 318 = .ok (.invokevirtual 117, 3) := by decide +kernel
theorem d_Mo_coverNow_321 : decode c_Mo_coverNow 321 = .ok (.aload_n 0, 1) := by decide +kernel
theorem d_Mo_coverNow_322 : decode c_Mo_coverNow 322 = .ok (.iload_n 2, 1) := by decide +kernel
theorem d_Mo_coverNow_323 : decode c_Mo_coverNow 323 = .ok (.iconst 3, 1) := by decide +kernel
theorem d_Mo_coverNow_324 : decode c_Mo_coverNow 324 = .ok (.invokevirtual 90, 3) := by decide +kernel
theorem d_Mo_coverNow_327 : decode c_Mo_coverNow 327 = .ok (.imul, 1) := by decide +kernel
theorem d_Mo_coverNow_328 : decode c_Mo_coverNow 328 = .ok (.aload_n 0, 1) := by decide +kernel
theorem d_Mo_coverNow_329 : decode c_Mo_coverNow 329 = .ok (.getfield 80, 3) := by decide +kernel
theorem d_Mo_coverNow_332 : decode c_Mo_coverNow 332 = .ok (.aload_n 0, 1) := by decide +kernel
theorem d_Mo_coverNow_333 : decode c_Mo_coverNow 333 = .ok (.getfield 7, 3) := by decide +kernel
theorem d_Mo_coverNow_336 : decode c_Mo_coverNow 336 = .ok (.bipush 6, 2) := by decide +kernel
theorem d_Mo_coverNow_338 : decode c_Mo_coverNow 338 = .ok (.iaload, 1) := by decide +kernel
theorem d_Mo_coverNow_339 : decode c_Mo_coverNow 339 = .ok (.imul, 1) := by decide +kernel
theorem d_Mo_coverNow_340 : decode c_Mo_coverNow 340 = .ok (.aload_n 0, 1) := by decide +kernel
theorem d_Mo_coverNow_341 : decode c_Mo_coverNow 341 = .ok (.iload_n 1, 1) := by decide +kernel
theorem d_Mo_coverNow_342 : decode c_Mo_coverNow 342 = .ok (.iload_n 3, 1) := by decide +kernel
theorem d_Mo_coverNow_343 : decode c_Mo_coverNow 343 = .ok (.invokevirtual 86, 3) := by decide +kernel
theorem d_Mo_coverNow_346 : decode c_Mo_coverNow 346 = .ok (.ifCond .eq 13, 3) := by decide +kernel
theorem d_Mo_coverNow_349 : decode c_Mo_coverNow 349 = .ok (.aload_n 0, 1) := by decide +kernel
theorem d_Mo_coverNow_350 : decode c_Mo_coverNow 350 = .ok (.getfield 7, 3) := by decide +kernel
theorem d_Mo_coverNow_353 : decode c_Mo_coverNow 353 = .ok (.bipush 7, 2) := by decide +kernel
theorem d_Mo_coverNow_355 : decode c_Mo_coverNow 355 = .ok (.iaload, 1) := by decide +kernel
theorem d_Mo_coverNow_356 : decode c_Mo_coverNow 356 = .ok (.goto 4, 3) := by decide +kernel
theorem d_Mo_coverNow_359 : decode c_Mo_coverNow 359 = .ok (.iconst 1, 1) := by decide +kernel
theorem d_Mo_coverNow_360 : decode c_Mo_coverNow 360 = .ok (.imul, 1) := by decide +kernel
theorem d_Mo_coverNow_361 : decode c_Mo_coverNow 361 = .ok (.iadd, 1) := by decide +kernel
theorem d_Mo_coverNow_362 : decode c_Mo_coverNow 362 = .ok (.putfield 120, 3) := by decide +kernel
theorem d_Mo_coverNow_365 : decode c_Mo_coverNow 365 = .ok (.aload_n 0, 1) := by decide +kernel
theorem d_Mo_coverNow_366 : decode c_Mo_coverNow 366 = .ok (.iload_n 1, 1) := by decide +kernel
theorem d_Mo_coverNow_367 : decode c_Mo_coverNow 367 = .ok (.bipush 8, 2) := by decide +kernel
theorem d_Mo_coverNow_369 : decode c_Mo_coverNow 369 = .ok (.iconst 1, 1) := by decide +kernel
theorem d_Mo_coverNow_370 : decode c_Mo_coverNow 370 = .ok (.invokevirtual 123, 3) := by decide +kernel
theorem d_Mo_coverNow_373 : decode c_Mo_coverNow 373 = .ok (.aload_n 0, 1) := by decide +kernel
theorem d_Mo_coverNow_374 : decode c_Mo_coverNow 374 = .ok (.iload_n 1, 1) := by decide +kernel
theorem d_Mo_coverNow_375 : decode c_Mo_coverNow 375 = .ok (.bipush 9, 2) := by decide +kernel
theorem d_Mo_coverNow_377 : decode c_Mo_coverNow 377 = .ok (.iload_n 2, 1) := by decide +kernel
theorem d_Mo_coverNow_378 : decode c_Mo_coverNow 378 = .ok (.invokevirtual 123, 3) := by decide +kernel
theorem d_Mo_coverNow_381 : decode c_Mo_coverNow 381 = .ok (.aload_n 0, 1) := by decide +kernel
theorem d_Mo_coverNow_382 : decode c_Mo_coverNow 382 = .ok (.iload_n 1, 1) := by decide +kernel
theorem d_Mo_coverNow_383 : decode c_Mo_coverNow 383 = .ok (.bipush 10, 2) := by decide +kernel
theorem d_Mo_coverNow_385 : decode c_Mo_coverNow 385 = .ok (.iload_n 3, 1) := by decide +kernel
theorem d_Mo_coverNow_386 : decode c_Mo_coverNow 386 = .ok (.invokevirtual 123, 3) := by decide +kernel
theorem d_Mo_coverNow_389 : decode c_Mo_coverNow 389 = .ok (.aload_n 0, 1) := by decide +kernel
theorem d_Mo_coverNow_390 : decode c_Mo_coverNow 390 = .ok (.iload_n 1, 1) := by decide +kernel
theorem d_Mo_coverNow_391 : decode c_Mo_coverNow 391 = .ok (.bipush 11, 2) := by decide +kernel
theorem d_Mo_coverNow_393 : decode c_Mo_coverNow 393 = .ok (.aload_n 0, 1) := by decide +kernel
theorem d_Mo_coverNow_394 : decode c_Mo_coverNow 394 = .ok (.getfield 120, 3) := by decide +kernel
theorem d_Mo_coverNow_397 : decode c_Mo_coverNow 397 = .ok (.invokevirtual 123, 3) := by decide +kernel
theorem d_Mo_coverNow_400 : decode c_Mo_coverNow 400 = .ok (.aload_n 0, 1) := by decide +kernel
theorem d_Mo_coverNow_401 : decode c_Mo_coverNow 401 = .ok (.getfield 7, 3) := by decide +kernel
theorem d_Mo_coverNow_404 : decode c_Mo_coverNow 404 = .ok (.iconst 3, 1) := by decide +kernel
theorem d_Mo_coverNow_405 : decode c_Mo_coverNow 405 = .ok (.dup2, 1) := by decide +kernel
theorem d_Mo_coverNow_406 : decode c_Mo_coverNow 406 = .ok (.iaload, 1) := by decide +kernel
theorem d_Mo_coverNow_407 : decode c_Mo_coverNow 407 = .ok (.aload_n 0, 1) := by decide +kernel
theorem d_Mo_coverNow_408 : decode c_Mo_coverNow 408 = .ok (.getfield 120, 3) := by decide +kernel
theorem d_Mo_coverNow_411 : decode c_Mo_coverNow 411 = .ok (.iadd, 1) := by decide +kernel
theorem d_Mo_coverNow_412 : decode c_Mo_coverNow 412 = .ok (.iastore, 1) := by decide +kernel
theorem d_Mo_coverNow_413 : decode c_Mo_coverNow 413 = .ok (.iconst 0, 1) := by decide +kernel
theorem d_Mo_coverNow_414 : decode c_Mo_coverNow 414 = .ok (.ireturn, 1) := by decide +kernel
theorem d_Mo_roll_0 : decode c_Mo_roll 0 = .ok (.iload_n 1, 1) := by decide +kernel
theorem d_Mo_roll_1 : decode c_Mo_roll 1 = .ok (.iconst 0, 1) := by decide +kernel
theorem d_Mo_roll_2 : decode c_Mo_roll 2 = .ok (.bipush 9, 2) := by decide +kernel
theorem d_Mo_roll_4 : decode c_Mo_roll 4 = .ok (.invokestatic 35, 3) := by decide +kernel
theorem d_Mo_roll_7 : decode c_Mo_roll 7 = .ok (.ifCond .eq 35, 3) := by decide +kernel
theorem d_Mo_roll_10 : decode c_Mo_roll 10 = .ok (.iload_n 2, 1) := by decide +kernel
theorem d_Mo_roll_11 : decode c_Mo_roll 11 = .ok (.iconst 5, 1) := by decide +kernel
theorem d_Mo_roll_12 : decode c_Mo_roll 12 = .ok (.bipush 60, 2) := by decide +kernel
theorem d_Mo_roll_14 : decode c_Mo_roll 14 = .ok (.invokestatic 35, 3) := by decide +kernel
theorem d_Mo_roll_17 : decode c_Mo_roll 17 = .ok (.ifCond .eq 25, 3) := by decide +kernel
theorem d_Mo_roll_20 : decode c_Mo_roll 20 = .ok (.iload_n 3, 1) := by decide +kernel
theorem d_Mo_roll_21 : decode c_Mo_roll 21 = .ok (.iconst 1, 1) := by decide +kernel
theorem d_Mo_roll_22 : decode c_Mo_roll 22 = .ok (.sipush 999, 3) := by decide +kernel
theorem d_Mo_roll_25 : decode c_Mo_roll 25 = .ok (.invokestatic 35, 3) := by decide +kernel
theorem d_Mo_roll_28 : decode c_Mo_roll 28 = .ok (.ifCond .eq 14, 3) := by decide +kernel
theorem d_Mo_roll_31 : decode c_Mo_roll 31 = .ok (.iload 4, 2) := by decide +kernel
theorem d_Mo_roll_33 : decode c_Mo_roll 33 = .ok (.iconst 0, 1) := by decide +kernel
theorem d_Mo_roll_34 : decode c_Mo_roll 34 = .ok (.bipush 99, 2) := by decide +kernel
theorem d_Mo_roll_36 : decode c_Mo_roll 36 = .ok (.invokestatic 35, 3) := by decide +kernel
theorem d_Mo_roll_39 : decode c_Mo_roll 39 = .ok (.ifCond .ne 6, 3) := by decide +kernel
theorem d_Mo_roll_42 : decode c_Mo_roll 42 = .ok (.bipush (-2), 2) := by decide +kernel
theorem d_Mo_roll_44 : decode c_Mo_roll 44 = .ok (.ireturn, 1) := by decide +kernel
theorem d_Mo_roll_45 : decode c_Mo_roll 45 = .ok (.aload_n 0, 1) := by decide +kernel
theorem d_Mo_roll_46 : decode c_Mo_roll 46 = .ok (.getfield 7, 3) := by decide +kernel
theorem d_Mo_roll_49 : decode c_Mo_roll 49 = .ok (.iconst 0, 1) := by decide +kernel
theorem d_Mo_roll_50 : decode c_Mo_roll 50 = .ok (.iaload, 1) := by decide +kernel
theorem d_Mo_roll_51 : decode c_Mo_roll 51 = .ok (.bipush 12, 2) := by decide +kernel
theorem d_Mo_roll_53 : decode c_Mo_roll 53 = .ok (.if_icmp .ne 6, 3) := by decide +kernel
theorem d_Mo_roll_56 : decode c_Mo_roll 56 = .ok (.bipush (-3), 2) := by decide +kernel
theorem d_Mo_roll_58 : decode c_Mo_roll 58 = .ok (.ireturn, 1) := by decide +kernel
theorem d_Mo_roll_59 : decode c_Mo_roll 59 = .ok (.aload_n 0, 1) := by decide +kernel
theorem d_Mo_roll_60 : decode c_Mo_roll 60 = .ok (.invokevirtual 126, 3) := by decide +kernel
theorem d_Mo_roll_63 : decode c_Mo_roll 63 = .ok (.aload_n 0, 1) := by decide +kernel
theorem d_Mo_roll_64 : decode c_Mo_roll 64 = .ok (.getfield 7, 3) := by decide +kernel
theorem d_Mo_roll_67 : decode c_Mo_roll 67 = .ok (.iconst 0, 1) := by decide +kernel
theorem d_Mo_roll_68 : decode c_Mo_roll 68 = .ok (.iaload, 1) := by decide +kernel
theorem d_Mo_roll_69 : decode c_Mo_roll 69 = .ok (.istore 5, 2) := by decide +kernel
theorem d_Mo_roll_71 : decode c_Mo_roll 71 = .ok (.aload_n 0, 1) := by decide +kernel
theorem d_Mo_roll_72 : decode c_Mo_roll 72 = .ok (.getfield 7, 3) := by decide +kernel
theorem d_Mo_roll_75 : decode c_Mo_roll 75 = .ok (.iconst 0, 1) := by decide +kernel
theorem d_Mo_roll_76 : decode c_Mo_roll 76 = .ok (.dup2, 1) := by decide +kernel
theorem d_Mo_roll_77 : decode c_Mo_roll 77 = .ok (.iaload, 1) := by decide +kernel
theorem d_Mo_roll_78 : decode c_Mo_roll 78 = .ok (.iconst 1, 1) := by decide +kernel
theorem d_Mo_roll_79 : decode c_Mo_roll 79 = .ok (.iadd, 1) := by decide +kernel
theorem d_Mo_roll_80 : decode c_Mo_roll 80 = .ok (.iastore, 1) := by decide +kernel
theorem d_Mo_roll_81 : decode c_Mo_roll 81 = .ok (.aload_n 0, 1) := by decide +kernel
theorem d_Mo_roll_82 : decode c_Mo_roll 82 = .ok (.iload 5, 2) := by decide +kernel
theorem d_Mo_roll_84 : decode c_Mo_roll 84 = .ok (.iconst 0, 1) := by decide +kernel
theorem d_Mo_roll_85 : decode c_Mo_roll 85 = .ok (.iload_n 1, 1) := by decide +kernel
theorem d_Mo_roll_86 : decode c_Mo_roll 86 = .ok (.invokevirtual 50, 3) := by decide +kernel
theorem d_Mo_roll_89 : decode c_Mo_roll 89 = .ok (.aload_n 0, 1) := by decide +kernel
theorem d_Mo_roll_90 : decode c_Mo_roll 90 = .ok (.iload 5, 2) := by decide +kernel
theorem d_Mo_roll_92 : decode c_Mo_roll 92 = .ok (.iconst 1, 1) := by decide +kernel
theorem d_Mo_roll_93 : decode c_Mo_roll 93 = .ok (.iload_n 2, 1) := by decide +kernel
theorem d_Mo_roll_94 : decode c_Mo_roll 94 = .ok (.invokevirtual 50, 3) := by decide +kernel
theorem d_Mo_roll_97 : decode c_Mo_roll 97 = .ok (.aload_n 0, 1) := by decide +kernel
theorem d_Mo_roll_98 : decode c_Mo_roll 98 = .ok (.iload 5, 2) := by decide +kernel
theorem d_Mo_roll_100 : decode c_Mo_roll 100 = .ok (.iconst 2, 1) := by decide +kernel
theorem d_Mo_roll_101 : decode c_Mo_roll 101 = .ok (.iload_n 3, 1) := by decide +kernel
theorem d_Mo_roll_102 : decode c_Mo_roll 102 = .ok (.invokevirtual 50, 3) := by decide +kernel
theorem d_Mo_roll_105 : decode c_Mo_roll 105 = .ok (.aload_n 0, 1) := by decide +kernel
theorem d_Mo_roll_106 : decode c_Mo_roll 106 = .ok (.iload 5, 2) := by decide +kernel
theorem d_Mo_roll_108 : decode c_Mo_roll 108 = .ok (.iconst 3, 1) := by decide +kernel
theorem d_Mo_roll_109 : decode c_Mo_roll 109 = .ok (.iload 4, 2) := by decide +kernel
theorem d_Mo_roll_111 : decode c_Mo_roll 111 = .ok (.invokevirtual 50, 3) := by decide +kernel
theorem d_Mo_roll_114 : decode c_Mo_roll 114 = .ok (.aload_n 0, 1) := by decide +kernel
theorem d_Mo_roll_115 : decode c_Mo_roll 115 = .ok (.iload 5, 2) := by decide +kernel
theorem d_Mo_roll_117 : decode c_Mo_roll 117 = .ok (.iconst 4, 1) := by decide +kernel
theorem d_Mo_roll_118 : decode c_Mo_roll 118 = .ok (.iload_n 3, 1) := by decide +kernel
theorem d_Mo_roll_119 : decode c_Mo_roll 119 = .ok (.invokevirtual 50, 3) := by decide +kernel
theorem d_Mo_roll_122 : decode c_Mo_roll 122 = .ok (.iload 5, 2) := by decide +kernel
theorem d_Mo_roll_124 : decode c_Mo_roll 124 = .ok (.ireturn, 1) := by decide +kernel
theorem d_Mo_rooms_0 : decode c_Mo_rooms 0 = .ok (.aload_n 0, 1) := by decide +kernel
theorem d_Mo_rooms_1 : decode c_Mo_rooms 1 = .ok (.invokevirtual 129, 3) := by decide +kernel
theorem d_Mo_rooms_4 : decode c_Mo_rooms 4 = .ok (.istore_n 1, 1) := by decide +kernel
theorem d_Mo_rooms_5 : decode c_Mo_rooms 5 = .ok (.iload_n 1, 1) := by decide +kernel
theorem d_Mo_rooms_6 : decode c_Mo_rooms 6 = .ok (.ifCond .ge 5, 3) := by decide +kernel
theorem d_Mo_rooms_9 : decode c_Mo_rooms 9 = .ok (.iload_n 1, 1) := by decide +kernel
theorem d_Mo_rooms_10 : decode c_Mo_rooms 10 = .ok (.ireturn, 1) := by decide +kernel
theorem d_Mo_rooms_11 : decode c_Mo_rooms 11 = .ok (.aload_n 0, 1) := by decide +kernel
theorem d_Mo_rooms_12 : decode c_Mo_rooms 12 = .ok (.getfield 7, 3) := by decide +kernel
theorem d_Mo_rooms_15 : decode c_Mo_rooms 15 = .ok (.iconst 2, 1) := by decide +kernel
theorem d_Mo_rooms_16 : decode c_Mo_rooms 16 = .ok (.iaload, 1) := by decide +kernel
theorem d_Mo_rooms_17 : decode c_Mo_rooms 17 = .ok (.iload_n 1, 1) := by decide +kernel
theorem d_Mo_rooms_18 : decode c_Mo_rooms 18 = .ok (.iadd, 1) := by decide +kernel
theorem d_Mo_rooms_19 : decode c_Mo_rooms 19 = .ok (.bipush 20, 2) := by decide +kernel
theorem d_Mo_rooms_21 : decode c_Mo_rooms 21 = .ok (.if_icmp .le 6, 3) := by decide +kernel
theorem d_Mo_rooms_24 : decode c_Mo_rooms 24 = .ok (.bipush (-3), 2) := by decide +kernel
theorem d_Mo_rooms_26 : decode c_Mo_rooms 26 = .ok (.ireturn, 1) := by decide +kernel
theorem d_Mo_rooms_27 : decode c_Mo_rooms 27 = .ok (.aload_n 0, 1) := by decide +kernel
theorem d_Mo_rooms_28 : decode c_Mo_rooms 28 = .ok (.invokevirtual 126, 3) := by decide +kernel
theorem d_Mo_rooms_31 : decode c_Mo_rooms 31 = .ok (.aload_n 0, 1) := by decide +kernel
theorem d_Mo_rooms_32 : decode c_Mo_rooms 32 = .ok (.iconst 0, 1) := by decide +kernel
theorem d_Mo_rooms_33 : decode c_Mo_rooms 33 = .ok (.putfield 132, 3) := by decide +kernel
theorem d_Mo_rooms_36 : decode c_Mo_rooms 36 = .ok (.iconst 0, 1) := by decide +kernel
theorem d_Mo_rooms_37 : decode c_Mo_rooms 37 = .ok (.istore_n 2, 1) := by decide +kernel
theorem d_Mo_rooms_38 : decode c_Mo_rooms 38 = .ok (.iload_n 2, 1) := by decide +kernel
theorem d_Mo_rooms_39 : decode c_Mo_rooms 39 = .ok (.iload_n 1, 1) := by decide +kernel
theorem d_Mo_rooms_40 : decode c_Mo_rooms 40 = .ok (.if_icmp .ge 65, 3) := by decide +kernel
theorem d_Mo_rooms_43 : decode c_Mo_rooms 43 = .ok (.aload_n 0, 1) := by decide +kernel
theorem d_Mo_rooms_44 : decode c_Mo_rooms 44 = .ok (.invokevirtual 135, 3) := by decide +kernel
theorem d_Mo_rooms_47 : decode c_Mo_rooms 47 = .ok (.pop, 1) := by decide +kernel
theorem d_Mo_rooms_48 : decode c_Mo_rooms 48 = .ok (.iconst 0, 1) := by decide +kernel
theorem d_Mo_rooms_49 : decode c_Mo_rooms 49 = .ok (.istore_n 3, 1) := by decide +kernel
theorem d_Mo_rooms_50 : decode c_Mo_rooms 50 = .ok (.iload_n 3, 1) := by decide +kernel
theorem d_Mo_rooms_51 : decode c_Mo_rooms 51 = .ok (.bipush 8, 2) := by decide +kernel
theorem d_Mo_rooms_53 : decode c_Mo_rooms 53 = .ok (.if_icmp .ge 26, 3) := by decide +kernel
theorem d_Mo_rooms_56 : decode c_Mo_rooms 56 = .ok (.aload_n 0, 1) := by decide +kernel
theorem d_Mo_rooms_57 : decode c_Mo_rooms 57 = .ok (.aload_n 0, 1) := by decide +kernel
theorem d_Mo_rooms_58 : decode c_Mo_rooms 58 = .ok (.getfield 7, 3) := by decide +kernel
theorem d_Mo_rooms_61 : decode c_Mo_rooms 61 = .ok (.iconst 2, 1) := by decide +kernel
theorem d_Mo_rooms_62 : decode c_Mo_rooms 62 = .ok (.iaload, 1) := by decide +kernel
theorem d_Mo_rooms_63 : decode c_Mo_rooms 63 = .ok (.iload_n 3, 1) := by decide +kernel
theorem d_Mo_rooms_64 : decode c_Mo_rooms 64 = .ok (.aload_n 0, 1) := by decide +kernel
theorem d_Mo_rooms_65 : decode c_Mo_rooms 65 = .ok (.getfield 28, 3) := by decide +kernel
theorem d_Mo_rooms_68 : decode c_Mo_rooms 68 = .ok (.iload_n 3, 1) := by decide +kernel
theorem d_Mo_rooms_69 : decode c_Mo_rooms 69 = .ok (.iaload, 1) := by decide +kernel
theorem d_Mo_rooms_70 : decode c_Mo_rooms 70 = .ok (.invokevirtual 123, 3) := by decide +kernel
theorem d_Mo_rooms_73 : decode c_Mo_rooms 73 = .ok (.iinc 3 1, 3) := by decide +kernel
theorem d_Mo_rooms_76 : decode c_Mo_rooms 76 = .ok (.goto (-26), 3) := by decide +kernel
theorem d_Mo_rooms_79 : decode c_Mo_rooms 79 = .ok (.aload_n 0, 1) := by decide +kernel
theorem d_Mo_rooms_80 : decode c_Mo_rooms 80 = .ok (.getfield 7, 3) := by decide +kernel
theorem d_Mo_rooms_83 : decode c_Mo_rooms 83 = .ok (.iconst 2, 1) := by decide +kernel
theorem d_Mo_rooms_84 : decode c_Mo_rooms 84 = .ok (.dup2, 1) := by decide +kernel
theorem d_Mo_rooms_85 : decode c_Mo_rooms 85 = .ok (.iaload, 1) := by decide +kernel
theorem d_Mo_rooms_86 : decode c_Mo_rooms 86 = .ok (.iconst 1, 1) := by decide +kernel
theorem d_Mo_rooms_87 : decode c_Mo_rooms 87 = .ok (.iadd, 1) := by decide +kernel
theorem d_Mo_rooms_88 : decode c_Mo_rooms 88 = .ok (.iastore, 1) := by decide +kernel
theorem d_Mo_rooms_89 : decode c_Mo_rooms 89 = .ok (.aload_n 0, 1) := by decide +kernel
theorem d_Mo_rooms_90 : decode c_Mo_rooms 90 = .ok (.dup, 1) := by decide +kernel
theorem d_Mo_rooms_91 : decode c_Mo_rooms 91 = .ok (.getfield 132, 3) := by decide +kernel
theorem d_Mo_rooms_94 : decode c_Mo_rooms 94 = .ok (.iconst 1, 1) := by decide +kernel
theorem d_Mo_rooms_95 : decode c_Mo_rooms 95 = .ok (.iadd, 1) := by decide +kernel
theorem d_Mo_rooms_96 : decode c_Mo_rooms 96 = .ok (.putfield 132, 3) := by decide +kernel
theorem d_Mo_rooms_99 : decode c_Mo_rooms 99 = .ok (.iinc 2 1, 3) := by decide +kernel
theorem d_Mo_rooms_102 : decode c_Mo_rooms 102 = .ok (.goto (-64), 3) := by decide +kernel
theorem d_Mo_rooms_105 : decode c_Mo_rooms 105 = .ok (.iload_n 1, 1) := by decide +kernel
theorem d_Mo_rooms_106 : decode c_Mo_rooms 106 = .ok (.ireturn, 1) := by decide +kernel
theorem d_Mo_check_0 : decode c_Mo_check 0 = .ok (.aload_n 0, 1) := by decide +kernel
theorem d_Mo_check_1 : decode c_Mo_check 1 = .ok (.iload_n 1, 1) := by decide +kernel
theorem d_Mo_check_2 : decode c_Mo_check 2 = .ok (.invokevirtual 139, 3) := by decide +kernel
theorem d_Mo_check_5 : decode c_Mo_check 5 = .ok (.ifCond .eq 11, 3) := by decide +kernel
theorem d_Mo_check_8 : decode c_Mo_check 8 = .ok (.aload_n 0, 1) := by decide +kernel
theorem d_Mo_check_9 : decode c_Mo_check 9 = .ok (.iload_n 2, 1) := by decide +kernel
theorem d_Mo_check_10 : decode c_Mo_check 10 = .ok (.invokevirtual 142, 3) := by decide +kernel
theorem d_Mo_check_13 : decode c_Mo_check 13 = .ok (.ifCond .ne 7, 3) := by decide +kernel
theorem d_Mo_check_16 : decode c_Mo_check 16 = .ok (.iconst (-1), 1) := by decide +kernel
theorem d_Mo_check_17 : decode c_Mo_check 17 = .ok (.goto 18, 3) := by decide +kernel
theorem d_Mo_check_20 : decode c_Mo_check 20 = .ok (.iload_n 3, 1) := by decide +kernel
theorem d_Mo_check_21 : decode c_Mo_check 21 = .ok (.iconst 0, 1) := by decide +kernel
theorem d_Mo_check_22 : decode c_Mo_check 22 = .ok (.iconst 1, 1) := by decide +kernel
theorem d_Mo_check_23 : decode c_Mo_check 23 = .ok (.invokestatic 35, 3) := by decide +kernel
theorem d_Mo_check_26 : decode c_Mo_check 26 = .ok (.ifCond .eq 7, 3) := by decide +kernel
theorem d_Mo_check_29 : decode c_Mo_check 29 = .ok (.iconst 0, 1) := by decide +kernel
theorem d_Mo_check_30 : decode c_Mo_check 30 = .ok (.goto 5, 3) := by decide +kernel
theorem d_Mo_check_33 : decode c_Mo_check 33 = .ok (.bipush (-2), 2) := by decide +kernel
theorem d_Mo_check_35 : decode c_Mo_check 35 = .ok (.ireturn, 1) := by decide +kernel
theorem d_Mo_cover_0 : decode c_Mo_cover 0 = .ok (.aload_n 0, 1) := by decide +kernel
theorem d_Mo_cover_1 : decode c_Mo_cover 1 = .ok (.iload_n 1, 1) := by decide +kernel
theorem d_Mo_cover_2 : decode c_Mo_cover 2 = .ok (.iload_n 2, 1) := by decide +kernel
theorem d_Mo_cover_3 : decode c_Mo_cover 3 = .ok (.iload_n 3, 1) := by decide +kernel
theorem d_Mo_cover_4 : decode c_Mo_cover 4 = .ok (.invokevirtual 145, 3) := by decide +kernel
theorem d_Mo_cover_7 : decode c_Mo_cover 7 = .ok (.istore 4, 2) := by decide +kernel
theorem d_Mo_cover_9 : decode c_Mo_cover 9 = .ok (.iload 4, 2) := by decide +kernel
theorem d_Mo_cover_11 : decode c_Mo_cover 11 = .ok (.ifCond .ge 6, 3) := by decide +kernel
theorem d_Mo_cover_14 : decode c_Mo_cover 14 = .ok (.iload 4, 2) := by decide +kernel
theorem d_Mo_cover_16 : decode c_Mo_cover 16 = .ok (.ireturn, 1) := by decide +kernel
theorem d_Mo_cover_17 : decode c_Mo_cover 17 = .ok (.aload_n 0, 1) := by decide +kernel
theorem d_Mo_cover_18 : decode c_Mo_cover 18 = .ok (.invokevirtual 148, 3) := by decide +kernel
theorem d_Mo_cover_21 : decode c_Mo_cover 21 = .ok (.aload_n 0, 1) := by decide +kernel
theorem d_Mo_cover_22 : decode c_Mo_cover 22 = .ok (.iload_n 1, 1) := by decide +kernel
theorem d_Mo_cover_23 : decode c_Mo_cover 23 = .ok (.iload_n 2, 1) := by decide +kernel
theorem d_Mo_cover_24 : decode c_Mo_cover 24 = .ok (.iload_n 3, 1) := by decide +kernel
theorem d_Mo_cover_25 : decode c_Mo_cover 25 = .ok (.invokevirtual 151, 3) := by decide +kernel
theorem d_Mo_cover_28 : decode c_Mo_cover 28 = .ok (.istore 5, 2) := by decide +kernel
theorem d_Mo_cover_30 : decode c_Mo_cover 30 = .ok (.aload_n 0, 1) := by decide +kernel
theorem d_Mo_cover_31 : decode c_Mo_cover 31 = .ok (.invokevirtual 154, 3) := by decide +kernel
theorem d_Mo_cover_34 : decode c_Mo_cover 34 = .ok (.iload 5, 2) := by decide +kernel
theorem d_Mo_cover_36 : decode c_Mo_cover 36 = .ok (.ifCond .le 9, 3) := by decide +kernel
theorem d_Mo_cover_39 : decode c_Mo_cover 39 = .ok (.bipush (-10), 2) := by decide +kernel
theorem d_Mo_cover_41 : decode c_Mo_cover 41 = .ok (.iload 5, 2) := by decide +kernel
theorem d_Mo_cover_43 : decode c_Mo_cover 43 = .ok (.isub, 1) := by decide +kernel
theorem d_Mo_cover_44 : decode c_Mo_cover 44 = .ok (.ireturn, 1) := by decide +kernel
theorem d_Mo_cover_45 : decode c_Mo_cover 45 = .ok (.aload_n 0, 1) := by decide +kernel
theorem d_Mo_cover_46 : decode c_Mo_cover 46 = .ok (.invokevirtual 126, 3) := by decide +kernel
theorem d_Mo_cover_49 : decode c_Mo_cover 49 = .ok (.aload_n 0, 1) := by decide +kernel
theorem d_Mo_cover_50 : decode c_Mo_cover 50 = .ok (.iload_n 1, 1) := by decide +kernel
theorem d_Mo_cover_51 : decode c_Mo_cover 51 = .ok (.iload_n 2, 1) := by decide +kernel
theorem d_Mo_cover_52 : decode c_Mo_cover 52 = .ok (.iload_n 3, 1) := by decide +kernel
theorem d_Mo_cover_53 : decode c_Mo_cover 53 = .ok (.invokevirtual 151, 3) := by decide +kernel
theorem d_Mo_cover_56 : decode c_Mo_cover 56 = .ok (.pop, 1) := by decide +kernel
theorem d_Mo_cover_57 : decode c_Mo_cover 57 = .ok (.aload_n 0, 1) := by decide +kernel
theorem d_Mo_cover_58 : decode c_Mo_cover 58 = .ok (.getfield 120, 3) := by decide +kernel
theorem d_Mo_cover_61 : decode c_Mo_cover 61 = .ok (.ireturn, 1) := by decide +kernel
theorem d_Mo_rankOf_0 : decode c_Mo_rankOf 0 = .ok (.iload_n 2, 1) := by decide +kernel
theorem d_Mo_rankOf_1 : decode c_Mo_rankOf 1 = .ok (.istore_n 3, 1) := by decide +kernel
theorem d_Mo_rankOf_2 : decode c_Mo_rankOf 2 = .ok (.iconst 0, 1) := by decide +kernel
theorem d_Mo_rankOf_3 : decode c_Mo_rankOf 3 = .ok (.istore 4, 2) := by decide +kernel
theorem d_Mo_rankOf_5 : decode c_Mo_rankOf 5 = .ok (.iload 4, 2) := by decide +kernel
theorem d_Mo_rankOf_7 : decode c_Mo_rankOf 7 = .ok (.aload_n 0, 1) := by decide +kernel
theorem d_Mo_rankOf_8 : decode c_Mo_rankOf 8 = .ok (.iload_n 1, 1) := by decide +kernel
theorem d_Mo_rankOf_9 : decode c_Mo_rankOf 9 = .ok (.iconst 0, 1) := by decide +kernel
theorem d_Mo_rankOf_10 : decode c_Mo_rankOf 10 = .ok (.invokevirtual 74, 3) := by decide +kernel
theorem d_Mo_rankOf_13 : decode c_Mo_rankOf 13 = .ok (.if_icmp .ge 59, 3) := by decide +kernel
theorem d_Mo_rankOf_16 : decode c_Mo_rankOf 16 = .ok (.aload_n 0, 1) := by decide +kernel
theorem d_Mo_rankOf_17 : decode c_Mo_rankOf 17 = .ok (.iload_n 1, 1) := by decide +kernel
theorem d_Mo_rankOf_18 : decode c_Mo_rankOf 18 = .ok (.iload 4, 2) := by decide +kernel
theorem d_Mo_rankOf_20 : decode c_Mo_rankOf 20 = .ok (.aload_n 0, 1) := by decide +kernel
theorem d_Mo_rankOf_21 : decode c_Mo_rankOf 21 = .ok (.iload_n 1, 1) := by decide +kernel
theorem d_Mo_rankOf_22 : decode c_Mo_rankOf 22 = .ok (.bipush 10, 2) := by decide +kernel
theorem d_Mo_rankOf_24 : decode c_Mo_rankOf 24 = .ok (.invokevirtual 74, 3) := by decide +kernel
theorem d_Mo_rankOf_27 : decode c_Mo_rankOf 27 = .ok (.invokevirtual 93, 3) := by decide +kernel
theorem d_Mo_rankOf_30 : decode c_Mo_rankOf 30 = .ok (.aload_n 0, 1) := by decide +kernel
theorem d_Mo_rankOf_31 : decode c_Mo_rankOf 31 = .ok (.aload_n 0, 1) := by decide +kernel
theorem d_Mo_rankOf_32 : decode c_Mo_rankOf 32 = .ok (.iload_n 1, 1) := by decide +kernel
theorem d_Mo_rankOf_33 : decode c_Mo_rankOf 33 = .ok (.bipush 9, 2) := by decide +kernel
theorem d_Mo_rankOf_35 : decode c_Mo_rankOf 35 = .ok (.invokevirtual 74, 3) := by decide +kernel
theorem d_Mo_rankOf_38 : decode c_Mo_rankOf 38 = .ok (.iconst 1, 1) := by decide +kernel
theorem d_Mo_rankOf_39 : decode c_Mo_rankOf 39 = .ok (.invokevirtual 90, 3) := by decide +kernel
theorem d_Mo_rankOf_42 : decode c_Mo_rankOf 42 = .ok (.invokestatic 100, 3) := by decide +kernel
theorem d_Mo_rankOf_45 : decode c_Mo_rankOf 45 = .ok (.istore 5, 2) := by decide +kernel
theorem d_Mo_rankOf_47 : decode c_Mo_rankOf 47 = .ok (.iload_n 3, 1) := by decide +kernel
theorem d_Mo_rankOf_48 : decode c_Mo_rankOf 48 = .ok (.iload 5, 2) := by decide +kernel
theorem d_Mo_rankOf_50 : decode c_Mo_rankOf 50 = .ok (.if_icmp .ge 11, 3) := by decide +kernel
theorem d_Mo_rankOf_53 : decode c_Mo_rankOf 53 = .ok (.bipush 100, 2) := by decide +kernel
theorem d_Mo_rankOf_55 : decode c_Mo_rankOf 55 = .ok (.iload 4, 2) := by decide +kernel
theorem d_Mo_rankOf_57 : decode c_Mo_rankOf 57 = .ok (.imul, 1) := by decide +kernel
theorem d_Mo_rankOf_58 : decode c_Mo_rankOf 58 = .ok (.iload_n 3, 1) := by decide +kernel
theorem d_Mo_rankOf_59 : decode c_Mo_rankOf 59 = .ok (.iadd, 1) := by decide +kernel
theorem d_Mo_rankOf_60 : decode c_Mo_rankOf 60 = .ok (.ireturn, 1) := by decide +kernel
theorem d_Mo_rankOf_61 : decode c_Mo_rankOf 61 = .ok (.iload_n 3, 1) := by decide +kernel
theorem d_Mo_rankOf_62 : decode c_Mo_rankOf 62 = .ok (.iload 5, 2) := by decide +kernel
theorem d_Mo_rankOf_64 : decode c_Mo_rankOf 64 = .ok (.isub, 1) := by decide +kernel
theorem d_Mo_rankOf_65 : decode c_Mo_rankOf 65 = .ok (.istore_n 3, 1) := by decide +kernel
theorem d_Mo_rankOf_66 : decode c_Mo_rankOf 66 = .ok (.iinc 4 1, 3) := by decide +kernel
theorem d_Mo_rankOf_69 : decode c_Mo_rankOf 69 = .ok (.goto (-64), 3) := by decide +kernel
theorem d_Mo_rankOf_72 : decode c_Mo_rankOf 72 = .ok (.bipush (-5), 2) := by decide +kernel
theorem d_Mo_rankOf_74 : decode c_Mo_rankOf 74 = .ok (.ireturn, 1) := by decide +kernel
theorem d_Mo_stripsOf_0 : decode c_Mo_stripsOf 0 = .ok (.iconst 0, 1) := by decide +kernel
theorem d_Mo_stripsOf_1 : decode c_Mo_stripsOf 1 = .ok (.istore_n 2, 1) := by decide +kernel
theorem d_Mo_stripsOf_2 : decode c_Mo_stripsOf 2 = .ok (.iconst 0, 1) := by decide +kernel
