theorem d_Te_takesBehindSizes_1 : decode c_Te_takesBehindSizes 1 = .ok (.getfield 55, 3) := by decide +kernel
theorem d_Te_takesBehindSizes_4 : decode c_Te_takesBehindSizes 4 = .ok (.ifCond .eq 15, 3) := by decide +kernel
theorem d_Te_takesBehindSizes_7 : decode c_Te_takesBehindSizes 7 = .ok (.iload_n 1, 1) := by decide +kernel
theorem d_Te_takesBehindSizes_8 : decode c_Te_takesBehindSizes 8 = .ok (.bipush 43, 2) := by decide +kernel
theorem d_Te_takesBehindSizes_10 : decode c_Te_takesBehindSizes 10 = .ok (.if_icmp .eq 11, 3) := by decide +kernel
theorem d_Te_takesBehindSizes_13 : decode c_Te_takesBehindSizes 13 = .ok (.iload_n 1, 1) := by decide +kernel
theorem d_Te_takesBehindSizes_14 : decode c_Te_takesBehindSizes 14 = .ok (.bipush 64, 2) := by decide +kernel
theorem d_Te_takesBehindSizes_16 : decode c_Te_takesBehindSizes 16 = .ok (.if_icmp .eq 5, 3) := by decide +kernel
theorem d_Te_takesBehindSizes_19 : decode c_Te_takesBehindSizes 19 = .ok (.iconst 0, 1) := by decide +kernel
theorem d_Te_takesBehindSizes_20 : decode c_Te_takesBehindSizes 20 = .ok (.ireturn, 1) := by decide +kernel
theorem d_Te_takesBehindSizes_21 : decode c_Te_takesBehindSizes 21 = .ok (.iload_n 1, 1) := by decide +kernel
theorem d_Te_takesBehindSizes_22 : decode c_Te_takesBehindSizes 22 = .ok (.bipush 43, 2) := by decide +kernel
theorem d_Te_takesBehindSizes_24 : decode c_Te_takesBehindSizes 24 = .ok (.if_icmp .ne 26, 3) := by decide +kernel
theorem d_Te_takesBehindSizes_27 : decode c_Te_takesBehindSizes 27 = .ok (.aload_n 0, 1) := by decide +kernel
theorem d_Te_takesBehindSizes_28 : decode c_Te_takesBehindSizes 28 = .ok (.getfield 23, 3) := by decide +kernel
theorem d_Te_takesBehindSizes_31 : decode c_Te_takesBehindSizes 31 = .ok (.getfield 76, 3) := by decide +kernel
theorem d_Te_takesBehindSizes_34 : decode c_Te_takesBehindSizes 34 = .ok (.aload_n 0, 1) := by decide +kernel
theorem d_Te_takesBehindSizes_35 : decode c_Te_takesBehindSizes 35 = .ok (.getfield 23, 3) := by decide +kernel
theorem d_Te_takesBehindSizes_38 : decode c_Te_takesBehindSizes 38 = .ok (.getfield 35, 3) := by decide +kernel
theorem d_Te_takesBehindSizes_41 : decode c_Te_takesBehindSizes 41 = .ok (.invokevirtual 41, 3) := by decide +kernel
theorem d_Te_takesBehindSizes_44 : decode c_Te_takesBehindSizes 44 = .ok (.iconst 2, 1) := by decide +kernel
theorem d_Te_takesBehindSizes_45 : decode c_Te_takesBehindSizes 45 = .ok (.if_icmp .lt 5, 3) := by decide +kernel
theorem d_Te_takesBehindSizes_48 : decode c_Te_takesBehindSizes 48 = .ok (.iconst 0, 1) := by decide +kernel
theorem d_Te_takesBehindSizes_49 : decode c_Te_takesBehindSizes 49 = .ok (.ireturn, 1) := by decide +kernel
theorem d_Te_takesBehindSizes_50 : decode c_Te_takesBehindSizes 50 = .ok (.aload_n 0, 1) := by decide +kernel
theorem d_Te_takesBehindSizes_51 : decode c_Te_takesBehindSizes 51 = .ok (.getfield 23, 3) := by decide +kernel
theorem d_Te_takesBehindSizes_54 : decode c_Te_takesBehindSizes 54 = .ok (.aload_n 0, 1) := by decide +kernel
theorem d_Te_takesBehindSizes_55 : decode c_Te_takesBehindSizes 55 = .ok (.getfield 73, 3) := by decide +kernel
theorem d_Te_takesBehindSizes_58 : decode c_Te_takesBehindSizes 58 = .ok (.aload_n 0, 1) := by decide +kernel
theorem d_Te_takesBehindSizes_59 : decode c_Te_takesBehindSizes 59 = .ok (.getfield 55, 3) := by decide +kernel
theorem d_Te_takesBehindSizes_62 : decode c_Te_takesBehindSizes 62 = .ok (.invokevirtual 79, 3) := by decide +kernel
theorem d_Te_takesBehindSizes_65 : decode c_Te_takesBehindSizes 65 = .ok (.aload_n 0, 1) := by decide +kernel
theorem d_Te_takesBehindSizes_66 : decode c_Te_takesBehindSizes 66 = .ok (.iconst 0, 1) := by decide +kernel
theorem d_Te_takesBehindSizes_67 : decode c_Te_takesBehindSizes 67 = .ok (.putfield 55, 3) := by decide +kernel
theorem d_Te_takesBehindSizes_70 : decode c_Te_takesBehindSizes 70 = .ok (.aload_n 0, 1) := by decide +kernel
theorem d_Te_takesBehindSizes_71 : decode c_Te_takesBehindSizes 71 = .ok (.iload_n 1, 1) := by decide +kernel
theorem d_Te_takesBehindSizes_72 : decode c_Te_takesBehindSizes 72 = .ok (.bipush 43, 2) := by decide +kernel
theorem d_Te_takesBehindSizes_74 : decode c_Te_takesBehindSizes 74 = .ok (.if_icmp .ne 7, 3) := by decide +kernel
theorem d_Te_takesBehindSizes_77 : decode c_Te_takesBehindSizes 77 = .ok (.iconst 0, 1) := by decide +kernel
theorem d_Te_takesBehindSizes_78 : decode c_Te_takesBehindSizes 78 = .ok (.goto 4, 3) := by decide +kernel
theorem d_Te_takesBehindSizes_81 : decode c_Te_takesBehindSizes 81 = .ok (.iconst 2, 1) := by decide +kernel
theorem d_Te_takesBehindSizes_82 : decode c_Te_takesBehindSizes 82 = .ok (.putfield 49, 3) := by decide +kernel
theorem d_Te_takesBehindSizes_85 : decode c_Te_takesBehindSizes 85 = .ok (.iconst 1, 1) := by decide +kernel
theorem d_Te_takesBehindSizes_86 : decode c_Te_takesBehindSizes 86 = .ok (.ireturn, 1) := by decide +kernel
theorem d_Te_takesLight_0 : decode c_Te_takesLight 0 = .ok (.iload_n 1, 1) := by decide +kernel
theorem d_Te_takesLight_1 : decode c_Te_takesLight 1 = .ok (.bipush 48, 2) := by decide +kernel
theorem d_Te_takesLight_3 : decode c_Te_takesLight 3 = .ok (.if_icmp .lt 9, 3) := by decide +kernel
theorem d_Te_takesLight_6 : decode c_Te_takesLight 6 = .ok (.iload_n 1, 1) := by decide +kernel
theorem d_Te_takesLight_7 : decode c_Te_takesLight 7 = .ok (.bipush 51, 2) := by decide +kernel
theorem d_Te_takesLight_9 : decode c_Te_takesLight 9 = .ok (.if_icmp .le 5, 3) := by decide +kernel
theorem d_Te_takesLight_12 : decode c_Te_takesLight 12 = .ok (.iconst 0, 1) := by decide +kernel
theorem d_Te_takesLight_13 : decode c_Te_takesLight 13 = .ok (.ireturn, 1) := by decide +kernel
theorem d_Te_takesLight_14 : decode c_Te_takesLight 14 = .ok (.aload_n 0, 1) := by decide +kernel
theorem d_Te_takesLight_15 : decode c_Te_takesLight 15 = .ok (.getfield 23, 3) := by decide +kernel
theorem d_Te_takesLight_18 : decode c_Te_takesLight 18 = .ok (.iload_n 1, 1) := by decide +kernel
theorem d_Te_takesLight_19 : decode c_Te_takesLight 19 = .ok (.bipush 48, 2) := by decide +kernel
theorem d_Te_takesLight_21 : decode c_Te_takesLight 21 = .ok (.isub, 1) := by decide +kernel
theorem d_Te_takesLight_22 : decode c_Te_takesLight 22 = .ok (.invokevirtual 82, 3) := by decide +kernel
theorem d_Te_takesLight_25 : decode c_Te_takesLight 25 = .ok (.aload_n 0, 1) := by decide +kernel
theorem d_Te_takesLight_26 : decode c_Te_takesLight 26 = .ok (.iconst 3, 1) := by decide +kernel
theorem d_Te_takesLight_27 : decode c_Te_takesLight 27 = .ok (.putfield 49, 3) := by decide +kernel
theorem d_Te_takesLight_30 : decode c_Te_takesLight 30 = .ok (.iconst 1, 1) := by decide +kernel
theorem d_Te_takesLight_31 : decode c_Te_takesLight 31 = .ok (.ireturn, 1) := by decide +kernel
theorem d_Te_takesBetweenRooms_0 : decode c_Te_takesBetweenRooms 0 = .ok (.iload_n 1, 1) := by decide +kernel
theorem d_Te_takesBetweenRooms_1 : decode c_Te_takesBetweenRooms 1 = .ok (.bipush 59, 2) := by decide +kernel
theorem d_Te_takesBetweenRooms_3 : decode c_Te_takesBetweenRooms 3 = .ok (.if_icmp .eq 5, 3) := by decide +kernel
theorem d_Te_takesBetweenRooms_6 : decode c_Te_takesBetweenRooms 6 = .ok (.iconst 0, 1) := by decide +kernel
theorem d_Te_takesBetweenRooms_7 : decode c_Te_takesBetweenRooms 7 = .ok (.ireturn, 1) := by decide +kernel
theorem d_Te_takesBetweenRooms_8 : decode c_Te_takesBetweenRooms 8 = .ok (.aload_n 0, 1) := by decide +kernel
theorem d_Te_takesBetweenRooms_9 : decode c_Te_takesBetweenRooms 9 = .ok (.invokevirtual 38, 3) := by decide +kernel
theorem d_Te_takesBetweenRooms_12 : decode c_Te_takesBetweenRooms 12 = .ok (.iconst 1, 1) := by decide +kernel
theorem d_Te_takesBetweenRooms_13 : decode c_Te_takesBetweenRooms 13 = .ok (.ireturn, 1) := by decide +kernel
theorem d_Rm_init_0 : decode c_Rm_init 0 = .ok (.aload_n 0, 1) := by decide +kernel
theorem d_Rm_init_1 : decode c_Rm_init 1 = .ok (.invokespecial 3, 3) := by decide +kernel
theorem d_Rm_init_4 : decode c_Rm_init 4 = .ok (.aload_n 0, 1) := by decide +kernel
theorem d_Rm_init_5 : decode c_Rm_init 5 = .ok (.new 9, 3) := by decide +kernel
theorem d_Rm_init_8 : decode c_Rm_init 8 = .ok (.dup, 1) := by decide +kernel
theorem d_Rm_init_9 : decode c_Rm_init 9 = .ok (.bipush 20, 2) := by decide +kernel
theorem d_Rm_init_11 : decode c_Rm_init 11 = .ok (.invokespecial 11, 3) := by decide +kernel
theorem d_Rm_init_14 : decode c_Rm_init 14 = .ok (.putfield 14, 3) := by decide +kernel
theorem d_Rm_init_17 : decode c_Rm_init 17 = .ok (.aload_n 0, 1) := by decide +kernel
theorem d_Rm_init_18 : decode c_Rm_init 18 = .ok (.new 9, 3) := by decide +kernel
theorem d_Rm_init_21 : decode c_Rm_init 21 = .ok (.dup, 1) := by decide +kernel
theorem d_Rm_init_22 : decode c_Rm_init 22 = .ok (.bipush 60, 2) := by decide +kernel
theorem d_Rm_init_24 : decode c_Rm_init 24 = .ok (.invokespecial 11, 3) := by decide +kernel
theorem d_Rm_init_27 : decode c_Rm_init 27 = .ok (.putfield 20, 3) := by decide +kernel
theorem d_Rm_init_30 : decode c_Rm_init 30 = .ok (.aload_n 0, 1) := by decide +kernel
theorem d_Rm_init_31 : decode c_Rm_init 31 = .ok (.new 9, 3) := by decide +kernel
theorem d_Rm_init_34 : decode c_Rm_init 34 = .ok (.dup, 1) := by decide +kernel
theorem d_Rm_init_35 : decode c_Rm_init 35 = .ok (.bipush 60, 2) := by decide +kernel
theorem d_Rm_init_37 : decode c_Rm_init 37 = .ok (.invokespecial 11, 3) := by decide +kernel
theorem d_Rm_init_40 : decode c_Rm_init 40 = .ok (.putfield 23, 3) := by decide +kernel
theorem d_Rm_init_43 : decode c_Rm_init 43 = .ok (.aload_n 0, 1) := by decide +kernel
theorem d_Rm_init_44 : decode c_Rm_init 44 = .ok (.new 9, 3) := by decide +kernel
theorem d_Rm_init_47 : decode c_Rm_init 47 = .ok (.dup, 1) := by decide +kernel
theorem d_Rm_init_48 : decode c_Rm_init 48 = .ok (.bipush 20, 2) := by decide +kernel
theorem d_Rm_init_50 : decode c_Rm_init 50 = .ok (.invokespecial 11, 3) := by decide +kernel
theorem d_Rm_init_53 : decode c_Rm_init 53 = .ok (.putfield 26, 3) := by decide +kernel
theorem d_Rm_init_56 : decode c_Rm_init 56 = .ok (.aload_n 0, 1) := by decide +kernel
theorem d_Rm_init_57 : decode c_Rm_init 57 = .ok (.new 9, 3) := by decide +kernel
theorem d_Rm_init_60 : decode c_Rm_init 60 = .ok (.dup, 1) := by decide +kernel
theorem d_Rm_init_61 : decode c_Rm_init 61 = .ok (.bipush 20, 2) := by decide +kernel
theorem d_Rm_init_63 : decode c_Rm_init 63 = .ok (.invokespecial 11, 3) := by decide +kernel
theorem d_Rm_init_66 : decode c_Rm_init 66 = .ok (.putfield 29, 3) := by decide +kernel
theorem d_Rm_init_69 : decode c_Rm_init 69 = .ok (.aload_n 0, 1) := by decide +kernel
theorem d_Rm_init_70 : decode c_Rm_init 70 = .ok (.new 9, 3) := by decide +kernel
theorem d_Rm_init_73 : decode c_Rm_init 73 = .ok (.dup, 1) := by decide +kernel
theorem d_Rm_init_74 : decode c_Rm_init 74 = .ok (.bipush 20, 2) := by decide +kernel
theorem d_Rm_init_76 : decode c_Rm_init 76 = .ok (.invokespecial 11, 3) := by decide +kernel
theorem d_Rm_init_79 : decode c_Rm_init 79 = .ok (.putfield 32, 3) := by decide +kernel
theorem d_Rm_init_82 : decode c_Rm_init 82 = .ok (.aload_n 0, 1) := by decide +kernel
theorem d_Rm_init_83 : decode c_Rm_init 83 = .ok (.new 9, 3) := by decide +kernel
theorem d_Rm_init_86 : decode c_Rm_init 86 = .ok (.dup, 1) := by decide +kernel
theorem d_Rm_init_87 : decode c_Rm_init 87 = .ok (.bipush 20, 2) := by decide +kernel
theorem d_Rm_init_89 : decode c_Rm_init 89 = .ok (.invokespecial 11, 3) := by decide +kernel
theorem d_Rm_init_92 : decode c_Rm_init 92 = .ok (.putfield 35, 3) := by decide +kernel
theorem d_Rm_init_95 : decode c_Rm_init 95 = .ok (.aload_n 0, 1) := by decide +kernel
theorem d_Rm_init_96 : decode c_Rm_init 96 = .ok (.new 9, 3) := by decide +kernel
theorem d_Rm_init_99 : decode c_Rm_init 99 = .ok (.dup, 1) := by decide +kernel
theorem d_Rm_init_100 : decode c_Rm_init 100 = .ok (.bipush 20, 2) := by decide +kernel
theorem d_Rm_init_102 : decode c_Rm_init 102 = .ok (.invokespecial 11, 3) := by decide +kernel
theorem d_Rm_init_105 : decode c_Rm_init 105 = .ok (.putfield 38, 3) := by decide +kernel
theorem d_Rm_init_108 : decode c_Rm_init 108 = .ok (.aload_n 0, 1) := by decide +kernel
theorem d_Rm_init_109 : decode c_Rm_init 109 = .ok (.new 9, 3) := by decide +kernel
theorem d_Rm_init_112 : decode c_Rm_init 112 = .ok (.dup, 1) := by decide +kernel
theorem d_Rm_init_113 : decode c_Rm_init 113 = .ok (.sipush 720, 3) := by decide +kernel
theorem d_Rm_init_116 : decode c_Rm_init 116 = .ok (.invokespecial 11, 3) := by decide +kernel
theorem d_Rm_init_119 : decode c_Rm_init 119 = .ok (.putfield 41, 3) := by decide +kernel
theorem d_Rm_init_122 : decode c_Rm_init 122 = .ok (.return_, 1) := by decide +kernel
theorem d_Rm_has_0 : decode c_Rm_has 0 = .ok (.iload_n 1, 1) := by decide +kernel
theorem d_Rm_has_1 : decode c_Rm_has 1 = .ok (.ifCond .lt 15, 3) := by decide +kernel
theorem d_Rm_has_4 : decode c_Rm_has 4 = .ok (.iload_n 1, 1) := by decide +kernel
theorem d_Rm_has_5 : decode c_Rm_has 5 = .ok (.aload_n 0, 1) := by decide +kernel
theorem d_Rm_has_6 : decode c_Rm_has 6 = .ok (.getfield 44, 3) := by decide +kernel
theorem d_Rm_has_9 : decode c_Rm_has 9 = .ok (.if_icmp .ge 7, 3) := by decide +kernel
theorem d_Rm_has_12 : decode c_Rm_has 12 = .ok (.iconst 1, 1) := by decide +kernel
theorem d_Rm_has_13 : decode c_Rm_has 13 = .ok (.goto 4, 3) := by decide +kernel
theorem d_Rm_has_16 : decode c_Rm_has 16 = .ok (.iconst 0, 1) := by decide +kernel
theorem d_Rm_has_17 : decode c_Rm_has 17 = .ok (.ireturn, 1) := by decide +kernel
theorem d_Rm_isCovered_0 : decode c_Rm_isCovered 0 = .ok (.aload_n 0, 1) := by decide +kernel
theorem d_Rm_isCovered_1 : decode c_Rm_isCovered 1 = .ok (.getfield 32, 3) := by decide +kernel
theorem d_Rm_isCovered_4 : decode c_Rm_isCovered 4 = .ok (.iload_n 1, 1) := by decide +kernel
theorem d_Rm_isCovered_5 : decode c_Rm_isCovered 5 = .ok (.invokevirtual 48, 3) := by decide +kernel
theorem d_Rm_isCovered_8 : decode c_Rm_isCovered 8 = .ok (.ifCond .le 7, 3) := by decide +kernel
theorem d_Rm_isCovered_11 : decode c_Rm_isCovered 11 = .ok (.iconst 1, 1) := by decide +kernel
theorem d_Rm_isCovered_12 : decode c_Rm_isCovered 12 = .ok (.goto 4, 3) := by decide +kernel
theorem d_Rm_isCovered_15 : decode c_Rm_isCovered 15 = .ok (.iconst 0, 1) := by decide +kernel
theorem d_Rm_isCovered_16 : decode c_Rm_isCovered 16 = .ok (.ireturn, 1) := by decide +kernel
theorem d_Rm_begin_0 : decode c_Rm_begin 0 = .ok (.aload_n 0, 1) := by decide +kernel
theorem d_Rm_begin_1 : decode c_Rm_begin 1 = .ok (.getfield 14, 3) := by decide +kernel
theorem d_Rm_begin_4 : decode c_Rm_begin 4 = .ok (.aload_n 0, 1) := by decide +kernel
theorem d_Rm_begin_5 : decode c_Rm_begin 5 = .ok (.getfield 44, 3) := by decide +kernel
theorem d_Rm_begin_8 : decode c_Rm_begin 8 = .ok (.iconst 0, 1) := by decide +kernel
theorem d_Rm_begin_9 : decode c_Rm_begin 9 = .ok (.invokevirtual 52, 3) := by decide +kernel
theorem d_Rm_begin_12 : decode c_Rm_begin 12 = .ok (.aload_n 0, 1) := by decide +kernel
theorem d_Rm_begin_13 : decode c_Rm_begin 13 = .ok (.getfield 32, 3) := by decide +kernel
theorem d_Rm_begin_16 : decode c_Rm_begin 16 = .ok (.aload_n 0, 1) := by decide +kernel
theorem d_Rm_begin_17 : decode c_Rm_begin 17 = .ok (.getfield 44, 3) := by decide +kernel
theorem d_Rm_begin_20 : decode c_Rm_begin 20 = .ok (.iconst 0, 1) := by decide +kernel
theorem d_Rm_begin_21 : decode c_Rm_begin 21 = .ok (.invokevirtual 52, 3) := by decide +kernel
theorem d_Rm_begin_24 : decode c_Rm_begin 24 = .ok (.return_, 1) := by decide +kernel
theorem d_Rm_addRectangle_0 : decode c_Rm_addRectangle 0 = .ok (.aload_n 0, 1) := by decide +kernel
theorem d_Rm_addRectangle_1 : decode c_Rm_addRectangle 1 = .ok (.aload_n 0, 1) := by decide +kernel
theorem d_Rm_addRectangle_2 : decode c_Rm_addRectangle 2 = .ok (.getfield 44, 3) := by decide +kernel
theorem d_Rm_addRectangle_5 : decode c_Rm_addRectangle 5 = .ok (.aload_n 0, 1) := by decide +kernel
theorem d_Rm_addRectangle_6 : decode c_Rm_addRectangle 6 = .ok (.getfield 14, 3) := by decide +kernel
theorem d_Rm_addRectangle_9 : decode c_Rm_addRectangle 9 = .ok (.aload_n 0, 1) := by decide +kernel
theorem d_Rm_addRectangle_10 : decode c_Rm_addRectangle 10 = .ok (.getfield 44, 3) := by decide +kernel
theorem d_Rm_addRectangle_13 : decode c_Rm_addRectangle 13 = .ok (.invokevirtual 48, 3) := by decide +kernel
theorem d_Rm_addRectangle_16 : decode c_Rm_addRectangle 16 = .ok (.invokevirtual 56, 3) := by decide +kernel
theorem d_Rm_addRectangle_19 : decode c_Rm_addRectangle 19 = .ok (.istore_n 3, 1) := by decide +kernel
theorem d_Rm_addRectangle_20 : decode c_Rm_addRectangle 20 = .ok (.aload_n 0, 1) := by decide +kernel
theorem d_Rm_addRectangle_21 : decode c_Rm_addRectangle 21 = .ok (.getfield 20, 3) := by decide +kernel
theorem d_Rm_addRectangle_24 : decode c_Rm_addRectangle 24 = .ok (.iload_n 3, 1) := by decide +kernel
theorem d_Rm_addRectangle_25 : decode c_Rm_addRectangle 25 = .ok (.iload_n 1, 1) := by decide +kernel
theorem d_Rm_addRectangle_26 : decode c_Rm_addRectangle 26 = .ok (.invokevirtual 52, 3) := by decide +kernel
theorem d_Rm_addRectangle_29 : decode c_Rm_addRectangle 29 = .ok (.aload_n 0, 1) := by decide +kernel
theorem d_Rm_addRectangle_30 : decode c_Rm_addRectangle 30 = .ok (.getfield 23, 3) := by decide +kernel
theorem d_Rm_addRectangle_33 : decode c_Rm_addRectangle 33 = .ok (.iload_n 3, 1) := by decide +kernel
theorem d_Rm_addRectangle_34 : decode c_Rm_addRectangle 34 = .ok (.iload_n 2, 1) := by decide +kernel
theorem d_Rm_addRectangle_35 : decode c_Rm_addRectangle 35 = .ok (.invokevirtual 52, 3) := by decide +kernel
theorem d_Rm_addRectangle_38 : decode c_Rm_addRectangle 38 = .ok (.aload_n 0, 1) := by decide +kernel
theorem d_Rm_addRectangle_39 : decode c_Rm_addRectangle 39 = .ok (.getfield 14, 3) := by decide +kernel
theorem d_Rm_addRectangle_42 : decode c_Rm_addRectangle 42 = .ok (.aload_n 0, 1) := by decide +kernel
theorem d_Rm_addRectangle_43 : decode c_Rm_addRectangle 43 = .ok (.getfield 44, 3) := by decide +kernel
theorem d_Rm_addRectangle_46 : decode c_Rm_addRectangle 46 = .ok (.iconst 1, 1) := by decide +kernel
theorem d_Rm_addRectangle_47 : decode c_Rm_addRectangle 47 = .ok (.invokevirtual 60, 3) := by decide +kernel
theorem d_Rm_addRectangle_50 : decode c_Rm_addRectangle 50 = .ok (.return_, 1) := by decide +kernel
theorem d_Rm_finish_0 : decode c_Rm_finish 0 = .ok (.aload_n 0, 1) := by decide +kernel
theorem d_Rm_finish_1 : decode c_Rm_finish 1 = .ok (.getfield 26, 3) := by decide +kernel
theorem d_Rm_finish_4 : decode c_Rm_finish 4 = .ok (.aload_n 0, 1) := by decide +kernel
theorem d_Rm_finish_5 : decode c_Rm_finish 5 = .ok (.getfield 44, 3) := by decide +kernel
theorem d_Rm_finish_8 : decode c_Rm_finish 8 = .ok (.iload_n 1, 1) := by decide +kernel
theorem d_Rm_finish_9 : decode c_Rm_finish 9 = .ok (.invokevirtual 52, 3) := by decide +kernel
theorem d_Rm_finish_12 : decode c_Rm_finish 12 = .ok (.aload_n 0, 1) := by decide +kernel
theorem d_Rm_finish_13 : decode c_Rm_finish 13 = .ok (.dup, 1) := by decide +kernel
theorem d_Rm_finish_14 : decode c_Rm_finish 14 = .ok (.getfield 44, 3) := by decide +kernel
theorem d_Rm_finish_17 : decode c_Rm_finish 17 = .ok (.iconst 1, 1) := by decide +kernel
theorem d_Rm_finish_18 : decode c_Rm_finish 18 = .ok (.iadd, 1) := by decide +kernel
theorem d_Rm_finish_19 : decode c_Rm_finish 19 = .ok (.putfield 44, 3) := by decide +kernel
theorem d_Rm_finish_22 : decode c_Rm_finish 22 = .ok (.return_, 1) := by decide +kernel
theorem d_Rm_appendAll_0 : decode c_Rm_appendAll 0 = .ok (.aload_n 1, 1) := by decide +kernel
theorem d_Rm_appendAll_1 : decode c_Rm_appendAll 1 = .ok (.getfield 44, 3) := by decide +kernel
theorem d_Rm_appendAll_4 : decode c_Rm_appendAll 4 = .ok (.istore_n 2, 1) := by decide +kernel
theorem d_Rm_appendAll_5 : decode c_Rm_appendAll 5 = .ok (.iconst 0, 1) := by decide +kernel
theorem d_Rm_appendAll_6 : decode c_Rm_appendAll 6 = .ok (.istore_n 3, 1) := by decide +kernel
theorem d_Rm_appendAll_7 : decode c_Rm_appendAll 7 = .ok (.iload_n 3, 1) := by decide +kernel
theorem d_Rm_appendAll_8 : decode c_Rm_appendAll 8 = .ok (.iload_n 2, 1) := by decide +kernel
theorem d_Rm_appendAll_9 : decode c_Rm_appendAll 9 = .ok (.if_icmp .ge 82, 3) := by decide +kernel
theorem d_Rm_appendAll_12 : decode c_Rm_appendAll 12 = .ok (.aload_n 0, 1) := by decide +kernel
theorem d_Rm_appendAll_13 : decode c_Rm_appendAll 13 = .ok (.invokevirtual 63, 3) := by decide +kernel
theorem d_Rm_appendAll_16 : decode c_Rm_appendAll 16 = .ok (.aload_n 1, 1) := by decide +kernel
theorem d_Rm_appendAll_17 : decode c_Rm_appendAll 17 = .ok (.getfield 14, 3) := by decide +kernel
theorem d_Rm_appendAll_20 : decode c_Rm_appendAll 20 = .ok (.iload_n 3, 1) := by decide +kernel
theorem d_Rm_appendAll_21 : decode c_Rm_appendAll 21 = .ok (.invokevirtual 48, 3) := by decide +kernel
theorem d_Rm_appendAll_24 : decode c_Rm_appendAll 24 = .ok (.istore 4, 2) := by decide +kernel
theorem d_Rm_appendAll_26 : decode c_Rm_appendAll 26 = .ok (.iconst 0, 1) := by decide +kernel
theorem d_Rm_appendAll_27 : decode c_Rm_appendAll 27 = .ok (.istore 5, 2) := by decide +kernel
theorem d_Rm_appendAll_29 : decode c_Rm_appendAll 29 = .ok (.iload 5, 2) := by decide +kernel
theorem d_Rm_appendAll_31 : decode c_Rm_appendAll 31 = .ok (.iload 4, 2) := by decide +kernel
theorem d_Rm_appendAll_33 : decode c_Rm_appendAll 33 = .ok (.if_icmp .ge 40, 3) := by decide +kernel
theorem d_Rm_appendAll_36 : decode c_Rm_appendAll 36 = .ok (.aload_n 1, 1) := by decide +kernel
theorem d_Rm_appendAll_37 : decode c_Rm_appendAll 37 = .ok (.iload_n 3, 1) := by decide +kernel
theorem d_Rm_appendAll_38 : decode c_Rm_appendAll 38 = .ok (.iload 5, 2) := by decide +kernel
theorem d_Rm_appendAll_40 : decode c_Rm_appendAll 40 = .ok (.invokevirtual 56, 3) := by decide +kernel
theorem d_Rm_appendAll_43 : decode c_Rm_appendAll 43 = .ok (.istore 6, 2) := by decide +kernel
theorem d_Rm_appendAll_45 : decode c_Rm_appendAll 45 = .ok (.aload_n 0, 1) := by decide +kernel
theorem d_Rm_appendAll_46 : decode c_Rm_appendAll 46 = .ok (.aload_n 1, 1) := by decide +kernel
theorem d_Rm_appendAll_47 : decode c_Rm_appendAll 47 = .ok (.getfield 20, 3) := by decide +kernel
theorem d_Rm_appendAll_50 : decode c_Rm_appendAll 50 = .ok (.iload 6, 2) := by decide +kernel
theorem d_Rm_appendAll_52 : decode c_Rm_appendAll 52 = .ok (.invokevirtual 48, 3) := by decide +kernel
theorem d_Rm_appendAll_55 : decode c_Rm_appendAll 55 = .ok (.aload_n 1, 1) := by decide +kernel
theorem d_Rm_appendAll_56 : decode c_Rm_appendAll 56 = .ok (.getfield 23, 3) := by decide +kernel
theorem d_Rm_appendAll_59 : decode c_Rm_appendAll 59 = .ok (.iload 6, 2) := by decide +kernel
theorem d_Rm_appendAll_61 : decode c_Rm_appendAll 61 = .ok (.invokevirtual 48, 3) := by decide +kernel
theorem d_Rm_appendAll_64 : decode c_Rm_appendAll 64 = .ok (.invokevirtual 66, 3) := by decide +kernel
theorem d_Rm_appendAll_67 : decode c_Rm_appendAll 67 = .ok (.iinc 5 1, 3) := by decide +kernel
theorem d_Rm_appendAll_70 : decode c_Rm_appendAll 70 = .ok (.goto (-41), 3) := by decide +kernel
theorem d_Rm_appendAll_73 : decode c_Rm_appendAll 73 = .ok (.aload_n 0, 1) := by decide +kernel
theorem d_Rm_appendAll_74 : decode c_Rm_appendAll 74 = .ok (.aload_n 1, 1) := by decide +kernel
theorem d_Rm_appendAll_75 : decode c_Rm_appendAll 75 = .ok (.getfield 26, 3) := by decide +kernel
theorem d_Rm_appendAll_78 : decode c_Rm_appendAll 78 = .ok (.iload_n 3, 1) := by decide +kernel
theorem d_Rm_appendAll_79 : decode c_Rm_appendAll 79 = .ok (.invokevirtual 48, 3) := by decide +kernel
theorem d_Rm_appendAll_82 : decode c_Rm_appendAll 82 = .ok (.invokevirtual 69, 3) := by decide +kernel
theorem d_Rm_appendAll_85 : decode c_Rm_appendAll 85 = .ok (.iinc 3 1, 3) := by decide +kernel
theorem d_Rm_appendAll_88 : decode c_Rm_appendAll 88 = .ok (.goto (-81), 3) := by decide +kernel
theorem d_Rm_appendAll_91 : decode c_Rm_appendAll 91 = .ok (.return_, 1) := by decide +kernel
theorem d_Rm_cell_0 : decode c_Rm_cell 0 = .ok (.iload_n 1, 1) := by decide +kernel
theorem d_Rm_cell_1 : decode c_Rm_cell 1 = .ok (.iconst 3, 1) := by decide +kernel
theorem d_Rm_cell_2 : decode c_Rm_cell 2 = .ok (.imul, 1) := by decide +kernel
theorem d_Rm_cell_3 : decode c_Rm_cell 3 = .ok (.iload_n 2, 1) := by decide +kernel
theorem d_Rm_cell_4 : decode c_Rm_cell 4 = .ok (.iadd, 1) := by decide +kernel
theorem d_Rm_cell_5 : decode c_Rm_cell 5 = .ok (.ireturn, 1) := by decide +kernel
theorem d_Rm_area_0 : decode c_Rm_area 0 = .ok (.iconst 0, 1) := by decide +kernel
theorem d_Rm_area_1 : decode c_Rm_area 1 = .ok (.istore_n 2, 1) := by decide +kernel
theorem d_Rm_area_2 : decode c_Rm_area 2 = .ok (.aload_n 0, 1) := by decide +kernel
theorem d_Rm_area_3 : decode c_Rm_area 3 = .ok (.getfield 14, 3) := by decide +kernel
theorem d_Rm_area_6 : decode c_Rm_area 6 = .ok (.iload_n 1, 1) := by decide +kernel
theorem d_Rm_area_7 : decode c_Rm_area 7 = .ok (.invokevirtual 48, 3) := by decide +kernel
theorem d_Rm_area_10 : decode c_Rm_area 10 = .ok (.istore_n 3, 1) := by decide +kernel
theorem d_Rm_area_11 : decode c_Rm_area 11 = .ok (.iconst 0, 1) := by decide +kernel
theorem d_Rm_area_12 : decode c_Rm_area 12 = .ok (.istore 4, 2) := by decide +kernel
theorem d_Rm_area_14 : decode c_Rm_area 14 = .ok (.iload 4, 2) := by decide +kernel
theorem d_Rm_area_16 : decode c_Rm_area 16 = .ok (.iload_n 3, 1) := by decide +kernel
theorem d_Rm_area_17 : decode c_Rm_area 17 = .ok (.if_icmp .ge 40, 3) := by decide +kernel
theorem d_Rm_area_20 : decode c_Rm_area 20 = .ok (.aload_n 0, 1) := by decide +kernel
theorem d_Rm_area_21 : decode c_Rm_area 21 = .ok (.iload_n 1, 1) := by decide +kernel
theorem d_Rm_area_22 : decode c_Rm_area 22 = .ok (.iload 4, 2) := by decide +kernel
theorem d_Rm_area_24 : decode c_Rm_area 24 = .ok (.invokevirtual 56, 3) := by decide +kernel
theorem d_Rm_area_27 : decode c_Rm_area 27 = .ok (.istore 5, 2) := by decide +kernel
theorem d_Rm_area_29 : decode c_Rm_area 29 = .ok (.iload_n 2, 1) := by decide +kernel
theorem d_Rm_area_30 : decode c_Rm_area 30 = .ok (.aload_n 0, 1) := by decide +kernel
theorem d_Rm_area_31 : decode c_Rm_area 31 = .ok (.getfield 20, 3) := by decide +kernel
theorem d_Rm_area_34 : decode c_Rm_area 34 = .ok (.iload 5, 2) := by decide +kernel
theorem d_Rm_area_36 : decode c_Rm_area 36 = .ok (.invokevirtual 48, 3) := by decide +kernel
theorem d_Rm_area_39 : decode c_Rm_area 39 = .ok (.aload_n 0, 1) := by decide +kernel
theorem d_Rm_area_40 : decode c_Rm_area 40 = .ok (.getfield 23, 3) := by decide +kernel
theorem d_Rm_area_43 : decode c_Rm_area 43 = .ok (.iload 5, 2) := by decide +kernel
theorem d_Rm_area_45 : decode c_Rm_area 45 = .ok (.invokevirtual 48, 3) := by decide +kernel
theorem d_Rm_area_48 : decode c_Rm_area 48 = .ok (.imul, 1) := by decide +kernel
theorem d_Rm_area_49 : decode c_Rm_area 49 = .ok (.iadd, 1) := by decide +kernel
theorem d_Rm_area_50 : decode c_Rm_area 50 = .ok (.istore_n 2, 1) := by decide +kernel
theorem d_Rm_area_51 : decode c_Rm_area 51 = .ok (.iinc 4 1, 3) := by decide +kernel
theorem d_Rm_area_54 : decode c_Rm_area 54 = .ok (.goto (-40), 3) := by decide +kernel
theorem d_Rm_area_57 : decode c_Rm_area 57 = .ok (.iload_n 2, 1) := by decide +kernel
theorem d_Rm_area_58 : decode c_Rm_area 58 = .ok (.ireturn, 1) := by decide +kernel
theorem d_Rm_covered_0 : decode c_Rm_covered 0 = .ok (.iconst 0, 1) := by decide +kernel
theorem d_Rm_covered_1 : decode c_Rm_covered 1 = .ok (.istore_n 1, 1) := by decide +kernel
theorem d_Rm_covered_2 : decode c_Rm_covered 2 = .ok (.iconst 0, 1) := by decide +kernel
theorem d_Rm_covered_3 : decode c_Rm_covered 3 = .ok (.istore_n 2, 1) := by decide +kernel
theorem d_Rm_covered_4 : decode c_Rm_covered 4 = .ok (.iload_n 2, 1) := by decide +kernel
theorem d_Rm_covered_5 : decode c_Rm_covered 5 = .ok (.aload_n 0, 1) := by decide +kernel
theorem d_Rm_covered_6 : decode c_Rm_covered 6 = .ok (.getfield 44, 3) := by decide +kernel
theorem d_Rm_covered_9 : decode c_Rm_covered 9 = .ok (.if_icmp .ge 20, 3) := by decide +kernel
theorem d_Rm_covered_12 : decode c_Rm_covered 12 = .ok (.aload_n 0, 1) := by decide +kernel
theorem d_Rm_covered_13 : decode c_Rm_covered 13 = .ok (.iload_n 2, 1) := by decide +kernel
theorem d_Rm_covered_14 : decode c_Rm_covered 14 = .ok (.invokevirtual 72, 3) := by decide +kernel
theorem d_Rm_covered_17 : decode c_Rm_covered 17 = .ok (.ifCond .eq 6, 3) := by decide +kernel
theorem d_Rm_covered_20 : decode c_Rm_covered 20 = .ok (.iinc 1 1, 3) := by decide +kernel
theorem d_Rm_covered_23 : decode c_Rm_covered 23 = .ok (.iinc 2 1, 3) := by decide +kernel
theorem d_Rm_covered_26 : decode c_Rm_covered 26 = .ok (.goto (-22), 3) := by decide +kernel
theorem d_Rm_covered_29 : decode c_Rm_covered 29 = .ok (.iload_n 1, 1) := by decide +kernel
theorem d_Rm_covered_30 : decode c_Rm_covered 30 = .ok (.ireturn, 1) := by decide +kernel
theorem d_Rm_coveredArea_0 : decode c_Rm_coveredArea 0 = .ok (.iconst 0, 1) := by decide +kernel
theorem d_Rm_coveredArea_1 : decode c_Rm_coveredArea 1 = .ok (.istore_n 1, 1) := by decide +kernel
theorem d_Rm_coveredArea_2 : decode c_Rm_coveredArea 2 = .ok (.iconst 0, 1) := by decide +kernel
theorem d_Rm_coveredArea_3 : decode c_Rm_coveredArea 3 = .ok (.istore_n 2, 1) := by decide +kernel
theorem d_Rm_coveredArea_4 : decode c_Rm_coveredArea 4 = .ok (.iload_n 2, 1) := by decide +kernel
theorem d_Rm_coveredArea_5 : decode c_Rm_coveredArea 5 = .ok (.aload_n 0, 1) := by decide +kernel
theorem d_Rm_coveredArea_6 : decode c_Rm_coveredArea 6 = .ok (.getfield 44, 3) := by decide +kernel
theorem d_Rm_coveredArea_9 : decode c_Rm_coveredArea 9 = .ok (.if_icmp .ge 25, 3) := by decide +kernel
theorem d_Rm_coveredArea_12 : decode c_Rm_coveredArea 12 = .ok (.aload_n 0, 1) := by decide +kernel
theorem d_Rm_coveredArea_13 : decode c_Rm_coveredArea 13 = .ok (.iload_n 2, 1) := by decide +kernel
theorem d_Rm_coveredArea_14 : decode c_Rm_coveredArea 14 = .ok (.invokevirtual 72, 3) := by decide +kernel
theorem d_Rm_coveredArea_17 : decode c_Rm_coveredArea 17 = .ok (.ifCond .eq 11, 3) := by decide +kernel
theorem d_Rm_coveredArea_20 : decode c_Rm_coveredArea 20 = .ok (.iload_n 1, 1) := by decide +kernel
theorem d_Rm_coveredArea_21 : decode c_Rm_coveredArea 21 = .ok (.aload_n 0, 1) := by decide +kernel
theorem d_Rm_coveredArea_22 : decode c_Rm_coveredArea 22 = .ok (.iload_n 2, 1) := by decide +kernel
theorem d_Rm_coveredArea_23 : decode c_Rm_coveredArea 23 = .ok (.invokevirtual 76, 3) := by decide +kernel
theorem d_Rm_coveredArea_26 : decode c_Rm_coveredArea 26 = .ok (.iadd, 1) := by decide +kernel
theorem d_Rm_coveredArea_27 : decode c_Rm_coveredArea 27 = .ok (.istore_n 1, 1) := by decide +kernel
theorem d_Rm_coveredArea_28 : decode c_Rm_coveredArea 28 = .ok (.iinc 2 1, 3) := by decide +kernel
theorem d_Rm_coveredArea_31 : decode c_Rm_coveredArea 31 = .ok (.goto (-27), 3) := by decide +kernel
theorem d_Rm_coveredArea_34 : decode c_Rm_coveredArea 34 = .ok (.iload_n 1, 1) := by decide +kernel
theorem d_Rm_coveredArea_35 : decode c_Rm_coveredArea 35 = .ok (.ireturn, 1) := by decide +kernel
theorem d_Rm_isAcross_0 : decode c_Rm_isAcross 0 = .ok (.aload_n 0, 1) := by decide +kernel
theorem d_Rm_isAcross_1 : decode c_Rm_isAcross 1 = .ok (.getfield 26, 3) := by decide +kernel
theorem d_Rm_isAcross_4 : decode c_Rm_isAcross 4 = .ok (.iload_n 1, 1) := by decide +kernel
theorem d_Rm_isAcross_5 : decode c_Rm_isAcross 5 = .ok (.invokevirtual 48, 3) := by decide +kernel
theorem d_Rm_isAcross_8 : decode c_Rm_isAcross 8 = .ok (.ifCond .eq 15, 3) := by decide +kernel
theorem d_Rm_isAcross_11 : decode c_Rm_isAcross 11 = .ok (.aload_n 0, 1) := by decide +kernel
theorem d_Rm_isAcross_12 : decode c_Rm_isAcross 12 = .ok (.getfield 26, 3) := by decide +kernel
theorem d_Rm_isAcross_15 : decode c_Rm_isAcross 15 = .ok (.iload_n 1, 1) := by decide +kernel
theorem d_Rm_isAcross_16 : decode c_Rm_isAcross 16 = .ok (.invokevirtual 48, 3) := by decide +kernel
theorem d_Rm_isAcross_19 : decode c_Rm_isAcross 19 = .ok (.iconst 2, 1) := by decide +kernel
theorem d_Rm_isAcross_20 : decode c_Rm_isAcross 20 = .ok (.if_icmp .ne 7, 3) := by decide +kernel
theorem d_Rm_isAcross_23 : decode c_Rm_isAcross 23 = .ok (.iconst 1, 1) := by decide +kernel
theorem d_Rm_isAcross_24 : decode c_Rm_isAcross 24 = .ok (.goto 4, 3) := by decide +kernel
theorem d_Rm_isAcross_27 : decode c_Rm_isAcross 27 = .ok (.iconst 0, 1) := by decide +kernel
theorem d_Rm_isAcross_28 : decode c_Rm_isAcross 28 = .ok (.istore_n 3, 1) := by decide +kernel
theorem d_Rm_isAcross_29 : decode c_Rm_isAcross 29 = .ok (.iload_n 3, 1) := by decide +kernel
theorem d_Rm_isAcross_30 : decode c_Rm_isAcross 30 = .ok (.ifCond .eq 16, 3) := by decide +kernel
theorem d_Rm_isAcross_33 : decode c_Rm_isAcross 33 = .ok (.iload_n 2, 1) := by decide +kernel
theorem d_Rm_isAcross_34 : decode c_Rm_isAcross 34 = .ok (.iconst 1, 1) := by decide +kernel
theorem d_Rm_isAcross_35 : decode c_Rm_isAcross 35 = .ok (.if_icmp .ne 7, 3) := by decide +kernel
theorem d_Rm_isAcross_38 : decode c_Rm_isAcross 38 = .ok (.iconst 1, 1) := by decide +kernel
theorem d_Rm_isAcross_39 : decode c_Rm_isAcross 39 = .ok (.goto 16, 3) := by decide +kernel
theorem d_Rm_isAcross_42 : decode c_Rm_isAcross 42 = .ok (.iconst 0, 1) := by decide +kernel
theorem d_Rm_isAcross_43 : decode c_Rm_isAcross 43 = .ok (.goto 12, 3) := by decide +kernel
theorem d_Rm_isAcross_46 : decode c_Rm_isAcross 46 = .ok (.iload_n 2, 1) := by decide +kernel
theorem d_Rm_isAcross_47 : decode c_Rm_isAcross 47 = .ok (.ifCond .ne 7, 3) := by decide +kernel
theorem d_Rm_isAcross_50 : decode c_Rm_isAcross 50 = .ok (.iconst 1, 1) := by decide +kernel
theorem d_Rm_isAcross_51 : decode c_Rm_isAcross 51 = .ok (.goto 4, 3) := by decide +kernel
theorem d_Rm_isAcross_54 : decode c_Rm_isAcross 54 = .ok (.iconst 0, 1) := by decide +kernel
theorem d_Rm_isAcross_55 : decode c_Rm_isAcross 55 = .ok (.ireturn, 1) := by decide +kernel
theorem d_Rm_rectangleWidth_0 : decode c_Rm_rectangleWidth 0 = .ok (.iload_n 3, 1) := by decide +kernel
theorem d_Rm_rectangleWidth_1 : decode c_Rm_rectangleWidth 1 = .ok (.ifCond .ne 10, 3) := by decide +kernel
theorem d_Rm_rectangleWidth_4 : decode c_Rm_rectangleWidth 4 = .ok (.aload_n 0, 1) := by decide +kernel
theorem d_Rm_rectangleWidth_5 : decode c_Rm_rectangleWidth 5 = .ok (.getfield 20, 3) := by decide +kernel
theorem d_Rm_rectangleWidth_8 : decode c_Rm_rectangleWidth 8 = .ok (.goto 7, 3) := by decide +kernel
theorem d_Rm_rectangleWidth_11 : decode c_Rm_rectangleWidth 11 = .ok (.aload_n 0, 1) := by decide +kernel
theorem d_Rm_rectangleWidth_12 : decode c_Rm_rectangleWidth 12 = .ok (.getfield 23, 3) := by decide +kernel
theorem d_Rm_rectangleWidth_15 : decode c_Rm_rectangleWidth 15 = .ok (.astore 4, 2) := by decide +kernel
theorem d_Rm_rectangleWidth_17 : decode c_Rm_rectangleWidth 17 = .ok (.aload 4, 2) := by decide +kernel
theorem d_Rm_rectangleWidth_19 : decode c_Rm_rectangleWidth 19 = .ok (.aload_n 0, 1) := by decide +kernel
theorem d_Rm_rectangleWidth_20 : decode c_Rm_rectangleWidth 20 = .ok (.iload_n 1, 1) := by decide +kernel
theorem d_Rm_rectangleWidth_21 : decode c_Rm_rectangleWidth 21 = .ok (.iload_n 2, 1) := by decide +kernel
theorem d_Rm_rectangleWidth_22 : decode c_Rm_rectangleWidth 22 = .ok (.invokevirtual 56, 3) := by decide +kernel
theorem d_Rm_rectangleWidth_25 : decode c_Rm_rectangleWidth 25 = .ok (.invokevirtual 48, 3) := by decide +kernel
theorem d_Rm_rectangleWidth_28 : decode c_Rm_rectangleWidth 28 = .ok (.ireturn, 1) := by decide +kernel
theorem d_Rm_rectangleLength_0 : decode c_Rm_rectangleLength 0 = .ok (.iload_n 3, 1) := by decide +kernel
theorem d_Rm_rectangleLength_1 : decode c_Rm_rectangleLength 1 = .ok (.ifCond .ne 10, 3) := by decide +kernel
theorem d_Rm_rectangleLength_4 : decode c_Rm_rectangleLength 4 = .ok (.aload_n 0, 1) := by decide +kernel
theorem d_Rm_rectangleLength_5 : decode c_Rm_rectangleLength 5 = .ok (.getfield 23, 3) := by decide +kernel
theorem d_Rm_rectangleLength_8 : decode c_Rm_rectangleLength 8 = .ok (.goto 7, 3) := by decide +kernel
theorem d_Rm_rectangleLength_11 : decode c_Rm_rectangleLength 11 = .ok (.aload_n 0, 1) := by decide +kernel
theorem d_Rm_rectangleLength_12 : decode c_Rm_rectangleLength 12 = .ok (.getfield 20, 3) := by decide +kernel
theorem d_Rm_rectangleLength_15 : decode c_Rm_rectangleLength 15 = .ok (.astore 4, 2) := by decide +kernel
theorem d_Rm_rectangleLength_17 : decode c_Rm_rectangleLength 17 = .ok (.aload 4, 2) := by decide +kernel
theorem d_Rm_rectangleLength_19 : decode c_Rm_rectangleLength 19 = .ok (.aload_n 0, 1) := by decide +kernel
theorem d_Rm_rectangleLength_20 : decode c_Rm_rectangleLength 20 = .ok (.iload_n 1, 1) := by decide +kernel
theorem d_Rm_rectangleLength_21 : decode c_Rm_rectangleLength 21 = .ok (.iload_n 2, 1) := by decide +kernel
theorem d_Rm_rectangleLength_22 : decode c_Rm_rectangleLength 22 = .ok (.invokevirtual 56, 3) := by decide +kernel
theorem d_Rm_rectangleLength_25 : decode c_Rm_rectangleLength 25 = .ok (.invokevirtual 48, 3) := by decide +kernel
theorem d_Rm_rectangleLength_28 : decode c_Rm_rectangleLength 28 = .ok (.ireturn, 1) := by decide +kernel
theorem d_Rm_putCovering_0 : decode c_Rm_putCovering 0 = .ok (.aload_n 0, 1) := by decide +kernel
theorem d_Rm_putCovering_1 : decode c_Rm_putCovering 1 = .ok (.getfield 29, 3) := by decide +kernel
theorem d_Rm_putCovering_4 : decode c_Rm_putCovering 4 = .ok (.iload_n 1, 1) := by decide +kernel
theorem d_Rm_putCovering_5 : decode c_Rm_putCovering 5 = .ok (.iload_n 2, 1) := by decide +kernel
theorem d_Rm_putCovering_6 : decode c_Rm_putCovering 6 = .ok (.invokevirtual 52, 3) := by decide +kernel
theorem d_Rm_putCovering_9 : decode c_Rm_putCovering 9 = .ok (.aload_n 0, 1) := by decide +kernel
theorem d_Rm_putCovering_10 : decode c_Rm_putCovering 10 = .ok (.getfield 32, 3) := by decide +kernel
theorem d_Rm_putCovering_13 : decode c_Rm_putCovering 13 = .ok (.iload_n 1, 1) := by decide +kernel
theorem d_Rm_putCovering_14 : decode c_Rm_putCovering 14 = .ok (.iload_n 3, 1) := by decide +kernel
theorem d_Rm_putCovering_15 : decode c_Rm_putCovering 15 = .ok (.invokevirtual 52, 3) := by decide +kernel
theorem d_Rm_putCovering_18 : decode c_Rm_putCovering 18 = .ok (.aload_n 0, 1) := by decide +kernel
theorem d_Rm_putCovering_19 : decode c_Rm_putCovering 19 = .ok (.getfield 35, 3) := by decide +kernel
theorem d_Rm_putCovering_22 : decode c_Rm_putCovering 22 = .ok (.iload_n 1, 1) := by decide +kernel
theorem d_Rm_putCovering_23 : decode c_Rm_putCovering 23 = .ok (.iload 4, 2) := by decide +kernel
theorem d_Rm_putCovering_25 : decode c_Rm_putCovering 25 = .ok (.invokevirtual 52, 3) := by decide +kernel
theorem d_Rm_putCovering_28 : decode c_Rm_putCovering 28 = .ok (.return_, 1) := by decide +kernel
theorem d_Rm_putBare_0 : decode c_Rm_putBare 0 = .ok (.aload_n 0, 1) := by decide +kernel
theorem d_Rm_putBare_1 : decode c_Rm_putBare 1 = .ok (.getfield 32, 3) := by decide +kernel
theorem d_Rm_putBare_4 : decode c_Rm_putBare 4 = .ok (.iload_n 1, 1) := by decide +kernel
theorem d_Rm_putBare_5 : decode c_Rm_putBare 5 = .ok (.iconst 0, 1) := by decide +kernel
theorem d_Rm_putBare_6 : decode c_Rm_putBare 6 = .ok (.invokevirtual 52, 3) := by decide +kernel
theorem d_Rm_putBare_9 : decode c_Rm_putBare 9 = .ok (.return_, 1) := by decide +kernel
theorem d_Rm_putSource_0 : decode c_Rm_putSource 0 = .ok (.aload_n 0, 1) := by decide +kernel
theorem d_Rm_putSource_1 : decode c_Rm_putSource 1 = .ok (.getfield 41, 3) := by decide +kernel
theorem d_Rm_putSource_4 : decode c_Rm_putSource 4 = .ok (.iload_n 1, 1) := by decide +kernel
theorem d_Rm_putSource_5 : decode c_Rm_putSource 5 = .ok (.bipush 36, 2) := by decide +kernel
theorem d_Rm_putSource_7 : decode c_Rm_putSource 7 = .ok (.imul, 1) := by decide +kernel
theorem d_Rm_putSource_8 : decode c_Rm_putSource 8 = .ok (.iload_n 2, 1) := by decide +kernel
theorem d_Rm_putSource_9 : decode c_Rm_putSource 9 = .ok (.iadd, 1) := by decide +kernel
theorem d_Rm_putSource_10 : decode c_Rm_putSource 10 = .ok (.iload_n 3, 1) := by decide +kernel
theorem d_Rm_putSource_11 : decode c_Rm_putSource 11 = .ok (.invokevirtual 52, 3) := by decide +kernel
theorem d_Rm_putSource_14 : decode c_Rm_putSource 14 = .ok (.return_, 1) := by decide +kernel
theorem d_Rm_source_0 : decode c_Rm_source 0 = .ok (.aload_n 0, 1) := by decide +kernel
theorem d_Rm_source_1 : decode c_Rm_source 1 = .ok (.getfield 41, 3) := by decide +kernel
theorem d_Rm_source_4 : decode c_Rm_source 4 = .ok (.iload_n 1, 1) := by decide +kernel
theorem d_Rm_source_5 : decode c_Rm_source 5 = .ok (.bipush 36, 2) := by decide +kernel
theorem d_Rm_source_7 : decode c_Rm_source 7 = .ok (.imul, 1) := by decide +kernel
theorem d_Rm_source_8 : decode c_Rm_source 8 = .ok (.iload_n 2, 1) := by decide +kernel
theorem d_Rm_source_9 : decode c_Rm_source 9 = .ok (.iadd, 1) := by decide +kernel
theorem d_Rm_source_10 : decode c_Rm_source 10 = .ok (.invokevirtual 48, 3) := by decide +kernel
theorem d_Rm_source_13 : decode c_Rm_source 13 = .ok (.ireturn, 1) := by decide +kernel
theorem d_Rm_stripsIn_0 : decode c_Rm_stripsIn 0 = .ok (.aload_n 0, 1) := by decide +kernel
theorem d_Rm_stripsIn_1 : decode c_Rm_stripsIn 1 = .ok (.getfield 32, 3) := by decide +kernel
theorem d_Rm_stripsIn_4 : decode c_Rm_stripsIn 4 = .ok (.iload_n 1, 1) := by decide +kernel
theorem d_Rm_stripsIn_5 : decode c_Rm_stripsIn 5 = .ok (.invokevirtual 48, 3) := by decide +kernel
theorem d_Rm_stripsIn_8 : decode c_Rm_stripsIn 8 = .ok (.istore_n 3, 1) := by decide +kernel
theorem d_Rm_stripsIn_9 : decode c_Rm_stripsIn 9 = .ok (.iload_n 3, 1) := by decide +kernel
theorem d_Rm_stripsIn_10 : decode c_Rm_stripsIn 10 = .ok (.ifCond .gt 5, 3) := by decide +kernel
theorem d_Rm_stripsIn_13 : decode c_Rm_stripsIn 13 = .ok (.iconst 0, 1) := by decide +kernel
theorem d_Rm_stripsIn_14 : decode c_Rm_stripsIn 14 = .ok (.ireturn, 1) := by decide +kernel
theorem d_Rm_stripsIn_15 : decode c_Rm_stripsIn 15 = .ok (.aload_n 0, 1) := by decide +kernel
theorem d_Rm_stripsIn_16 : decode c_Rm_stripsIn 16 = .ok (.iload_n 1, 1) := by decide +kernel
theorem d_Rm_stripsIn_17 : decode c_Rm_stripsIn 17 = .ok (.iload_n 2, 1) := by decide +kernel
theorem d_Rm_stripsIn_18 : decode c_Rm_stripsIn 18 = .ok (.aload_n 0, 1) := by decide +kernel
theorem d_Rm_stripsIn_19 : decode c_Rm_stripsIn 19 = .ok (.getfield 35, 3) := by decide +kernel
theorem d_Rm_stripsIn_22 : decode c_Rm_stripsIn 22 = .ok (.iload_n 1, 1) := by decide +kernel
theorem d_Rm_stripsIn_23 : decode c_Rm_stripsIn 23 = .ok (.invokevirtual 48, 3) := by decide +kernel
theorem d_Rm_stripsIn_26 : decode c_Rm_stripsIn 26 = .ok (.invokevirtual 79, 3) := by decide +kernel
theorem d_Rm_stripsIn_29 : decode c_Rm_stripsIn 29 = .ok (.iload_n 3, 1) := by decide +kernel
theorem d_Rm_stripsIn_30 : decode c_Rm_stripsIn 30 = .ok (.iadd, 1) := by decide +kernel
theorem d_Rm_stripsIn_31 : decode c_Rm_stripsIn 31 = .ok (.iconst 1, 1) := by decide +kernel
theorem d_Rm_stripsIn_32 : decode c_Rm_stripsIn 32 = .ok (.isub, 1) := by decide +kernel
theorem d_Rm_stripsIn_33 : decode c_Rm_stripsIn 33 = .ok (.iload_n 3, 1) := by decide +kernel
theorem d_Rm_stripsIn_34 : decode c_Rm_stripsIn 34 = .ok (.idiv, 1) := by decide +kernel
theorem d_Rm_stripsIn_35 : decode c_Rm_stripsIn 35 = .ok (.ireturn, 1) := by decide +kernel
theorem d_Rm_strips_0 : decode c_Rm_strips 0 = .ok (.iconst 0, 1) := by decide +kernel
theorem d_Rm_strips_1 : decode c_Rm_strips 1 = .ok (.istore_n 2, 1) := by decide +kernel
theorem d_Rm_strips_2 : decode c_Rm_strips 2 = .ok (.aload_n 0, 1) := by decide +kernel
theorem d_Rm_strips_3 : decode c_Rm_strips 3 = .ok (.getfield 14, 3) := by decide +kernel
theorem d_Rm_strips_6 : decode c_Rm_strips 6 = .ok (.iload_n 1, 1) := by decide +kernel
theorem d_Rm_strips_7 : decode c_Rm_strips 7 = .ok (.invokevirtual 48, 3) := by decide +kernel
theorem d_Rm_strips_10 : decode c_Rm_strips 10 = .ok (.istore_n 3, 1) := by decide +kernel
theorem d_Rm_strips_11 : decode c_Rm_strips 11 = .ok (.iconst 0, 1) := by decide +kernel
theorem d_Rm_strips_12 : decode c_Rm_strips 12 = .ok (.istore 4, 2) := by decide +kernel
theorem d_Rm_strips_14 : decode c_Rm_strips 14 = .ok (.iload 4, 2) := by decide +kernel
theorem d_Rm_strips_16 : decode c_Rm_strips 16 = .ok (.iload_n 3, 1) := by decide +kernel
theorem d_Rm_strips_17 : decode c_Rm_strips 17 = .ok (.if_icmp .ge 19, 3) := by decide +kernel
theorem d_Rm_strips_20 : decode c_Rm_strips 20 = .ok (.iload_n 2, 1) := by decide +kernel
theorem d_Rm_strips_21 : decode c_Rm_strips 21 = .ok (.aload_n 0, 1) := by decide +kernel
theorem d_Rm_strips_22 : decode c_Rm_strips 22 = .ok (.iload_n 1, 1) := by decide +kernel
theorem d_Rm_strips_23 : decode c_Rm_strips 23 = .ok (.iload 4, 2) := by decide +kernel
theorem d_Rm_strips_25 : decode c_Rm_strips 25 = .ok (.invokevirtual 83, 3) := by decide +kernel
theorem d_Rm_strips_28 : decode c_Rm_strips 28 = .ok (.iadd, 1) := by decide +kernel
theorem d_Rm_strips_29 : decode c_Rm_strips 29 = .ok (.istore_n 2, 1) := by decide +kernel
theorem d_Rm_strips_30 : decode c_Rm_strips 30 = .ok (.iinc 4 1, 3) := by decide +kernel
theorem d_Rm_strips_33 : decode c_Rm_strips 33 = .ok (.goto (-19), 3) := by decide +kernel
theorem d_Rm_strips_36 : decode c_Rm_strips 36 = .ok (.iload_n 2, 1) := by decide +kernel
theorem d_Rm_strips_37 : decode c_Rm_strips 37 = .ok (.ireturn, 1) := by decide +kernel
theorem d_Rm_seams_0 : decode c_Rm_seams 0 = .ok (.iconst 0, 1) := by decide +kernel
theorem d_Rm_seams_1 : decode c_Rm_seams 1 = .ok (.istore_n 2, 1) := by decide +kernel
theorem d_Rm_seams_2 : decode c_Rm_seams 2 = .ok (.aload_n 0, 1) := by decide +kernel
theorem d_Rm_seams_3 : decode c_Rm_seams 3 = .ok (.getfield 14, 3) := by decide +kernel
theorem d_Rm_seams_6 : decode c_Rm_seams 6 = .ok (.iload_n 1, 1) := by decide +kernel
theorem d_Rm_seams_7 : decode c_Rm_seams 7 = .ok (.invokevirtual 48, 3) := by decide +kernel
theorem d_Rm_seams_10 : decode c_Rm_seams 10 = .ok (.istore_n 3, 1) := by decide +kernel
theorem d_Rm_seams_11 : decode c_Rm_seams 11 = .ok (.iconst 0, 1) := by decide +kernel
theorem d_Rm_seams_12 : decode c_Rm_seams 12 = .ok (.istore 4, 2) := by decide +kernel
theorem d_Rm_seams_14 : decode c_Rm_seams 14 = .ok (.iload 4, 2) := by decide +kernel
theorem d_Rm_seams_16 : decode c_Rm_seams 16 = .ok (.iload_n 3, 1) := by decide +kernel
theorem d_Rm_seams_17 : decode c_Rm_seams 17 = .ok (.if_icmp .ge 37, 3) := by decide +kernel
theorem d_Rm_seams_20 : decode c_Rm_seams 20 = .ok (.iload_n 2, 1) := by decide +kernel
theorem d_Rm_seams_21 : decode c_Rm_seams 21 = .ok (.aload_n 0, 1) := by decide +kernel
theorem d_Rm_seams_22 : decode c_Rm_seams 22 = .ok (.iload_n 1, 1) := by decide +kernel
theorem d_Rm_seams_23 : decode c_Rm_seams 23 = .ok (.iload 4, 2) := by decide +kernel
theorem d_Rm_seams_25 : decode c_Rm_seams 25 = .ok (.invokevirtual 83, 3) := by decide +kernel
theorem d_Rm_seams_28 : decode c_Rm_seams 28 = .ok (.iconst 1, 1) := by decide +kernel
theorem d_Rm_seams_29 : decode c_Rm_seams 29 = .ok (.isub, 1) := by decide +kernel
theorem d_Rm_seams_30 : decode c_Rm_seams 30 = .ok (.aload_n 0, 1) := by decide +kernel
theorem d_Rm_seams_31 : decode c_Rm_seams 31 = .ok (.iload_n 1, 1) := by decide +kernel
theorem d_Rm_seams_32 : decode c_Rm_seams 32 = .ok (.iload 4, 2) := by decide +kernel
theorem d_Rm_seams_34 : decode c_Rm_seams 34 = .ok (.aload_n 0, 1) := by decide +kernel
theorem d_Rm_seams_35 : decode c_Rm_seams 35 = .ok (.getfield 35, 3) := by decide +kernel
theorem d_Rm_seams_38 : decode c_Rm_seams 38 = .ok (.iload_n 1, 1) := by decide +kernel
theorem d_Rm_seams_39 : decode c_Rm_seams 39 = .ok (.invokevirtual 48, 3) := by decide +kernel
theorem d_Rm_seams_42 : decode c_Rm_seams 42 = .ok (.invokevirtual 86, 3) := by decide +kernel
theorem d_Rm_seams_45 : decode c_Rm_seams 45 = .ok (.imul, 1) := by decide +kernel
theorem d_Rm_seams_46 : decode c_Rm_seams 46 = .ok (.iadd, 1) := by decide +kernel
theorem d_Rm_seams_47 : decode c_Rm_seams 47 = .ok (.istore_n 2, 1) := by decide +kernel
theorem d_Rm_seams_48 : decode c_Rm_seams 48 = .ok (.iinc 4 1, 3) := by decide +kernel
theorem d_Rm_seams_51 : decode c_Rm_seams 51 = .ok (.goto (-37), 3) := by decide +kernel
theorem d_Rm_seams_54 : decode c_Rm_seams 54 = .ok (.iload_n 2, 1) := by decide +kernel
theorem d_Rm_seams_55 : decode c_Rm_seams 55 = .ok (.ireturn, 1) := by decide +kernel
theorem d_Rm_stripWidth_0 : decode c_Rm_stripWidth 0 = .ok (.iload_n 2, 1) := by decide +kernel
theorem d_Rm_stripWidth_1 : decode c_Rm_stripWidth 1 = .ok (.istore_n 3, 1) := by decide +kernel
theorem d_Rm_stripWidth_2 : decode c_Rm_stripWidth 2 = .ok (.aload_n 0, 1) := by decide +kernel
theorem d_Rm_stripWidth_3 : decode c_Rm_stripWidth 3 = .ok (.getfield 14, 3) := by decide +kernel
theorem d_Rm_stripWidth_6 : decode c_Rm_stripWidth 6 = .ok (.iload_n 1, 1) := by decide +kernel
theorem d_Rm_stripWidth_7 : decode c_Rm_stripWidth 7 = .ok (.invokevirtual 48, 3) := by decide +kernel
theorem d_Rm_stripWidth_10 : decode c_Rm_stripWidth 10 = .ok (.istore 4, 2) := by decide +kernel
theorem d_Rm_stripWidth_12 : decode c_Rm_stripWidth 12 = .ok (.iconst 0, 1) := by decide +kernel
theorem d_Rm_stripWidth_13 : decode c_Rm_stripWidth 13 = .ok (.istore 5, 2) := by decide +kernel
theorem d_Rm_stripWidth_15 : decode c_Rm_stripWidth 15 = .ok (.iload 5, 2) := by decide +kernel
theorem d_Rm_stripWidth_17 : decode c_Rm_stripWidth 17 = .ok (.iload 4, 2) := by decide +kernel
theorem d_Rm_stripWidth_19 : decode c_Rm_stripWidth 19 = .ok (.if_icmp .ge 65, 3) := by decide +kernel
theorem d_Rm_stripWidth_22 : decode c_Rm_stripWidth 22 = .ok (.aload_n 0, 1) := by decide +kernel
theorem d_Rm_stripWidth_23 : decode c_Rm_stripWidth 23 = .ok (.iload_n 1, 1) := by decide +kernel
theorem d_Rm_stripWidth_24 : decode c_Rm_stripWidth 24 = .ok (.iload 5, 2) := by decide +kernel
theorem d_Rm_stripWidth_26 : decode c_Rm_stripWidth 26 = .ok (.invokevirtual 83, 3) := by decide +kernel
theorem d_Rm_stripWidth_29 : decode c_Rm_stripWidth 29 = .ok (.istore 6, 2) := by decide +kernel
theorem d_Rm_stripWidth_31 : decode c_Rm_stripWidth 31 = .ok (.iload_n 3, 1) := by decide +kernel
theorem d_Rm_stripWidth_32 : decode c_Rm_stripWidth 32 = .ok (.iload 6, 2) := by decide +kernel
theorem d_Rm_stripWidth_34 : decode c_Rm_stripWidth 34 = .ok (.if_icmp .ge 39, 3) := by decide +kernel
theorem d_Rm_stripWidth_37 : decode c_Rm_stripWidth 37 = .ok (.aload_n 0, 1) := by decide +kernel
theorem d_Rm_stripWidth_38 : decode c_Rm_stripWidth 38 = .ok (.getfield 32, 3) := by decide +kernel
theorem d_Rm_stripWidth_41 : decode c_Rm_stripWidth 41 = .ok (.iload_n 1, 1) := by decide +kernel
theorem d_Rm_stripWidth_42 : decode c_Rm_stripWidth 42 = .ok (.invokevirtual 48, 3) := by decide +kernel
theorem d_Rm_stripWidth_45 : decode c_Rm_stripWidth 45 = .ok (.istore 7, 2) := by decide +kernel
theorem d_Rm_stripWidth_47 : decode c_Rm_stripWidth 47 = .ok (.iload 7, 2) := by decide +kernel
theorem d_Rm_stripWidth_49 : decode c_Rm_stripWidth 49 = .ok (.aload_n 0, 1) := by decide +kernel
theorem d_Rm_stripWidth_50 : decode c_Rm_stripWidth 50 = .ok (.iload_n 1, 1) := by decide +kernel
theorem d_Rm_stripWidth_51 : decode c_Rm_stripWidth 51 = .ok (.iload 5, 2) := by decide +kernel
theorem d_Rm_stripWidth_53 : decode c_Rm_stripWidth 53 = .ok (.aload_n 0, 1) := by decide +kernel
theorem d_Rm_stripWidth_54 : decode c_Rm_stripWidth 54 = .ok (.getfield 35, 3) := by decide +kernel
theorem d_Rm_stripWidth_57 : decode c_Rm_stripWidth 57 = .ok (.iload_n 1, 1) := by decide +kernel
theorem d_Rm_stripWidth_58 : decode c_Rm_stripWidth 58 = .ok (.invokevirtual 48, 3) := by decide +kernel
theorem d_Rm_stripWidth_61 : decode c_Rm_stripWidth 61 = .ok (.invokevirtual 79, 3) := by decide +kernel
theorem d_Rm_stripWidth_64 : decode c_Rm_stripWidth 64 = .ok (.iload_n 3, 1) := by decide +kernel
theorem d_Rm_stripWidth_65 : decode c_Rm_stripWidth 65 = .ok (.iload 7, 2) := by decide +kernel
theorem d_Rm_stripWidth_67 : decode c_Rm_stripWidth 67 = .ok (.imul, 1) := by decide +kernel
theorem d_Rm_stripWidth_68 : decode c_Rm_stripWidth 68 = .ok (.isub, 1) := by decide +kernel
theorem d_Rm_stripWidth_69 : decode c_Rm_stripWidth 69 = .ok (.invokestatic 89, 3) := by decide +kernel
theorem d_Rm_stripWidth_72 : decode c_Rm_stripWidth 72 = .ok (.ireturn, 1) := by decide +kernel
theorem d_Rm_stripWidth_73 : decode c_Rm_stripWidth 73 = .ok (.iload_n 3, 1) := by decide +kernel
theorem d_Rm_stripWidth_74 : decode c_Rm_stripWidth 74 = .ok (.iload 6, 2) := by decide +kernel
theorem d_Rm_stripWidth_76 : decode c_Rm_stripWidth 76 = .ok (.isub, 1) := by decide +kernel
theorem d_Rm_stripWidth_77 : decode c_Rm_stripWidth 77 = .ok (.istore_n 3, 1) := by decide +kernel
theorem d_Rm_stripWidth_78 : decode c_Rm_stripWidth 78 = .ok (.iinc 5 1, 3) := by decide +kernel
theorem d_Rm_stripWidth_81 : decode c_Rm_stripWidth 81 = .ok (.goto (-66), 3) := by decide +kernel
theorem d_Rm_stripWidth_84 : decode c_Rm_stripWidth 84 = .ok (.iconst 0, 1) := by decide +kernel
theorem d_Rm_stripWidth_85 : decode c_Rm_stripWidth 85 = .ok (.ireturn, 1) := by decide +kernel
theorem d_Rm_stripLength_0 : decode c_Rm_stripLength 0 = .ok (.iload_n 2, 1) := by decide +kernel
theorem d_Rm_stripLength_1 : decode c_Rm_stripLength 1 = .ok (.istore_n 3, 1) := by decide +kernel
theorem d_Rm_stripLength_2 : decode c_Rm_stripLength 2 = .ok (.aload_n 0, 1) := by decide +kernel
theorem d_Rm_stripLength_3 : decode c_Rm_stripLength 3 = .ok (.getfield 14, 3) := by decide +kernel
theorem d_Rm_stripLength_6 : decode c_Rm_stripLength 6 = .ok (.iload_n 1, 1) := by decide +kernel
theorem d_Rm_stripLength_7 : decode c_Rm_stripLength 7 = .ok (.invokevirtual 48, 3) := by decide +kernel
theorem d_Rm_stripLength_10 : decode c_Rm_stripLength 10 = .ok (.istore 4, 2) := by decide +kernel
theorem d_Rm_stripLength_12 : decode c_Rm_stripLength 12 = .ok (.iconst 0, 1) := by decide +kernel
theorem d_Rm_stripLength_13 : decode c_Rm_stripLength 13 = .ok (.istore 5, 2) := by decide +kernel
theorem d_Rm_stripLength_15 : decode c_Rm_stripLength 15 = .ok (.iload 5, 2) := by decide +kernel
theorem d_Rm_stripLength_17 : decode c_Rm_stripLength 17 = .ok (.iload 4, 2) := by decide +kernel
theorem d_Rm_stripLength_19 : decode c_Rm_stripLength 19 = .ok (.if_icmp .ge 45, 3) := by decide +kernel
theorem d_Rm_stripLength_22 : decode c_Rm_stripLength 22 = .ok (.aload_n 0, 1) := by decide +kernel
theorem d_Rm_stripLength_23 : decode c_Rm_stripLength 23 = .ok (.iload_n 1, 1) := by decide +kernel
theorem d_Rm_stripLength_24 : decode c_Rm_stripLength 24 = .ok (.iload 5, 2) := by decide +kernel
theorem d_Rm_stripLength_26 : decode c_Rm_stripLength 26 = .ok (.invokevirtual 83, 3) := by decide +kernel
theorem d_Rm_stripLength_29 : decode c_Rm_stripLength 29 = .ok (.istore 6, 2) := by decide +kernel
theorem d_Rm_stripLength_31 : decode c_Rm_stripLength 31 = .ok (.iload_n 3, 1) := by decide +kernel
theorem d_Rm_stripLength_32 : decode c_Rm_stripLength 32 = .ok (.iload 6, 2) := by decide +kernel
theorem d_Rm_stripLength_34 : decode c_Rm_stripLength 34 = .ok (.if_icmp .ge 19, 3) := by decide +kernel
theorem d_Rm_stripLength_37 : decode c_Rm_stripLength 37 = .ok (.aload_n 0, 1) := by decide +kernel
theorem d_Rm_stripLength_38 : decode c_Rm_stripLength 38 = .ok (.iload_n 1, 1) := by decide +kernel
theorem d_Rm_stripLength_39 : decode c_Rm_stripLength 39 = .ok (.iload 5, 2) := by decide +kernel
theorem d_Rm_stripLength_41 : decode c_Rm_stripLength 41 = .ok (.aload_n 0, 1) := by decide +kernel
theorem d_Rm_stripLength_42 : decode c_Rm_stripLength 42 = .ok (.getfield 35, 3) := by decide +kernel
theorem d_Rm_stripLength_45 : decode c_Rm_stripLength 45 = .ok (.iload_n 1, 1) := by decide +kernel
theorem d_Rm_stripLength_46 : decode c_Rm_stripLength 46 = .ok (.invokevirtual 48, 3) := by decide +kernel
theorem d_Rm_stripLength_49 : decode c_Rm_stripLength 49 = .ok (.invokevirtual 86, 3) := by decide +kernel
theorem d_Rm_stripLength_52 : decode c_Rm_stripLength 52 = .ok (.ireturn, 1) := by decide +kernel
theorem d_Rm_stripLength_53 : decode c_Rm_stripLength 53 = .ok (.iload_n 3, 1) := by decide +kernel
theorem d_Rm_stripLength_54 : decode c_Rm_stripLength 54 = .ok (.iload 6, 2) := by decide +kernel
theorem d_Rm_stripLength_56 : decode c_Rm_stripLength 56 = .ok (.isub, 1) := by decide +kernel
theorem d_Rm_stripLength_57 : decode c_Rm_stripLength 57 = .ok (.istore_n 3, 1) := by decide +kernel
theorem d_Rm_stripLength_58 : decode c_Rm_stripLength 58 = .ok (.iinc 5 1, 3) := by decide +kernel
theorem d_Rm_stripLength_61 : decode c_Rm_stripLength 61 = .ok (.goto (-46), 3) := by decide +kernel
theorem d_Rm_stripLength_64 : decode c_Rm_stripLength 64 = .ok (.iconst 0, 1) := by decide +kernel
theorem d_Rm_stripLength_65 : decode c_Rm_stripLength 65 = .ok (.ireturn, 1) := by decide +kernel
theorem d_Rm_copyFrom_0 : decode c_Rm_copyFrom 0 = .ok (.aload_n 0, 1) := by decide +kernel
theorem d_Rm_copyFrom_1 : decode c_Rm_copyFrom 1 = .ok (.aload_n 1, 1) := by decide +kernel
theorem d_Rm_copyFrom_2 : decode c_Rm_copyFrom 2 = .ok (.getfield 44, 3) := by decide +kernel
theorem d_Rm_copyFrom_5 : decode c_Rm_copyFrom 5 = .ok (.putfield 44, 3) := by decide +kernel
theorem d_Rm_copyFrom_8 : decode c_Rm_copyFrom 8 = .ok (.aload_n 0, 1) := by decide +kernel
theorem d_Rm_copyFrom_9 : decode c_Rm_copyFrom 9 = .ok (.getfield 14, 3) := by decide +kernel
theorem d_Rm_copyFrom_12 : decode c_Rm_copyFrom 12 = .ok (.aload_n 1, 1) := by decide +kernel
theorem d_Rm_copyFrom_13 : decode c_Rm_copyFrom 13 = .ok (.getfield 14, 3) := by decide +kernel
theorem d_Rm_copyFrom_16 : decode c_Rm_copyFrom 16 = .ok (.invokevirtual 100, 3) := by decide +kernel
theorem d_Rm_copyFrom_19 : decode c_Rm_copyFrom 19 = .ok (.aload_n 0, 1) := by decide +kernel
theorem d_Rm_copyFrom_20 : decode c_Rm_copyFrom 20 = .ok (.getfield 20, 3) := by decide +kernel
theorem d_Rm_copyFrom_23 : decode c_Rm_copyFrom 23 = .ok (.aload_n 1, 1) := by decide +kernel
theorem d_Rm_copyFrom_24 : decode c_Rm_copyFrom 24 = .ok (.getfield 20, 3) := by decide +kernel
theorem d_Rm_copyFrom_27 : decode c_Rm_copyFrom 27 = .ok (.invokevirtual 100, 3) := by decide +kernel
theorem d_Rm_copyFrom_30 : decode c_Rm_copyFrom 30 = .ok (.aload_n 0, 1) := by decide +kernel
theorem d_Rm_copyFrom_31 : decode c_Rm_copyFrom 31 = .ok (.getfield 23, 3) := by decide +kernel
theorem d_Rm_copyFrom_34 : decode c_Rm_copyFrom 34 = .ok (.aload_n 1, 1) := by decide +kernel
theorem d_Rm_copyFrom_35 : decode c_Rm_copyFrom 35 = .ok (.getfield 23, 3) := by decide +kernel
theorem d_Rm_copyFrom_38 : decode c_Rm_copyFrom 38 = .ok (.invokevirtual 100, 3) := by decide +kernel
theorem d_Rm_copyFrom_41 : decode c_Rm_copyFrom 41 = .ok (.aload_n 0, 1) := by decide +kernel
theorem d_Rm_copyFrom_42 : decode c_Rm_copyFrom 42 = .ok (.getfield 26, 3) := by decide +kernel
theorem d_Rm_copyFrom_45 : decode c_Rm_copyFrom 45 = .ok (.aload_n 1, 1) := by decide +kernel
theorem d_Rm_copyFrom_46 : decode c_Rm_copyFrom 46 = .ok (.getfield 26, 3) := by decide +kernel
theorem d_Rm_copyFrom_49 : decode c_Rm_copyFrom 49 = .ok (.invokevirtual 100, 3) := by decide +kernel
theorem d_Rm_copyFrom_52 : decode c_Rm_copyFrom 52 = .ok (.aload_n 0, 1) := by decide +kernel
theorem d_Rm_copyFrom_53 : decode c_Rm_copyFrom 53 = .ok (.getfield 29, 3) := by decide +kernel
theorem d_Rm_copyFrom_56 : decode c_Rm_copyFrom 56 = .ok (.aload_n 1, 1) := by decide +kernel
theorem d_Rm_copyFrom_57 : decode c_Rm_copyFrom 57 = .ok (.getfield 29, 3) := by decide +kernel
theorem d_Rm_copyFrom_60 : decode c_Rm_copyFrom 60 = .ok (.invokevirtual 100, 3) := by decide +kernel
theorem d_Rm_copyFrom_63 : decode c_Rm_copyFrom 63 = .ok (.aload_n 0, 1) := by decide +kernel
theorem d_Rm_copyFrom_64 : decode c_Rm_copyFrom 64 = .ok (.getfield 32, 3) := by decide +kernel
theorem d_Rm_copyFrom_67 : decode c_Rm_copyFrom 67 = .ok (.aload_n 1, 1) := by decide +kernel
theorem d_Rm_copyFrom_68 : decode c_Rm_copyFrom 68 = .ok (.getfield 32, 3) := by decide +kernel
theorem d_Rm_copyFrom_71 : decode c_Rm_copyFrom 71 = .ok (.invokevirtual 100, 3) := by decide +kernel
theorem d_Rm_copyFrom_74 : decode c_Rm_copyFrom 74 = .ok (.aload_n 0, 1) := by decide +kernel
theorem d_Rm_copyFrom_75 : decode c_Rm_copyFrom 75 = .ok (.getfield 35, 3) := by decide +kernel
theorem d_Rm_copyFrom_78 : decode c_Rm_copyFrom 78 = .ok (.aload_n 1, 1) := by decide +kernel
theorem d_Rm_copyFrom_79 : decode c_Rm_copyFrom 79 = .ok (.getfield 35, 3) := by decide +kernel
theorem d_Rm_copyFrom_82 : decode c_Rm_copyFrom 82 = .ok (.invokevirtual 100, 3) := by decide +kernel
theorem d_Rm_copyFrom_85 : decode c_Rm_copyFrom 85 = .ok (.aload_n 0, 1) := by decide +kernel
theorem d_Rm_copyFrom_86 : decode c_Rm_copyFrom 86 = .ok (.getfield 38, 3) := by decide +kernel
theorem d_Rm_copyFrom_89 : decode c_Rm_copyFrom 89 = .ok (.aload_n 1, 1) := by decide +kernel
theorem d_Rm_copyFrom_90 : decode c_Rm_copyFrom 90 = .ok (.getfield 38, 3) := by decide +kernel
theorem d_Rm_copyFrom_93 : decode c_Rm_copyFrom 93 = .ok (.invokevirtual 100, 3) := by decide +kernel
theorem d_Rm_copyFrom_96 : decode c_Rm_copyFrom 96 = .ok (.aload_n 0, 1) := by decide +kernel
theorem d_Rm_copyFrom_97 : decode c_Rm_copyFrom 97 = .ok (.getfield 41, 3) := by decide +kernel
theorem d_Rm_copyFrom_100 : decode c_Rm_copyFrom 100 = .ok (.aload_n 1, 1) := by decide +kernel
theorem d_Rm_copyFrom_101 : decode c_Rm_copyFrom 101 = .ok (.getfield 41, 3) := by decide +kernel
theorem d_Rm_copyFrom_104 : decode c_Rm_copyFrom 104 = .ok (.invokevirtual 100, 3) := by decide +kernel
theorem d_Rm_copyFrom_107 : decode c_Rm_copyFrom 107 = .ok (.return_, 1) := by decide +kernel
theorem d_Rw_init_0 : decode c_Rw_init 0 = .ok (.aload_n 0, 1) := by decide +kernel
theorem d_Rw_init_1 : decode c_Rw_init 1 = .ok (.invokespecial 1, 3) := by decide +kernel
theorem d_Rw_init_4 : decode c_Rw_init 4 = .ok (.aload_n 0, 1) := by decide +kernel
theorem d_Rw_init_5 : decode c_Rw_init 5 = .ok (.iload_n 1, 1) := by decide +kernel
theorem d_Rw_init_6 : decode c_Rw_init 6 = .ok (.ifCond .ge 7, 3) := by decide +kernel
theorem d_Rw_init_9 : decode c_Rw_init 9 = .ok (.iconst 0, 1) := by decide +kernel
theorem d_Rw_init_10 : decode c_Rw_init 10 = .ok (.goto 4, 3) := by decide +kernel
theorem d_Rw_init_13 : decode c_Rw_init 13 = .ok (.iload_n 1, 1) := by decide +kernel
theorem d_Rw_init_14 : decode c_Rw_init 14 = .ok (.newarray .int, 2) := by decide +kernel
theorem d_Rw_init_16 : decode c_Rw_init 16 = .ok (.putfield 7, 3) := by decide +kernel
theorem d_Rw_init_19 : decode c_Rw_init 19 = .ok (.return_, 1) := by decide +kernel
theorem d_Rw_at_0 : decode c_Rw_at 0 = .ok (.iload_n 1, 1) := by decide +kernel
theorem d_Rw_at_1 : decode c_Rw_at 1 = .ok (.ifCond .lt 21, 3) := by decide +kernel
theorem d_Rw_at_4 : decode c_Rw_at 4 = .ok (.iload_n 1, 1) := by decide +kernel
theorem d_Rw_at_5 : decode c_Rw_at 5 = .ok (.aload_n 0, 1) := by decide +kernel
theorem d_Rw_at_6 : decode c_Rw_at 6 = .ok (.getfield 7, 3) := by decide +kernel
theorem d_Rw_at_9 : decode c_Rw_at 9 = .ok (.arraylength, 1) := by decide +kernel
theorem d_Rw_at_10 : decode c_Rw_at 10 = .ok (.if_icmp .ge 12, 3) := by decide +kernel
theorem d_Rw_at_13 : decode c_Rw_at 13 = .ok (.aload_n 0, 1) := by decide +kernel
theorem d_Rw_at_14 : decode c_Rw_at 14 = .ok (.getfield 7, 3) := by decide +kernel
theorem d_Rw_at_17 : decode c_Rw_at 17 = .ok (.iload_n 1, 1) := by decide +kernel
theorem d_Rw_at_18 : decode c_Rw_at 18 = .ok (.iaload, 1) := by decide +kernel
theorem d_Rw_at_19 : decode c_Rw_at 19 = .ok (.goto 4, 3) := by decide +kernel
theorem d_Rw_at_22 : decode c_Rw_at 22 = .ok (.iconst 0, 1) := by decide +kernel
theorem d_Rw_at_23 : decode c_Rw_at 23 = .ok (.ireturn, 1) := by decide +kernel
theorem d_Rw_put_0 : decode c_Rw_put 0 = .ok (.iload_n 1, 1) := by decide +kernel
theorem d_Rw_put_1 : decode c_Rw_put 1 = .ok (.ifCond .lt 19, 3) := by decide +kernel
theorem d_Rw_put_4 : decode c_Rw_put 4 = .ok (.iload_n 1, 1) := by decide +kernel
theorem d_Rw_put_5 : decode c_Rw_put 5 = .ok (.aload_n 0, 1) := by decide +kernel
theorem d_Rw_put_6 : decode c_Rw_put 6 = .ok (.getfield 7, 3) := by decide +kernel
theorem d_Rw_put_9 : decode c_Rw_put 9 = .ok (.arraylength, 1) := by decide +kernel
theorem d_Rw_put_10 : decode c_Rw_put 10 = .ok (.if_icmp .ge 10, 3) := by decide +kernel
theorem d_Rw_put_13 : decode c_Rw_put 13 = .ok (.aload_n 0, 1) := by decide +kernel
theorem d_Rw_put_14 : decode c_Rw_put 14 = .ok (.getfield 7, 3) := by decide +kernel
theorem d_Rw_put_17 : decode c_Rw_put 17 = .ok (.iload_n 1, 1) := by decide +kernel
theorem d_Rw_put_18 : decode c_Rw_put 18 = .ok (.iload_n 2, 1) := by decide +kernel
theorem d_Rw_put_19 : decode c_Rw_put 19 = .ok (.iastore, 1) := by decide +kernel
theorem d_Rw_put_20 : decode c_Rw_put 20 = .ok (.return_, 1) := by decide +kernel
theorem d_Rw_add_0 : decode c_Rw_add 0 = .ok (.iload_n 1, 1) := by decide +kernel
theorem d_Rw_add_1 : decode c_Rw_add 1 = .ok (.ifCond .lt 22, 3) := by decide +kernel
theorem d_Rw_add_4 : decode c_Rw_add 4 = .ok (.iload_n 1, 1) := by decide +kernel
theorem d_Rw_add_5 : decode c_Rw_add 5 = .ok (.aload_n 0, 1) := by decide +kernel
theorem d_Rw_add_6 : decode c_Rw_add 6 = .ok (.getfield 7, 3) := by decide +kernel
theorem d_Rw_add_9 : decode c_Rw_add 9 = .ok (.arraylength, 1) := by decide +kernel
theorem d_Rw_add_10 : decode c_Rw_add 10 = .ok (.if_icmp .ge 13, 3) := by decide +kernel
theorem d_Rw_add_13 : decode c_Rw_add 13 = .ok (.aload_n 0, 1) := by decide +kernel
theorem d_Rw_add_14 : decode c_Rw_add 14 = .ok (.getfield 7, 3) := by decide +kernel
theorem d_Rw_add_17 : decode c_Rw_add 17 = .ok (.iload_n 1, 1) := by decide +kernel
theorem d_Rw_add_18 : decode c_Rw_add 18 = .ok (.dup2, 1) := by decide +kernel
theorem d_Rw_add_19 : decode c_Rw_add 19 = .ok (.iaload, 1) := by decide +kernel
theorem d_Rw_add_20 : decode c_Rw_add 20 = .ok (.iload_n 2, 1) := by decide +kernel
theorem d_Rw_add_21 : decode c_Rw_add 21 = .ok (.iadd, 1) := by decide +kernel
theorem d_Rw_add_22 : decode c_Rw_add 22 = .ok (.iastore, 1) := by decide +kernel
theorem d_Rw_add_23 : decode c_Rw_add 23 = .ok (.return_, 1) := by decide +kernel
theorem d_Rw_removeAt_0 : decode c_Rw_removeAt 0 = .ok (.iload_n 1, 1) := by decide +kernel
theorem d_Rw_removeAt_1 : decode c_Rw_removeAt 1 = .ok (.ifCond .ge 7, 3) := by decide +kernel
theorem d_Rw_removeAt_4 : decode c_Rw_removeAt 4 = .ok (.iconst 0, 1) := by decide +kernel
theorem d_Rw_removeAt_5 : decode c_Rw_removeAt 5 = .ok (.goto 4, 3) := by decide +kernel
theorem d_Rw_removeAt_8 : decode c_Rw_removeAt 8 = .ok (.iload_n 1, 1) := by decide +kernel
theorem d_Rw_removeAt_9 : decode c_Rw_removeAt 9 = .ok (.istore_n 2, 1) := by decide +kernel
theorem d_Rw_removeAt_10 : decode c_Rw_removeAt 10 = .ok (.iload_n 2, 1) := by decide +kernel
theorem d_Rw_removeAt_11 : decode c_Rw_removeAt 11 = .ok (.aload_n 0, 1) := by decide +kernel
theorem d_Rw_removeAt_12 : decode c_Rw_removeAt 12 = .ok (.getfield 7, 3) := by decide +kernel
theorem d_Rw_removeAt_15 : decode c_Rw_removeAt 15 = .ok (.arraylength, 1) := by decide +kernel
theorem d_Rw_removeAt_16 : decode c_Rw_removeAt 16 = .ok (.iconst 1, 1) := by decide +kernel
theorem d_Rw_removeAt_17 : decode c_Rw_removeAt 17 = .ok (.isub, 1) := by decide +kernel
theorem d_Rw_removeAt_18 : decode c_Rw_removeAt 18 = .ok (.if_icmp .ge 23, 3) := by decide +kernel
theorem d_Rw_removeAt_21 : decode c_Rw_removeAt 21 = .ok (.aload_n 0, 1) := by decide +kernel
theorem d_Rw_removeAt_22 : decode c_Rw_removeAt 22 = .ok (.getfield 7, 3) := by decide +kernel
theorem d_Rw_removeAt_25 : decode c_Rw_removeAt 25 = .ok (.iload_n 2, 1) := by decide +kernel
theorem d_Rw_removeAt_26 : decode c_Rw_removeAt 26 = .ok (.aload_n 0, 1) := by decide +kernel
theorem d_Rw_removeAt_27 : decode c_Rw_removeAt 27 = .ok (.getfield 7, 3) := by decide +kernel
theorem d_Rw_removeAt_30 : decode c_Rw_removeAt 30 = .ok (.iload_n 2, 1) := by decide +kernel
theorem d_Rw_removeAt_31 : decode c_Rw_removeAt 31 = .ok (.iconst 1, 1) := by decide +kernel
theorem d_Rw_removeAt_32 : decode c_Rw_removeAt 32 = .ok (.iadd, 1) := by decide +kernel
theorem d_Rw_removeAt_33 : decode c_Rw_removeAt 33 = .ok (.iaload, 1) := by decide +kernel
theorem d_Rw_removeAt_34 : decode c_Rw_removeAt 34 = .ok (.iastore, 1) := by decide +kernel
theorem d_Rw_removeAt_35 : decode c_Rw_removeAt 35 = .ok (.iinc 2 1, 3) := by decide +kernel
theorem d_Rw_removeAt_38 : decode c_Rw_removeAt 38 = .ok (.goto (-28), 3) := by decide +kernel
theorem d_Rw_removeAt_41 : decode c_Rw_removeAt 41 = .ok (.return_, 1) := by decide +kernel
theorem d_Rw_sum_0 : decode c_Rw_sum 0 = .ok (.iconst 0, 1) := by decide +kernel
theorem d_Rw_sum_1 : decode c_Rw_sum 1 = .ok (.istore_n 1, 1) := by decide +kernel
theorem d_Rw_sum_2 : decode c_Rw_sum 2 = .ok (.iconst 0, 1) := by decide +kernel
theorem d_Rw_sum_3 : decode c_Rw_sum 3 = .ok (.istore_n 2, 1) := by decide +kernel
theorem d_Rw_sum_4 : decode c_Rw_sum 4 = .ok (.iload_n 2, 1) := by decide +kernel
theorem d_Rw_sum_5 : decode c_Rw_sum 5 = .ok (.aload_n 0, 1) := by decide +kernel
theorem d_Rw_sum_6 : decode c_Rw_sum 6 = .ok (.getfield 7, 3) := by decide +kernel
theorem d_Rw_sum_9 : decode c_Rw_sum 9 = .ok (.arraylength, 1) := by decide +kernel
theorem d_Rw_sum_10 : decode c_Rw_sum 10 = .ok (.if_icmp .ge 18, 3) := by decide +kernel
theorem d_Rw_sum_13 : decode c_Rw_sum 13 = .ok (.iload_n 1, 1) := by decide +kernel
theorem d_Rw_sum_14 : decode c_Rw_sum 14 = .ok (.aload_n 0, 1) := by decide +kernel
theorem d_Rw_sum_15 : decode c_Rw_sum 15 = .ok (.getfield 7, 3) := by decide +kernel
theorem d_Rw_sum_18 : decode c_Rw_sum 18 = .ok (.iload_n 2, 1) := by decide +kernel
theorem d_Rw_sum_19 : decode c_Rw_sum 19 = .ok (.iaload, 1) := by decide +kernel
theorem d_Rw_sum_20 : decode c_Rw_sum 20 = .ok (.iadd, 1) := by decide +kernel
theorem d_Rw_sum_21 : decode c_Rw_sum 21 = .ok (.istore_n 1, 1) := by decide +kernel
theorem d_Rw_sum_22 : decode c_Rw_sum 22 = .ok (.iinc 2 1, 3) := by decide +kernel
theorem d_Rw_sum_25 : decode c_Rw_sum 25 = .ok (.goto (-21), 3) := by decide +kernel
theorem d_Rw_sum_28 : decode c_Rw_sum 28 = .ok (.iload_n 1, 1) := by decide +kernel
theorem d_Rw_sum_29 : decode c_Rw_sum 29 = .ok (.ireturn, 1) := by decide +kernel
theorem d_Rw_copyFrom_0 : decode c_Rw_copyFrom 0 = .ok (.aload_n 1, 1) := by decide +kernel
theorem d_Rw_copyFrom_1 : decode c_Rw_copyFrom 1 = .ok (.getfield 7, 3) := by decide +kernel
theorem d_Rw_copyFrom_4 : decode c_Rw_copyFrom 4 = .ok (.iconst 0, 1) := by decide +kernel
theorem d_Rw_copyFrom_5 : decode c_Rw_copyFrom 5 = .ok (.aload_n 0, 1) := by decide +kernel
theorem d_Rw_copyFrom_6 : decode c_Rw_copyFrom 6 = .ok (.getfield 7, 3) := by decide +kernel
theorem d_Rw_copyFrom_9 : decode c_Rw_copyFrom 9 = .ok (.iconst 0, 1) := by decide +kernel
theorem d_Rw_copyFrom_10 : decode c_Rw_copyFrom 10 = .ok (.aload_n 1, 1) := by decide +kernel
theorem d_Rw_copyFrom_11 : decode c_Rw_copyFrom 11 = .ok (.getfield 7, 3) := by decide +kernel
theorem d_Rw_copyFrom_14 : decode c_Rw_copyFrom 14 = .ok (.arraylength, 1) := by decide +kernel
theorem d_Rw_copyFrom_15 : decode c_Rw_copyFrom 15 = .ok (.aload_n 0, 1) := by decide +kernel
theorem d_Rw_copyFrom_16 : decode c_Rw_copyFrom 16 = .ok (.getfield 7, 3) := by decide +kernel
theorem d_Rw_copyFrom_19 : decode c_Rw_copyFrom 19 = .ok (.arraylength, 1) := by decide +kernel
theorem d_Rw_copyFrom_20 : decode c_Rw_copyFrom 20 = .ok (.invokestatic 13, 3) := by decide +kernel
theorem d_Rw_copyFrom_23 : decode c_Rw_copyFrom 23 = .ok (.invokestatic 19, 3) := by decide +kernel
theorem d_Rw_copyFrom_26 : decode c_Rw_copyFrom 26 = .ok (.return_, 1) := by decide +kernel
theorem d_Cc_init_0 : decode c_Cc_init 0 = .ok (.aload_n 0, 1) := by decide +kernel
theorem d_Cc_init_1 : decode c_Cc_init 1 = .ok (.invokespecial 1, 3) := by decide +kernel
theorem d_Cc_init_4 : decode c_Cc_init 4 = .ok (.aload_n 0, 1) := by decide +kernel
theorem d_Cc_init_5 : decode c_Cc_init 5 = .ok (.new 7, 3) := by decide +kernel
theorem d_Cc_init_8 : decode c_Cc_init 8 = .ok (.dup, 1) := by decide +kernel
theorem d_Cc_init_9 : decode c_Cc_init 9 = .ok (.invokespecial 9, 3) := by decide +kernel
theorem d_Cc_init_12 : decode c_Cc_init 12 = .ok (.putfield 10, 3) := by decide +kernel
theorem d_Cc_init_15 : decode c_Cc_init 15 = .ok (.aload_n 0, 1) := by decide +kernel
theorem d_Cc_init_16 : decode c_Cc_init 16 = .ok (.new 7, 3) := by decide +kernel
theorem d_Cc_init_19 : decode c_Cc_init 19 = .ok (.dup, 1) := by decide +kernel
theorem d_Cc_init_20 : decode c_Cc_init 20 = .ok (.invokespecial 9, 3) := by decide +kernel
theorem d_Cc_init_23 : decode c_Cc_init 23 = .ok (.putfield 16, 3) := by decide +kernel
theorem d_Cc_init_26 : decode c_Cc_init 26 = .ok (.aload_n 0, 1) := by decide +kernel
theorem d_Cc_init_27 : decode c_Cc_init 27 = .ok (.new 7, 3) := by decide +kernel
theorem d_Cc_init_30 : decode c_Cc_init 30 = .ok (.dup, 1) := by decide +kernel
theorem d_Cc_init_31 : decode c_Cc_init 31 = .ok (.invokespecial 9, 3) := by decide +kernel
theorem d_Cc_init_34 : decode c_Cc_init 34 = .ok (.putfield 19, 3) := by decide +kernel
theorem d_Cc_init_37 : decode c_Cc_init 37 = .ok (.aload_n 0, 1) := by decide +kernel
theorem d_Cc_init_38 : decode c_Cc_init 38 = .ok (.new 7, 3) := by decide +kernel
theorem d_Cc_init_41 : decode c_Cc_init 41 = .ok (.dup, 1) := by decide +kernel
theorem d_Cc_init_42 : decode c_Cc_init 42 = .ok (.invokespecial 9, 3) := by decide +kernel
theorem d_Cc_init_45 : decode c_Cc_init 45 = .ok (.putfield 22, 3) := by decide +kernel
theorem d_Cc_init_48 : decode c_Cc_init 48 = .ok (.aload_n 0, 1) := by decide +kernel
theorem d_Cc_init_49 : decode c_Cc_init 49 = .ok (.new 25, 3) := by decide +kernel
theorem d_Cc_init_52 : decode c_Cc_init 52 = .ok (.dup, 1) := by decide +kernel
theorem d_Cc_init_53 : decode c_Cc_init 53 = .ok (.invokespecial 27, 3) := by decide +kernel
theorem d_Cc_init_56 : decode c_Cc_init 56 = .ok (.putfield 28, 3) := by decide +kernel
theorem d_Cc_init_59 : decode c_Cc_init 59 = .ok (.aload_n 0, 1) := by decide +kernel
theorem d_Cc_init_60 : decode c_Cc_init 60 = .ok (.new 32, 3) := by decide +kernel
theorem d_Cc_init_63 : decode c_Cc_init 63 = .ok (.dup, 1) := by decide +kernel
theorem d_Cc_init_64 : decode c_Cc_init 64 = .ok (.invokespecial 34, 3) := by decide +kernel
theorem d_Cc_init_67 : decode c_Cc_init 67 = .ok (.putfield 35, 3) := by decide +kernel
theorem d_Cc_init_70 : decode c_Cc_init 70 = .ok (.aload_n 0, 1) := by decide +kernel
theorem d_Cc_init_71 : decode c_Cc_init 71 = .ok (.new 39, 3) := by decide +kernel
theorem d_Cc_init_74 : decode c_Cc_init 74 = .ok (.dup, 1) := by decide +kernel
theorem d_Cc_init_75 : decode c_Cc_init 75 = .ok (.invokespecial 41, 3) := by decide +kernel
theorem d_Cc_init_78 : decode c_Cc_init 78 = .ok (.putfield 42, 3) := by decide +kernel
theorem d_Cc_init_81 : decode c_Cc_init 81 = .ok (.return_, 1) := by decide +kernel
theorem d_Cc_roll_0 : decode c_Cc_roll 0 = .ok (.iload_n 1, 1) := by decide +kernel
theorem d_Cc_roll_1 : decode c_Cc_roll 1 = .ok (.invokestatic 46, 3) := by decide +kernel
theorem d_Cc_roll_4 : decode c_Cc_roll 4 = .ok (.ifCond .eq 14, 3) := by decide +kernel
theorem d_Cc_roll_7 : decode c_Cc_roll 7 = .ok (.iload_n 2, 1) := by decide +kernel
theorem d_Cc_roll_8 : decode c_Cc_roll 8 = .ok (.iconst 5, 1) := by decide +kernel
theorem d_Cc_roll_9 : decode c_Cc_roll 9 = .ok (.if_icmp .lt 9, 3) := by decide +kernel
theorem d_Cc_roll_12 : decode c_Cc_roll 12 = .ok (.iload_n 2, 1) := by decide +kernel
theorem d_Cc_roll_13 : decode c_Cc_roll 13 = .ok (.bipush 60, 2) := by decide +kernel
theorem d_Cc_roll_15 : decode c_Cc_roll 15 = .ok (.if_icmp .le 6, 3) := by decide +kernel
theorem d_Cc_roll_18 : decode c_Cc_roll 18 = .ok (.bipush (-2), 2) := by decide +kernel
theorem d_Cc_roll_20 : decode c_Cc_roll 20 = .ok (.ireturn, 1) := by decide +kernel
theorem d_Cc_roll_21 : decode c_Cc_roll 21 = .ok (.iload_n 3, 1) := by decide +kernel
theorem d_Cc_roll_22 : decode c_Cc_roll 22 = .ok (.iconst 1, 1) := by decide +kernel
theorem d_Cc_roll_23 : decode c_Cc_roll 23 = .ok (.if_icmp .lt 22, 3) := by decide +kernel
theorem d_Cc_roll_26 : decode c_Cc_roll 26 = .ok (.iload_n 3, 1) := by decide +kernel
theorem d_Cc_roll_27 : decode c_Cc_roll 27 = .ok (.sipush 999, 3) := by decide +kernel
theorem d_Cc_roll_30 : decode c_Cc_roll 30 = .ok (.if_icmp .gt 15, 3) := by decide +kernel
theorem d_Cc_roll_33 : decode c_Cc_roll 33 = .ok (.iload 4, 2) := by decide +kernel
theorem d_Cc_roll_35 : decode c_Cc_roll 35 = .ok (.ifCond .lt 10, 3) := by decide +kernel
theorem d_Cc_roll_38 : decode c_Cc_roll 38 = .ok (.iload 4, 2) := by decide +kernel
theorem d_Cc_roll_40 : decode c_Cc_roll 40 = .ok (.bipush 99, 2) := by decide +kernel
theorem d_Cc_roll_42 : decode c_Cc_roll 42 = .ok (.if_icmp .le 6, 3) := by decide +kernel
theorem d_Cc_roll_45 : decode c_Cc_roll 45 = .ok (.bipush (-2), 2) := by decide +kernel
theorem d_Cc_roll_47 : decode c_Cc_roll 47 = .ok (.ireturn, 1) := by decide +kernel
theorem d_Cc_roll_48 : decode c_Cc_roll 48 = .ok (.aload_n 0, 1) := by decide +kernel
theorem d_Cc_roll_49 : decode c_Cc_roll 49 = .ok (.getfield 10, 3) := by decide +kernel
theorem d_Cc_roll_52 : decode c_Cc_roll 52 = .ok (.getfield 50, 3) := by decide +kernel
theorem d_Cc_roll_55 : decode c_Cc_roll 55 = .ok (.getfield 54, 3) := by decide +kernel
theorem d_Cc_roll_58 : decode c_Cc_roll 58 = .ok (.bipush 12, 2) := by decide +kernel
theorem d_Cc_roll_60 : decode c_Cc_roll 60 = .ok (.if_icmp .lt 6, 3) := by decide +kernel
theorem d_Cc_roll_63 : decode c_Cc_roll 63 = .ok (.bipush (-3), 2) := by decide +kernel
theorem d_Cc_roll_65 : decode c_Cc_roll 65 = .ok (.ireturn, 1) := by decide +kernel
theorem d_Cc_roll_66 : decode c_Cc_roll 66 = .ok (.aload_n 0, 1) := by decide +kernel
theorem d_Cc_roll_67 : decode c_Cc_roll 67 = .ok (.getfield 28, 3) := by decide +kernel
theorem d_Cc_roll_70 : decode c_Cc_roll 70 = .ok (.aload_n 0, 1) := by decide +kernel
theorem d_Cc_roll_71 : decode c_Cc_roll 71 = .ok (.getfield 10, 3) := by decide +kernel
theorem d_Cc_roll_74 : decode c_Cc_roll 74 = .ok (.invokevirtual 60, 3) := by decide +kernel
theorem d_Cc_roll_77 : decode c_Cc_roll 77 = .ok (.aload_n 0, 1) := by decide +kernel
theorem d_Cc_roll_78 : decode c_Cc_roll 78 = .ok (.getfield 10, 3) := by decide +kernel
theorem d_Cc_roll_81 : decode c_Cc_roll 81 = .ok (.getfield 50, 3) := by decide +kernel
theorem d_Cc_roll_84 : decode c_Cc_roll 84 = .ok (.iload_n 1, 1) := by decide +kernel
theorem d_Cc_roll_85 : decode c_Cc_roll 85 = .ok (.iload_n 2, 1) := by decide +kernel
theorem d_Cc_roll_86 : decode c_Cc_roll 86 = .ok (.iload_n 3, 1) := by decide +kernel
theorem d_Cc_roll_87 : decode c_Cc_roll 87 = .ok (.iload 4, 2) := by decide +kernel
theorem d_Cc_roll_89 : decode c_Cc_roll 89 = .ok (.invokevirtual 64, 3) := by decide +kernel
theorem d_Cc_roll_92 : decode c_Cc_roll 92 = .ok (.ireturn, 1) := by decide +kernel
theorem d_Cc_rooms_0 : decode c_Cc_rooms 0 = .ok (.aload_n 0, 1) := by decide +kernel
theorem d_Cc_rooms_1 : decode c_Cc_rooms 1 = .ok (.getfield 35, 3) := by decide +kernel
theorem d_Cc_rooms_4 : decode c_Cc_rooms 4 = .ok (.invokevirtual 68, 3) := by decide +kernel
theorem d_Cc_rooms_7 : decode c_Cc_rooms 7 = .ok (.istore_n 1, 1) := by decide +kernel
theorem d_Cc_rooms_8 : decode c_Cc_rooms 8 = .ok (.iload_n 1, 1) := by decide +kernel
theorem d_Cc_rooms_9 : decode c_Cc_rooms 9 = .ok (.ifCond .lt 8, 3) := by decide +kernel
theorem d_Cc_rooms_12 : decode c_Cc_rooms 12 = .ok (.bipush (-100), 2) := by decide +kernel
theorem d_Cc_rooms_14 : decode c_Cc_rooms 14 = .ok (.iload_n 1, 1) := by decide +kernel
theorem d_Cc_rooms_15 : decode c_Cc_rooms 15 = .ok (.isub, 1) := by decide +kernel
theorem d_Cc_rooms_16 : decode c_Cc_rooms 16 = .ok (.ireturn, 1) := by decide +kernel
theorem d_Cc_rooms_17 : decode c_Cc_rooms 17 = .ok (.aload_n 0, 1) := by decide +kernel
theorem d_Cc_rooms_18 : decode c_Cc_rooms 18 = .ok (.getfield 35, 3) := by decide +kernel
theorem d_Cc_rooms_21 : decode c_Cc_rooms 21 = .ok (.getfield 72, 3) := by decide +kernel
theorem d_Cc_rooms_24 : decode c_Cc_rooms 24 = .ok (.getfield 76, 3) := by decide +kernel
theorem d_Cc_rooms_27 : decode c_Cc_rooms 27 = .ok (.istore_n 2, 1) := by decide +kernel
theorem d_Cc_rooms_28 : decode c_Cc_rooms 28 = .ok (.aload_n 0, 1) := by decide +kernel
theorem d_Cc_rooms_29 : decode c_Cc_rooms 29 = .ok (.getfield 10, 3) := by decide +kernel
theorem d_Cc_rooms_32 : decode c_Cc_rooms 32 = .ok (.getfield 79, 3) := by decide +kernel
theorem d_Cc_rooms_35 : decode c_Cc_rooms 35 = .ok (.getfield 76, 3) := by decide +kernel
theorem d_Cc_rooms_38 : decode c_Cc_rooms 38 = .ok (.iload_n 2, 1) := by decide +kernel
theorem d_Cc_rooms_39 : decode c_Cc_rooms 39 = .ok (.iadd, 1) := by decide +kernel
theorem d_Cc_rooms_40 : decode c_Cc_rooms 40 = .ok (.bipush 20, 2) := by decide +kernel
theorem d_Cc_rooms_42 : decode c_Cc_rooms 42 = .ok (.if_icmp .le 6, 3) := by decide +kernel
theorem d_Cc_rooms_45 : decode c_Cc_rooms 45 = .ok (.bipush (-3), 2) := by decide +kernel
theorem d_Cc_rooms_47 : decode c_Cc_rooms 47 = .ok (.ireturn, 1) := by decide +kernel
theorem d_Cc_rooms_48 : decode c_Cc_rooms 48 = .ok (.aload_n 0, 1) := by decide +kernel
theorem d_Cc_rooms_49 : decode c_Cc_rooms 49 = .ok (.getfield 28, 3) := by decide +kernel
theorem d_Cc_rooms_52 : decode c_Cc_rooms 52 = .ok (.aload_n 0, 1) := by decide +kernel
theorem d_Cc_rooms_53 : decode c_Cc_rooms 53 = .ok (.getfield 10, 3) := by decide +kernel
theorem d_Cc_rooms_56 : decode c_Cc_rooms 56 = .ok (.invokevirtual 60, 3) := by decide +kernel
theorem d_Cc_rooms_59 : decode c_Cc_rooms 59 = .ok (.aload_n 0, 1) := by decide +kernel
theorem d_Cc_rooms_60 : decode c_Cc_rooms 60 = .ok (.getfield 10, 3) := by decide +kernel
theorem d_Cc_rooms_63 : decode c_Cc_rooms 63 = .ok (.getfield 79, 3) := by decide +kernel
theorem d_Cc_rooms_66 : decode c_Cc_rooms 66 = .ok (.aload_n 0, 1) := by decide +kernel
theorem d_Cc_rooms_67 : decode c_Cc_rooms 67 = .ok (.getfield 35, 3) := by decide +kernel
theorem d_Cc_rooms_70 : decode c_Cc_rooms 70 = .ok (.getfield 72, 3) := by decide +kernel
theorem d_Cc_rooms_73 : decode c_Cc_rooms 73 = .ok (.invokevirtual 82, 3) := by decide +kernel
theorem d_Cc_rooms_76 : decode c_Cc_rooms 76 = .ok (.iload_n 2, 1) := by decide +kernel
theorem d_Cc_rooms_77 : decode c_Cc_rooms 77 = .ok (.ireturn, 1) := by decide +kernel
theorem d_Cc_cover_0 : decode c_Cc_cover 0 = .ok (.aload_n 0, 1) := by decide +kernel
theorem d_Cc_cover_1 : decode c_Cc_cover 1 = .ok (.getfield 10, 3) := by decide +kernel
theorem d_Cc_cover_4 : decode c_Cc_cover 4 = .ok (.getfield 79, 3) := by decide +kernel
theorem d_Cc_cover_7 : decode c_Cc_cover 7 = .ok (.iload_n 1, 1) := by decide +kernel
theorem d_Cc_cover_8 : decode c_Cc_cover 8 = .ok (.invokevirtual 86, 3) := by decide +kernel
theorem d_Cc_cover_11 : decode c_Cc_cover 11 = .ok (.ifCond .eq 17, 3) := by decide +kernel
theorem d_Cc_cover_14 : decode c_Cc_cover 14 = .ok (.aload_n 0, 1) := by decide +kernel
theorem d_Cc_cover_15 : decode c_Cc_cover 15 = .ok (.getfield 10, 3) := by decide +kernel
theorem d_Cc_cover_18 : decode c_Cc_cover 18 = .ok (.getfield 50, 3) := by decide +kernel
theorem d_Cc_cover_21 : decode c_Cc_cover 21 = .ok (.iload_n 2, 1) := by decide +kernel
theorem d_Cc_cover_22 : decode c_Cc_cover 22 = .ok (.invokevirtual 89, 3) := by decide +kernel
theorem d_Cc_cover_25 : decode c_Cc_cover 25 = .ok (.ifCond .ne 5, 3) := by decide +kernel
theorem d_Cc_cover_28 : decode c_Cc_cover 28 = .ok (.iconst (-1), 1) := by decide +kernel
theorem d_Cc_cover_29 : decode c_Cc_cover 29 = .ok (.ireturn, 1) := by decide +kernel
theorem d_Cc_cover_30 : decode c_Cc_cover 30 = .ok (.iload_n 3, 1) := by decide +kernel
theorem d_Cc_cover_31 : decode c_Cc_cover 31 = .ok (.invokestatic 90, 3) := by decide +kernel
theorem d_Cc_cover_34 : decode c_Cc_cover 34 = .ok (.ifCond .ne 6, 3) := by decide +kernel
theorem d_Cc_cover_37 : decode c_Cc_cover 37 = .ok (.bipush (-2), 2) := by decide +kernel
theorem d_Cc_cover_39 : decode c_Cc_cover 39 = .ok (.ireturn, 1) := by decide +kernel
theorem d_Cc_cover_40 : decode c_Cc_cover 40 = .ok (.aload_n 0, 1) := by decide +kernel
theorem d_Cc_cover_41 : decode c_Cc_cover 41 = .ok (.getfield 19, 3) := by decide +kernel
theorem d_Cc_cover_44 : decode c_Cc_cover 44 = .ok (.aload_n 0, 1) := by decide +kernel
theorem d_Cc_cover_45 : decode c_Cc_cover 45 = .ok (.getfield 10, 3) := by decide +kernel
theorem d_Cc_cover_48 : decode c_Cc_cover 48 = .ok (.invokevirtual 93, 3) := by decide +kernel
theorem d_Cc_cover_51 : decode c_Cc_cover 51 = .ok (.aload_n 0, 1) := by decide +kernel
theorem d_Cc_cover_52 : decode c_Cc_cover 52 = .ok (.getfield 19, 3) := by decide +kernel
theorem d_Cc_cover_55 : decode c_Cc_cover 55 = .ok (.iload_n 1, 1) := by decide +kernel
theorem d_Cc_cover_56 : decode c_Cc_cover 56 = .ok (.iload_n 2, 1) := by decide +kernel
theorem d_Cc_cover_57 : decode c_Cc_cover 57 = .ok (.iload_n 3, 1) := by decide +kernel
theorem d_Cc_cover_58 : decode c_Cc_cover 58 = .ok (.invokevirtual 96, 3) := by decide +kernel
theorem d_Cc_cover_61 : decode c_Cc_cover 61 = .ok (.istore 4, 2) := by decide +kernel
theorem d_Cc_cover_63 : decode c_Cc_cover 63 = .ok (.iload 4, 2) := by decide +kernel
theorem d_Cc_cover_65 : decode c_Cc_cover 65 = .ok (.ifCond .ge 6, 3) := by decide +kernel
theorem d_Cc_cover_68 : decode c_Cc_cover 68 = .ok (.iload 4, 2) := by decide +kernel
theorem d_Cc_cover_70 : decode c_Cc_cover 70 = .ok (.ireturn, 1) := by decide +kernel
theorem d_Cc_cover_71 : decode c_Cc_cover 71 = .ok (.aload_n 0, 1) := by decide +kernel
theorem d_Cc_cover_72 : decode c_Cc_cover 72 = .ok (.getfield 28, 3) := by decide +kernel
theorem d_Cc_cover_75 : decode c_Cc_cover 75 = .ok (.aload_n 0, 1) := by decide +kernel
theorem d_Cc_cover_76 : decode c_Cc_cover 76 = .ok (.getfield 10, 3) := by decide +kernel
theorem d_Cc_cover_79 : decode c_Cc_cover 79 = .ok (.invokevirtual 60, 3) := by decide +kernel
theorem d_Cc_cover_82 : decode c_Cc_cover 82 = .ok (.aload_n 0, 1) := by decide +kernel
theorem d_Cc_cover_83 : decode c_Cc_cover 83 = .ok (.getfield 10, 3) := by decide +kernel
theorem d_Cc_cover_86 : decode c_Cc_cover 86 = .ok (.aload_n 0, 1) := by decide +kernel
theorem d_Cc_cover_87 : decode c_Cc_cover 87 = .ok (.getfield 19, 3) := by decide +kernel
theorem d_Cc_cover_90 : decode c_Cc_cover 90 = .ok (.invokevirtual 93, 3) := by decide +kernel
theorem d_Cc_cover_93 : decode c_Cc_cover 93 = .ok (.iload 4, 2) := by decide +kernel
theorem d_Cc_cover_95 : decode c_Cc_cover 95 = .ok (.ireturn, 1) := by decide +kernel
theorem d_Cc_takeUp_0 : decode c_Cc_takeUp 0 = .ok (.aload_n 0, 1) := by decide +kernel
theorem d_Cc_takeUp_1 : decode c_Cc_takeUp 1 = .ok (.getfield 10, 3) := by decide +kernel
theorem d_Cc_takeUp_4 : decode c_Cc_takeUp 4 = .ok (.getfield 79, 3) := by decide +kernel
theorem d_Cc_takeUp_7 : decode c_Cc_takeUp 7 = .ok (.iload_n 1, 1) := by decide +kernel
theorem d_Cc_takeUp_8 : decode c_Cc_takeUp 8 = .ok (.invokevirtual 86, 3) := by decide +kernel
theorem d_Cc_takeUp_11 : decode c_Cc_takeUp 11 = .ok (.ifCond .ne 5, 3) := by decide +kernel
theorem d_Cc_takeUp_14 : decode c_Cc_takeUp 14 = .ok (.iconst (-1), 1) := by decide +kernel
theorem d_Cc_takeUp_15 : decode c_Cc_takeUp 15 = .ok (.ireturn, 1) := by decide +kernel
theorem d_Cc_takeUp_16 : decode c_Cc_takeUp 16 = .ok (.aload_n 0, 1) := by decide +kernel
theorem d_Cc_takeUp_17 : decode c_Cc_takeUp 17 = .ok (.getfield 10, 3) := by decide +kernel
theorem d_Cc_takeUp_20 : decode c_Cc_takeUp 20 = .ok (.getfield 79, 3) := by decide +kernel
theorem d_Cc_takeUp_23 : decode c_Cc_takeUp 23 = .ok (.iload_n 1, 1) := by decide +kernel
theorem d_Cc_takeUp_24 : decode c_Cc_takeUp 24 = .ok (.invokevirtual 100, 3) := by decide +kernel
theorem d_Cc_takeUp_27 : decode c_Cc_takeUp 27 = .ok (.ifCond .ne 6, 3) := by decide +kernel
theorem d_Cc_takeUp_30 : decode c_Cc_takeUp 30 = .ok (.bipush (-5), 2) := by decide +kernel
theorem d_Cc_takeUp_32 : decode c_Cc_takeUp 32 = .ok (.ireturn, 1) := by decide +kernel
theorem d_Cc_takeUp_33 : decode c_Cc_takeUp 33 = .ok (.aload_n 0, 1) := by decide +kernel
theorem d_Cc_takeUp_34 : decode c_Cc_takeUp 34 = .ok (.getfield 28, 3) := by decide +kernel
theorem d_Cc_takeUp_37 : decode c_Cc_takeUp 37 = .ok (.aload_n 0, 1) := by decide +kernel
theorem d_Cc_takeUp_38 : decode c_Cc_takeUp 38 = .ok (.getfield 10, 3) := by decide +kernel
theorem d_Cc_takeUp_41 : decode c_Cc_takeUp 41 = .ok (.invokevirtual 60, 3) := by decide +kernel
theorem d_Cc_takeUp_44 : decode c_Cc_takeUp 44 = .ok (.aload_n 0, 1) := by decide +kernel
theorem d_Cc_takeUp_45 : decode c_Cc_takeUp 45 = .ok (.getfield 10, 3) := by decide +kernel
theorem d_Cc_takeUp_48 : decode c_Cc_takeUp 48 = .ok (.iload_n 1, 1) := by decide +kernel
theorem d_Cc_takeUp_49 : decode c_Cc_takeUp 49 = .ok (.invokevirtual 103, 3) := by decide +kernel
theorem d_Cc_takeUp_52 : decode c_Cc_takeUp 52 = .ok (.ireturn, 1) := by decide +kernel
theorem d_Cc_sell_0 : decode c_Cc_sell 0 = .ok (.aload_n 0, 1) := by decide +kernel
theorem d_Cc_sell_1 : decode c_Cc_sell 1 = .ok (.getfield 10, 3) := by decide +kernel
theorem d_Cc_sell_4 : decode c_Cc_sell 4 = .ok (.getfield 107, 3) := by decide +kernel
theorem d_Cc_sell_7 : decode c_Cc_sell 7 = .ok (.iload_n 1, 1) := by decide +kernel
theorem d_Cc_sell_8 : decode c_Cc_sell 8 = .ok (.invokevirtual 111, 3) := by decide +kernel
theorem d_Cc_sell_11 : decode c_Cc_sell 11 = .ok (.istore_n 2, 1) := by decide +kernel
theorem d_Cc_sell_12 : decode c_Cc_sell 12 = .ok (.iload_n 2, 1) := by decide +kernel
theorem d_Cc_sell_13 : decode c_Cc_sell 13 = .ok (.ifCond .ge 5, 3) := by decide +kernel
theorem d_Cc_sell_16 : decode c_Cc_sell 16 = .ok (.iconst (-1), 1) := by decide +kernel
theorem d_Cc_sell_17 : decode c_Cc_sell 17 = .ok (.ireturn, 1) := by decide +kernel
theorem d_Cc_sell_18 : decode c_Cc_sell 18 = .ok (.aload_n 0, 1) := by decide +kernel
theorem d_Cc_sell_19 : decode c_Cc_sell 19 = .ok (.getfield 28, 3) := by decide +kernel
theorem d_Cc_sell_22 : decode c_Cc_sell 22 = .ok (.aload_n 0, 1) := by decide +kernel
theorem d_Cc_sell_23 : decode c_Cc_sell 23 = .ok (.getfield 10, 3) := by decide +kernel
theorem d_Cc_sell_26 : decode c_Cc_sell 26 = .ok (.invokevirtual 60, 3) := by decide +kernel
theorem d_Cc_sell_29 : decode c_Cc_sell 29 = .ok (.aload_n 0, 1) := by decide +kernel
theorem d_Cc_sell_30 : decode c_Cc_sell 30 = .ok (.getfield 10, 3) := by decide +kernel
theorem d_Cc_sell_33 : decode c_Cc_sell 33 = .ok (.iload_n 2, 1) := by decide +kernel
theorem d_Cc_sell_34 : decode c_Cc_sell 34 = .ok (.invokevirtual 116, 3) := by decide +kernel
theorem d_Cc_sell_37 : decode c_Cc_sell 37 = .ok (.ireturn, 1) := by decide +kernel
theorem d_Cc_clear_0 : decode c_Cc_clear 0 = .ok (.aload_n 0, 1) := by decide +kernel
theorem d_Cc_clear_1 : decode c_Cc_clear 1 = .ok (.getfield 10, 3) := by decide +kernel
theorem d_Cc_clear_4 : decode c_Cc_clear 4 = .ok (.getfield 50, 3) := by decide +kernel
theorem d_Cc_clear_7 : decode c_Cc_clear 7 = .ok (.iload_n 1, 1) := by decide +kernel
theorem d_Cc_clear_8 : decode c_Cc_clear 8 = .ok (.invokevirtual 89, 3) := by decide +kernel
theorem d_Cc_clear_11 : decode c_Cc_clear 11 = .ok (.ifCond .ne 5, 3) := by decide +kernel
theorem d_Cc_clear_14 : decode c_Cc_clear 14 = .ok (.iconst (-1), 1) := by decide +kernel
theorem d_Cc_clear_15 : decode c_Cc_clear 15 = .ok (.ireturn, 1) := by decide +kernel
theorem d_Cc_clear_16 : decode c_Cc_clear 16 = .ok (.iload_n 2, 1) := by decide +kernel
theorem d_Cc_clear_17 : decode c_Cc_clear 17 = .ok (.iconst 1, 1) := by decide +kernel
theorem d_Cc_clear_18 : decode c_Cc_clear 18 = .ok (.if_icmp .lt 10, 3) := by decide +kernel
theorem d_Cc_clear_21 : decode c_Cc_clear 21 = .ok (.iload_n 2, 1) := by decide +kernel
theorem d_Cc_clear_22 : decode c_Cc_clear 22 = .ok (.sipush 9999, 3) := by decide +kernel
theorem d_Cc_clear_25 : decode c_Cc_clear 25 = .ok (.if_icmp .le 6, 3) := by decide +kernel
theorem d_Cc_clear_28 : decode c_Cc_clear 28 = .ok (.bipush (-2), 2) := by decide +kernel
theorem d_Cc_clear_30 : decode c_Cc_clear 30 = .ok (.ireturn, 1) := by decide +kernel
theorem d_Cc_clear_31 : decode c_Cc_clear 31 = .ok (.aload_n 0, 1) := by decide +kernel
theorem d_Cc_clear_32 : decode c_Cc_clear 32 = .ok (.getfield 10, 3) := by decide +kernel
theorem d_Cc_clear_35 : decode c_Cc_clear 35 = .ok (.getfield 107, 3) := by decide +kernel
theorem d_Cc_clear_38 : decode c_Cc_clear 38 = .ok (.iload_n 1, 1) := by decide +kernel
theorem d_Cc_clear_39 : decode c_Cc_clear 39 = .ok (.iload_n 2, 1) := by decide +kernel
theorem d_Cc_clear_40 : decode c_Cc_clear 40 = .ok (.invokevirtual 119, 3) := by decide +kernel
theorem d_Cc_clear_43 : decode c_Cc_clear 43 = .ok (.ifCond .ne 6, 3) := by decide +kernel
theorem d_Cc_clear_46 : decode c_Cc_clear 46 = .ok (.bipush (-5), 2) := by decide +kernel
theorem d_Cc_clear_48 : decode c_Cc_clear 48 = .ok (.ireturn, 1) := by decide +kernel
theorem d_Cc_clear_49 : decode c_Cc_clear 49 = .ok (.aload_n 0, 1) := by decide +kernel
theorem d_Cc_clear_50 : decode c_Cc_clear 50 = .ok (.getfield 28, 3) := by decide +kernel
theorem d_Cc_clear_53 : decode c_Cc_clear 53 = .ok (.aload_n 0, 1) := by decide +kernel
theorem d_Cc_clear_54 : decode c_Cc_clear 54 = .ok (.getfield 10, 3) := by decide +kernel
theorem d_Cc_clear_57 : decode c_Cc_clear 57 = .ok (.invokevirtual 60, 3) := by decide +kernel
theorem d_Cc_clear_60 : decode c_Cc_clear 60 = .ok (.aload_n 0, 1) := by decide +kernel
theorem d_Cc_clear_61 : decode c_Cc_clear 61 = .ok (.getfield 10, 3) := by decide +kernel
theorem d_Cc_clear_64 : decode c_Cc_clear 64 = .ok (.iload_n 1, 1) := by decide +kernel
theorem d_Cc_clear_65 : decode c_Cc_clear 65 = .ok (.iload_n 2, 1) := by decide +kernel
theorem d_Cc_clear_66 : decode c_Cc_clear 66 = .ok (.invokevirtual 123, 3) := by decide +kernel
theorem d_Cc_clear_69 : decode c_Cc_clear 69 = .ok (.ireturn, 1) := by decide +kernel
theorem d_Cc_set_0 : decode c_Cc_set 0 = .ok (.iload_n 1, 1) := by decide +kernel
theorem d_Cc_set_1 : decode c_Cc_set 1 = .ok (.iload_n 2, 1) := by decide +kernel
theorem d_Cc_set_2 : decode c_Cc_set 2 = .ok (.invokestatic 126, 3) := by decide +kernel
theorem d_Cc_set_5 : decode c_Cc_set 5 = .ok (.ifCond .ne 6, 3) := by decide +kernel
theorem d_Cc_set_8 : decode c_Cc_set 8 = .ok (.bipush (-2), 2) := by decide +kernel
theorem d_Cc_set_10 : decode c_Cc_set 10 = .ok (.ireturn, 1) := by decide +kernel
theorem d_Cc_set_11 : decode c_Cc_set 11 = .ok (.aload_n 0, 1) := by decide +kernel
theorem d_Cc_set_12 : decode c_Cc_set 12 = .ok (.getfield 10, 3) := by decide +kernel
theorem d_Cc_set_15 : decode c_Cc_set 15 = .ok (.getfield 130, 3) := by decide +kernel
theorem d_Cc_set_18 : decode c_Cc_set 18 = .ok (.iload_n 1, 1) := by decide +kernel
theorem d_Cc_set_19 : decode c_Cc_set 19 = .ok (.invokevirtual 134, 3) := by decide +kernel
theorem d_Cc_set_22 : decode c_Cc_set 22 = .ok (.istore_n 3, 1) := by decide +kernel
theorem d_Cc_set_23 : decode c_Cc_set 23 = .ok (.iload_n 2, 1) := by decide +kernel
theorem d_Cc_set_24 : decode c_Cc_set 24 = .ok (.iload_n 3, 1) := by decide +kernel
theorem d_Cc_set_25 : decode c_Cc_set 25 = .ok (.if_icmp .ne 6, 3) := by decide +kernel
theorem d_Cc_set_28 : decode c_Cc_set 28 = .ok (.bipush (-5), 2) := by decide +kernel
theorem d_Cc_set_30 : decode c_Cc_set 30 = .ok (.ireturn, 1) := by decide +kernel
theorem d_Cc_set_31 : decode c_Cc_set 31 = .ok (.aload_n 0, 1) := by decide +kernel
theorem d_Cc_set_32 : decode c_Cc_set 32 = .ok (.getfield 28, 3) := by decide +kernel
theorem d_Cc_set_35 : decode c_Cc_set 35 = .ok (.aload_n 0, 1) := by decide +kernel
theorem d_Cc_set_36 : decode c_Cc_set 36 = .ok (.getfield 10, 3) := by decide +kernel
theorem d_Cc_set_39 : decode c_Cc_set 39 = .ok (.invokevirtual 60, 3) := by decide +kernel
theorem d_Cc_set_42 : decode c_Cc_set 42 = .ok (.aload_n 0, 1) := by decide +kernel
theorem d_Cc_set_43 : decode c_Cc_set 43 = .ok (.getfield 10, 3) := by decide +kernel
theorem d_Cc_set_46 : decode c_Cc_set 46 = .ok (.getfield 130, 3) := by decide +kernel
theorem d_Cc_set_49 : decode c_Cc_set 49 = .ok (.iload_n 1, 1) := by decide +kernel
theorem d_Cc_set_50 : decode c_Cc_set 50 = .ok (.iload_n 2, 1) := by decide +kernel
theorem d_Cc_set_51 : decode c_Cc_set 51 = .ok (.invokevirtual 139, 3) := by decide +kernel
theorem d_Cc_set_54 : decode c_Cc_set 54 = .ok (.iload_n 3, 1) := by decide +kernel
theorem d_Cc_set_55 : decode c_Cc_set 55 = .ok (.ireturn, 1) := by decide +kernel
theorem d_Cc_isSetting_0 : decode c_Cc_isSetting 0 = .ok (.iload_n 0, 1) := by decide +kernel
theorem d_Cc_isSetting_1 : decode c_Cc_isSetting 1 = .ok (.tableswitch 115 0 4 #[35, 50, 67, 83, 100], 35) := by decide +kernel
theorem d_Cc_isSetting_36 : decode c_Cc_isSetting 36 = .ok (.iload_n 1, 1) := by decide +kernel
theorem d_Cc_isSetting_37 : decode c_Cc_isSetting 37 = .ok (.ifCond .lt 12, 3) := by decide +kernel
theorem d_Cc_isSetting_40 : decode c_Cc_isSetting 40 = .ok (.iload_n 1, 1) := by decide +kernel
theorem d_Cc_isSetting_41 : decode c_Cc_isSetting 41 = .ok (.iconst 2, 1) := by decide +kernel
theorem d_Cc_isSetting_42 : decode c_Cc_isSetting 42 = .ok (.if_icmp .gt 7, 3) := by decide +kernel
theorem d_Cc_isSetting_45 : decode c_Cc_isSetting 45 = .ok (.iconst 1, 1) := by decide +kernel
theorem d_Cc_isSetting_46 : decode c_Cc_isSetting 46 = .ok (.goto 4, 3) := by decide +kernel
theorem d_Cc_isSetting_49 : decode c_Cc_isSetting 49 = .ok (.iconst 0, 1) := by decide +kernel
theorem d_Cc_isSetting_50 : decode c_Cc_isSetting 50 = .ok (.ireturn, 1) := by decide +kernel
theorem d_Cc_isSetting_51 : decode c_Cc_isSetting 51 = .ok (.iload_n 1, 1) := by decide +kernel
theorem d_Cc_isSetting_52 : decode c_Cc_isSetting 52 = .ok (.iconst 1, 1) := by decide +kernel
theorem d_Cc_isSetting_53 : decode c_Cc_isSetting 53 = .ok (.if_icmp .lt 13, 3) := by decide +kernel
theorem d_Cc_isSetting_56 : decode c_Cc_isSetting 56 = .ok (.iload_n 1, 1) := by decide +kernel
theorem d_Cc_isSetting_57 : decode c_Cc_isSetting 57 = .ok (.bipush 20, 2) := by decide +kernel
theorem d_Cc_isSetting_59 : decode c_Cc_isSetting 59 = .ok (.if_icmp .gt 7, 3) := by decide +kernel
theorem d_Cc_isSetting_62 : decode c_Cc_isSetting 62 = .ok (.iconst 1, 1) := by decide +kernel
theorem d_Cc_isSetting_63 : decode c_Cc_isSetting 63 = .ok (.goto 4, 3) := by decide +kernel
theorem d_Cc_isSetting_66 : decode c_Cc_isSetting 66 = .ok (.iconst 0, 1) := by decide +kernel
theorem d_Cc_isSetting_67 : decode c_Cc_isSetting 67 = .ok (.ireturn, 1) := by decide +kernel
theorem d_Cc_isSetting_68 : decode c_Cc_isSetting 68 = .ok (.iload_n 1, 1) := by decide +kernel
theorem d_Cc_isSetting_69 : decode c_Cc_isSetting 69 = .ok (.ifCond .lt 13, 3) := by decide +kernel
theorem d_Cc_isSetting_72 : decode c_Cc_isSetting 72 = .ok (.iload_n 1, 1) := by decide +kernel
theorem d_Cc_isSetting_73 : decode c_Cc_isSetting 73 = .ok (.bipush 99, 2) := by decide +kernel
theorem d_Cc_isSetting_75 : decode c_Cc_isSetting 75 = .ok (.if_icmp .gt 7, 3) := by decide +kernel
theorem d_Cc_isSetting_78 : decode c_Cc_isSetting 78 = .ok (.iconst 1, 1) := by decide +kernel
theorem d_Cc_isSetting_79 : decode c_Cc_isSetting 79 = .ok (.goto 4, 3) := by decide +kernel
theorem d_Cc_isSetting_82 : decode c_Cc_isSetting 82 = .ok (.iconst 0, 1) := by decide +kernel
theorem d_Cc_isSetting_83 : decode c_Cc_isSetting 83 = .ok (.ireturn, 1) := by decide +kernel
theorem d_Cc_isSetting_84 : decode c_Cc_isSetting 84 = .ok (.iload_n 1, 1) := by decide +kernel
theorem d_Cc_isSetting_85 : decode c_Cc_isSetting 85 = .ok (.iconst 1, 1) := by decide +kernel
theorem d_Cc_isSetting_86 : decode c_Cc_isSetting 86 = .ok (.if_icmp .lt 13, 3) := by decide +kernel
theorem d_Cc_isSetting_89 : decode c_Cc_isSetting 89 = .ok (.iload_n 1, 1) := by decide +kernel
theorem d_Cc_isSetting_90 : decode c_Cc_isSetting 90 = .ok (.bipush 9, 2) := by decide +kernel
theorem d_Cc_isSetting_92 : decode c_Cc_isSetting 92 = .ok (.if_icmp .gt 7, 3) := by decide +kernel
theorem d_Cc_isSetting_95 : decode c_Cc_isSetting 95 = .ok (.iconst 1, 1) := by decide +kernel
theorem d_Cc_isSetting_96 : decode c_Cc_isSetting 96 = .ok (.goto 4, 3) := by decide +kernel
theorem d_Cc_isSetting_99 : decode c_Cc_isSetting 99 = .ok (.iconst 0, 1) := by decide +kernel
theorem d_Cc_isSetting_100 : decode c_Cc_isSetting 100 = .ok (.ireturn, 1) := by decide +kernel
theorem d_Cc_isSetting_101 : decode c_Cc_isSetting 101 = .ok (.iload_n 1, 1) := by decide +kernel
theorem d_Cc_isSetting_102 : decode c_Cc_isSetting 102 = .ok (.ifCond .eq 8, 3) := by decide +kernel
theorem d_Cc_isSetting_105 : decode c_Cc_isSetting 105 = .ok (.iload_n 1, 1) := by decide +kernel
theorem d_Cc_isSetting_106 : decode c_Cc_isSetting 106 = .ok (.iconst 1, 1) := by decide +kernel
theorem d_Cc_isSetting_107 : decode c_Cc_isSetting 107 = .ok (.if_icmp .ne 7, 3) := by decide +kernel
theorem d_Cc_isSetting_110 : decode c_Cc_isSetting 110 = .ok (.iconst 1, 1) := by decide +kernel
theorem d_Cc_isSetting_111 : decode c_Cc_isSetting 111 = .ok (.goto 4, 3) := by decide +kernel
theorem d_Cc_isSetting_114 : decode c_Cc_isSetting 114 = .ok (.iconst 0, 1) := by decide +kernel
theorem d_Cc_isSetting_115 : decode c_Cc_isSetting 115 = .ok (.ireturn, 1) := by decide +kernel
theorem d_Cc_isSetting_116 : decode c_Cc_isSetting 116 = .ok (.iconst 0, 1) := by decide +kernel
theorem d_Cc_isSetting_117 : decode c_Cc_isSetting 117 = .ok (.ireturn, 1) := by decide +kernel
theorem d_Cc_type_0 : decode c_Cc_type 0 = .ok (.aload_n 0, 1) := by decide +kernel
theorem d_Cc_type_1 : decode c_Cc_type 1 = .ok (.getfield 35, 3) := by decide +kernel
theorem d_Cc_type_4 : decode c_Cc_type 4 = .ok (.iload_n 1, 1) := by decide +kernel
theorem d_Cc_type_5 : decode c_Cc_type 5 = .ok (.invokevirtual 143, 3) := by decide +kernel
theorem d_Cc_type_8 : decode c_Cc_type 8 = .ok (.ifCond .eq 13, 3) := by decide +kernel
theorem d_Cc_type_11 : decode c_Cc_type 11 = .ok (.aload_n 0, 1) := by decide +kernel
theorem d_Cc_type_12 : decode c_Cc_type 12 = .ok (.getfield 35, 3) := by decide +kernel
theorem d_Cc_type_15 : decode c_Cc_type 15 = .ok (.getfield 146, 3) := by decide +kernel
theorem d_Cc_type_18 : decode c_Cc_type 18 = .ok (.goto 5, 3) := by decide +kernel
theorem d_Cc_type_21 : decode c_Cc_type 21 = .ok (.bipush (-3), 2) := by decide +kernel
theorem d_Cc_type_23 : decode c_Cc_type 23 = .ok (.ireturn, 1) := by decide +kernel
theorem d_Cc_clearText_0 : decode c_Cc_clearText 0 = .ok (.aload_n 0, 1) := by decide +kernel
theorem d_Cc_clearText_1 : decode c_Cc_clearText 1 = .ok (.getfield 35, 3) := by decide +kernel
theorem d_Cc_clearText_4 : decode c_Cc_clearText 4 = .ok (.getfield 146, 3) := by decide +kernel
theorem d_Cc_clearText_7 : decode c_Cc_clearText 7 = .ok (.istore_n 1, 1) := by decide +kernel
theorem d_Cc_clearText_8 : decode c_Cc_clearText 8 = .ok (.aload_n 0, 1) := by decide +kernel
theorem d_Cc_clearText_9 : decode c_Cc_clearText 9 = .ok (.getfield 35, 3) := by decide +kernel
theorem d_Cc_clearText_12 : decode c_Cc_clearText 12 = .ok (.iconst 0, 1) := by decide +kernel
theorem d_Cc_clearText_13 : decode c_Cc_clearText 13 = .ok (.putfield 146, 3) := by decide +kernel
theorem d_Cc_clearText_16 : decode c_Cc_clearText 16 = .ok (.iload_n 1, 1) := by decide +kernel
theorem d_Cc_clearText_17 : decode c_Cc_clearText 17 = .ok (.ireturn, 1) := by decide +kernel
theorem d_Cc_undo_0 : decode c_Cc_undo 0 = .ok (.aload_n 0, 1) := by decide +kernel
theorem d_Cc_undo_1 : decode c_Cc_undo 1 = .ok (.getfield 28, 3) := by decide +kernel
theorem d_Cc_undo_4 : decode c_Cc_undo 4 = .ok (.getfield 149, 3) := by decide +kernel
theorem d_Cc_undo_7 : decode c_Cc_undo 7 = .ok (.ifCond .ne 6, 3) := by decide +kernel
theorem d_Cc_undo_10 : decode c_Cc_undo 10 = .ok (.bipush (-5), 2) := by decide +kernel
theorem d_Cc_undo_12 : decode c_Cc_undo 12 = .ok (.ireturn, 1) := by decide +kernel
theorem d_Cc_undo_13 : decode c_Cc_undo 13 = .ok (.aload_n 0, 1) := by decide +kernel
theorem d_Cc_undo_14 : decode c_Cc_undo 14 = .ok (.getfield 28, 3) := by decide +kernel
theorem d_Cc_undo_17 : decode c_Cc_undo 17 = .ok (.aload_n 0, 1) := by decide +kernel
theorem d_Cc_undo_18 : decode c_Cc_undo 18 = .ok (.getfield 10, 3) := by decide +kernel
theorem d_Cc_undo_21 : decode c_Cc_undo 21 = .ok (.invokevirtual 150, 3) := by decide +kernel
theorem d_Cc_undo_24 : decode c_Cc_undo 24 = .ok (.aload_n 0, 1) := by decide +kernel
theorem d_Cc_undo_25 : decode c_Cc_undo 25 = .ok (.getfield 28, 3) := by decide +kernel
theorem d_Cc_undo_28 : decode c_Cc_undo 28 = .ok (.getfield 149, 3) := by decide +kernel
theorem d_Cc_undo_31 : decode c_Cc_undo 31 = .ok (.ireturn, 1) := by decide +kernel
theorem d_Cc_rollOf_0 : decode c_Cc_rollOf 0 = .ok (.aload_n 0, 1) := by decide +kernel
theorem d_Cc_rollOf_1 : decode c_Cc_rollOf 1 = .ok (.getfield 10, 3) := by decide +kernel
theorem d_Cc_rollOf_4 : decode c_Cc_rollOf 4 = .ok (.getfield 50, 3) := by decide +kernel
theorem d_Cc_rollOf_7 : decode c_Cc_rollOf 7 = .ok (.iload_n 1, 1) := by decide +kernel
theorem d_Cc_rollOf_8 : decode c_Cc_rollOf 8 = .ok (.invokevirtual 89, 3) := by decide +kernel
theorem d_Cc_rollOf_11 : decode c_Cc_rollOf 11 = .ok (.ifCond .ne 5, 3) := by decide +kernel
theorem d_Cc_rollOf_14 : decode c_Cc_rollOf 14 = .ok (.iconst (-1), 1) := by decide +kernel
theorem d_Cc_rollOf_15 : decode c_Cc_rollOf 15 = .ok (.ireturn, 1) := by decide +kernel
theorem d_Cc_rollOf_16 : decode c_Cc_rollOf 16 = .ok (.iload_n 2, 1) := by decide +kernel
theorem d_Cc_rollOf_17 : decode c_Cc_rollOf 17 = .ok (.tableswitch 199 0 9 #[55, 70, 85, 100, 115, 127, 139, 154, 169, 184], 55) := by decide +kernel
theorem d_Cc_rollOf_72 : decode c_Cc_rollOf 72 = .ok (.aload_n 0, 1) := by decide +kernel
theorem d_Cc_rollOf_73 : decode c_Cc_rollOf 73 = .ok (.getfield 10, 3) := by decide +kernel
theorem d_Cc_rollOf_76 : decode c_Cc_rollOf 76 = .ok (.getfield 50, 3) := by decide +kernel
theorem d_Cc_rollOf_79 : decode c_Cc_rollOf 79 = .ok (.getfield 157, 3) := by decide +kernel
theorem d_Cc_rollOf_82 : decode c_Cc_rollOf 82 = .ok (.iload_n 1, 1) := by decide +kernel
theorem d_Cc_rollOf_83 : decode c_Cc_rollOf 83 = .ok (.invokevirtual 134, 3) := by decide +kernel
theorem d_Cc_rollOf_86 : decode c_Cc_rollOf 86 = .ok (.ireturn, 1) := by decide +kernel
theorem d_Cc_rollOf_87 : decode c_Cc_rollOf 87 = .ok (.aload_n 0, 1) := by decide +kernel
theorem d_Cc_rollOf_88 : decode c_Cc_rollOf 88 = .ok (.getfield 10, 3) := by decide +kernel
theorem d_Cc_rollOf_91 : decode c_Cc_rollOf 91 = .ok (.getfield 50, 3) := by decide +kernel
theorem d_Cc_rollOf_94 : decode c_Cc_rollOf 94 = .ok (.getfield 160, 3) := by decide +kernel
theorem d_Cc_rollOf_97 : decode c_Cc_rollOf 97 = .ok (.iload_n 1, 1) := by decide +kernel
theorem d_Cc_rollOf_98 : decode c_Cc_rollOf 98 = .ok (.invokevirtual 134, 3) := by decide +kernel
theorem d_Cc_rollOf_101 : decode c_Cc_rollOf 101 = .ok (.ireturn, 1) := by decide +kernel
theorem d_Cc_rollOf_102 : decode c_Cc_rollOf 102 = .ok (.aload_n 0, 1) := by decide +kernel
theorem d_Cc_rollOf_103 : decode c_Cc_rollOf 103 = .ok (.getfield 10, 3) := by decide +kernel
theorem d_Cc_rollOf_106 : decode c_Cc_rollOf 106 = .ok (.getfield 50, 3) := by decide +kernel
theorem d_Cc_rollOf_109 : decode c_Cc_rollOf 109 = .ok (.getfield 163, 3) := by decide +kernel
theorem d_Cc_rollOf_112 : decode c_Cc_rollOf 112 = .ok (.iload_n 1, 1) := by decide +kernel
theorem d_Cc_rollOf_113 : decode c_Cc_rollOf 113 = .ok (.invokevirtual 134, 3) := by decide +kernel
theorem d_Cc_rollOf_116 : decode c_Cc_rollOf 116 = .ok (.ireturn, 1) := by decide +kernel
theorem d_Cc_rollOf_117 : decode c_Cc_rollOf 117 = .ok (.aload_n 0, 1) := by decide +kernel
theorem d_Cc_rollOf_118 : decode c_Cc_rollOf 118 = .ok (.getfield 10, 3) := by decide +kernel
theorem d_Cc_rollOf_121 : decode c_Cc_rollOf 121 = .ok (.getfield 50, 3) := by decide +kernel
theorem d_Cc_rollOf_124 : decode c_Cc_rollOf 124 = .ok (.getfield 166, 3) := by decide +kernel
theorem d_Cc_rollOf_127 : decode c_Cc_rollOf 127 = .ok (.iload_n 1, 1) := by decide +kernel
theorem d_Cc_rollOf_128 : decode c_Cc_rollOf 128 = .ok (.invokevirtual 134, 3) := by decide +kernel
theorem d_Cc_rollOf_131 : decode c_Cc_rollOf 131 = .ok (.ireturn, 1) := by decide +kernel
theorem d_Cc_rollOf_132 : decode c_Cc_rollOf 132 = .ok (.aload_n 0, 1) := by decide +kernel
theorem d_Cc_rollOf_133 : decode c_Cc_rollOf 133 = .ok (.getfield 10, 3) := by decide +kernel
theorem d_Cc_rollOf_136 : decode c_Cc_rollOf 136 = .ok (.getfield 107, 3) := by decide +kernel
theorem d_Cc_rollOf_139 : decode c_Cc_rollOf 139 = .ok (.iload_n 1, 1) := by decide +kernel
theorem d_Cc_rollOf_140 : decode c_Cc_rollOf 140 = .ok (.invokevirtual 169, 3) := by decide +kernel
theorem d_Cc_rollOf_143 : decode c_Cc_rollOf 143 = .ok (.ireturn, 1) := by decide +kernel
theorem d_Cc_rollOf_144 : decode c_Cc_rollOf 144 = .ok (.aload_n 0, 1) := by decide +kernel
theorem d_Cc_rollOf_145 : decode c_Cc_rollOf 145 = .ok (.getfield 10, 3) := by decide +kernel
theorem d_Cc_rollOf_148 : decode c_Cc_rollOf 148 = .ok (.getfield 107, 3) := by decide +kernel
theorem d_Cc_rollOf_151 : decode c_Cc_rollOf 151 = .ok (.iload_n 1, 1) := by decide +kernel
theorem d_Cc_rollOf_152 : decode c_Cc_rollOf 152 = .ok (.invokevirtual 172, 3) := by decide +kernel
theorem d_Cc_rollOf_155 : decode c_Cc_rollOf 155 = .ok (.ireturn, 1) := by decide +kernel
theorem d_Cc_rollOf_156 : decode c_Cc_rollOf 156 = .ok (.aload_n 0, 1) := by decide +kernel
theorem d_Cc_rollOf_157 : decode c_Cc_rollOf 157 = .ok (.getfield 10, 3) := by decide +kernel
theorem d_Cc_rollOf_160 : decode c_Cc_rollOf 160 = .ok (.getfield 50, 3) := by decide +kernel
theorem d_Cc_rollOf_163 : decode c_Cc_rollOf 163 = .ok (.getfield 175, 3) := by decide +kernel
theorem d_Cc_rollOf_166 : decode c_Cc_rollOf 166 = .ok (.iload_n 1, 1) := by decide +kernel
theorem d_Cc_rollOf_167 : decode c_Cc_rollOf 167 = .ok (.invokevirtual 134, 3) := by decide +kernel
theorem d_Cc_rollOf_170 : decode c_Cc_rollOf 170 = .ok (.ireturn, 1) := by decide +kernel
theorem d_Cc_rollOf_171 : decode c_Cc_rollOf 171 = .ok (.aload_n 0, 1) := by decide +kernel
theorem d_Cc_rollOf_172 : decode c_Cc_rollOf 172 = .ok (.getfield 10, 3) := by decide +kernel
theorem d_Cc_rollOf_175 : decode c_Cc_rollOf 175 = .ok (.getfield 50, 3) := by decide +kernel
theorem d_Cc_rollOf_178 : decode c_Cc_rollOf 178 = .ok (.getfield 178, 3) := by decide +kernel
theorem d_Cc_rollOf_181 : decode c_Cc_rollOf 181 = .ok (.iload_n 1, 1) := by decide +kernel
theorem d_Cc_rollOf_182 : decode c_Cc_rollOf 182 = .ok (.invokevirtual 134, 3) := by decide +kernel
theorem d_Cc_rollOf_185 : decode c_Cc_rollOf 185 = .ok (.ireturn, 1) := by decide +kernel
theorem d_Cc_rollOf_186 : decode c_Cc_rollOf 186 = .ok (.aload_n 0, 1) := by decide +kernel
theorem d_Cc_rollOf_187 : decode c_Cc_rollOf 187 = .ok (.getfield 10, 3) := by decide +kernel
theorem d_Cc_rollOf_190 : decode c_Cc_rollOf 190 = .ok (.getfield 50, 3) := by decide +kernel
theorem d_Cc_rollOf_193 : decode c_Cc_rollOf 193 = .ok (.getfield 181, 3) := by decide +kernel
theorem d_Cc_rollOf_196 : decode c_Cc_rollOf 196 = .ok (.iload_n 1, 1) := by decide +kernel
theorem d_Cc_rollOf_197 : decode c_Cc_rollOf 197 = .ok (.invokevirtual 134, 3) := by decide +kernel
theorem d_Cc_rollOf_200 : decode c_Cc_rollOf 200 = .ok (.ireturn, 1) := by decide +kernel
theorem d_Cc_rollOf_201 : decode c_Cc_rollOf 201 = .ok (.aload_n 0, 1) := by decide +kernel
theorem d_Cc_rollOf_202 : decode c_Cc_rollOf 202 = .ok (.getfield 10, 3) := by decide +kernel
theorem d_Cc_rollOf_205 : decode c_Cc_rollOf 205 = .ok (.getfield 50, 3) := by decide +kernel
theorem d_Cc_rollOf_208 : decode c_Cc_rollOf 208 = .ok (.getfield 184, 3) := by decide +kernel
theorem d_Cc_rollOf_211 : decode c_Cc_rollOf 211 = .ok (.iload_n 1, 1) := by decide +kernel
theorem d_Cc_rollOf_212 : decode c_Cc_rollOf 212 = .ok (.invokevirtual 134, 3) := by decide +kernel
theorem d_Cc_rollOf_215 : decode c_Cc_rollOf 215 = .ok (.ireturn, 1) := by decide +kernel
theorem d_Cc_rollOf_216 : decode c_Cc_rollOf 216 = .ok (.bipush (-2), 2) := by decide +kernel
theorem d_Cc_rollOf_218 : decode c_Cc_rollOf 218 = .ok (.ireturn, 1) := by decide +kernel
theorem d_Cc_offcut_0 : decode c_Cc_offcut 0 = .ok (.aload_n 0, 1) := by decide +kernel
theorem d_Cc_offcut_1 : decode c_Cc_offcut 1 = .ok (.getfield 10, 3) := by decide +kernel
theorem d_Cc_offcut_4 : decode c_Cc_offcut 4 = .ok (.getfield 107, 3) := by decide +kernel
theorem d_Cc_offcut_7 : decode c_Cc_offcut 7 = .ok (.iload_n 1, 1) := by decide +kernel
theorem d_Cc_offcut_8 : decode c_Cc_offcut 8 = .ok (.invokevirtual 111, 3) := by decide +kernel
theorem d_Cc_offcut_11 : decode c_Cc_offcut 11 = .ok (.istore_n 3, 1) := by decide +kernel
theorem d_Cc_offcut_12 : decode c_Cc_offcut 12 = .ok (.iload_n 3, 1) := by decide +kernel
theorem d_Cc_offcut_13 : decode c_Cc_offcut 13 = .ok (.ifCond .ge 5, 3) := by decide +kernel
theorem d_Cc_offcut_16 : decode c_Cc_offcut 16 = .ok (.iconst (-1), 1) := by decide +kernel
theorem d_Cc_offcut_17 : decode c_Cc_offcut 17 = .ok (.ireturn, 1) := by decide +kernel
theorem d_Cc_offcut_18 : decode c_Cc_offcut 18 = .ok (.iload_n 2, 1) := by decide +kernel
theorem d_Cc_offcut_19 : decode c_Cc_offcut 19 = .ok (.tableswitch 70 0 2 #[25, 40, 55], 25) := by decide +kernel
theorem d_Cc_offcut_44 : decode c_Cc_offcut 44 = .ok (.aload_n 0, 1) := by decide +kernel
theorem d_Cc_offcut_45 : decode c_Cc_offcut 45 = .ok (.getfield 10, 3) := by decide +kernel
theorem d_Cc_offcut_48 : decode c_Cc_offcut 48 = .ok (.getfield 107, 3) := by decide +kernel
theorem d_Cc_offcut_51 : decode c_Cc_offcut 51 = .ok (.getfield 187, 3) := by decide +kernel
theorem d_Cc_offcut_54 : decode c_Cc_offcut 54 = .ok (.iload_n 3, 1) := by decide +kernel
theorem d_Cc_offcut_55 : decode c_Cc_offcut 55 = .ok (.invokevirtual 134, 3) := by decide +kernel
theorem d_Cc_offcut_58 : decode c_Cc_offcut 58 = .ok (.ireturn, 1) := by decide +kernel
theorem d_Cc_offcut_59 : decode c_Cc_offcut 59 = .ok (.aload_n 0, 1) := by decide +kernel
theorem d_Cc_offcut_60 : decode c_Cc_offcut 60 = .ok (.getfield 10, 3) := by decide +kernel
theorem d_Cc_offcut_63 : decode c_Cc_offcut 63 = .ok (.getfield 107, 3) := by decide +kernel
theorem d_Cc_offcut_66 : decode c_Cc_offcut 66 = .ok (.getfield 190, 3) := by decide +kernel
theorem d_Cc_offcut_69 : decode c_Cc_offcut 69 = .ok (.iload_n 3, 1) := by decide +kernel
theorem d_Cc_offcut_70 : decode c_Cc_offcut 70 = .ok (.invokevirtual 134, 3) := by decide +kernel
