theorem d_Mo_stripsOf_3 : decode c_Mo_stripsOf 3 = .ok (.istore_n 3, 1) := by decide +kernel
theorem d_Mo_stripsOf_4 : decode c_Mo_stripsOf 4 = .ok (.iload_n 3, 1) := by decide +kernel
theorem d_Mo_stripsOf_5 : decode c_Mo_stripsOf 5 = .ok (.aload_n 0, 1) := by decide +kernel
theorem d_Mo_stripsOf_6 : decode c_Mo_stripsOf 6 = .ok (.iload_n 1, 1) := by decide +kernel
theorem d_Mo_stripsOf_7 : decode c_Mo_stripsOf 7 = .ok (.iconst 0, 1) := by decide +kernel
theorem d_Mo_stripsOf_8 : decode c_Mo_stripsOf 8 = .ok (.invokevirtual 74, 3) := by decide +kernel
theorem d_Mo_stripsOf_11 : decode c_Mo_stripsOf 11 = .ok (.if_icmp .ge 40, 3) := by decide +kernel
theorem d_Mo_stripsOf_14 : decode c_Mo_stripsOf 14 = .ok (.iload_n 2, 1) := by decide +kernel
theorem d_Mo_stripsOf_15 : decode c_Mo_stripsOf 15 = .ok (.aload_n 0, 1) := by decide +kernel
theorem d_Mo_stripsOf_16 : decode c_Mo_stripsOf 16 = .ok (.iload_n 1, 1) := by decide +kernel
theorem d_Mo_stripsOf_17 : decode c_Mo_stripsOf 17 = .ok (.iload_n 3, 1) := by decide +kernel
theorem d_Mo_stripsOf_18 : decode c_Mo_stripsOf 18 = .ok (.aload_n 0, 1) := by decide +kernel
theorem d_Mo_stripsOf_19 : decode c_Mo_stripsOf 19 = .ok (.iload_n 1, 1) := by decide +kernel
theorem d_Mo_stripsOf_20 : decode c_Mo_stripsOf 20 = .ok (.bipush 10, 2) := by decide +kernel
theorem d_Mo_stripsOf_22 : decode c_Mo_stripsOf 22 = .ok (.invokevirtual 74, 3) := by decide +kernel
theorem d_Mo_stripsOf_25 : decode c_Mo_stripsOf 25 = .ok (.invokevirtual 93, 3) := by decide +kernel
theorem d_Mo_stripsOf_28 : decode c_Mo_stripsOf 28 = .ok (.aload_n 0, 1) := by decide +kernel
theorem d_Mo_stripsOf_29 : decode c_Mo_stripsOf 29 = .ok (.aload_n 0, 1) := by decide +kernel
theorem d_Mo_stripsOf_30 : decode c_Mo_stripsOf 30 = .ok (.iload_n 1, 1) := by decide +kernel
theorem d_Mo_stripsOf_31 : decode c_Mo_stripsOf 31 = .ok (.bipush 9, 2) := by decide +kernel
theorem d_Mo_stripsOf_33 : decode c_Mo_stripsOf 33 = .ok (.invokevirtual 74, 3) := by decide +kernel
theorem d_Mo_stripsOf_36 : decode c_Mo_stripsOf 36 = .ok (.iconst 1, 1) := by decide +kernel
theorem d_Mo_stripsOf_37 : decode c_Mo_stripsOf 37 = .ok (.invokevirtual 90, 3) := by decide +kernel
theorem d_Mo_stripsOf_40 : decode c_Mo_stripsOf 40 = .ok (.invokestatic 100, 3) := by decide +kernel
theorem d_Mo_stripsOf_43 : decode c_Mo_stripsOf 43 = .ok (.iadd, 1) := by decide +kernel
theorem d_Mo_stripsOf_44 : decode c_Mo_stripsOf 44 = .ok (.istore_n 2, 1) := by decide +kernel
theorem d_Mo_stripsOf_45 : decode c_Mo_stripsOf 45 = .ok (.iinc 3 1, 3) := by decide +kernel
theorem d_Mo_stripsOf_48 : decode c_Mo_stripsOf 48 = .ok (.goto (-44), 3) := by decide +kernel
theorem d_Mo_stripsOf_51 : decode c_Mo_stripsOf 51 = .ok (.iload_n 2, 1) := by decide +kernel
theorem d_Mo_stripsOf_52 : decode c_Mo_stripsOf 52 = .ok (.ireturn, 1) := by decide +kernel
theorem d_Mo_seamsOf_0 : decode c_Mo_seamsOf 0 = .ok (.iconst 0, 1) := by decide +kernel
theorem d_Mo_seamsOf_1 : decode c_Mo_seamsOf 1 = .ok (.istore_n 2, 1) := by decide +kernel
theorem d_Mo_seamsOf_2 : decode c_Mo_seamsOf 2 = .ok (.iconst 0, 1) := by decide +kernel
theorem d_Mo_seamsOf_3 : decode c_Mo_seamsOf 3 = .ok (.istore_n 3, 1) := by decide +kernel
theorem d_Mo_seamsOf_4 : decode c_Mo_seamsOf 4 = .ok (.iload_n 3, 1) := by decide +kernel
theorem d_Mo_seamsOf_5 : decode c_Mo_seamsOf 5 = .ok (.aload_n 0, 1) := by decide +kernel
theorem d_Mo_seamsOf_6 : decode c_Mo_seamsOf 6 = .ok (.iload_n 1, 1) := by decide +kernel
theorem d_Mo_seamsOf_7 : decode c_Mo_seamsOf 7 = .ok (.iconst 0, 1) := by decide +kernel
theorem d_Mo_seamsOf_8 : decode c_Mo_seamsOf 8 = .ok (.invokevirtual 74, 3) := by decide +kernel
theorem d_Mo_seamsOf_11 : decode c_Mo_seamsOf 11 = .ok (.if_icmp .ge 56, 3) := by decide +kernel
theorem d_Mo_seamsOf_14 : decode c_Mo_seamsOf 14 = .ok (.iload_n 2, 1) := by decide +kernel
theorem d_Mo_seamsOf_15 : decode c_Mo_seamsOf 15 = .ok (.aload_n 0, 1) := by decide +kernel
theorem d_Mo_seamsOf_16 : decode c_Mo_seamsOf 16 = .ok (.iload_n 1, 1) := by decide +kernel
theorem d_Mo_seamsOf_17 : decode c_Mo_seamsOf 17 = .ok (.iload_n 3, 1) := by decide +kernel
theorem d_Mo_seamsOf_18 : decode c_Mo_seamsOf 18 = .ok (.aload_n 0, 1) := by decide +kernel
theorem d_Mo_seamsOf_19 : decode c_Mo_seamsOf 19 = .ok (.iload_n 1, 1) := by decide +kernel
theorem d_Mo_seamsOf_20 : decode c_Mo_seamsOf 20 = .ok (.bipush 10, 2) := by decide +kernel
theorem d_Mo_seamsOf_22 : decode c_Mo_seamsOf 22 = .ok (.invokevirtual 74, 3) := by decide +kernel
theorem d_Mo_seamsOf_25 : decode c_Mo_seamsOf 25 = .ok (.invokevirtual 93, 3) := by decide +kernel
theorem d_Mo_seamsOf_28 : decode c_Mo_seamsOf 28 = .ok (.aload_n 0, 1) := by decide +kernel
theorem d_Mo_seamsOf_29 : decode c_Mo_seamsOf 29 = .ok (.aload_n 0, 1) := by decide +kernel
theorem d_Mo_seamsOf_30 : decode c_Mo_seamsOf 30 = .ok (.iload_n 1, 1) := by decide +kernel
theorem d_Mo_seamsOf_31 : decode c_Mo_seamsOf 31 = .ok (.bipush 9, 2) := by decide +kernel
theorem d_Mo_seamsOf_33 : decode c_Mo_seamsOf 33 = .ok (.invokevirtual 74, 3) := by decide +kernel
theorem d_Mo_seamsOf_36 : decode c_Mo_seamsOf 36 = .ok (.iconst 1, 1) := by decide +kernel
theorem d_Mo_seamsOf_37 : decode c_Mo_seamsOf 37 = .ok (.invokevirtual 90, 3) := by decide +kernel
theorem d_Mo_seamsOf_40 : decode c_Mo_seamsOf 40 = .ok (.invokestatic 100, 3) := by decide +kernel
theorem d_Mo_seamsOf_43 : decode c_Mo_seamsOf 43 = .ok (.iconst 1, 1) := by decide +kernel
theorem d_Mo_seamsOf_44 : decode c_Mo_seamsOf 44 = .ok (.isub, 1) := by decide +kernel
theorem d_Mo_seamsOf_45 : decode c_Mo_seamsOf 45 = .ok (.aload_n 0, 1) := by decide +kernel
theorem d_Mo_seamsOf_46 : decode c_Mo_seamsOf 46 = .ok (.iload_n 1, 1) := by decide +kernel
theorem d_Mo_seamsOf_47 : decode c_Mo_seamsOf 47 = .ok (.iload_n 3, 1) := by decide +kernel
theorem d_Mo_seamsOf_48 : decode c_Mo_seamsOf 48 = .ok (.aload_n 0, 1) := by decide +kernel
theorem d_Mo_seamsOf_49 : decode c_Mo_seamsOf 49 = .ok (.iload_n 1, 1) := by decide +kernel
theorem d_Mo_seamsOf_50 : decode c_Mo_seamsOf 50 = .ok (.bipush 10, 2) := by decide +kernel
theorem d_Mo_seamsOf_52 : decode c_Mo_seamsOf 52 = .ok (.invokevirtual 74, 3) := by decide +kernel
theorem d_Mo_seamsOf_55 : decode c_Mo_seamsOf 55 = .ok (.invokevirtual 97, 3) := by decide +kernel
theorem d_Mo_seamsOf_58 : decode c_Mo_seamsOf 58 = .ok (.imul, 1) := by decide +kernel
theorem d_Mo_seamsOf_59 : decode c_Mo_seamsOf 59 = .ok (.iadd, 1) := by decide +kernel
theorem d_Mo_seamsOf_60 : decode c_Mo_seamsOf 60 = .ok (.istore_n 2, 1) := by decide +kernel
theorem d_Mo_seamsOf_61 : decode c_Mo_seamsOf 61 = .ok (.iinc 3 1, 3) := by decide +kernel
theorem d_Mo_seamsOf_64 : decode c_Mo_seamsOf 64 = .ok (.goto (-60), 3) := by decide +kernel
theorem d_Mo_seamsOf_67 : decode c_Mo_seamsOf 67 = .ok (.iload_n 2, 1) := by decide +kernel
theorem d_Mo_seamsOf_68 : decode c_Mo_seamsOf 68 = .ok (.ireturn, 1) := by decide +kernel
theorem d_Mo_widthOfStrip_0 : decode c_Mo_widthOfStrip 0 = .ok (.aload_n 0, 1) := by decide +kernel
theorem d_Mo_widthOfStrip_1 : decode c_Mo_widthOfStrip 1 = .ok (.iload_n 1, 1) := by decide +kernel
theorem d_Mo_widthOfStrip_2 : decode c_Mo_widthOfStrip 2 = .ok (.iload_n 2, 1) := by decide +kernel
theorem d_Mo_widthOfStrip_3 : decode c_Mo_widthOfStrip 3 = .ok (.invokevirtual 157, 3) := by decide +kernel
theorem d_Mo_widthOfStrip_6 : decode c_Mo_widthOfStrip 6 = .ok (.istore_n 3, 1) := by decide +kernel
theorem d_Mo_widthOfStrip_7 : decode c_Mo_widthOfStrip 7 = .ok (.aload_n 0, 1) := by decide +kernel
theorem d_Mo_widthOfStrip_8 : decode c_Mo_widthOfStrip 8 = .ok (.iload_n 1, 1) := by decide +kernel
theorem d_Mo_widthOfStrip_9 : decode c_Mo_widthOfStrip 9 = .ok (.iload_n 3, 1) := by decide +kernel
theorem d_Mo_widthOfStrip_10 : decode c_Mo_widthOfStrip 10 = .ok (.bipush 100, 2) := by decide +kernel
theorem d_Mo_widthOfStrip_12 : decode c_Mo_widthOfStrip 12 = .ok (.idiv, 1) := by decide +kernel
theorem d_Mo_widthOfStrip_13 : decode c_Mo_widthOfStrip 13 = .ok (.aload_n 0, 1) := by decide +kernel
theorem d_Mo_widthOfStrip_14 : decode c_Mo_widthOfStrip 14 = .ok (.iload_n 1, 1) := by decide +kernel
theorem d_Mo_widthOfStrip_15 : decode c_Mo_widthOfStrip 15 = .ok (.bipush 10, 2) := by decide +kernel
theorem d_Mo_widthOfStrip_17 : decode c_Mo_widthOfStrip 17 = .ok (.invokevirtual 74, 3) := by decide +kernel
theorem d_Mo_widthOfStrip_20 : decode c_Mo_widthOfStrip 20 = .ok (.invokevirtual 93, 3) := by decide +kernel
theorem d_Mo_widthOfStrip_23 : decode c_Mo_widthOfStrip 23 = .ok (.aload_n 0, 1) := by decide +kernel
theorem d_Mo_widthOfStrip_24 : decode c_Mo_widthOfStrip 24 = .ok (.aload_n 0, 1) := by decide +kernel
theorem d_Mo_widthOfStrip_25 : decode c_Mo_widthOfStrip 25 = .ok (.iload_n 1, 1) := by decide +kernel
theorem d_Mo_widthOfStrip_26 : decode c_Mo_widthOfStrip 26 = .ok (.bipush 9, 2) := by decide +kernel
theorem d_Mo_widthOfStrip_28 : decode c_Mo_widthOfStrip 28 = .ok (.invokevirtual 74, 3) := by decide +kernel
theorem d_Mo_widthOfStrip_31 : decode c_Mo_widthOfStrip 31 = .ok (.iconst 1, 1) := by decide +kernel
theorem d_Mo_widthOfStrip_32 : decode c_Mo_widthOfStrip 32 = .ok (.invokevirtual 90, 3) := by decide +kernel
theorem d_Mo_widthOfStrip_35 : decode c_Mo_widthOfStrip 35 = .ok (.iload_n 3, 1) := by decide +kernel
theorem d_Mo_widthOfStrip_36 : decode c_Mo_widthOfStrip 36 = .ok (.bipush 100, 2) := by decide +kernel
theorem d_Mo_widthOfStrip_38 : decode c_Mo_widthOfStrip 38 = .ok (.irem, 1) := by decide +kernel
theorem d_Mo_widthOfStrip_39 : decode c_Mo_widthOfStrip 39 = .ok (.invokestatic 103, 3) := by decide +kernel
theorem d_Mo_widthOfStrip_42 : decode c_Mo_widthOfStrip 42 = .ok (.ireturn, 1) := by decide +kernel
theorem d_Mo_lengthOfStrip_0 : decode c_Mo_lengthOfStrip 0 = .ok (.aload_n 0, 1) := by decide +kernel
theorem d_Mo_lengthOfStrip_1 : decode c_Mo_lengthOfStrip 1 = .ok (.iload_n 1, 1) := by decide +kernel
theorem d_Mo_lengthOfStrip_2 : decode c_Mo_lengthOfStrip 2 = .ok (.aload_n 0, 1) := by decide +kernel
theorem d_Mo_lengthOfStrip_3 : decode c_Mo_lengthOfStrip 3 = .ok (.iload_n 1, 1) := by decide +kernel
theorem d_Mo_lengthOfStrip_4 : decode c_Mo_lengthOfStrip 4 = .ok (.iload_n 2, 1) := by decide +kernel
theorem d_Mo_lengthOfStrip_5 : decode c_Mo_lengthOfStrip 5 = .ok (.invokevirtual 157, 3) := by decide +kernel
theorem d_Mo_lengthOfStrip_8 : decode c_Mo_lengthOfStrip 8 = .ok (.bipush 100, 2) := by decide +kernel
theorem d_Mo_lengthOfStrip_10 : decode c_Mo_lengthOfStrip 10 = .ok (.idiv, 1) := by decide +kernel
theorem d_Mo_lengthOfStrip_11 : decode c_Mo_lengthOfStrip 11 = .ok (.aload_n 0, 1) := by decide +kernel
theorem d_Mo_lengthOfStrip_12 : decode c_Mo_lengthOfStrip 12 = .ok (.iload_n 1, 1) := by decide +kernel
theorem d_Mo_lengthOfStrip_13 : decode c_Mo_lengthOfStrip 13 = .ok (.bipush 10, 2) := by decide +kernel
theorem d_Mo_lengthOfStrip_15 : decode c_Mo_lengthOfStrip 15 = .ok (.invokevirtual 74, 3) := by decide +kernel
theorem d_Mo_lengthOfStrip_18 : decode c_Mo_lengthOfStrip 18 = .ok (.invokevirtual 97, 3) := by decide +kernel
theorem d_Mo_lengthOfStrip_21 : decode c_Mo_lengthOfStrip 21 = .ok (.ireturn, 1) := by decide +kernel
theorem d_Mo_takeUp_0 : decode c_Mo_takeUp 0 = .ok (.aload_n 0, 1) := by decide +kernel
theorem d_Mo_takeUp_1 : decode c_Mo_takeUp 1 = .ok (.iload_n 1, 1) := by decide +kernel
theorem d_Mo_takeUp_2 : decode c_Mo_takeUp 2 = .ok (.invokevirtual 139, 3) := by decide +kernel
theorem d_Mo_takeUp_5 : decode c_Mo_takeUp 5 = .ok (.ifCond .ne 5, 3) := by decide +kernel
theorem d_Mo_takeUp_8 : decode c_Mo_takeUp 8 = .ok (.iconst (-1), 1) := by decide +kernel
theorem d_Mo_takeUp_9 : decode c_Mo_takeUp 9 = .ok (.ireturn, 1) := by decide +kernel
theorem d_Mo_takeUp_10 : decode c_Mo_takeUp 10 = .ok (.aload_n 0, 1) := by decide +kernel
theorem d_Mo_takeUp_11 : decode c_Mo_takeUp 11 = .ok (.iload_n 1, 1) := by decide +kernel
theorem d_Mo_takeUp_12 : decode c_Mo_takeUp 12 = .ok (.bipush 8, 2) := by decide +kernel
theorem d_Mo_takeUp_14 : decode c_Mo_takeUp 14 = .ok (.invokevirtual 74, 3) := by decide +kernel
theorem d_Mo_takeUp_17 : decode c_Mo_takeUp 17 = .ok (.ifCond .ne 6, 3) := by decide +kernel
theorem d_Mo_takeUp_20 : decode c_Mo_takeUp 20 = .ok (.bipush (-5), 2) := by decide +kernel
theorem d_Mo_takeUp_22 : decode c_Mo_takeUp 22 = .ok (.ireturn, 1) := by decide +kernel
theorem d_Mo_takeUp_23 : decode c_Mo_takeUp 23 = .ok (.aload_n 0, 1) := by decide +kernel
theorem d_Mo_takeUp_24 : decode c_Mo_takeUp 24 = .ok (.invokevirtual 126, 3) := by decide +kernel
theorem d_Mo_takeUp_27 : decode c_Mo_takeUp 27 = .ok (.iconst 0, 1) := by decide +kernel
theorem d_Mo_takeUp_28 : decode c_Mo_takeUp 28 = .ok (.istore_n 2, 1) := by decide +kernel
theorem d_Mo_takeUp_29 : decode c_Mo_takeUp 29 = .ok (.aload_n 0, 1) := by decide +kernel
theorem d_Mo_takeUp_30 : decode c_Mo_takeUp 30 = .ok (.iload_n 1, 1) := by decide +kernel
theorem d_Mo_takeUp_31 : decode c_Mo_takeUp 31 = .ok (.invokevirtual 160, 3) := by decide +kernel
theorem d_Mo_takeUp_34 : decode c_Mo_takeUp 34 = .ok (.istore_n 3, 1) := by decide +kernel
theorem d_Mo_takeUp_35 : decode c_Mo_takeUp 35 = .ok (.aload_n 0, 1) := by decide +kernel
theorem d_Mo_takeUp_36 : decode c_Mo_takeUp 36 = .ok (.iload_n 1, 1) := by decide +kernel
theorem d_Mo_takeUp_37 : decode c_Mo_takeUp 37 = .ok (.bipush 9, 2) := by decide +kernel
theorem d_Mo_takeUp_39 : decode c_Mo_takeUp 39 = .ok (.invokevirtual 74, 3) := by decide +kernel
theorem d_Mo_takeUp_42 : decode c_Mo_takeUp 42 = .ok (.istore 4, 2) := by decide +kernel
theorem d_Mo_takeUp_44 : decode c_Mo_takeUp 44 = .ok (.iconst 0, 1) := by decide +kernel
theorem d_Mo_takeUp_45 : decode c_Mo_takeUp 45 = .ok (.istore 5, 2) := by decide +kernel
theorem d_Mo_takeUp_47 : decode c_Mo_takeUp 47 = .ok (.iload 5, 2) := by decide +kernel
theorem d_Mo_takeUp_49 : decode c_Mo_takeUp 49 = .ok (.iload_n 3, 1) := by decide +kernel
theorem d_Mo_takeUp_50 : decode c_Mo_takeUp 50 = .ok (.if_icmp .ge 78, 3) := by decide +kernel
theorem d_Mo_takeUp_53 : decode c_Mo_takeUp 53 = .ok (.aload_n 0, 1) := by decide +kernel
theorem d_Mo_takeUp_54 : decode c_Mo_takeUp 54 = .ok (.invokevirtual 64, 3) := by decide +kernel
theorem d_Mo_takeUp_57 : decode c_Mo_takeUp 57 = .ok (.bipush 60, 2) := by decide +kernel
theorem d_Mo_takeUp_59 : decode c_Mo_takeUp 59 = .ok (.if_icmp .ge 41, 3) := by decide +kernel
theorem d_Mo_takeUp_62 : decode c_Mo_takeUp 62 = .ok (.aload_n 0, 1) := by decide +kernel
theorem d_Mo_takeUp_63 : decode c_Mo_takeUp 63 = .ok (.getfield 7, 3) := by decide +kernel
theorem d_Mo_takeUp_66 : decode c_Mo_takeUp 66 = .ok (.iconst 1, 1) := by decide +kernel
theorem d_Mo_takeUp_67 : decode c_Mo_takeUp 67 = .ok (.iaload, 1) := by decide +kernel
theorem d_Mo_takeUp_68 : decode c_Mo_takeUp 68 = .ok (.sipush 300, 3) := by decide +kernel
theorem d_Mo_takeUp_71 : decode c_Mo_takeUp 71 = .ok (.if_icmp .ge 29, 3) := by decide +kernel
theorem d_Mo_takeUp_74 : decode c_Mo_takeUp 74 = .ok (.aload_n 0, 1) := by decide +kernel
theorem d_Mo_takeUp_75 : decode c_Mo_takeUp 75 = .ok (.iload 4, 2) := by decide +kernel
theorem d_Mo_takeUp_77 : decode c_Mo_takeUp 77 = .ok (.aload_n 0, 1) := by decide +kernel
theorem d_Mo_takeUp_78 : decode c_Mo_takeUp 78 = .ok (.iload_n 1, 1) := by decide +kernel
theorem d_Mo_takeUp_79 : decode c_Mo_takeUp 79 = .ok (.iload 5, 2) := by decide +kernel
theorem d_Mo_takeUp_81 : decode c_Mo_takeUp 81 = .ok (.invokevirtual 163, 3) := by decide +kernel
theorem d_Mo_takeUp_84 : decode c_Mo_takeUp 84 = .ok (.aload_n 0, 1) := by decide +kernel
theorem d_Mo_takeUp_85 : decode c_Mo_takeUp 85 = .ok (.iload_n 1, 1) := by decide +kernel
theorem d_Mo_takeUp_86 : decode c_Mo_takeUp 86 = .ok (.iload 5, 2) := by decide +kernel
theorem d_Mo_takeUp_88 : decode c_Mo_takeUp 88 = .ok (.invokevirtual 166, 3) := by decide +kernel
theorem d_Mo_takeUp_91 : decode c_Mo_takeUp 91 = .ok (.invokevirtual 54, 3) := by decide +kernel
theorem d_Mo_takeUp_94 : decode c_Mo_takeUp 94 = .ok (.iinc 2 1, 3) := by decide +kernel
theorem d_Mo_takeUp_97 : decode c_Mo_takeUp 97 = .ok (.goto 25, 3) := by decide +kernel
theorem d_Mo_takeUp_100 : decode c_Mo_takeUp 100 = .ok (.aload_n 0, 1) := by decide +kernel
theorem d_Mo_takeUp_101 : decode c_Mo_takeUp 101 = .ok (.iload 4, 2) := by decide +kernel
theorem d_Mo_takeUp_103 : decode c_Mo_takeUp 103 = .ok (.iconst 5, 1) := by decide +kernel
theorem d_Mo_takeUp_104 : decode c_Mo_takeUp 104 = .ok (.aload_n 0, 1) := by decide +kernel
theorem d_Mo_takeUp_105 : decode c_Mo_takeUp 105 = .ok (.iload_n 1, 1) := by decide +kernel
theorem d_Mo_takeUp_106 : decode c_Mo_takeUp 106 = .ok (.iload 5, 2) := by decide +kernel
theorem d_Mo_takeUp_108 : decode c_Mo_takeUp 108 = .ok (.invokevirtual 163, 3) := by decide +kernel
theorem d_Mo_takeUp_111 : decode c_Mo_takeUp 111 = .ok (.aload_n 0, 1) := by decide +kernel
theorem d_Mo_takeUp_112 : decode c_Mo_takeUp 112 = .ok (.iload_n 1, 1) := by decide +kernel
theorem d_Mo_takeUp_113 : decode c_Mo_takeUp 113 = .ok (.iload 5, 2) := by decide +kernel
theorem d_Mo_takeUp_115 : decode c_Mo_takeUp 115 = .ok (.invokevirtual 166, 3) := by decide +kernel
theorem d_Mo_takeUp_118 : decode c_Mo_takeUp 118 = .ok (.imul, 1) := by decide +kernel
theorem d_Mo_takeUp_119 : decode c_Mo_takeUp 119 = .ok (.invokevirtual 50, 3) := by decide +kernel
theorem d_Mo_takeUp_122 : decode c_Mo_takeUp 122 = .ok (.iinc 5 1, 3) := by decide +kernel
theorem d_Mo_takeUp_125 : decode c_Mo_takeUp 125 = .ok (.goto (-78), 3) := by decide +kernel
theorem d_Mo_takeUp_128 : decode c_Mo_takeUp 128 = .ok (.aload_n 0, 1) := by decide +kernel
theorem d_Mo_takeUp_129 : decode c_Mo_takeUp 129 = .ok (.iload_n 1, 1) := by decide +kernel
theorem d_Mo_takeUp_130 : decode c_Mo_takeUp 130 = .ok (.bipush 8, 2) := by decide +kernel
theorem d_Mo_takeUp_132 : decode c_Mo_takeUp 132 = .ok (.iconst 0, 1) := by decide +kernel
theorem d_Mo_takeUp_133 : decode c_Mo_takeUp 133 = .ok (.invokevirtual 123, 3) := by decide +kernel
theorem d_Mo_takeUp_136 : decode c_Mo_takeUp 136 = .ok (.iload_n 2, 1) := by decide +kernel
theorem d_Mo_takeUp_137 : decode c_Mo_takeUp 137 = .ok (.ireturn, 1) := by decide +kernel
theorem d_Mo_sell_0 : decode c_Mo_sell 0 = .ok (.aload_n 0, 1) := by decide +kernel
theorem d_Mo_sell_1 : decode c_Mo_sell 1 = .ok (.iload_n 1, 1) := by decide +kernel
theorem d_Mo_sell_2 : decode c_Mo_sell 2 = .ok (.invokevirtual 46, 3) := by decide +kernel
theorem d_Mo_sell_5 : decode c_Mo_sell 5 = .ok (.ifCond .ne 5, 3) := by decide +kernel
theorem d_Mo_sell_8 : decode c_Mo_sell 8 = .ok (.iconst (-1), 1) := by decide +kernel
theorem d_Mo_sell_9 : decode c_Mo_sell 9 = .ok (.ireturn, 1) := by decide +kernel
theorem d_Mo_sell_10 : decode c_Mo_sell 10 = .ok (.aload_n 0, 1) := by decide +kernel
theorem d_Mo_sell_11 : decode c_Mo_sell 11 = .ok (.invokevirtual 126, 3) := by decide +kernel
theorem d_Mo_sell_14 : decode c_Mo_sell 14 = .ok (.aload_n 0, 1) := by decide +kernel
theorem d_Mo_sell_15 : decode c_Mo_sell 15 = .ok (.iload_n 1, 1) := by decide +kernel
theorem d_Mo_sell_16 : decode c_Mo_sell 16 = .ok (.invokevirtual 68, 3) := by decide +kernel
theorem d_Mo_sell_19 : decode c_Mo_sell 19 = .ok (.istore_n 2, 1) := by decide +kernel
theorem d_Mo_sell_20 : decode c_Mo_sell 20 = .ok (.aload_n 0, 1) := by decide +kernel
theorem d_Mo_sell_21 : decode c_Mo_sell 21 = .ok (.iload_n 1, 1) := by decide +kernel
theorem d_Mo_sell_22 : decode c_Mo_sell 22 = .ok (.invokevirtual 71, 3) := by decide +kernel
theorem d_Mo_sell_25 : decode c_Mo_sell 25 = .ok (.aload_n 0, 1) := by decide +kernel
theorem d_Mo_sell_26 : decode c_Mo_sell 26 = .ok (.iload_n 2, 1) := by decide +kernel
theorem d_Mo_sell_27 : decode c_Mo_sell 27 = .ok (.iconst 3, 1) := by decide +kernel
theorem d_Mo_sell_28 : decode c_Mo_sell 28 = .ok (.invokevirtual 90, 3) := by decide +kernel
theorem d_Mo_sell_31 : decode c_Mo_sell 31 = .ok (.imul, 1) := by decide +kernel
theorem d_Mo_sell_32 : decode c_Mo_sell 32 = .ok (.iconst 2, 1) := by decide +kernel
theorem d_Mo_sell_33 : decode c_Mo_sell 33 = .ok (.idiv, 1) := by decide +kernel
theorem d_Mo_sell_34 : decode c_Mo_sell 34 = .ok (.istore_n 3, 1) := by decide +kernel
theorem d_Mo_sell_35 : decode c_Mo_sell 35 = .ok (.aload_n 0, 1) := by decide +kernel
theorem d_Mo_sell_36 : decode c_Mo_sell 36 = .ok (.iload_n 2, 1) := by decide +kernel
theorem d_Mo_sell_37 : decode c_Mo_sell 37 = .ok (.bipush 6, 2) := by decide +kernel
theorem d_Mo_sell_39 : decode c_Mo_sell 39 = .ok (.aload_n 0, 1) := by decide +kernel
theorem d_Mo_sell_40 : decode c_Mo_sell 40 = .ok (.iload_n 1, 1) := by decide +kernel
theorem d_Mo_sell_41 : decode c_Mo_sell 41 = .ok (.invokevirtual 71, 3) := by decide +kernel
theorem d_Mo_sell_44 : decode c_Mo_sell 44 = .ok (.invokevirtual 50, 3) := by decide +kernel
theorem d_Mo_sell_47 : decode c_Mo_sell 47 = .ok (.aload_n 0, 1) := by decide +kernel
theorem d_Mo_sell_48 : decode c_Mo_sell 48 = .ok (.getfield 7, 3) := by decide +kernel
theorem d_Mo_sell_51 : decode c_Mo_sell 51 = .ok (.iconst 3, 1) := by decide +kernel
theorem d_Mo_sell_52 : decode c_Mo_sell 52 = .ok (.dup2, 1) := by decide +kernel
theorem d_Mo_sell_53 : decode c_Mo_sell 53 = .ok (.iaload, 1) := by decide +kernel
theorem d_Mo_sell_54 : decode c_Mo_sell 54 = .ok (.iload_n 3, 1) := by decide +kernel
theorem d_Mo_sell_55 : decode c_Mo_sell 55 = .ok (.iadd, 1) := by decide +kernel
theorem d_Mo_sell_56 : decode c_Mo_sell 56 = .ok (.iastore, 1) := by decide +kernel
theorem d_Mo_sell_57 : decode c_Mo_sell 57 = .ok (.aload_n 0, 1) := by decide +kernel
theorem d_Mo_sell_58 : decode c_Mo_sell 58 = .ok (.iload_n 1, 1) := by decide +kernel
theorem d_Mo_sell_59 : decode c_Mo_sell 59 = .ok (.invokevirtual 109, 3) := by decide +kernel
theorem d_Mo_sell_62 : decode c_Mo_sell 62 = .ok (.iload_n 3, 1) := by decide +kernel
theorem d_Mo_sell_63 : decode c_Mo_sell 63 = .ok (.ireturn, 1) := by decide +kernel
theorem d_Mo_isBelow_0 : decode c_Mo_isBelow 0 = .ok (.aload_n 0, 1) := by decide +kernel
theorem d_Mo_isBelow_1 : decode c_Mo_isBelow 1 = .ok (.iload_n 1, 1) := by decide +kernel
theorem d_Mo_isBelow_2 : decode c_Mo_isBelow 2 = .ok (.invokevirtual 46, 3) := by decide +kernel
theorem d_Mo_isBelow_5 : decode c_Mo_isBelow 5 = .ok (.ifCond .eq 25, 3) := by decide +kernel
theorem d_Mo_isBelow_8 : decode c_Mo_isBelow 8 = .ok (.aload_n 0, 1) := by decide +kernel
theorem d_Mo_isBelow_9 : decode c_Mo_isBelow 9 = .ok (.iload_n 1, 1) := by decide +kernel
theorem d_Mo_isBelow_10 : decode c_Mo_isBelow 10 = .ok (.invokevirtual 68, 3) := by decide +kernel
theorem d_Mo_isBelow_13 : decode c_Mo_isBelow 13 = .ok (.iload_n 2, 1) := by decide +kernel
theorem d_Mo_isBelow_14 : decode c_Mo_isBelow 14 = .ok (.if_icmp .ne 16, 3) := by decide +kernel
theorem d_Mo_isBelow_17 : decode c_Mo_isBelow 17 = .ok (.aload_n 0, 1) := by decide +kernel
theorem d_Mo_isBelow_18 : decode c_Mo_isBelow 18 = .ok (.iload_n 1, 1) := by decide +kernel
theorem d_Mo_isBelow_19 : decode c_Mo_isBelow 19 = .ok (.invokevirtual 71, 3) := by decide +kernel
theorem d_Mo_isBelow_22 : decode c_Mo_isBelow 22 = .ok (.iload_n 3, 1) := by decide +kernel
theorem d_Mo_isBelow_23 : decode c_Mo_isBelow 23 = .ok (.if_icmp .ge 7, 3) := by decide +kernel
theorem d_Mo_isBelow_26 : decode c_Mo_isBelow 26 = .ok (.iconst 1, 1) := by decide +kernel
theorem d_Mo_isBelow_27 : decode c_Mo_isBelow 27 = .ok (.goto 4, 3) := by decide +kernel
theorem d_Mo_isBelow_30 : decode c_Mo_isBelow 30 = .ok (.iconst 0, 1) := by decide +kernel
theorem d_Mo_isBelow_31 : decode c_Mo_isBelow 31 = .ok (.ireturn, 1) := by decide +kernel
theorem d_Mo_clear_0 : decode c_Mo_clear 0 = .ok (.aload_n 0, 1) := by decide +kernel
theorem d_Mo_clear_1 : decode c_Mo_clear 1 = .ok (.iload_n 1, 1) := by decide +kernel
theorem d_Mo_clear_2 : decode c_Mo_clear 2 = .ok (.invokevirtual 142, 3) := by decide +kernel
theorem d_Mo_clear_5 : decode c_Mo_clear 5 = .ok (.ifCond .ne 5, 3) := by decide +kernel
theorem d_Mo_clear_8 : decode c_Mo_clear 8 = .ok (.iconst (-1), 1) := by decide +kernel
theorem d_Mo_clear_9 : decode c_Mo_clear 9 = .ok (.ireturn, 1) := by decide +kernel
theorem d_Mo_clear_10 : decode c_Mo_clear 10 = .ok (.iload_n 2, 1) := by decide +kernel
theorem d_Mo_clear_11 : decode c_Mo_clear 11 = .ok (.iconst 1, 1) := by decide +kernel
theorem d_Mo_clear_12 : decode c_Mo_clear 12 = .ok (.sipush 9999, 3) := by decide +kernel
theorem d_Mo_clear_15 : decode c_Mo_clear 15 = .ok (.invokestatic 35, 3) := by decide +kernel
theorem d_Mo_clear_18 : decode c_Mo_clear 18 = .ok (.ifCond .ne 6, 3) := by decide +kernel
theorem d_Mo_clear_21 : decode c_Mo_clear 21 = .ok (.bipush (-2), 2) := by decide +kernel
theorem d_Mo_clear_23 : decode c_Mo_clear 23 = .ok (.ireturn, 1) := by decide +kernel
theorem d_Mo_clear_24 : decode c_Mo_clear 24 = .ok (.iconst 0, 1) := by decide +kernel
theorem d_Mo_clear_25 : decode c_Mo_clear 25 = .ok (.istore_n 3, 1) := by decide +kernel
theorem d_Mo_clear_26 : decode c_Mo_clear 26 = .ok (.iconst 0, 1) := by decide +kernel
theorem d_Mo_clear_27 : decode c_Mo_clear 27 = .ok (.istore 4, 2) := by decide +kernel
theorem d_Mo_clear_29 : decode c_Mo_clear 29 = .ok (.iload 4, 2) := by decide +kernel
theorem d_Mo_clear_31 : decode c_Mo_clear 31 = .ok (.aload_n 0, 1) := by decide +kernel
theorem d_Mo_clear_32 : decode c_Mo_clear 32 = .ok (.getfield 7, 3) := by decide +kernel
theorem d_Mo_clear_35 : decode c_Mo_clear 35 = .ok (.iconst 1, 1) := by decide +kernel
theorem d_Mo_clear_36 : decode c_Mo_clear 36 = .ok (.iaload, 1) := by decide +kernel
theorem d_Mo_clear_37 : decode c_Mo_clear 37 = .ok (.if_icmp .ge 28, 3) := by decide +kernel
theorem d_Mo_clear_40 : decode c_Mo_clear 40 = .ok (.iload_n 3, 1) := by decide +kernel
theorem d_Mo_clear_41 : decode c_Mo_clear 41 = .ok (.aload_n 0, 1) := by decide +kernel
theorem d_Mo_clear_42 : decode c_Mo_clear 42 = .ok (.iload 4, 2) := by decide +kernel
theorem d_Mo_clear_44 : decode c_Mo_clear 44 = .ok (.iload_n 1, 1) := by decide +kernel
theorem d_Mo_clear_45 : decode c_Mo_clear 45 = .ok (.iload_n 2, 1) := by decide +kernel
theorem d_Mo_clear_46 : decode c_Mo_clear 46 = .ok (.invokevirtual 169, 3) := by decide +kernel
theorem d_Mo_clear_49 : decode c_Mo_clear 49 = .ok (.ifCond .eq 7, 3) := by decide +kernel
theorem d_Mo_clear_52 : decode c_Mo_clear 52 = .ok (.iconst 1, 1) := by decide +kernel
theorem d_Mo_clear_53 : decode c_Mo_clear 53 = .ok (.goto 4, 3) := by decide +kernel
theorem d_Mo_clear_56 : decode c_Mo_clear 56 = .ok (.iconst 0, 1) := by decide +kernel
theorem d_Mo_clear_57 : decode c_Mo_clear 57 = .ok (.iadd, 1) := by decide +kernel
theorem d_Mo_clear_58 : decode c_Mo_clear 58 = .ok (.istore_n 3, 1) := by decide +kernel
theorem d_Mo_clear_59 : decode c_Mo_clear 59 = .ok (.iinc 4 1, 3) := by decide +kernel
theorem d_Mo_clear_62 : decode c_Mo_clear 62 = .ok (.goto (-33), 3) := by decide +kernel
theorem d_Mo_clear_65 : decode c_Mo_clear 65 = .ok (.iload_n 3, 1) := by decide +kernel
theorem d_Mo_clear_66 : decode c_Mo_clear 66 = .ok (.ifCond .ne 6, 3) := by decide +kernel
theorem d_Mo_clear_69 : decode c_Mo_clear 69 = .ok (.bipush (-5), 2) := by decide +kernel
theorem d_Mo_clear_71 : decode c_Mo_clear 71 = .ok (.ireturn, 1) := by decide +kernel
theorem d_Mo_clear_72 : decode c_Mo_clear 72 = .ok (.aload_n 0, 1) := by decide +kernel
theorem d_Mo_clear_73 : decode c_Mo_clear 73 = .ok (.invokevirtual 126, 3) := by decide +kernel
theorem d_Mo_clear_76 : decode c_Mo_clear 76 = .ok (.iconst 0, 1) := by decide +kernel
theorem d_Mo_clear_77 : decode c_Mo_clear 77 = .ok (.istore 4, 2) := by decide +kernel
theorem d_Mo_clear_79 : decode c_Mo_clear 79 = .ok (.iload 4, 2) := by decide +kernel
theorem d_Mo_clear_81 : decode c_Mo_clear 81 = .ok (.aload_n 0, 1) := by decide +kernel
theorem d_Mo_clear_82 : decode c_Mo_clear 82 = .ok (.getfield 7, 3) := by decide +kernel
theorem d_Mo_clear_85 : decode c_Mo_clear 85 = .ok (.iconst 1, 1) := by decide +kernel
theorem d_Mo_clear_86 : decode c_Mo_clear 86 = .ok (.iaload, 1) := by decide +kernel
theorem d_Mo_clear_87 : decode c_Mo_clear 87 = .ok (.if_icmp .ge 38, 3) := by decide +kernel
theorem d_Mo_clear_90 : decode c_Mo_clear 90 = .ok (.aload_n 0, 1) := by decide +kernel
theorem d_Mo_clear_91 : decode c_Mo_clear 91 = .ok (.iload 4, 2) := by decide +kernel
theorem d_Mo_clear_93 : decode c_Mo_clear 93 = .ok (.iload_n 1, 1) := by decide +kernel
theorem d_Mo_clear_94 : decode c_Mo_clear 94 = .ok (.iload_n 2, 1) := by decide +kernel
theorem d_Mo_clear_95 : decode c_Mo_clear 95 = .ok (.invokevirtual 169, 3) := by decide +kernel
theorem d_Mo_clear_98 : decode c_Mo_clear 98 = .ok (.ifCond .eq 21, 3) := by decide +kernel
theorem d_Mo_clear_101 : decode c_Mo_clear 101 = .ok (.aload_n 0, 1) := by decide +kernel
theorem d_Mo_clear_102 : decode c_Mo_clear 102 = .ok (.iload_n 1, 1) := by decide +kernel
theorem d_Mo_clear_103 : decode c_Mo_clear 103 = .ok (.iconst 5, 1) := by decide +kernel
theorem d_Mo_clear_104 : decode c_Mo_clear 104 = .ok (.aload_n 0, 1) := by decide +kernel
theorem d_Mo_clear_105 : decode c_Mo_clear 105 = .ok (.iload 4, 2) := by decide +kernel
theorem d_Mo_clear_107 : decode c_Mo_clear 107 = .ok (.invokevirtual 71, 3) := by decide +kernel
theorem d_Mo_clear_110 : decode c_Mo_clear 110 = .ok (.invokevirtual 50, 3) := by decide +kernel
theorem d_Mo_clear_113 : decode c_Mo_clear 113 = .ok (.aload_n 0, 1) := by decide +kernel
theorem d_Mo_clear_114 : decode c_Mo_clear 114 = .ok (.iload 4, 2) := by decide +kernel
theorem d_Mo_clear_116 : decode c_Mo_clear 116 = .ok (.invokevirtual 109, 3) := by decide +kernel
theorem d_Mo_clear_119 : decode c_Mo_clear 119 = .ok (.iinc 4 1, 3) := by decide +kernel
theorem d_Mo_clear_122 : decode c_Mo_clear 122 = .ok (.goto (-43), 3) := by decide +kernel
theorem d_Mo_clear_125 : decode c_Mo_clear 125 = .ok (.iload_n 3, 1) := by decide +kernel
theorem d_Mo_clear_126 : decode c_Mo_clear 126 = .ok (.ireturn, 1) := by decide +kernel
theorem d_Mo_most_0 : decode c_Mo_most 0 = .ok (.iload_n 0, 1) := by decide +kernel
theorem d_Mo_most_1 : decode c_Mo_most 1 = .ok (.ifCond .ne 7, 3) := by decide +kernel
theorem d_Mo_most_4 : decode c_Mo_most 4 = .ok (.iconst 2, 1) := by decide +kernel
theorem d_Mo_most_5 : decode c_Mo_most 5 = .ok (.goto 34, 3) := by decide +kernel
theorem d_Mo_most_8 : decode c_Mo_most 8 = .ok (.iload_n 0, 1) := by decide +kernel
theorem d_Mo_most_9 : decode c_Mo_most 9 = .ok (.iconst 1, 1) := by decide +kernel
theorem d_Mo_most_10 : decode c_Mo_most 10 = .ok (.if_icmp .ne 8, 3) := by decide +kernel
theorem d_Mo_most_13 : decode c_Mo_most 13 = .ok (.bipush 20, 2) := by decide +kernel
theorem d_Mo_most_15 : decode c_Mo_most 15 = .ok (.goto 24, 3) := by decide +kernel
theorem d_Mo_most_18 : decode c_Mo_most 18 = .ok (.iload_n 0, 1) := by decide +kernel
theorem d_Mo_most_19 : decode c_Mo_most 19 = .ok (.iconst 2, 1) := by decide +kernel
theorem d_Mo_most_20 : decode c_Mo_most 20 = .ok (.if_icmp .ne 8, 3) := by decide +kernel
theorem d_Mo_most_23 : decode c_Mo_most 23 = .ok (.bipush 99, 2) := by decide +kernel
theorem d_Mo_most_25 : decode c_Mo_most 25 = .ok (.goto 14, 3) := by decide +kernel
theorem d_Mo_most_28 : decode c_Mo_most 28 = .ok (.iload_n 0, 1) := by decide +kernel
theorem d_Mo_most_29 : decode c_Mo_most 29 = .ok (.iconst 3, 1) := by decide +kernel
theorem d_Mo_most_30 : decode c_Mo_most 30 = .ok (.if_icmp .ne 8, 3) := by decide +kernel
theorem d_Mo_most_33 : decode c_Mo_most 33 = .ok (.bipush 9, 2) := by decide +kernel
theorem d_Mo_most_35 : decode c_Mo_most 35 = .ok (.goto 4, 3) := by decide +kernel
theorem d_Mo_most_38 : decode c_Mo_most 38 = .ok (.iconst 1, 1) := by decide +kernel
theorem d_Mo_most_39 : decode c_Mo_most 39 = .ok (.ireturn, 1) := by decide +kernel
theorem d_Mo_set_0 : decode c_Mo_set 0 = .ok (.iload_n 1, 1) := by decide +kernel
theorem d_Mo_set_1 : decode c_Mo_set 1 = .ok (.iconst 0, 1) := by decide +kernel
theorem d_Mo_set_2 : decode c_Mo_set 2 = .ok (.iconst 4, 1) := by decide +kernel
theorem d_Mo_set_3 : decode c_Mo_set 3 = .ok (.invokestatic 35, 3) := by decide +kernel
theorem d_Mo_set_6 : decode c_Mo_set 6 = .ok (.ifCond .eq 29, 3) := by decide +kernel
theorem d_Mo_set_9 : decode c_Mo_set 9 = .ok (.iload_n 2, 1) := by decide +kernel
theorem d_Mo_set_10 : decode c_Mo_set 10 = .ok (.iload_n 1, 1) := by decide +kernel
theorem d_Mo_set_11 : decode c_Mo_set 11 = .ok (.iconst 1, 1) := by decide +kernel
theorem d_Mo_set_12 : decode c_Mo_set 12 = .ok (.if_icmp .eq 8, 3) := by decide +kernel
theorem d_Mo_set_15 : decode c_Mo_set 15 = .ok (.iload_n 1, 1) := by decide +kernel
theorem d_Mo_set_16 : decode c_Mo_set 16 = .ok (.iconst 3, 1) := by decide +kernel
theorem d_Mo_set_17 : decode c_Mo_set 17 = .ok (.if_icmp .ne 7, 3) := by decide +kernel
theorem d_Mo_set_20 : decode c_Mo_set 20 = .ok (.iconst 1, 1) := by decide +kernel
theorem d_Mo_set_21 : decode c_Mo_set 21 = .ok (.goto 4, 3) := by decide +kernel
theorem d_Mo_set_24 : decode c_Mo_set 24 = .ok (.iconst 0, 1) := by decide +kernel
theorem d_Mo_set_25 : decode c_Mo_set 25 = .ok (.iload_n 1, 1) := by decide +kernel
theorem d_Mo_set_26 : decode c_Mo_set 26 = .ok (.invokestatic 172, 3) := by decide +kernel
theorem d_Mo_set_29 : decode c_Mo_set 29 = .ok (.invokestatic 35, 3) := by decide +kernel
theorem d_Mo_set_32 : decode c_Mo_set 32 = .ok (.ifCond .ne 6, 3) := by decide +kernel
theorem d_Mo_set_35 : decode c_Mo_set 35 = .ok (.bipush (-2), 2) := by decide +kernel
theorem d_Mo_set_37 : decode c_Mo_set 37 = .ok (.ireturn, 1) := by decide +kernel
theorem d_Mo_set_38 : decode c_Mo_set 38 = .ok (.aload_n 0, 1) := by decide +kernel
theorem d_Mo_set_39 : decode c_Mo_set 39 = .ok (.getfield 7, 3) := by decide +kernel
theorem d_Mo_set_42 : decode c_Mo_set 42 = .ok (.iconst 4, 1) := by decide +kernel
theorem d_Mo_set_43 : decode c_Mo_set 43 = .ok (.iload_n 1, 1) := by decide +kernel
theorem d_Mo_set_44 : decode c_Mo_set 44 = .ok (.iadd, 1) := by decide +kernel
theorem d_Mo_set_45 : decode c_Mo_set 45 = .ok (.iaload, 1) := by decide +kernel
theorem d_Mo_set_46 : decode c_Mo_set 46 = .ok (.istore_n 3, 1) := by decide +kernel
theorem d_Mo_set_47 : decode c_Mo_set 47 = .ok (.iload_n 3, 1) := by decide +kernel
theorem d_Mo_set_48 : decode c_Mo_set 48 = .ok (.iload_n 2, 1) := by decide +kernel
theorem d_Mo_set_49 : decode c_Mo_set 49 = .ok (.if_icmp .ne 6, 3) := by decide +kernel
theorem d_Mo_set_52 : decode c_Mo_set 52 = .ok (.bipush (-5), 2) := by decide +kernel
theorem d_Mo_set_54 : decode c_Mo_set 54 = .ok (.ireturn, 1) := by decide +kernel
theorem d_Mo_set_55 : decode c_Mo_set 55 = .ok (.aload_n 0, 1) := by decide +kernel
theorem d_Mo_set_56 : decode c_Mo_set 56 = .ok (.invokevirtual 126, 3) := by decide +kernel
theorem d_Mo_set_59 : decode c_Mo_set 59 = .ok (.aload_n 0, 1) := by decide +kernel
theorem d_Mo_set_60 : decode c_Mo_set 60 = .ok (.getfield 7, 3) := by decide +kernel
theorem d_Mo_set_63 : decode c_Mo_set 63 = .ok (.iconst 4, 1) := by decide +kernel
theorem d_Mo_set_64 : decode c_Mo_set 64 = .ok (.iload_n 1, 1) := by decide +kernel
theorem d_Mo_set_65 : decode c_Mo_set 65 = .ok (.iadd, 1) := by decide +kernel
theorem d_Mo_set_66 : decode c_Mo_set 66 = .ok (.iload_n 2, 1) := by decide +kernel
theorem d_Mo_set_67 : decode c_Mo_set 67 = .ok (.iastore, 1) := by decide +kernel
theorem d_Mo_set_68 : decode c_Mo_set 68 = .ok (.iload_n 3, 1) := by decide +kernel
theorem d_Mo_set_69 : decode c_Mo_set 69 = .ok (.ireturn, 1) := by decide +kernel
theorem d_Mo_type_0 : decode c_Mo_type 0 = .ok (.aload_n 0, 1) := by decide +kernel
theorem d_Mo_type_1 : decode c_Mo_type 1 = .ok (.getfield 175, 3) := by decide +kernel
theorem d_Mo_type_4 : decode c_Mo_type 4 = .ok (.bipush 60, 2) := by decide +kernel
theorem d_Mo_type_6 : decode c_Mo_type 6 = .ok (.if_icmp .ne 6, 3) := by decide +kernel
theorem d_Mo_type_9 : decode c_Mo_type 9 = .ok (.bipush (-3), 2) := by decide +kernel
theorem d_Mo_type_11 : decode c_Mo_type 11 = .ok (.ireturn, 1) := by decide +kernel
theorem d_Mo_type_12 : decode c_Mo_type 12 = .ok (.aload_n 0, 1) := by decide +kernel
theorem d_Mo_type_13 : decode c_Mo_type 13 = .ok (.getfield 25, 3) := by decide +kernel
theorem d_Mo_type_16 : decode c_Mo_type 16 = .ok (.aload_n 0, 1) := by decide +kernel
theorem d_Mo_type_17 : decode c_Mo_type 17 = .ok (.getfield 175, 3) := by decide +kernel
theorem d_Mo_type_20 : decode c_Mo_type 20 = .ok (.iload_n 1, 1) := by decide +kernel
theorem d_Mo_type_21 : decode c_Mo_type 21 = .ok (.iastore, 1) := by decide +kernel
theorem d_Mo_type_22 : decode c_Mo_type 22 = .ok (.aload_n 0, 1) := by decide +kernel
theorem d_Mo_type_23 : decode c_Mo_type 23 = .ok (.dup, 1) := by decide +kernel
theorem d_Mo_type_24 : decode c_Mo_type 24 = .ok (.getfield 175, 3) := by decide +kernel
theorem d_Mo_type_27 : decode c_Mo_type 27 = .ok (.iconst 1, 1) := by decide +kernel
theorem d_Mo_type_28 : decode c_Mo_type 28 = .ok (.iadd, 1) := by decide +kernel
theorem d_Mo_type_29 : decode c_Mo_type 29 = .ok (.putfield 175, 3) := by decide +kernel
theorem d_Mo_type_32 : decode c_Mo_type 32 = .ok (.aload_n 0, 1) := by decide +kernel
theorem d_Mo_type_33 : decode c_Mo_type 33 = .ok (.getfield 175, 3) := by decide +kernel
theorem d_Mo_type_36 : decode c_Mo_type 36 = .ok (.ireturn, 1) := by decide +kernel
theorem d_Mo_clearText_0 : decode c_Mo_clearText 0 = .ok (.aload_n 0, 1) := by decide +kernel
theorem d_Mo_clearText_1 : decode c_Mo_clearText 1 = .ok (.getfield 175, 3) := by decide +kernel
theorem d_Mo_clearText_4 : decode c_Mo_clearText 4 = .ok (.istore_n 1, 1) := by decide +kernel
theorem d_Mo_clearText_5 : decode c_Mo_clearText 5 = .ok (.aload_n 0, 1) := by decide +kernel
theorem d_Mo_clearText_6 : decode c_Mo_clearText 6 = .ok (.iconst 0, 1) := by decide +kernel
theorem d_Mo_clearText_7 : decode c_Mo_clearText 7 = .ok (.putfield 175, 3) := by decide +kernel
theorem d_Mo_clearText_10 : decode c_Mo_clearText 10 = .ok (.iload_n 1, 1) := by decide +kernel
theorem d_Mo_clearText_11 : decode c_Mo_clearText 11 = .ok (.ireturn, 1) := by decide +kernel
theorem d_Mo_isNext_0 : decode c_Mo_isNext 0 = .ok (.aload_n 0, 1) := by decide +kernel
theorem d_Mo_isNext_1 : decode c_Mo_isNext 1 = .ok (.getfield 132, 3) := by decide +kernel
theorem d_Mo_isNext_4 : decode c_Mo_isNext 4 = .ok (.aload_n 0, 1) := by decide +kernel
theorem d_Mo_isNext_5 : decode c_Mo_isNext 5 = .ok (.getfield 175, 3) := by decide +kernel
theorem d_Mo_isNext_8 : decode c_Mo_isNext 8 = .ok (.if_icmp .ge 24, 3) := by decide +kernel
theorem d_Mo_isNext_11 : decode c_Mo_isNext 11 = .ok (.aload_n 0, 1) := by decide +kernel
theorem d_Mo_isNext_12 : decode c_Mo_isNext 12 = .ok (.getfield 25, 3) := by decide +kernel
theorem d_Mo_isNext_15 : decode c_Mo_isNext 15 = .ok (.aload_n 0, 1) := by decide +kernel
theorem d_Mo_isNext_16 : decode c_Mo_isNext 16 = .ok (.getfield 132, 3) := by decide +kernel
theorem d_Mo_isNext_19 : decode c_Mo_isNext 19 = .ok (.iaload, 1) := by decide +kernel
theorem d_Mo_isNext_20 : decode c_Mo_isNext 20 = .ok (.iload_n 1, 1) := by decide +kernel
theorem d_Mo_isNext_21 : decode c_Mo_isNext 21 = .ok (.iload_n 2, 1) := by decide +kernel
theorem d_Mo_isNext_22 : decode c_Mo_isNext 22 = .ok (.invokestatic 35, 3) := by decide +kernel
theorem d_Mo_isNext_25 : decode c_Mo_isNext 25 = .ok (.ifCond .eq 7, 3) := by decide +kernel
theorem d_Mo_isNext_28 : decode c_Mo_isNext 28 = .ok (.iconst 1, 1) := by decide +kernel
theorem d_Mo_isNext_29 : decode c_Mo_isNext 29 = .ok (.goto 4, 3) := by decide +kernel
theorem d_Mo_isNext_32 : decode c_Mo_isNext 32 = .ok (.iconst 0, 1) := by decide +kernel
theorem d_Mo_isNext_33 : decode c_Mo_isNext 33 = .ok (.ireturn, 1) := by decide +kernel
theorem d_Mo_sign_0 : decode c_Mo_sign 0 = .ok (.aload_n 0, 1) := by decide +kernel
theorem d_Mo_sign_1 : decode c_Mo_sign 1 = .ok (.iload_n 1, 1) := by decide +kernel
theorem d_Mo_sign_2 : decode c_Mo_sign 2 = .ok (.iload_n 1, 1) := by decide +kernel
theorem d_Mo_sign_3 : decode c_Mo_sign 3 = .ok (.invokevirtual 178, 3) := by decide +kernel
theorem d_Mo_sign_6 : decode c_Mo_sign 6 = .ok (.istore_n 2, 1) := by decide +kernel
theorem d_Mo_sign_7 : decode c_Mo_sign 7 = .ok (.aload_n 0, 1) := by decide +kernel
theorem d_Mo_sign_8 : decode c_Mo_sign 8 = .ok (.dup, 1) := by decide +kernel
theorem d_Mo_sign_9 : decode c_Mo_sign 9 = .ok (.getfield 132, 3) := by decide +kernel
theorem d_Mo_sign_12 : decode c_Mo_sign 12 = .ok (.iload_n 2, 1) := by decide +kernel
theorem d_Mo_sign_13 : decode c_Mo_sign 13 = .ok (.ifCond .eq 7, 3) := by decide +kernel
theorem d_Mo_sign_16 : decode c_Mo_sign 16 = .ok (.iconst 1, 1) := by decide +kernel
theorem d_Mo_sign_17 : decode c_Mo_sign 17 = .ok (.goto 4, 3) := by decide +kernel
theorem d_Mo_sign_20 : decode c_Mo_sign 20 = .ok (.iconst 0, 1) := by decide +kernel
theorem d_Mo_sign_21 : decode c_Mo_sign 21 = .ok (.iadd, 1) := by decide +kernel
theorem d_Mo_sign_22 : decode c_Mo_sign 22 = .ok (.putfield 132, 3) := by decide +kernel
theorem d_Mo_sign_25 : decode c_Mo_sign 25 = .ok (.iload_n 2, 1) := by decide +kernel
theorem d_Mo_sign_26 : decode c_Mo_sign 26 = .ok (.ireturn, 1) := by decide +kernel
theorem d_Mo_size_0 : decode c_Mo_size 0 = .ok (.aload_n 0, 1) := by decide +kernel
theorem d_Mo_size_1 : decode c_Mo_size 1 = .ok (.bipush 49, 2) := by decide +kernel
theorem d_Mo_size_3 : decode c_Mo_size 3 = .ok (.bipush 57, 2) := by decide +kernel
theorem d_Mo_size_5 : decode c_Mo_size 5 = .ok (.invokevirtual 178, 3) := by decide +kernel
theorem d_Mo_size_8 : decode c_Mo_size 8 = .ok (.ifCond .ne 5, 3) := by decide +kernel
theorem d_Mo_size_11 : decode c_Mo_size 11 = .ok (.iconst 0, 1) := by decide +kernel
theorem d_Mo_size_12 : decode c_Mo_size 12 = .ok (.ireturn, 1) := by decide +kernel
theorem d_Mo_size_13 : decode c_Mo_size 13 = .ok (.aload_n 0, 1) := by decide +kernel
theorem d_Mo_size_14 : decode c_Mo_size 14 = .ok (.getfield 25, 3) := by decide +kernel
theorem d_Mo_size_17 : decode c_Mo_size 17 = .ok (.aload_n 0, 1) := by decide +kernel
theorem d_Mo_size_18 : decode c_Mo_size 18 = .ok (.getfield 132, 3) := by decide +kernel
theorem d_Mo_size_21 : decode c_Mo_size 21 = .ok (.iaload, 1) := by decide +kernel
theorem d_Mo_size_22 : decode c_Mo_size 22 = .ok (.bipush 48, 2) := by decide +kernel
theorem d_Mo_size_24 : decode c_Mo_size 24 = .ok (.isub, 1) := by decide +kernel
theorem d_Mo_size_25 : decode c_Mo_size 25 = .ok (.istore_n 2, 1) := by decide +kernel
theorem d_Mo_size_26 : decode c_Mo_size 26 = .ok (.aload_n 0, 1) := by decide +kernel
theorem d_Mo_size_27 : decode c_Mo_size 27 = .ok (.dup, 1) := by decide +kernel
theorem d_Mo_size_28 : decode c_Mo_size 28 = .ok (.getfield 132, 3) := by decide +kernel
theorem d_Mo_size_31 : decode c_Mo_size 31 = .ok (.iconst 1, 1) := by decide +kernel
theorem d_Mo_size_32 : decode c_Mo_size 32 = .ok (.iadd, 1) := by decide +kernel
theorem d_Mo_size_33 : decode c_Mo_size 33 = .ok (.putfield 132, 3) := by decide +kernel
theorem d_Mo_size_36 : decode c_Mo_size 36 = .ok (.aload_n 0, 1) := by decide +kernel
theorem d_Mo_size_37 : decode c_Mo_size 37 = .ok (.bipush 48, 2) := by decide +kernel
theorem d_Mo_size_39 : decode c_Mo_size 39 = .ok (.bipush 57, 2) := by decide +kernel
theorem d_Mo_size_41 : decode c_Mo_size 41 = .ok (.invokevirtual 178, 3) := by decide +kernel
theorem d_Mo_size_44 : decode c_Mo_size 44 = .ok (.ifCond .eq 56, 3) := by decide +kernel
theorem d_Mo_size_47 : decode c_Mo_size 47 = .ok (.bipush 10, 2) := by decide +kernel
theorem d_Mo_size_49 : decode c_Mo_size 49 = .ok (.iload_n 2, 1) := by decide +kernel
theorem d_Mo_size_50 : decode c_Mo_size 50 = .ok (.imul, 1) := by decide +kernel
theorem d_Mo_size_51 : decode c_Mo_size 51 = .ok (.aload_n 0, 1) := by decide +kernel
theorem d_Mo_size_52 : decode c_Mo_size 52 = .ok (.getfield 25, 3) := by decide +kernel
theorem d_Mo_size_55 : decode c_Mo_size 55 = .ok (.aload_n 0, 1) := by decide +kernel
theorem d_Mo_size_56 : decode c_Mo_size 56 = .ok (.getfield 132, 3) := by decide +kernel
theorem d_Mo_size_59 : decode c_Mo_size 59 = .ok (.iaload, 1) := by decide +kernel
theorem d_Mo_size_60 : decode c_Mo_size 60 = .ok (.iadd, 1) := by decide +kernel
theorem d_Mo_size_61 : decode c_Mo_size 61 = .ok (.bipush 48, 2) := by decide +kernel
theorem d_Mo_size_63 : decode c_Mo_size 63 = .ok (.isub, 1) := by decide +kernel
theorem d_Mo_size_64 : decode c_Mo_size 64 = .ok (.bipush 60, 2) := by decide +kernel
theorem d_Mo_size_66 : decode c_Mo_size 66 = .ok (.if_icmp .gt 34, 3) := by decide +kernel
theorem d_Mo_size_69 : decode c_Mo_size 69 = .ok (.bipush 10, 2) := by decide +kernel
theorem d_Mo_size_71 : decode c_Mo_size 71 = .ok (.iload_n 2, 1) := by decide +kernel
theorem d_Mo_size_72 : decode c_Mo_size 72 = .ok (.imul, 1) := by decide +kernel
theorem d_Mo_size_73 : decode c_Mo_size 73 = .ok (.aload_n 0, 1) := by decide +kernel
theorem d_Mo_size_74 : decode c_Mo_size 74 = .ok (.getfield 25, 3) := by decide +kernel
theorem d_Mo_size_77 : decode c_Mo_size 77 = .ok (.aload_n 0, 1) := by decide +kernel
theorem d_Mo_size_78 : decode c_Mo_size 78 = .ok (.getfield 132, 3) := by decide +kernel
theorem d_Mo_size_81 : decode c_Mo_size 81 = .ok (.iaload, 1) := by decide +kernel
theorem d_Mo_size_82 : decode c_Mo_size 82 = .ok (.iadd, 1) := by decide +kernel
theorem d_Mo_size_83 : decode c_Mo_size 83 = .ok (.bipush 48, 2) := by decide +kernel
theorem d_Mo_size_85 : decode c_Mo_size 85 = .ok (.isub, 1) := by decide +kernel
theorem d_Mo_size_86 : decode c_Mo_size 86 = .ok (.istore_n 2, 1) := by decide +kernel
theorem d_Mo_size_87 : decode c_Mo_size 87 = .ok (.aload_n 0, 1) := by decide +kernel
theorem d_Mo_size_88 : decode c_Mo_size 88 = .ok (.dup, 1) := by decide +kernel
theorem d_Mo_size_89 : decode c_Mo_size 89 = .ok (.getfield 132, 3) := by decide +kernel
theorem d_Mo_size_92 : decode c_Mo_size 92 = .ok (.iconst 1, 1) := by decide +kernel
theorem d_Mo_size_93 : decode c_Mo_size 93 = .ok (.iadd, 1) := by decide +kernel
theorem d_Mo_size_94 : decode c_Mo_size 94 = .ok (.putfield 132, 3) := by decide +kernel
theorem d_Mo_size_97 : decode c_Mo_size 97 = .ok (.goto (-61), 3) := by decide +kernel
theorem d_Mo_size_100 : decode c_Mo_size 100 = .ok (.aload_n 0, 1) := by decide +kernel
theorem d_Mo_size_101 : decode c_Mo_size 101 = .ok (.getfield 28, 3) := by decide +kernel
theorem d_Mo_size_104 : decode c_Mo_size 104 = .ok (.iload_n 1, 1) := by decide +kernel
theorem d_Mo_size_105 : decode c_Mo_size 105 = .ok (.iload_n 2, 1) := by decide +kernel
theorem d_Mo_size_106 : decode c_Mo_size 106 = .ok (.iastore, 1) := by decide +kernel
theorem d_Mo_size_107 : decode c_Mo_size 107 = .ok (.iconst 1, 1) := by decide +kernel
theorem d_Mo_size_108 : decode c_Mo_size 108 = .ok (.ireturn, 1) := by decide +kernel
theorem d_Mo_readRoom_0 : decode c_Mo_readRoom 0 = .ok (.iconst 1, 1) := by decide +kernel
theorem d_Mo_readRoom_1 : decode c_Mo_readRoom 1 = .ok (.istore_n 1, 1) := by decide +kernel
theorem d_Mo_readRoom_2 : decode c_Mo_readRoom 2 = .ok (.iload_n 1, 1) := by decide +kernel
theorem d_Mo_readRoom_3 : decode c_Mo_readRoom 3 = .ok (.bipush 7, 2) := by decide +kernel
theorem d_Mo_readRoom_5 : decode c_Mo_readRoom 5 = .ok (.if_icmp .ge 16, 3) := by decide +kernel
theorem d_Mo_readRoom_8 : decode c_Mo_readRoom 8 = .ok (.aload_n 0, 1) := by decide +kernel
theorem d_Mo_readRoom_9 : decode c_Mo_readRoom 9 = .ok (.getfield 28, 3) := by decide +kernel
theorem d_Mo_readRoom_12 : decode c_Mo_readRoom 12 = .ok (.iload_n 1, 1) := by decide +kernel
theorem d_Mo_readRoom_13 : decode c_Mo_readRoom 13 = .ok (.iconst 0, 1) := by decide +kernel
theorem d_Mo_readRoom_14 : decode c_Mo_readRoom 14 = .ok (.iastore, 1) := by decide +kernel
theorem d_Mo_readRoom_15 : decode c_Mo_readRoom 15 = .ok (.iinc 1 1, 3) := by decide +kernel
theorem d_Mo_readRoom_18 : decode c_Mo_readRoom 18 = .ok (.goto (-16), 3) := by decide +kernel
theorem d_Mo_readRoom_21 : decode c_Mo_readRoom 21 = .ok (.iconst 0, 1) := by decide +kernel
theorem d_Mo_readRoom_22 : decode c_Mo_readRoom 22 = .ok (.istore_n 1, 1) := by decide +kernel
theorem d_Mo_readRoom_23 : decode c_Mo_readRoom 23 = .ok (.iconst 1, 1) := by decide +kernel
theorem d_Mo_readRoom_24 : decode c_Mo_readRoom 24 = .ok (.istore_n 2, 1) := by decide +kernel
theorem d_Mo_readRoom_25 : decode c_Mo_readRoom 25 = .ok (.iload_n 2, 1) := by decide +kernel
theorem d_Mo_readRoom_26 : decode c_Mo_readRoom 26 = .ok (.ifCond .eq 64, 3) := by decide +kernel
theorem d_Mo_readRoom_29 : decode c_Mo_readRoom 29 = .ok (.aload_n 0, 1) := by decide +kernel
theorem d_Mo_readRoom_30 : decode c_Mo_readRoom 30 = .ok (.iconst 1, 1) := by decide +kernel
theorem d_Mo_readRoom_31 : decode c_Mo_readRoom 31 = .ok (.iconst 2, 1) := by decide +kernel
theorem d_Mo_readRoom_32 : decode c_Mo_readRoom 32 = .ok (.iload_n 1, 1) := by decide +kernel
theorem d_Mo_readRoom_33 : decode c_Mo_readRoom 33 = .ok (.imul, 1) := by decide +kernel
theorem d_Mo_readRoom_34 : decode c_Mo_readRoom 34 = .ok (.iadd, 1) := by decide +kernel
theorem d_Mo_readRoom_35 : decode c_Mo_readRoom 35 = .ok (.invokevirtual 181, 3) := by decide +kernel
theorem d_Mo_readRoom_38 : decode c_Mo_readRoom 38 = .ok (.ifCond .eq 24, 3) := by decide +kernel
theorem d_Mo_readRoom_41 : decode c_Mo_readRoom 41 = .ok (.aload_n 0, 1) := by decide +kernel
theorem d_Mo_readRoom_42 : decode c_Mo_readRoom 42 = .ok (.bipush 120, 2) := by decide +kernel
theorem d_Mo_readRoom_44 : decode c_Mo_readRoom 44 = .ok (.invokevirtual 184, 3) := by decide +kernel
theorem d_Mo_readRoom_47 : decode c_Mo_readRoom 47 = .ok (.ifCond .eq 15, 3) := by decide +kernel
theorem d_Mo_readRoom_50 : decode c_Mo_readRoom 50 = .ok (.aload_n 0, 1) := by decide +kernel
theorem d_Mo_readRoom_51 : decode c_Mo_readRoom 51 = .ok (.iconst 2, 1) := by decide +kernel
theorem d_Mo_readRoom_52 : decode c_Mo_readRoom 52 = .ok (.iconst 2, 1) := by decide +kernel
theorem d_Mo_readRoom_53 : decode c_Mo_readRoom 53 = .ok (.iload_n 1, 1) := by decide +kernel
theorem d_Mo_readRoom_54 : decode c_Mo_readRoom 54 = .ok (.imul, 1) := by decide +kernel
theorem d_Mo_readRoom_55 : decode c_Mo_readRoom 55 = .ok (.iadd, 1) := by decide +kernel
theorem d_Mo_readRoom_56 : decode c_Mo_readRoom 56 = .ok (.invokevirtual 181, 3) := by decide +kernel
theorem d_Mo_readRoom_59 : decode c_Mo_readRoom 59 = .ok (.ifCond .ne 5, 3) := by decide +kernel
theorem d_Mo_readRoom_62 : decode c_Mo_readRoom 62 = .ok (.iconst 0, 1) := by decide +kernel
theorem d_Mo_readRoom_63 : decode c_Mo_readRoom 63 = .ok (.ireturn, 1) := by decide +kernel
theorem d_Mo_readRoom_64 : decode c_Mo_readRoom 64 = .ok (.iinc 1 1, 3) := by decide +kernel
theorem d_Mo_readRoom_67 : decode c_Mo_readRoom 67 = .ok (.iload_n 1, 1) := by decide +kernel
theorem d_Mo_readRoom_68 : decode c_Mo_readRoom 68 = .ok (.iconst 3, 1) := by decide +kernel
theorem d_Mo_readRoom_69 : decode c_Mo_readRoom 69 = .ok (.if_icmp .ge 16, 3) := by decide +kernel
theorem d_Mo_readRoom_72 : decode c_Mo_readRoom 72 = .ok (.aload_n 0, 1) := by decide +kernel
theorem d_Mo_readRoom_73 : decode c_Mo_readRoom 73 = .ok (.bipush 43, 2) := by decide +kernel
theorem d_Mo_readRoom_75 : decode c_Mo_readRoom 75 = .ok (.invokevirtual 184, 3) := by decide +kernel
theorem d_Mo_readRoom_78 : decode c_Mo_readRoom 78 = .ok (.ifCond .eq 7, 3) := by decide +kernel
theorem d_Mo_readRoom_81 : decode c_Mo_readRoom 81 = .ok (.iconst 1, 1) := by decide +kernel
theorem d_Mo_readRoom_82 : decode c_Mo_readRoom 82 = .ok (.goto 4, 3) := by decide +kernel
theorem d_Mo_readRoom_85 : decode c_Mo_readRoom 85 = .ok (.iconst 0, 1) := by decide +kernel
theorem d_Mo_readRoom_86 : decode c_Mo_readRoom 86 = .ok (.istore_n 2, 1) := by decide +kernel
theorem d_Mo_readRoom_87 : decode c_Mo_readRoom 87 = .ok (.goto (-62), 3) := by decide +kernel
theorem d_Mo_readRoom_90 : decode c_Mo_readRoom 90 = .ok (.aload_n 0, 1) := by decide +kernel
theorem d_Mo_readRoom_91 : decode c_Mo_readRoom 91 = .ok (.getfield 28, 3) := by decide +kernel
theorem d_Mo_readRoom_94 : decode c_Mo_readRoom 94 = .ok (.iconst 0, 1) := by decide +kernel
theorem d_Mo_readRoom_95 : decode c_Mo_readRoom 95 = .ok (.iload_n 1, 1) := by decide +kernel
theorem d_Mo_readRoom_96 : decode c_Mo_readRoom 96 = .ok (.iastore, 1) := by decide +kernel
theorem d_Mo_readRoom_97 : decode c_Mo_readRoom 97 = .ok (.aload_n 0, 1) := by decide +kernel
theorem d_Mo_readRoom_98 : decode c_Mo_readRoom 98 = .ok (.bipush 64, 2) := by decide +kernel
theorem d_Mo_readRoom_100 : decode c_Mo_readRoom 100 = .ok (.invokevirtual 184, 3) := by decide +kernel
theorem d_Mo_readRoom_103 : decode c_Mo_readRoom 103 = .ok (.ifCond .eq 14, 3) := by decide +kernel
theorem d_Mo_readRoom_106 : decode c_Mo_readRoom 106 = .ok (.aload_n 0, 1) := by decide +kernel
theorem d_Mo_readRoom_107 : decode c_Mo_readRoom 107 = .ok (.bipush 48, 2) := by decide +kernel
theorem d_Mo_readRoom_109 : decode c_Mo_readRoom 109 = .ok (.bipush 51, 2) := by decide +kernel
theorem d_Mo_readRoom_111 : decode c_Mo_readRoom 111 = .ok (.invokevirtual 178, 3) := by decide +kernel
theorem d_Mo_readRoom_114 : decode c_Mo_readRoom 114 = .ok (.ifCond .ne 5, 3) := by decide +kernel
theorem d_Mo_readRoom_117 : decode c_Mo_readRoom 117 = .ok (.iconst 0, 1) := by decide +kernel
theorem d_Mo_readRoom_118 : decode c_Mo_readRoom 118 = .ok (.ireturn, 1) := by decide +kernel
theorem d_Mo_readRoom_119 : decode c_Mo_readRoom 119 = .ok (.aload_n 0, 1) := by decide +kernel
theorem d_Mo_readRoom_120 : decode c_Mo_readRoom 120 = .ok (.getfield 28, 3) := by decide +kernel
theorem d_Mo_readRoom_123 : decode c_Mo_readRoom 123 = .ok (.bipush 7, 2) := by decide +kernel
theorem d_Mo_readRoom_125 : decode c_Mo_readRoom 125 = .ok (.aload_n 0, 1) := by decide +kernel
theorem d_Mo_readRoom_126 : decode c_Mo_readRoom 126 = .ok (.getfield 25, 3) := by decide +kernel
theorem d_Mo_readRoom_129 : decode c_Mo_readRoom 129 = .ok (.aload_n 0, 1) := by decide +kernel
theorem d_Mo_readRoom_130 : decode c_Mo_readRoom 130 = .ok (.getfield 132, 3) := by decide +kernel
theorem d_Mo_readRoom_133 : decode c_Mo_readRoom 133 = .ok (.iaload, 1) := by decide +kernel
theorem d_Mo_readRoom_134 : decode c_Mo_readRoom 134 = .ok (.bipush 48, 2) := by decide +kernel
theorem d_Mo_readRoom_136 : decode c_Mo_readRoom 136 = .ok (.isub, 1) := by decide +kernel
theorem d_Mo_readRoom_137 : decode c_Mo_readRoom 137 = .ok (.iastore, 1) := by decide +kernel
theorem d_Mo_readRoom_138 : decode c_Mo_readRoom 138 = .ok (.aload_n 0, 1) := by decide +kernel
theorem d_Mo_readRoom_139 : decode c_Mo_readRoom 139 = .ok (.dup, 1) := by decide +kernel
theorem d_Mo_readRoom_140 : decode c_Mo_readRoom 140 = .ok (.getfield 132, 3) := by decide +kernel
theorem d_Mo_readRoom_143 : decode c_Mo_readRoom 143 = .ok (.iconst 1, 1) := by decide +kernel
theorem d_Mo_readRoom_144 : decode c_Mo_readRoom 144 = .ok (.iadd, 1) := by decide +kernel
theorem d_Mo_readRoom_145 : decode c_Mo_readRoom 145 = .ok (.putfield 132, 3) := by decide +kernel
theorem d_Mo_readRoom_148 : decode c_Mo_readRoom 148 = .ok (.iconst 1, 1) := by decide +kernel
theorem d_Mo_readRoom_149 : decode c_Mo_readRoom 149 = .ok (.ireturn, 1) := by decide +kernel
theorem d_Mo_readAll_0 : decode c_Mo_readAll 0 = .ok (.aload_n 0, 1) := by decide +kernel
theorem d_Mo_readAll_1 : decode c_Mo_readAll 1 = .ok (.iconst 0, 1) := by decide +kernel
theorem d_Mo_readAll_2 : decode c_Mo_readAll 2 = .ok (.putfield 132, 3) := by decide +kernel
theorem d_Mo_readAll_5 : decode c_Mo_readAll 5 = .ok (.iconst 0, 1) := by decide +kernel
theorem d_Mo_readAll_6 : decode c_Mo_readAll 6 = .ok (.istore_n 1, 1) := by decide +kernel
theorem d_Mo_readAll_7 : decode c_Mo_readAll 7 = .ok (.iconst 1, 1) := by decide +kernel
theorem d_Mo_readAll_8 : decode c_Mo_readAll 8 = .ok (.istore_n 2, 1) := by decide +kernel
theorem d_Mo_readAll_9 : decode c_Mo_readAll 9 = .ok (.iload_n 2, 1) := by decide +kernel
theorem d_Mo_readAll_10 : decode c_Mo_readAll 10 = .ok (.ifCond .eq 31, 3) := by decide +kernel
theorem d_Mo_readAll_13 : decode c_Mo_readAll 13 = .ok (.aload_n 0, 1) := by decide +kernel
theorem d_Mo_readAll_14 : decode c_Mo_readAll 14 = .ok (.invokevirtual 135, 3) := by decide +kernel
theorem d_Mo_readAll_17 : decode c_Mo_readAll 17 = .ok (.ifCond .ne 11, 3) := by decide +kernel
theorem d_Mo_readAll_20 : decode c_Mo_readAll 20 = .ok (.bipush (-100), 2) := by decide +kernel
theorem d_Mo_readAll_22 : decode c_Mo_readAll 22 = .ok (.aload_n 0, 1) := by decide +kernel
theorem d_Mo_readAll_23 : decode c_Mo_readAll 23 = .ok (.getfield 132, 3) := by decide +kernel
theorem d_Mo_readAll_26 : decode c_Mo_readAll 26 = .ok (.isub, 1) := by decide +kernel
theorem d_Mo_readAll_27 : decode c_Mo_readAll 27 = .ok (.ireturn, 1) := by decide +kernel
theorem d_Mo_readAll_28 : decode c_Mo_readAll 28 = .ok (.iinc 1 1, 3) := by decide +kernel
theorem d_Mo_readAll_31 : decode c_Mo_readAll 31 = .ok (.aload_n 0, 1) := by decide +kernel
theorem d_Mo_readAll_32 : decode c_Mo_readAll 32 = .ok (.bipush 59, 2) := by decide +kernel
theorem d_Mo_readAll_34 : decode c_Mo_readAll 34 = .ok (.invokevirtual 184, 3) := by decide +kernel
theorem d_Mo_readAll_37 : decode c_Mo_readAll 37 = .ok (.istore_n 2, 1) := by decide +kernel
theorem d_Mo_readAll_38 : decode c_Mo_readAll 38 = .ok (.goto (-29), 3) := by decide +kernel
theorem d_Mo_readAll_41 : decode c_Mo_readAll 41 = .ok (.aload_n 0, 1) := by decide +kernel
theorem d_Mo_readAll_42 : decode c_Mo_readAll 42 = .ok (.getfield 132, 3) := by decide +kernel
theorem d_Mo_readAll_45 : decode c_Mo_readAll 45 = .ok (.aload_n 0, 1) := by decide +kernel
theorem d_Mo_readAll_46 : decode c_Mo_readAll 46 = .ok (.getfield 175, 3) := by decide +kernel
theorem d_Mo_readAll_49 : decode c_Mo_readAll 49 = .ok (.if_icmp .ge 13, 3) := by decide +kernel
theorem d_Mo_readAll_52 : decode c_Mo_readAll 52 = .ok (.bipush (-100), 2) := by decide +kernel
theorem d_Mo_readAll_54 : decode c_Mo_readAll 54 = .ok (.aload_n 0, 1) := by decide +kernel
theorem d_Mo_readAll_55 : decode c_Mo_readAll 55 = .ok (.getfield 132, 3) := by decide +kernel
theorem d_Mo_readAll_58 : decode c_Mo_readAll 58 = .ok (.isub, 1) := by decide +kernel
theorem d_Mo_readAll_59 : decode c_Mo_readAll 59 = .ok (.goto 4, 3) := by decide +kernel
theorem d_Mo_readAll_62 : decode c_Mo_readAll 62 = .ok (.iload_n 1, 1) := by decide +kernel
theorem d_Mo_readAll_63 : decode c_Mo_readAll 63 = .ok (.ireturn, 1) := by decide +kernel
theorem d_Mo_fault_0 : decode c_Mo_fault 0 = .ok (.aload_n 0, 1) := by decide +kernel
theorem d_Mo_fault_1 : decode c_Mo_fault 1 = .ok (.invokevirtual 129, 3) := by decide +kernel
theorem d_Mo_fault_4 : decode c_Mo_fault 4 = .ok (.istore_n 1, 1) := by decide +kernel
theorem d_Mo_fault_5 : decode c_Mo_fault 5 = .ok (.iload_n 1, 1) := by decide +kernel
theorem d_Mo_fault_6 : decode c_Mo_fault 6 = .ok (.ifCond .ge 10, 3) := by decide +kernel
theorem d_Mo_fault_9 : decode c_Mo_fault 9 = .ok (.bipush (-100), 2) := by decide +kernel
theorem d_Mo_fault_11 : decode c_Mo_fault 11 = .ok (.iload_n 1, 1) := by decide +kernel
theorem d_Mo_fault_12 : decode c_Mo_fault 12 = .ok (.isub, 1) := by decide +kernel
theorem d_Mo_fault_13 : decode c_Mo_fault 13 = .ok (.goto 5, 3) := by decide +kernel
theorem d_Mo_fault_16 : decode c_Mo_fault 16 = .ok (.bipush (-5), 2) := by decide +kernel
theorem d_Mo_fault_18 : decode c_Mo_fault 18 = .ok (.ireturn, 1) := by decide +kernel
theorem d_Mo_undo_0 : decode c_Mo_undo 0 = .ok (.aload_n 0, 1) := by decide +kernel
theorem d_Mo_undo_1 : decode c_Mo_undo 1 = .ok (.getfield 31, 3) := by decide +kernel
theorem d_Mo_undo_4 : decode c_Mo_undo 4 = .ok (.ifCond .ne 6, 3) := by decide +kernel
theorem d_Mo_undo_7 : decode c_Mo_undo 7 = .ok (.bipush (-5), 2) := by decide +kernel
theorem d_Mo_undo_9 : decode c_Mo_undo 9 = .ok (.ireturn, 1) := by decide +kernel
theorem d_Mo_undo_10 : decode c_Mo_undo 10 = .ok (.aload_n 0, 1) := by decide +kernel
theorem d_Mo_undo_11 : decode c_Mo_undo 11 = .ok (.dup, 1) := by decide +kernel
theorem d_Mo_undo_12 : decode c_Mo_undo 12 = .ok (.getfield 31, 3) := by decide +kernel
theorem d_Mo_undo_15 : decode c_Mo_undo 15 = .ok (.iconst 1, 1) := by decide +kernel
theorem d_Mo_undo_16 : decode c_Mo_undo 16 = .ok (.isub, 1) := by decide +kernel
theorem d_Mo_undo_17 : decode c_Mo_undo 17 = .ok (.putfield 31, 3) := by decide +kernel
theorem d_Mo_undo_20 : decode c_Mo_undo 20 = .ok (.iconst 0, 1) := by decide +kernel
theorem d_Mo_undo_21 : decode c_Mo_undo 21 = .ok (.istore_n 1, 1) := by decide +kernel
theorem d_Mo_undo_22 : decode c_Mo_undo 22 = .ok (.iload_n 1, 1) := by decide +kernel
theorem d_Mo_undo_23 : decode c_Mo_undo 23 = .ok (.sipush 1953, 3) := by decide +kernel
theorem d_Mo_undo_26 : decode c_Mo_undo 26 = .ok (.if_icmp .ge 30, 3) := by decide +kernel
theorem d_Mo_undo_29 : decode c_Mo_undo 29 = .ok (.aload_n 0, 1) := by decide +kernel
theorem d_Mo_undo_30 : decode c_Mo_undo 30 = .ok (.getfield 7, 3) := by decide +kernel
theorem d_Mo_undo_33 : decode c_Mo_undo 33 = .ok (.iload_n 1, 1) := by decide +kernel
theorem d_Mo_undo_34 : decode c_Mo_undo 34 = .ok (.aload_n 0, 1) := by decide +kernel
theorem d_Mo_undo_35 : decode c_Mo_undo 35 = .ok (.getfield 22, 3) := by decide +kernel
theorem d_Mo_undo_38 : decode c_Mo_undo 38 = .ok (.sipush 1953, 3) := by decide +kernel
theorem d_Mo_undo_41 : decode c_Mo_undo 41 = .ok (.aload_n 0, 1) := by decide +kernel
theorem d_Mo_undo_42 : decode c_Mo_undo 42 = .ok (.getfield 31, 3) := by decide +kernel
theorem d_Mo_undo_45 : decode c_Mo_undo 45 = .ok (.imul, 1) := by decide +kernel
theorem d_Mo_undo_46 : decode c_Mo_undo 46 = .ok (.iload_n 1, 1) := by decide +kernel
theorem d_Mo_undo_47 : decode c_Mo_undo 47 = .ok (.iadd, 1) := by decide +kernel
theorem d_Mo_undo_48 : decode c_Mo_undo 48 = .ok (.iaload, 1) := by decide +kernel
theorem d_Mo_undo_49 : decode c_Mo_undo 49 = .ok (.iastore, 1) := by decide +kernel
theorem d_Mo_undo_50 : decode c_Mo_undo 50 = .ok (.iinc 1 1, 3) := by decide +kernel
theorem d_Mo_undo_53 : decode c_Mo_undo 53 = .ok (.goto (-31), 3) := by decide +kernel
theorem d_Mo_undo_56 : decode c_Mo_undo 56 = .ok (.aload_n 0, 1) := by decide +kernel
theorem d_Mo_undo_57 : decode c_Mo_undo 57 = .ok (.getfield 31, 3) := by decide +kernel
theorem d_Mo_undo_60 : decode c_Mo_undo 60 = .ok (.ireturn, 1) := by decide +kernel
theorem d_Mo_keep_0 : decode c_Mo_keep 0 = .ok (.iconst 0, 1) := by decide +kernel
theorem d_Mo_keep_1 : decode c_Mo_keep 1 = .ok (.istore_n 1, 1) := by decide +kernel
theorem d_Mo_keep_2 : decode c_Mo_keep 2 = .ok (.iload_n 1, 1) := by decide +kernel
theorem d_Mo_keep_3 : decode c_Mo_keep 3 = .ok (.sipush 1953, 3) := by decide +kernel
theorem d_Mo_keep_6 : decode c_Mo_keep 6 = .ok (.if_icmp .ge 21, 3) := by decide +kernel
theorem d_Mo_keep_9 : decode c_Mo_keep 9 = .ok (.aload_n 0, 1) := by decide +kernel
theorem d_Mo_keep_10 : decode c_Mo_keep 10 = .ok (.getfield 13, 3) := by decide +kernel
theorem d_Mo_keep_13 : decode c_Mo_keep 13 = .ok (.iload_n 1, 1) := by decide +kernel
theorem d_Mo_keep_14 : decode c_Mo_keep 14 = .ok (.aload_n 0, 1) := by decide +kernel
theorem d_Mo_keep_15 : decode c_Mo_keep 15 = .ok (.getfield 7, 3) := by decide +kernel
theorem d_Mo_keep_18 : decode c_Mo_keep 18 = .ok (.iload_n 1, 1) := by decide +kernel
theorem d_Mo_keep_19 : decode c_Mo_keep 19 = .ok (.iaload, 1) := by decide +kernel
theorem d_Mo_keep_20 : decode c_Mo_keep 20 = .ok (.iastore, 1) := by decide +kernel
theorem d_Mo_keep_21 : decode c_Mo_keep 21 = .ok (.iinc 1 1, 3) := by decide +kernel
theorem d_Mo_keep_24 : decode c_Mo_keep 24 = .ok (.goto (-22), 3) := by decide +kernel
theorem d_Mo_keep_27 : decode c_Mo_keep 27 = .ok (.aload_n 0, 1) := by decide +kernel
theorem d_Mo_keep_28 : decode c_Mo_keep 28 = .ok (.iconst 1, 1) := by decide +kernel
theorem d_Mo_keep_29 : decode c_Mo_keep 29 = .ok (.putfield 187, 3) := by decide +kernel
theorem d_Mo_keep_32 : decode c_Mo_keep 32 = .ok (.aload_n 0, 1) := by decide +kernel
theorem d_Mo_keep_33 : decode c_Mo_keep 33 = .ok (.getfield 7, 3) := by decide +kernel
theorem d_Mo_keep_36 : decode c_Mo_keep 36 = .ok (.iconst 2, 1) := by decide +kernel
theorem d_Mo_keep_37 : decode c_Mo_keep 37 = .ok (.iaload, 1) := by decide +kernel
theorem d_Mo_keep_38 : decode c_Mo_keep 38 = .ok (.ireturn, 1) := by decide +kernel
theorem d_Mo_restore_0 : decode c_Mo_restore 0 = .ok (.aload_n 0, 1) := by decide +kernel
theorem d_Mo_restore_1 : decode c_Mo_restore 1 = .ok (.getfield 187, 3) := by decide +kernel
theorem d_Mo_restore_4 : decode c_Mo_restore 4 = .ok (.ifCond .ne 6, 3) := by decide +kernel
theorem d_Mo_restore_7 : decode c_Mo_restore 7 = .ok (.bipush (-5), 2) := by decide +kernel
theorem d_Mo_restore_9 : decode c_Mo_restore 9 = .ok (.ireturn, 1) := by decide +kernel
theorem d_Mo_restore_10 : decode c_Mo_restore 10 = .ok (.aload_n 0, 1) := by decide +kernel
theorem d_Mo_restore_11 : decode c_Mo_restore 11 = .ok (.invokevirtual 126, 3) := by decide +kernel
theorem d_Mo_restore_14 : decode c_Mo_restore 14 = .ok (.iconst 0, 1) := by decide +kernel
theorem d_Mo_restore_15 : decode c_Mo_restore 15 = .ok (.istore_n 1, 1) := by decide +kernel
theorem d_Mo_restore_16 : decode c_Mo_restore 16 = .ok (.iload_n 1, 1) := by decide +kernel
theorem d_Mo_restore_17 : decode c_Mo_restore 17 = .ok (.sipush 1953, 3) := by decide +kernel
theorem d_Mo_restore_20 : decode c_Mo_restore 20 = .ok (.if_icmp .ge 21, 3) := by decide +kernel
theorem d_Mo_restore_23 : decode c_Mo_restore 23 = .ok (.aload_n 0, 1) := by decide +kernel
theorem d_Mo_restore_24 : decode c_Mo_restore 24 = .ok (.getfield 7, 3) := by decide +kernel
theorem d_Mo_restore_27 : decode c_Mo_restore 27 = .ok (.iload_n 1, 1) := by decide +kernel
theorem d_Mo_restore_28 : decode c_Mo_restore 28 = .ok (.aload_n 0, 1) := by decide +kernel
theorem d_Mo_restore_29 : decode c_Mo_restore 29 = .ok (.getfield 13, 3) := by decide +kernel
theorem d_Mo_restore_32 : decode c_Mo_restore 32 = .ok (.iload_n 1, 1) := by decide +kernel
theorem d_Mo_restore_33 : decode c_Mo_restore 33 = .ok (.iaload, 1) := by decide +kernel
theorem d_Mo_restore_34 : decode c_Mo_restore 34 = .ok (.iastore, 1) := by decide +kernel
theorem d_Mo_restore_35 : decode c_Mo_restore 35 = .ok (.iinc 1 1, 3) := by decide +kernel
theorem d_Mo_restore_38 : decode c_Mo_restore 38 = .ok (.goto (-22), 3) := by decide +kernel
theorem d_Mo_restore_41 : decode c_Mo_restore 41 = .ok (.aload_n 0, 1) := by decide +kernel
theorem d_Mo_restore_42 : decode c_Mo_restore 42 = .ok (.getfield 7, 3) := by decide +kernel
theorem d_Mo_restore_45 : decode c_Mo_restore 45 = .ok (.iconst 2, 1) := by decide +kernel
theorem d_Mo_restore_46 : decode c_Mo_restore 46 = .ok (.iaload, 1) := by decide +kernel
theorem d_Mo_restore_47 : decode c_Mo_restore 47 = .ok (.ireturn, 1) := by decide +kernel
theorem d_Mo_laid_0 : decode c_Mo_laid 0 = .ok (.iconst 0, 1) := by decide +kernel
theorem d_Mo_laid_1 : decode c_Mo_laid 1 = .ok (.istore_n 2, 1) := by decide +kernel
theorem d_Mo_laid_2 : decode c_Mo_laid 2 = .ok (.iconst 0, 1) := by decide +kernel
theorem d_Mo_laid_3 : decode c_Mo_laid 3 = .ok (.istore_n 3, 1) := by decide +kernel
theorem d_Mo_laid_4 : decode c_Mo_laid 4 = .ok (.iload_n 3, 1) := by decide +kernel
theorem d_Mo_laid_5 : decode c_Mo_laid 5 = .ok (.aload_n 0, 1) := by decide +kernel
theorem d_Mo_laid_6 : decode c_Mo_laid 6 = .ok (.getfield 7, 3) := by decide +kernel
theorem d_Mo_laid_9 : decode c_Mo_laid 9 = .ok (.iconst 2, 1) := by decide +kernel
theorem d_Mo_laid_10 : decode c_Mo_laid 10 = .ok (.iaload, 1) := by decide +kernel
theorem d_Mo_laid_11 : decode c_Mo_laid 11 = .ok (.if_icmp .ge 43, 3) := by decide +kernel
theorem d_Mo_laid_14 : decode c_Mo_laid 14 = .ok (.iload_n 2, 1) := by decide +kernel
theorem d_Mo_laid_15 : decode c_Mo_laid 15 = .ok (.aload_n 0, 1) := by decide +kernel
theorem d_Mo_laid_16 : decode c_Mo_laid 16 = .ok (.iload_n 3, 1) := by decide +kernel
theorem d_Mo_laid_17 : decode c_Mo_laid 17 = .ok (.bipush 8, 2) := by decide +kernel
theorem d_Mo_laid_19 : decode c_Mo_laid 19 = .ok (.invokevirtual 74, 3) := by decide +kernel
theorem d_Mo_laid_22 : decode c_Mo_laid 22 = .ok (.iconst 1, 1) := by decide +kernel
theorem d_Mo_laid_23 : decode c_Mo_laid 23 = .ok (.if_icmp .ne 22, 3) := by decide +kernel
theorem d_Mo_laid_26 : decode c_Mo_laid 26 = .ok (.aload_n 0, 1) := by decide +kernel
theorem d_Mo_laid_27 : decode c_Mo_laid 27 = .ok (.iload_n 3, 1) := by decide +kernel
theorem d_Mo_laid_28 : decode c_Mo_laid 28 = .ok (.bipush 9, 2) := by decide +kernel
theorem d_Mo_laid_30 : decode c_Mo_laid 30 = .ok (.invokevirtual 74, 3) := by decide +kernel
theorem d_Mo_laid_33 : decode c_Mo_laid 33 = .ok (.iload_n 1, 1) := by decide +kernel
theorem d_Mo_laid_34 : decode c_Mo_laid 34 = .ok (.if_icmp .ne 11, 3) := by decide +kernel
theorem d_Mo_laid_37 : decode c_Mo_laid 37 = .ok (.aload_n 0, 1) := by decide +kernel
theorem d_Mo_laid_38 : decode c_Mo_laid 38 = .ok (.iload_n 3, 1) := by decide +kernel
theorem d_Mo_laid_39 : decode c_Mo_laid 39 = .ok (.invokevirtual 117, 3) := by decide +kernel
theorem d_Mo_laid_42 : decode c_Mo_laid 42 = .ok (.goto 4, 3) := by decide +kernel
theorem d_Mo_laid_45 : decode c_Mo_laid 45 = .ok (.iconst 0, 1) := by decide +kernel
theorem d_Mo_laid_46 : decode c_Mo_laid 46 = .ok (.iadd, 1) := by decide +kernel
theorem d_Mo_laid_47 : decode c_Mo_laid 47 = .ok (.istore_n 2, 1) := by decide +kernel
theorem d_Mo_laid_48 : decode c_Mo_laid 48 = .ok (.iinc 3 1, 3) := by decide +kernel
theorem d_Mo_laid_51 : decode c_Mo_laid 51 = .ok (.goto (-47), 3) := by decide +kernel
theorem d_Mo_laid_54 : decode c_Mo_laid 54 = .ok (.iload_n 2, 1) := by decide +kernel
theorem d_Mo_laid_55 : decode c_Mo_laid 55 = .ok (.ireturn, 1) := by decide +kernel
theorem d_Mo_rollOf_0 : decode c_Mo_rollOf 0 = .ok (.aload_n 0, 1) := by decide +kernel
theorem d_Mo_rollOf_1 : decode c_Mo_rollOf 1 = .ok (.iload_n 1, 1) := by decide +kernel
theorem d_Mo_rollOf_2 : decode c_Mo_rollOf 2 = .ok (.invokevirtual 142, 3) := by decide +kernel
theorem d_Mo_rollOf_5 : decode c_Mo_rollOf 5 = .ok (.ifCond .ne 5, 3) := by decide +kernel
theorem d_Mo_rollOf_8 : decode c_Mo_rollOf 8 = .ok (.iconst (-1), 1) := by decide +kernel
theorem d_Mo_rollOf_9 : decode c_Mo_rollOf 9 = .ok (.ireturn, 1) := by decide +kernel
theorem d_Mo_rollOf_10 : decode c_Mo_rollOf 10 = .ok (.iconst 0, 1) := by decide +kernel
theorem d_Mo_rollOf_11 : decode c_Mo_rollOf 11 = .ok (.istore_n 3, 1) := by decide +kernel
theorem d_Mo_rollOf_12 : decode c_Mo_rollOf 12 = .ok (.iconst 0, 1) := by decide +kernel
theorem d_Mo_rollOf_13 : decode c_Mo_rollOf 13 = .ok (.istore 4, 2) := by decide +kernel
theorem d_Mo_rollOf_15 : decode c_Mo_rollOf 15 = .ok (.iconst 0, 1) := by decide +kernel
theorem d_Mo_rollOf_16 : decode c_Mo_rollOf 16 = .ok (.istore 5, 2) := by decide +kernel
theorem d_Mo_rollOf_18 : decode c_Mo_rollOf 18 = .ok (.iload 5, 2) := by decide +kernel
theorem d_Mo_rollOf_20 : decode c_Mo_rollOf 20 = .ok (.aload_n 0, 1) := by decide +kernel
theorem d_Mo_rollOf_21 : decode c_Mo_rollOf 21 = .ok (.getfield 7, 3) := by decide +kernel
theorem d_Mo_rollOf_24 : decode c_Mo_rollOf 24 = .ok (.iconst 1, 1) := by decide +kernel
theorem d_Mo_rollOf_25 : decode c_Mo_rollOf 25 = .ok (.iaload, 1) := by decide +kernel
theorem d_Mo_rollOf_26 : decode c_Mo_rollOf 26 = .ok (.if_icmp .ge 68, 3) := by decide +kernel
theorem d_Mo_rollOf_29 : decode c_Mo_rollOf 29 = .ok (.aload_n 0, 1) := by decide +kernel
theorem d_Mo_rollOf_30 : decode c_Mo_rollOf 30 = .ok (.iload 5, 2) := by decide +kernel
theorem d_Mo_rollOf_32 : decode c_Mo_rollOf 32 = .ok (.invokevirtual 46, 3) := by decide +kernel
theorem d_Mo_rollOf_35 : decode c_Mo_rollOf 35 = .ok (.ifCond .eq 17, 3) := by decide +kernel
theorem d_Mo_rollOf_38 : decode c_Mo_rollOf 38 = .ok (.aload_n 0, 1) := by decide +kernel
theorem d_Mo_rollOf_39 : decode c_Mo_rollOf 39 = .ok (.iload 5, 2) := by decide +kernel
theorem d_Mo_rollOf_41 : decode c_Mo_rollOf 41 = .ok (.invokevirtual 68, 3) := by decide +kernel
theorem d_Mo_rollOf_44 : decode c_Mo_rollOf 44 = .ok (.iload_n 1, 1) := by decide +kernel
theorem d_Mo_rollOf_45 : decode c_Mo_rollOf 45 = .ok (.if_icmp .ne 7, 3) := by decide +kernel
theorem d_Mo_rollOf_48 : decode c_Mo_rollOf 48 = .ok (.iconst 1, 1) := by decide +kernel
theorem d_Mo_rollOf_49 : decode c_Mo_rollOf 49 = .ok (.goto 4, 3) := by decide +kernel
theorem d_Mo_rollOf_52 : decode c_Mo_rollOf 52 = .ok (.iconst 0, 1) := by decide +kernel
theorem d_Mo_rollOf_53 : decode c_Mo_rollOf 53 = .ok (.istore 6, 2) := by decide +kernel
theorem d_Mo_rollOf_55 : decode c_Mo_rollOf 55 = .ok (.iload_n 3, 1) := by decide +kernel
theorem d_Mo_rollOf_56 : decode c_Mo_rollOf 56 = .ok (.iload 6, 2) := by decide +kernel
theorem d_Mo_rollOf_58 : decode c_Mo_rollOf 58 = .ok (.ifCond .eq 7, 3) := by decide +kernel
theorem d_Mo_rollOf_61 : decode c_Mo_rollOf 61 = .ok (.iconst 1, 1) := by decide +kernel
theorem d_Mo_rollOf_62 : decode c_Mo_rollOf 62 = .ok (.goto 4, 3) := by decide +kernel
theorem d_Mo_rollOf_65 : decode c_Mo_rollOf 65 = .ok (.iconst 0, 1) := by decide +kernel
theorem d_Mo_rollOf_66 : decode c_Mo_rollOf 66 = .ok (.iadd, 1) := by decide +kernel
theorem d_Mo_rollOf_67 : decode c_Mo_rollOf 67 = .ok (.istore_n 3, 1) := by decide +kernel
theorem d_Mo_rollOf_68 : decode c_Mo_rollOf 68 = .ok (.iload 4, 2) := by decide +kernel
theorem d_Mo_rollOf_70 : decode c_Mo_rollOf 70 = .ok (.iload 6, 2) := by decide +kernel
theorem d_Mo_rollOf_72 : decode c_Mo_rollOf 72 = .ok (.ifCond .eq 12, 3) := by decide +kernel
theorem d_Mo_rollOf_75 : decode c_Mo_rollOf 75 = .ok (.aload_n 0, 1) := by decide +kernel
theorem d_Mo_rollOf_76 : decode c_Mo_rollOf 76 = .ok (.iload 5, 2) := by decide +kernel
theorem d_Mo_rollOf_78 : decode c_Mo_rollOf 78 = .ok (.invokevirtual 71, 3) := by decide +kernel
theorem d_Mo_rollOf_81 : decode c_Mo_rollOf 81 = .ok (.goto 4, 3) := by decide +kernel
theorem d_Mo_rollOf_84 : decode c_Mo_rollOf 84 = .ok (.iconst 0, 1) := by decide +kernel
theorem d_Mo_rollOf_85 : decode c_Mo_rollOf 85 = .ok (.iadd, 1) := by decide +kernel
theorem d_Mo_rollOf_86 : decode c_Mo_rollOf 86 = .ok (.istore 4, 2) := by decide +kernel
theorem d_Mo_rollOf_88 : decode c_Mo_rollOf 88 = .ok (.iinc 5 1, 3) := by decide +kernel
theorem d_Mo_rollOf_91 : decode c_Mo_rollOf 91 = .ok (.goto (-73), 3) := by decide +kernel
theorem d_Mo_rollOf_94 : decode c_Mo_rollOf 94 = .ok (.iload_n 2, 1) := by decide +kernel
theorem d_Mo_rollOf_95 : decode c_Mo_rollOf 95 = .ok (.tableswitch 100 0 9 #[53, 53, 53, 53, 60, 62, 65, 71, 78, 86], 53) := by decide +kernel
theorem d_Mo_rollOf_148 : decode c_Mo_rollOf 148 = .ok (.aload_n 0, 1) := by decide +kernel
theorem d_Mo_rollOf_149 : decode c_Mo_rollOf 149 = .ok (.iload_n 1, 1) := by decide +kernel
theorem d_Mo_rollOf_150 : decode c_Mo_rollOf 150 = .ok (.iload_n 2, 1) := by decide +kernel
theorem d_Mo_rollOf_151 : decode c_Mo_rollOf 151 = .ok (.invokevirtual 90, 3) := by decide +kernel
theorem d_Mo_rollOf_154 : decode c_Mo_rollOf 154 = .ok (.ireturn, 1) := by decide +kernel
theorem d_Mo_rollOf_155 : decode c_Mo_rollOf 155 = .ok (.iload_n 3, 1) := by decide +kernel
theorem d_Mo_rollOf_156 : decode c_Mo_rollOf 156 = .ok (.ireturn, 1) := by decide +kernel
theorem d_Mo_rollOf_157 : decode c_Mo_rollOf 157 = .ok (.iload 4, 2) := by decide +kernel
theorem d_Mo_rollOf_159 : decode c_Mo_rollOf 159 = .ok (.ireturn, 1) := by decide +kernel
theorem d_Mo_rollOf_160 : decode c_Mo_rollOf 160 = .ok (.aload_n 0, 1) := by decide +kernel
theorem d_Mo_rollOf_161 : decode c_Mo_rollOf 161 = .ok (.iload_n 1, 1) := by decide +kernel
theorem d_Mo_rollOf_162 : decode c_Mo_rollOf 162 = .ok (.invokevirtual 191, 3) := by decide +kernel
theorem d_Mo_rollOf_165 : decode c_Mo_rollOf 165 = .ok (.ireturn, 1) := by decide +kernel
theorem d_Mo_rollOf_166 : decode c_Mo_rollOf 166 = .ok (.aload_n 0, 1) := by decide +kernel
theorem d_Mo_rollOf_167 : decode c_Mo_rollOf 167 = .ok (.iload_n 1, 1) := by decide +kernel
theorem d_Mo_rollOf_168 : decode c_Mo_rollOf 168 = .ok (.iconst 5, 1) := by decide +kernel
theorem d_Mo_rollOf_169 : decode c_Mo_rollOf 169 = .ok (.invokevirtual 90, 3) := by decide +kernel
theorem d_Mo_rollOf_172 : decode c_Mo_rollOf 172 = .ok (.ireturn, 1) := by decide +kernel
theorem d_Mo_rollOf_173 : decode c_Mo_rollOf 173 = .ok (.aload_n 0, 1) := by decide +kernel
theorem d_Mo_rollOf_174 : decode c_Mo_rollOf 174 = .ok (.iload_n 1, 1) := by decide +kernel
theorem d_Mo_rollOf_175 : decode c_Mo_rollOf 175 = .ok (.bipush 6, 2) := by decide +kernel
theorem d_Mo_rollOf_177 : decode c_Mo_rollOf 177 = .ok (.invokevirtual 90, 3) := by decide +kernel
theorem d_Mo_rollOf_180 : decode c_Mo_rollOf 180 = .ok (.ireturn, 1) := by decide +kernel
theorem d_Mo_rollOf_181 : decode c_Mo_rollOf 181 = .ok (.aload_n 0, 1) := by decide +kernel
theorem d_Mo_rollOf_182 : decode c_Mo_rollOf 182 = .ok (.iload_n 1, 1) := by decide +kernel
theorem d_Mo_rollOf_183 : decode c_Mo_rollOf 183 = .ok (.iconst 1, 1) := by decide +kernel
theorem d_Mo_rollOf_184 : decode c_Mo_rollOf 184 = .ok (.invokevirtual 90, 3) := by decide +kernel
theorem d_Mo_rollOf_187 : decode c_Mo_rollOf 187 = .ok (.aload_n 0, 1) := by decide +kernel
theorem d_Mo_rollOf_188 : decode c_Mo_rollOf 188 = .ok (.iload_n 1, 1) := by decide +kernel
theorem d_Mo_rollOf_189 : decode c_Mo_rollOf 189 = .ok (.iconst 4, 1) := by decide +kernel
theorem d_Mo_rollOf_190 : decode c_Mo_rollOf 190 = .ok (.invokevirtual 90, 3) := by decide +kernel
theorem d_Mo_rollOf_193 : decode c_Mo_rollOf 193 = .ok (.imul, 1) := by decide +kernel
theorem d_Mo_rollOf_194 : decode c_Mo_rollOf 194 = .ok (.ireturn, 1) := by decide +kernel
theorem d_Mo_rollOf_195 : decode c_Mo_rollOf 195 = .ok (.bipush (-2), 2) := by decide +kernel
theorem d_Mo_rollOf_197 : decode c_Mo_rollOf 197 = .ok (.ireturn, 1) := by decide +kernel
theorem d_Mo_offcut_0 : decode c_Mo_offcut 0 = .ok (.aload_n 0, 1) := by decide +kernel
theorem d_Mo_offcut_1 : decode c_Mo_offcut 1 = .ok (.iload_n 1, 1) := by decide +kernel
theorem d_Mo_offcut_2 : decode c_Mo_offcut 2 = .ok (.invokevirtual 46, 3) := by decide +kernel
theorem d_Mo_offcut_5 : decode c_Mo_offcut 5 = .ok (.ifCond .ne 5, 3) := by decide +kernel
theorem d_Mo_offcut_8 : decode c_Mo_offcut 8 = .ok (.iconst (-1), 1) := by decide +kernel
theorem d_Mo_offcut_9 : decode c_Mo_offcut 9 = .ok (.ireturn, 1) := by decide +kernel
theorem d_Mo_offcut_10 : decode c_Mo_offcut 10 = .ok (.iload_n 2, 1) := by decide +kernel
theorem d_Mo_offcut_11 : decode c_Mo_offcut 11 = .ok (.iconst 0, 1) := by decide +kernel
theorem d_Mo_offcut_12 : decode c_Mo_offcut 12 = .ok (.iconst 2, 1) := by decide +kernel
theorem d_Mo_offcut_13 : decode c_Mo_offcut 13 = .ok (.invokestatic 35, 3) := by decide +kernel
theorem d_Mo_offcut_16 : decode c_Mo_offcut 16 = .ok (.ifCond .ne 6, 3) := by decide +kernel
theorem d_Mo_offcut_19 : decode c_Mo_offcut 19 = .ok (.bipush (-2), 2) := by decide +kernel
theorem d_Mo_offcut_21 : decode c_Mo_offcut 21 = .ok (.ireturn, 1) := by decide +kernel
theorem d_Mo_offcut_22 : decode c_Mo_offcut 22 = .ok (.iload_n 2, 1) := by decide +kernel
theorem d_Mo_offcut_23 : decode c_Mo_offcut 23 = .ok (.ifCond .ne 11, 3) := by decide +kernel
theorem d_Mo_offcut_26 : decode c_Mo_offcut 26 = .ok (.aload_n 0, 1) := by decide +kernel
theorem d_Mo_offcut_27 : decode c_Mo_offcut 27 = .ok (.iload_n 1, 1) := by decide +kernel
theorem d_Mo_offcut_28 : decode c_Mo_offcut 28 = .ok (.invokevirtual 68, 3) := by decide +kernel
theorem d_Mo_offcut_31 : decode c_Mo_offcut 31 = .ok (.goto 16, 3) := by decide +kernel
theorem d_Mo_offcut_34 : decode c_Mo_offcut 34 = .ok (.aload_n 0, 1) := by decide +kernel
theorem d_Mo_offcut_35 : decode c_Mo_offcut 35 = .ok (.getfield 7, 3) := by decide +kernel
theorem d_Mo_offcut_38 : decode c_Mo_offcut 38 = .ok (.bipush 93, 2) := by decide +kernel
theorem d_Mo_offcut_40 : decode c_Mo_offcut 40 = .ok (.iconst 3, 1) := by decide +kernel
theorem d_Mo_offcut_41 : decode c_Mo_offcut 41 = .ok (.iload_n 1, 1) := by decide +kernel
theorem d_Mo_offcut_42 : decode c_Mo_offcut 42 = .ok (.imul, 1) := by decide +kernel
theorem d_Mo_offcut_43 : decode c_Mo_offcut 43 = .ok (.iadd, 1) := by decide +kernel
theorem d_Mo_offcut_44 : decode c_Mo_offcut 44 = .ok (.iload_n 2, 1) := by decide +kernel
theorem d_Mo_offcut_45 : decode c_Mo_offcut 45 = .ok (.iadd, 1) := by decide +kernel
theorem d_Mo_offcut_46 : decode c_Mo_offcut 46 = .ok (.iaload, 1) := by decide +kernel
theorem d_Mo_offcut_47 : decode c_Mo_offcut 47 = .ok (.ireturn, 1) := by decide +kernel
theorem d_Mo_sorted_0 : decode c_Mo_sorted 0 = .ok (.iload_n 1, 1) := by decide +kernel
theorem d_Mo_sorted_1 : decode c_Mo_sorted 1 = .ok (.ifCond .ge 6, 3) := by decide +kernel
theorem d_Mo_sorted_4 : decode c_Mo_sorted 4 = .ok (.bipush (-2), 2) := by decide +kernel
theorem d_Mo_sorted_6 : decode c_Mo_sorted 6 = .ok (.ireturn, 1) := by decide +kernel
theorem d_Mo_sorted_7 : decode c_Mo_sorted 7 = .ok (.iconst 0, 1) := by decide +kernel
theorem d_Mo_sorted_8 : decode c_Mo_sorted 8 = .ok (.istore_n 2, 1) := by decide +kernel
theorem d_Mo_sorted_9 : decode c_Mo_sorted 9 = .ok (.iload_n 2, 1) := by decide +kernel
theorem d_Mo_sorted_10 : decode c_Mo_sorted 10 = .ok (.aload_n 0, 1) := by decide +kernel
theorem d_Mo_sorted_11 : decode c_Mo_sorted 11 = .ok (.getfield 7, 3) := by decide +kernel
theorem d_Mo_sorted_14 : decode c_Mo_sorted 14 = .ok (.iconst 1, 1) := by decide +kernel
theorem d_Mo_sorted_15 : decode c_Mo_sorted 15 = .ok (.iaload, 1) := by decide +kernel
theorem d_Mo_sorted_16 : decode c_Mo_sorted 16 = .ok (.if_icmp .ge 105, 3) := by decide +kernel
theorem d_Mo_sorted_19 : decode c_Mo_sorted 19 = .ok (.iconst 0, 1) := by decide +kernel
theorem d_Mo_sorted_20 : decode c_Mo_sorted 20 = .ok (.istore_n 3, 1) := by decide +kernel
theorem d_Mo_sorted_21 : decode c_Mo_sorted 21 = .ok (.iconst 0, 1) := by decide +kernel
theorem d_Mo_sorted_22 : decode c_Mo_sorted 22 = .ok (.istore 4, 2) := by decide +kernel
theorem d_Mo_sorted_24 : decode c_Mo_sorted 24 = .ok (.iload 4, 2) := by decide +kernel
theorem d_Mo_sorted_26 : decode c_Mo_sorted 26 = .ok (.aload_n 0, 1) := by decide +kernel
theorem d_Mo_sorted_27 : decode c_Mo_sorted 27 = .ok (.getfield 7, 3) := by decide +kernel
theorem d_Mo_sorted_30 : decode c_Mo_sorted 30 = .ok (.iconst 1, 1) := by decide +kernel
theorem d_Mo_sorted_31 : decode c_Mo_sorted 31 = .ok (.iaload, 1) := by decide +kernel
theorem d_Mo_sorted_32 : decode c_Mo_sorted 32 = .ok (.if_icmp .ge 68, 3) := by decide +kernel
theorem d_Mo_sorted_35 : decode c_Mo_sorted 35 = .ok (.aload_n 0, 1) := by decide +kernel
theorem d_Mo_sorted_36 : decode c_Mo_sorted 36 = .ok (.iload_n 2, 1) := by decide +kernel
theorem d_Mo_sorted_37 : decode c_Mo_sorted 37 = .ok (.invokevirtual 46, 3) := by decide +kernel
theorem d_Mo_sorted_40 : decode c_Mo_sorted 40 = .ok (.ifCond .eq 60, 3) := by decide +kernel
theorem d_Mo_sorted_43 : decode c_Mo_sorted 43 = .ok (.iload_n 3, 1) := by decide +kernel
theorem d_Mo_sorted_44 : decode c_Mo_sorted 44 = .ok (.aload_n 0, 1) := by decide +kernel
theorem d_Mo_sorted_45 : decode c_Mo_sorted 45 = .ok (.iload 4, 2) := by decide +kernel
theorem d_Mo_sorted_47 : decode c_Mo_sorted 47 = .ok (.invokevirtual 46, 3) := by decide +kernel
theorem d_Mo_sorted_50 : decode c_Mo_sorted 50 = .ok (.ifCond .eq 41, 3) := by decide +kernel
theorem d_Mo_sorted_53 : decode c_Mo_sorted 53 = .ok (.aload_n 0, 1) := by decide +kernel
theorem d_Mo_sorted_54 : decode c_Mo_sorted 54 = .ok (.iload 4, 2) := by decide +kernel
theorem d_Mo_sorted_56 : decode c_Mo_sorted 56 = .ok (.invokevirtual 71, 3) := by decide +kernel
theorem d_Mo_sorted_59 : decode c_Mo_sorted 59 = .ok (.aload_n 0, 1) := by decide +kernel
theorem d_Mo_sorted_60 : decode c_Mo_sorted 60 = .ok (.iload_n 2, 1) := by decide +kernel
theorem d_Mo_sorted_61 : decode c_Mo_sorted 61 = .ok (.invokevirtual 71, 3) := by decide +kernel
theorem d_Mo_sorted_64 : decode c_Mo_sorted 64 = .ok (.if_icmp .lt 23, 3) := by decide +kernel
theorem d_Mo_sorted_67 : decode c_Mo_sorted 67 = .ok (.aload_n 0, 1) := by decide +kernel
theorem d_Mo_sorted_68 : decode c_Mo_sorted 68 = .ok (.iload 4, 2) := by decide +kernel
theorem d_Mo_sorted_70 : decode c_Mo_sorted 70 = .ok (.invokevirtual 71, 3) := by decide +kernel
theorem d_Mo_sorted_73 : decode c_Mo_sorted 73 = .ok (.aload_n 0, 1) := by decide +kernel
theorem d_Mo_sorted_74 : decode c_Mo_sorted 74 = .ok (.iload_n 2, 1) := by decide +kernel
theorem d_Mo_sorted_75 : decode c_Mo_sorted 75 = .ok (.invokevirtual 71, 3) := by decide +kernel
theorem d_Mo_sorted_78 : decode c_Mo_sorted 78 = .ok (.if_icmp .ne 13, 3) := by decide +kernel
theorem d_Mo_sorted_81 : decode c_Mo_sorted 81 = .ok (.iload 4, 2) := by decide +kernel
theorem d_Mo_sorted_83 : decode c_Mo_sorted 83 = .ok (.iload_n 2, 1) := by decide +kernel
theorem d_Mo_sorted_84 : decode c_Mo_sorted 84 = .ok (.if_icmp .ge 7, 3) := by decide +kernel
theorem d_Mo_sorted_87 : decode c_Mo_sorted 87 = .ok (.iconst 1, 1) := by decide +kernel
theorem d_Mo_sorted_88 : decode c_Mo_sorted 88 = .ok (.goto 4, 3) := by decide +kernel
theorem d_Mo_sorted_91 : decode c_Mo_sorted 91 = .ok (.iconst 0, 1) := by decide +kernel
theorem d_Mo_sorted_92 : decode c_Mo_sorted 92 = .ok (.iadd, 1) := by decide +kernel
theorem d_Mo_sorted_93 : decode c_Mo_sorted 93 = .ok (.istore_n 3, 1) := by decide +kernel
theorem d_Mo_sorted_94 : decode c_Mo_sorted 94 = .ok (.iinc 4 1, 3) := by decide +kernel
theorem d_Mo_sorted_97 : decode c_Mo_sorted 97 = .ok (.goto (-73), 3) := by decide +kernel
theorem d_Mo_sorted_100 : decode c_Mo_sorted 100 = .ok (.aload_n 0, 1) := by decide +kernel
theorem d_Mo_sorted_101 : decode c_Mo_sorted 101 = .ok (.iload_n 2, 1) := by decide +kernel
theorem d_Mo_sorted_102 : decode c_Mo_sorted 102 = .ok (.invokevirtual 46, 3) := by decide +kernel
theorem d_Mo_sorted_105 : decode c_Mo_sorted 105 = .ok (.ifCond .eq 10, 3) := by decide +kernel
theorem d_Mo_sorted_108 : decode c_Mo_sorted 108 = .ok (.iload_n 3, 1) := by decide +kernel
theorem d_Mo_sorted_109 : decode c_Mo_sorted 109 = .ok (.iload_n 1, 1) := by decide +kernel
theorem d_Mo_sorted_110 : decode c_Mo_sorted 110 = .ok (.if_icmp .ne 5, 3) := by decide +kernel
theorem d_Mo_sorted_113 : decode c_Mo_sorted 113 = .ok (.iload_n 2, 1) := by decide +kernel
theorem d_Mo_sorted_114 : decode c_Mo_sorted 114 = .ok (.ireturn, 1) := by decide +kernel
theorem d_Mo_sorted_115 : decode c_Mo_sorted 115 = .ok (.iinc 2 1, 3) := by decide +kernel
theorem d_Mo_sorted_118 : decode c_Mo_sorted 118 = .ok (.goto (-109), 3) := by decide +kernel
theorem d_Mo_sorted_121 : decode c_Mo_sorted 121 = .ok (.bipush (-5), 2) := by decide +kernel
theorem d_Mo_sorted_123 : decode c_Mo_sorted 123 = .ok (.ireturn, 1) := by decide +kernel
theorem d_Mo_room_0 : decode c_Mo_room 0 = .ok (.aload_n 0, 1) := by decide +kernel
theorem d_Mo_room_1 : decode c_Mo_room 1 = .ok (.iload_n 1, 1) := by decide +kernel
theorem d_Mo_room_2 : decode c_Mo_room 2 = .ok (.invokevirtual 139, 3) := by decide +kernel
theorem d_Mo_room_5 : decode c_Mo_room 5 = .ok (.ifCond .ne 5, 3) := by decide +kernel
theorem d_Mo_room_8 : decode c_Mo_room 8 = .ok (.iconst (-1), 1) := by decide +kernel
theorem d_Mo_room_9 : decode c_Mo_room 9 = .ok (.ireturn, 1) := by decide +kernel
theorem d_Mo_room_10 : decode c_Mo_room 10 = .ok (.iload_n 2, 1) := by decide +kernel
theorem d_Mo_room_11 : decode c_Mo_room 11 = .ok (.iconst 0, 1) := by decide +kernel
theorem d_Mo_room_12 : decode c_Mo_room 12 = .ok (.bipush 8, 2) := by decide +kernel
theorem d_Mo_room_14 : decode c_Mo_room 14 = .ok (.invokestatic 35, 3) := by decide +kernel
theorem d_Mo_room_17 : decode c_Mo_room 17 = .ok (.ifCond .ne 6, 3) := by decide +kernel
theorem d_Mo_room_20 : decode c_Mo_room 20 = .ok (.bipush (-2), 2) := by decide +kernel
theorem d_Mo_room_22 : decode c_Mo_room 22 = .ok (.ireturn, 1) := by decide +kernel
theorem d_Mo_room_23 : decode c_Mo_room 23 = .ok (.aload_n 0, 1) := by decide +kernel
theorem d_Mo_room_24 : decode c_Mo_room 24 = .ok (.iload_n 1, 1) := by decide +kernel
theorem d_Mo_room_25 : decode c_Mo_room 25 = .ok (.bipush 8, 2) := by decide +kernel
theorem d_Mo_room_27 : decode c_Mo_room 27 = .ok (.invokevirtual 74, 3) := by decide +kernel
theorem d_Mo_room_30 : decode c_Mo_room 30 = .ok (.iconst 1, 1) := by decide +kernel
theorem d_Mo_room_31 : decode c_Mo_room 31 = .ok (.if_icmp .ne 7, 3) := by decide +kernel
theorem d_Mo_room_34 : decode c_Mo_room 34 = .ok (.iconst 1, 1) := by decide +kernel
theorem d_Mo_room_35 : decode c_Mo_room 35 = .ok (.goto 4, 3) := by decide +kernel
theorem d_Mo_room_38 : decode c_Mo_room 38 = .ok (.iconst 0, 1) := by decide +kernel
theorem d_Mo_room_39 : decode c_Mo_room 39 = .ok (.istore_n 3, 1) := by decide +kernel
theorem d_Mo_room_40 : decode c_Mo_room 40 = .ok (.iload_n 2, 1) := by decide +kernel
theorem d_Mo_room_41 : decode c_Mo_room 41 = .ok (.iconst 3, 1) := by decide +kernel
theorem d_Mo_room_42 : decode c_Mo_room 42 = .ok (.if_icmp .le 10, 3) := by decide +kernel
theorem d_Mo_room_45 : decode c_Mo_room 45 = .ok (.iload_n 3, 1) := by decide +kernel
theorem d_Mo_room_46 : decode c_Mo_room 46 = .ok (.ifCond .ne 6, 3) := by decide +kernel
theorem d_Mo_room_49 : decode c_Mo_room 49 = .ok (.bipush (-5), 2) := by decide +kernel
theorem d_Mo_room_51 : decode c_Mo_room 51 = .ok (.ireturn, 1) := by decide +kernel
theorem d_Mo_room_52 : decode c_Mo_room 52 = .ok (.iload_n 2, 1) := by decide +kernel
theorem d_Mo_room_53 : decode c_Mo_room 53 = .ok (.tableswitch 104 0 7 #[47, 54, 60, 68, 76, 84, 92, 98], 47) := by decide +kernel
theorem d_Mo_room_100 : decode c_Mo_room 100 = .ok (.aload_n 0, 1) := by decide +kernel
theorem d_Mo_room_101 : decode c_Mo_room 101 = .ok (.iload_n 1, 1) := by decide +kernel
theorem d_Mo_room_102 : decode c_Mo_room 102 = .ok (.iconst 0, 1) := by decide +kernel
theorem d_Mo_room_103 : decode c_Mo_room 103 = .ok (.invokevirtual 74, 3) := by decide +kernel
theorem d_Mo_room_106 : decode c_Mo_room 106 = .ok (.ireturn, 1) := by decide +kernel
theorem d_Mo_room_107 : decode c_Mo_room 107 = .ok (.aload_n 0, 1) := by decide +kernel
theorem d_Mo_room_108 : decode c_Mo_room 108 = .ok (.iload_n 1, 1) := by decide +kernel
theorem d_Mo_room_109 : decode c_Mo_room 109 = .ok (.invokevirtual 117, 3) := by decide +kernel
theorem d_Mo_room_112 : decode c_Mo_room 112 = .ok (.ireturn, 1) := by decide +kernel
theorem d_Mo_room_113 : decode c_Mo_room 113 = .ok (.aload_n 0, 1) := by decide +kernel
theorem d_Mo_room_114 : decode c_Mo_room 114 = .ok (.iload_n 1, 1) := by decide +kernel
theorem d_Mo_room_115 : decode c_Mo_room 115 = .ok (.bipush 7, 2) := by decide +kernel
theorem d_Mo_room_117 : decode c_Mo_room 117 = .ok (.invokevirtual 74, 3) := by decide +kernel
theorem d_Mo_room_120 : decode c_Mo_room 120 = .ok (.ireturn, 1) := by decide +kernel
theorem d_Mo_room_121 : decode c_Mo_room 121 = .ok (.aload_n 0, 1) := by decide +kernel
theorem d_Mo_room_122 : decode c_Mo_room 122 = .ok (.iload_n 1, 1) := by decide +kernel
theorem d_Mo_room_123 : decode c_Mo_room 123 = .ok (.bipush 8, 2) := by decide +kernel
theorem d_Mo_room_125 : decode c_Mo_room 125 = .ok (.invokevirtual 74, 3) := by decide +kernel
theorem d_Mo_room_128 : decode c_Mo_room 128 = .ok (.ireturn, 1) := by decide +kernel
theorem d_Mo_room_129 : decode c_Mo_room 129 = .ok (.aload_n 0, 1) := by decide +kernel
theorem d_Mo_room_130 : decode c_Mo_room 130 = .ok (.iload_n 1, 1) := by decide +kernel
theorem d_Mo_room_131 : decode c_Mo_room 131 = .ok (.bipush 9, 2) := by decide +kernel
theorem d_Mo_room_133 : decode c_Mo_room 133 = .ok (.invokevirtual 74, 3) := by decide +kernel
theorem d_Mo_room_136 : decode c_Mo_room 136 = .ok (.ireturn, 1) := by decide +kernel
theorem d_Mo_room_137 : decode c_Mo_room 137 = .ok (.aload_n 0, 1) := by decide +kernel
theorem d_Mo_room_138 : decode c_Mo_room 138 = .ok (.iload_n 1, 1) := by decide +kernel
theorem d_Mo_room_139 : decode c_Mo_room 139 = .ok (.bipush 10, 2) := by decide +kernel
theorem d_Mo_room_141 : decode c_Mo_room 141 = .ok (.invokevirtual 74, 3) := by decide +kernel
theorem d_Mo_room_144 : decode c_Mo_room 144 = .ok (.ireturn, 1) := by decide +kernel
theorem d_Mo_room_145 : decode c_Mo_room 145 = .ok (.aload_n 0, 1) := by decide +kernel
theorem d_Mo_room_146 : decode c_Mo_room 146 = .ok (.iload_n 1, 1) := by decide +kernel
theorem d_Mo_room_147 : decode c_Mo_room 147 = .ok (.invokevirtual 160, 3) := by decide +kernel
theorem d_Mo_room_150 : decode c_Mo_room 150 = .ok (.ireturn, 1) := by decide +kernel
theorem d_Mo_room_151 : decode c_Mo_room 151 = .ok (.aload_n 0, 1) := by decide +kernel
theorem d_Mo_room_152 : decode c_Mo_room 152 = .ok (.iload_n 1, 1) := by decide +kernel
theorem d_Mo_room_153 : decode c_Mo_room 153 = .ok (.invokevirtual 194, 3) := by decide +kernel
theorem d_Mo_room_156 : decode c_Mo_room 156 = .ok (.ireturn, 1) := by decide +kernel
theorem d_Mo_room_157 : decode c_Mo_room 157 = .ok (.aload_n 0, 1) := by decide +kernel
theorem d_Mo_room_158 : decode c_Mo_room 158 = .ok (.iload_n 1, 1) := by decide +kernel
theorem d_Mo_room_159 : decode c_Mo_room 159 = .ok (.bipush 11, 2) := by decide +kernel
theorem d_Mo_room_161 : decode c_Mo_room 161 = .ok (.invokevirtual 74, 3) := by decide +kernel
theorem d_Mo_room_164 : decode c_Mo_room 164 = .ok (.ireturn, 1) := by decide +kernel
theorem d_Mo_strip_0 : decode c_Mo_strip 0 = .ok (.aload_n 0, 1) := by decide +kernel
theorem d_Mo_strip_1 : decode c_Mo_strip 1 = .ok (.iload_n 1, 1) := by decide +kernel
theorem d_Mo_strip_2 : decode c_Mo_strip 2 = .ok (.invokevirtual 139, 3) := by decide +kernel
theorem d_Mo_strip_5 : decode c_Mo_strip 5 = .ok (.ifCond .ne 5, 3) := by decide +kernel
theorem d_Mo_strip_8 : decode c_Mo_strip 8 = .ok (.iconst (-1), 1) := by decide +kernel
theorem d_Mo_strip_9 : decode c_Mo_strip 9 = .ok (.ireturn, 1) := by decide +kernel
theorem d_Mo_strip_10 : decode c_Mo_strip 10 = .ok (.iload_n 2, 1) := by decide +kernel
theorem d_Mo_strip_11 : decode c_Mo_strip 11 = .ok (.ifCond .lt 12, 3) := by decide +kernel
theorem d_Mo_strip_14 : decode c_Mo_strip 14 = .ok (.iload_n 3, 1) := by decide +kernel
theorem d_Mo_strip_15 : decode c_Mo_strip 15 = .ok (.iconst 0, 1) := by decide +kernel
theorem d_Mo_strip_16 : decode c_Mo_strip 16 = .ok (.iconst 2, 1) := by decide +kernel
theorem d_Mo_strip_17 : decode c_Mo_strip 17 = .ok (.invokestatic 35, 3) := by decide +kernel
theorem d_Mo_strip_20 : decode c_Mo_strip 20 = .ok (.ifCond .ne 6, 3) := by decide +kernel
theorem d_Mo_strip_23 : decode c_Mo_strip 23 = .ok (.bipush (-2), 2) := by decide +kernel
theorem d_Mo_strip_25 : decode c_Mo_strip 25 = .ok (.ireturn, 1) := by decide +kernel
theorem d_Mo_strip_26 : decode c_Mo_strip 26 = .ok (.aload_n 0, 1) := by decide +kernel
theorem d_Mo_strip_27 : decode c_Mo_strip 27 = .ok (.iload_n 1, 1) := by decide +kernel
theorem d_Mo_strip_28 : decode c_Mo_strip 28 = .ok (.bipush 8, 2) := by decide +kernel
theorem d_Mo_strip_30 : decode c_Mo_strip 30 = .ok (.invokevirtual 74, 3) := by decide +kernel
theorem d_Mo_strip_33 : decode c_Mo_strip 33 = .ok (.ifCond .eq 12, 3) := by decide +kernel
theorem d_Mo_strip_36 : decode c_Mo_strip 36 = .ok (.iload_n 2, 1) := by decide +kernel
theorem d_Mo_strip_37 : decode c_Mo_strip 37 = .ok (.aload_n 0, 1) := by decide +kernel
theorem d_Mo_strip_38 : decode c_Mo_strip 38 = .ok (.iload_n 1, 1) := by decide +kernel
theorem d_Mo_strip_39 : decode c_Mo_strip 39 = .ok (.invokevirtual 160, 3) := by decide +kernel
theorem d_Mo_strip_42 : decode c_Mo_strip 42 = .ok (.if_icmp .lt 6, 3) := by decide +kernel
theorem d_Mo_strip_45 : decode c_Mo_strip 45 = .ok (.bipush (-5), 2) := by decide +kernel
theorem d_Mo_strip_47 : decode c_Mo_strip 47 = .ok (.ireturn, 1) := by decide +kernel
theorem d_Mo_strip_48 : decode c_Mo_strip 48 = .ok (.iload_n 3, 1) := by decide +kernel
theorem d_Mo_strip_49 : decode c_Mo_strip 49 = .ok (.ifCond .ne 12, 3) := by decide +kernel
theorem d_Mo_strip_52 : decode c_Mo_strip 52 = .ok (.aload_n 0, 1) := by decide +kernel
theorem d_Mo_strip_53 : decode c_Mo_strip 53 = .ok (.iload_n 1, 1) := by decide +kernel
theorem d_Mo_strip_54 : decode c_Mo_strip 54 = .ok (.iload_n 2, 1) := by decide +kernel
theorem d_Mo_strip_55 : decode c_Mo_strip 55 = .ok (.invokevirtual 163, 3) := by decide +kernel
theorem d_Mo_strip_58 : decode c_Mo_strip 58 = .ok (.goto 32, 3) := by decide +kernel
theorem d_Mo_strip_61 : decode c_Mo_strip 61 = .ok (.iload_n 3, 1) := by decide +kernel
theorem d_Mo_strip_62 : decode c_Mo_strip 62 = .ok (.iconst 1, 1) := by decide +kernel
theorem d_Mo_strip_63 : decode c_Mo_strip 63 = .ok (.if_icmp .ne 12, 3) := by decide +kernel
theorem d_Mo_strip_66 : decode c_Mo_strip 66 = .ok (.aload_n 0, 1) := by decide +kernel
theorem d_Mo_strip_67 : decode c_Mo_strip 67 = .ok (.iload_n 1, 1) := by decide +kernel
theorem d_Mo_strip_68 : decode c_Mo_strip 68 = .ok (.iload_n 2, 1) := by decide +kernel
theorem d_Mo_strip_69 : decode c_Mo_strip 69 = .ok (.invokevirtual 166, 3) := by decide +kernel
theorem d_Mo_strip_72 : decode c_Mo_strip 72 = .ok (.goto 18, 3) := by decide +kernel
theorem d_Mo_strip_75 : decode c_Mo_strip 75 = .ok (.aload_n 0, 1) := by decide +kernel
theorem d_Mo_strip_76 : decode c_Mo_strip 76 = .ok (.getfield 7, 3) := by decide +kernel
theorem d_Mo_strip_79 : decode c_Mo_strip 79 = .ok (.sipush 1233, 3) := by decide +kernel
theorem d_Mo_strip_82 : decode c_Mo_strip 82 = .ok (.bipush 36, 2) := by decide +kernel
theorem d_Mo_strip_84 : decode c_Mo_strip 84 = .ok (.iload_n 1, 1) := by decide +kernel
theorem d_Mo_strip_85 : decode c_Mo_strip 85 = .ok (.imul, 1) := by decide +kernel
theorem d_Mo_strip_86 : decode c_Mo_strip 86 = .ok (.iadd, 1) := by decide +kernel
theorem d_Mo_strip_87 : decode c_Mo_strip 87 = .ok (.iload_n 2, 1) := by decide +kernel
theorem d_Mo_strip_88 : decode c_Mo_strip 88 = .ok (.iadd, 1) := by decide +kernel
theorem d_Mo_strip_89 : decode c_Mo_strip 89 = .ok (.iaload, 1) := by decide +kernel
theorem d_Mo_strip_90 : decode c_Mo_strip 90 = .ok (.ireturn, 1) := by decide +kernel
theorem d_Mo_wasteOfAll_0 : decode c_Mo_wasteOfAll 0 = .ok (.iconst 0, 1) := by decide +kernel
theorem d_Mo_wasteOfAll_1 : decode c_Mo_wasteOfAll 1 = .ok (.istore_n 1, 1) := by decide +kernel
theorem d_Mo_wasteOfAll_2 : decode c_Mo_wasteOfAll 2 = .ok (.iconst 0, 1) := by decide +kernel
theorem d_Mo_wasteOfAll_3 : decode c_Mo_wasteOfAll 3 = .ok (.istore_n 2, 1) := by decide +kernel
theorem d_Mo_wasteOfAll_4 : decode c_Mo_wasteOfAll 4 = .ok (.iload_n 2, 1) := by decide +kernel
theorem d_Mo_wasteOfAll_5 : decode c_Mo_wasteOfAll 5 = .ok (.aload_n 0, 1) := by decide +kernel
theorem d_Mo_wasteOfAll_6 : decode c_Mo_wasteOfAll 6 = .ok (.getfield 7, 3) := by decide +kernel
theorem d_Mo_wasteOfAll_9 : decode c_Mo_wasteOfAll 9 = .ok (.iconst 0, 1) := by decide +kernel
theorem d_Mo_wasteOfAll_10 : decode c_Mo_wasteOfAll 10 = .ok (.iaload, 1) := by decide +kernel
theorem d_Mo_wasteOfAll_11 : decode c_Mo_wasteOfAll 11 = .ok (.if_icmp .ge 18, 3) := by decide +kernel
theorem d_Mo_wasteOfAll_14 : decode c_Mo_wasteOfAll 14 = .ok (.iload_n 1, 1) := by decide +kernel
theorem d_Mo_wasteOfAll_15 : decode c_Mo_wasteOfAll 15 = .ok (.aload_n 0, 1) := by decide +kernel
theorem d_Mo_wasteOfAll_16 : decode c_Mo_wasteOfAll 16 = .ok (.iload_n 2, 1) := by decide +kernel
theorem d_Mo_wasteOfAll_17 : decode c_Mo_wasteOfAll 17 = .ok (.iconst 5, 1) := by decide +kernel
theorem d_Mo_wasteOfAll_18 : decode c_Mo_wasteOfAll 18 = .ok (.invokevirtual 90, 3) := by decide +kernel
theorem d_Mo_wasteOfAll_21 : decode c_Mo_wasteOfAll 21 = .ok (.iadd, 1) := by decide +kernel
theorem d_Mo_wasteOfAll_22 : decode c_Mo_wasteOfAll 22 = .ok (.istore_n 1, 1) := by decide +kernel
theorem d_Mo_wasteOfAll_23 : decode c_Mo_wasteOfAll 23 = .ok (.iinc 2 1, 3) := by decide +kernel
theorem d_Mo_wasteOfAll_26 : decode c_Mo_wasteOfAll 26 = .ok (.goto (-22), 3) := by decide +kernel
theorem d_Mo_wasteOfAll_29 : decode c_Mo_wasteOfAll 29 = .ok (.iload_n 1, 1) := by decide +kernel
theorem d_Mo_wasteOfAll_30 : decode c_Mo_wasteOfAll 30 = .ok (.ireturn, 1) := by decide +kernel
theorem d_Mo_count_0 : decode c_Mo_count 0 = .ok (.iload_n 1, 1) := by decide +kernel
theorem d_Mo_count_1 : decode c_Mo_count 1 = .ok (.bipush 11, 2) := by decide +kernel
theorem d_Mo_count_3 : decode c_Mo_count 3 = .ok (.bipush 15, 2) := by decide +kernel
theorem d_Mo_count_5 : decode c_Mo_count 5 = .ok (.invokestatic 35, 3) := by decide +kernel
theorem d_Mo_count_8 : decode c_Mo_count 8 = .ok (.ifCond .eq 15, 3) := by decide +kernel
theorem d_Mo_count_11 : decode c_Mo_count 11 = .ok (.aload_n 0, 1) := by decide +kernel
theorem d_Mo_count_12 : decode c_Mo_count 12 = .ok (.getfield 7, 3) := by decide +kernel
theorem d_Mo_count_15 : decode c_Mo_count 15 = .ok (.iconst 4, 1) := by decide +kernel
theorem d_Mo_count_16 : decode c_Mo_count 16 = .ok (.iload_n 1, 1) := by decide +kernel
theorem d_Mo_count_17 : decode c_Mo_count 17 = .ok (.iadd, 1) := by decide +kernel
theorem d_Mo_count_18 : decode c_Mo_count 18 = .ok (.bipush 11, 2) := by decide +kernel
theorem d_Mo_count_20 : decode c_Mo_count 20 = .ok (.isub, 1) := by decide +kernel
theorem d_Mo_count_21 : decode c_Mo_count 21 = .ok (.iaload, 1) := by decide +kernel
theorem d_Mo_count_22 : decode c_Mo_count 22 = .ok (.ireturn, 1) := by decide +kernel
theorem d_Mo_count_23 : decode c_Mo_count 23 = .ok (.iconst 0, 1) := by decide +kernel
theorem d_Mo_count_24 : decode c_Mo_count 24 = .ok (.istore_n 2, 1) := by decide +kernel
theorem d_Mo_count_25 : decode c_Mo_count 25 = .ok (.iconst 0, 1) := by decide +kernel
theorem d_Mo_count_26 : decode c_Mo_count 26 = .ok (.istore_n 3, 1) := by decide +kernel
theorem d_Mo_count_27 : decode c_Mo_count 27 = .ok (.iconst 0, 1) := by decide +kernel
theorem d_Mo_count_28 : decode c_Mo_count 28 = .ok (.istore 4, 2) := by decide +kernel
theorem d_Mo_count_30 : decode c_Mo_count 30 = .ok (.iconst 0, 1) := by decide +kernel
theorem d_Mo_count_31 : decode c_Mo_count 31 = .ok (.istore 5, 2) := by decide +kernel
theorem d_Mo_count_33 : decode c_Mo_count 33 = .ok (.iload 5, 2) := by decide +kernel
theorem d_Mo_count_35 : decode c_Mo_count 35 = .ok (.aload_n 0, 1) := by decide +kernel
theorem d_Mo_count_36 : decode c_Mo_count 36 = .ok (.getfield 7, 3) := by decide +kernel
theorem d_Mo_count_39 : decode c_Mo_count 39 = .ok (.iconst 2, 1) := by decide +kernel
theorem d_Mo_count_40 : decode c_Mo_count 40 = .ok (.iaload, 1) := by decide +kernel
theorem d_Mo_count_41 : decode c_Mo_count 41 = .ok (.if_icmp .ge 45, 3) := by decide +kernel
theorem d_Mo_count_44 : decode c_Mo_count 44 = .ok (.iload_n 2, 1) := by decide +kernel
theorem d_Mo_count_45 : decode c_Mo_count 45 = .ok (.aload_n 0, 1) := by decide +kernel
theorem d_Mo_count_46 : decode c_Mo_count 46 = .ok (.iload 5, 2) := by decide +kernel
theorem d_Mo_count_48 : decode c_Mo_count 48 = .ok (.bipush 8, 2) := by decide +kernel
theorem d_Mo_count_50 : decode c_Mo_count 50 = .ok (.invokevirtual 74, 3) := by decide +kernel
theorem d_Mo_count_53 : decode c_Mo_count 53 = .ok (.iadd, 1) := by decide +kernel
theorem d_Mo_count_54 : decode c_Mo_count 54 = .ok (.istore_n 2, 1) := by decide +kernel
theorem d_Mo_count_55 : decode c_Mo_count 55 = .ok (.iload_n 3, 1) := by decide +kernel
theorem d_Mo_count_56 : decode c_Mo_count 56 = .ok (.aload_n 0, 1) := by decide +kernel
theorem d_Mo_count_57 : decode c_Mo_count 57 = .ok (.iload 5, 2) := by decide +kernel
theorem d_Mo_count_59 : decode c_Mo_count 59 = .ok (.bipush 8, 2) := by decide +kernel
theorem d_Mo_count_61 : decode c_Mo_count 61 = .ok (.invokevirtual 74, 3) := by decide +kernel
theorem d_Mo_count_64 : decode c_Mo_count 64 = .ok (.iconst 1, 1) := by decide +kernel
theorem d_Mo_count_65 : decode c_Mo_count 65 = .ok (.if_icmp .ne 12, 3) := by decide +kernel
theorem d_Mo_count_68 : decode c_Mo_count 68 = .ok (.aload_n 0, 1) := by decide +kernel
theorem d_Mo_count_69 : decode c_Mo_count 69 = .ok (.iload 5, 2) := by decide +kernel
theorem d_Mo_count_71 : decode c_Mo_count 71 = .ok (.invokevirtual 117, 3) := by decide +kernel
theorem d_Mo_count_74 : decode c_Mo_count 74 = .ok (.goto 4, 3) := by decide +kernel
theorem d_Mo_count_77 : decode c_Mo_count 77 = .ok (.iconst 0, 1) := by decide +kernel
theorem d_Mo_count_78 : decode c_Mo_count 78 = .ok (.iadd, 1) := by decide +kernel
theorem d_Mo_count_79 : decode c_Mo_count 79 = .ok (.istore_n 3, 1) := by decide +kernel
theorem d_Mo_count_80 : decode c_Mo_count 80 = .ok (.iinc 5 1, 3) := by decide +kernel
theorem d_Mo_count_83 : decode c_Mo_count 83 = .ok (.goto (-50), 3) := by decide +kernel
theorem d_Mo_count_86 : decode c_Mo_count 86 = .ok (.iconst 0, 1) := by decide +kernel
theorem d_Mo_count_87 : decode c_Mo_count 87 = .ok (.istore 5, 2) := by decide +kernel
theorem d_Mo_count_89 : decode c_Mo_count 89 = .ok (.iload 5, 2) := by decide +kernel
theorem d_Mo_count_91 : decode c_Mo_count 91 = .ok (.aload_n 0, 1) := by decide +kernel
theorem d_Mo_count_92 : decode c_Mo_count 92 = .ok (.getfield 7, 3) := by decide +kernel
theorem d_Mo_count_95 : decode c_Mo_count 95 = .ok (.iconst 0, 1) := by decide +kernel
theorem d_Mo_count_96 : decode c_Mo_count 96 = .ok (.iaload, 1) := by decide +kernel
theorem d_Mo_count_97 : decode c_Mo_count 97 = .ok (.if_icmp .ge 20, 3) := by decide +kernel
theorem d_Mo_count_100 : decode c_Mo_count 100 = .ok (.iload 4, 2) := by decide +kernel
theorem d_Mo_count_102 : decode c_Mo_count 102 = .ok (.aload_n 0, 1) := by decide +kernel
theorem d_Mo_count_103 : decode c_Mo_count 103 = .ok (.iload 5, 2) := by decide +kernel
theorem d_Mo_count_105 : decode c_Mo_count 105 = .ok (.invokevirtual 191, 3) := by decide +kernel
theorem d_Mo_count_108 : decode c_Mo_count 108 = .ok (.iadd, 1) := by decide +kernel
theorem d_Mo_count_109 : decode c_Mo_count 109 = .ok (.istore 4, 2) := by decide +kernel
theorem d_Mo_count_111 : decode c_Mo_count 111 = .ok (.iinc 5 1, 3) := by decide +kernel
theorem d_Mo_count_114 : decode c_Mo_count 114 = .ok (.goto (-25), 3) := by decide +kernel
theorem d_Mo_count_117 : decode c_Mo_count 117 = .ok (.iload_n 1, 1) := by decide +kernel
theorem d_Mo_count_118 : decode c_Mo_count 118 = .ok (.tableswitch 113 0 10 #[58, 65, 72, 74, 79, 86, 91, 94, 96, 103, 108], 58) := by decide +kernel
theorem d_Mo_count_176 : decode c_Mo_count 176 = .ok (.aload_n 0, 1) := by decide +kernel
theorem d_Mo_count_177 : decode c_Mo_count 177 = .ok (.getfield 7, 3) := by decide +kernel
theorem d_Mo_count_180 : decode c_Mo_count 180 = .ok (.iconst 0, 1) := by decide +kernel
theorem d_Mo_count_181 : decode c_Mo_count 181 = .ok (.iaload, 1) := by decide +kernel
theorem d_Mo_count_182 : decode c_Mo_count 182 = .ok (.ireturn, 1) := by decide +kernel
theorem d_Mo_count_183 : decode c_Mo_count 183 = .ok (.aload_n 0, 1) := by decide +kernel
theorem d_Mo_count_184 : decode c_Mo_count 184 = .ok (.getfield 7, 3) := by decide +kernel
theorem d_Mo_count_187 : decode c_Mo_count 187 = .ok (.iconst 2, 1) := by decide +kernel
theorem d_Mo_count_188 : decode c_Mo_count 188 = .ok (.iaload, 1) := by decide +kernel
theorem d_Mo_count_189 : decode c_Mo_count 189 = .ok (.ireturn, 1) := by decide +kernel
theorem d_Mo_count_190 : decode c_Mo_count 190 = .ok (.iload_n 2, 1) := by decide +kernel
theorem d_Mo_count_191 : decode c_Mo_count 191 = .ok (.ireturn, 1) := by decide +kernel
theorem d_Mo_count_192 : decode c_Mo_count 192 = .ok (.aload_n 0, 1) := by decide +kernel
theorem d_Mo_count_193 : decode c_Mo_count 193 = .ok (.invokevirtual 64, 3) := by decide +kernel
theorem d_Mo_count_196 : decode c_Mo_count 196 = .ok (.ireturn, 1) := by decide +kernel
theorem d_Mo_count_197 : decode c_Mo_count 197 = .ok (.aload_n 0, 1) := by decide +kernel
theorem d_Mo_count_198 : decode c_Mo_count 198 = .ok (.getfield 7, 3) := by decide +kernel
theorem d_Mo_count_201 : decode c_Mo_count 201 = .ok (.iconst 1, 1) := by decide +kernel
theorem d_Mo_count_202 : decode c_Mo_count 202 = .ok (.iaload, 1) := by decide +kernel
theorem d_Mo_count_203 : decode c_Mo_count 203 = .ok (.ireturn, 1) := by decide +kernel
theorem d_Mo_count_204 : decode c_Mo_count 204 = .ok (.aload_n 0, 1) := by decide +kernel
theorem d_Mo_count_205 : decode c_Mo_count 205 = .ok (.invokevirtual 197, 3) := by decide +kernel
theorem d_Mo_count_208 : decode c_Mo_count 208 = .ok (.ireturn, 1) := by decide +kernel
theorem d_Mo_count_209 : decode c_Mo_count 209 = .ok (.iload 4, 2) := by decide +kernel
theorem d_Mo_count_211 : decode c_Mo_count 211 = .ok (.ireturn, 1) := by decide +kernel
theorem d_Mo_count_212 : decode c_Mo_count 212 = .ok (.iload_n 3, 1) := by decide +kernel
theorem d_Mo_count_213 : decode c_Mo_count 213 = .ok (.ireturn, 1) := by decide +kernel
theorem d_Mo_count_214 : decode c_Mo_count 214 = .ok (.aload_n 0, 1) := by decide +kernel
theorem d_Mo_count_215 : decode c_Mo_count 215 = .ok (.getfield 7, 3) := by decide +kernel
theorem d_Mo_count_218 : decode c_Mo_count 218 = .ok (.iconst 3, 1) := by decide +kernel
theorem d_Mo_count_219 : decode c_Mo_count 219 = .ok (.iaload, 1) := by decide +kernel
theorem d_Mo_count_220 : decode c_Mo_count 220 = .ok (.ireturn, 1) := by decide +kernel
theorem d_Mo_count_221 : decode c_Mo_count 221 = .ok (.aload_n 0, 1) := by decide +kernel
theorem d_Mo_count_222 : decode c_Mo_count 222 = .ok (.getfield 31, 3) := by decide +kernel
theorem d_Mo_count_225 : decode c_Mo_count 225 = .ok (.ireturn, 1) := by decide +kernel
theorem d_Mo_count_226 : decode c_Mo_count 226 = .ok (.aload_n 0, 1) := by decide +kernel
theorem d_Mo_count_227 : decode c_Mo_count 227 = .ok (.getfield 175, 3) := by decide +kernel
theorem d_Mo_count_230 : decode c_Mo_count 230 = .ok (.ireturn, 1) := by decide +kernel
theorem d_Mo_count_231 : decode c_Mo_count 231 = .ok (.bipush (-2), 2) := by decide +kernel
theorem d_Mo_count_233 : decode c_Mo_count 233 = .ok (.ireturn, 1) := by decide +kernel
theorem d_Mo_wasted_0 : decode c_Mo_wasted 0 = .ok (.aload_n 0, 1) := by decide +kernel
theorem d_Mo_wasted_1 : decode c_Mo_wasted 1 = .ok (.iload_n 1, 1) := by decide +kernel
theorem d_Mo_wasted_2 : decode c_Mo_wasted 2 = .ok (.invokevirtual 142, 3) := by decide +kernel
theorem d_Mo_wasted_5 : decode c_Mo_wasted 5 = .ok (.ifCond .eq 28, 3) := by decide +kernel
theorem d_Mo_wasted_8 : decode c_Mo_wasted 8 = .ok (.aload_n 0, 1) := by decide +kernel
theorem d_Mo_wasted_9 : decode c_Mo_wasted 9 = .ok (.iload_n 1, 1) := by decide +kernel
theorem d_Mo_wasted_10 : decode c_Mo_wasted 10 = .ok (.iconst 5, 1) := by decide +kernel
theorem d_Mo_wasted_11 : decode c_Mo_wasted 11 = .ok (.invokevirtual 90, 3) := by decide +kernel
theorem d_Mo_wasted_14 : decode c_Mo_wasted 14 = .ok (.i2d, 1) := by decide +kernel
theorem d_Mo_wasted_15 : decode c_Mo_wasted 15 = .ok (.aload_n 0, 1) := by decide +kernel
theorem d_Mo_wasted_16 : decode c_Mo_wasted 16 = .ok (.iload_n 1, 1) := by decide +kernel
theorem d_Mo_wasted_17 : decode c_Mo_wasted 17 = .ok (.iconst 1, 1) := by decide +kernel
theorem d_Mo_wasted_18 : decode c_Mo_wasted 18 = .ok (.invokevirtual 90, 3) := by decide +kernel
theorem d_Mo_wasted_21 : decode c_Mo_wasted 21 = .ok (.aload_n 0, 1) := by decide +kernel
theorem d_Mo_wasted_22 : decode c_Mo_wasted 22 = .ok (.iload_n 1, 1) := by decide +kernel
theorem d_Mo_wasted_23 : decode c_Mo_wasted 23 = .ok (.iconst 4, 1) := by decide +kernel
theorem d_Mo_wasted_24 : decode c_Mo_wasted 24 = .ok (.invokevirtual 90, 3) := by decide +kernel
theorem d_Mo_wasted_27 : decode c_Mo_wasted 27 = .ok (.imul, 1) := by decide +kernel
theorem d_Mo_wasted_28 : decode c_Mo_wasted 28 = .ok (.i2d, 1) := by decide +kernel
theorem d_Mo_wasted_29 : decode c_Mo_wasted 29 = .ok (.ddiv, 1) := by decide +kernel
theorem d_Mo_wasted_30 : decode c_Mo_wasted 30 = .ok (.goto 6, 3) := by decide +kernel
theorem d_Mo_wasted_33 : decode c_Mo_wasted 33 = .ok (.ldc2_w 200, 3) := by decide +kernel
theorem d_Mo_wasted_36 : decode c_Mo_wasted 36 = .ok (.dreturn, 1) := by decide +kernel
theorem d_Mo_ifCovered_0 : decode c_Mo_ifCovered 0 = .ok (.aload_n 0, 1) := by decide +kernel
theorem d_Mo_ifCovered_1 : decode c_Mo_ifCovered 1 = .ok (.iload_n 1, 1) := by decide +kernel
theorem d_Mo_ifCovered_2 : decode c_Mo_ifCovered 2 = .ok (.iload_n 2, 1) := by decide +kernel
theorem d_Mo_ifCovered_3 : decode c_Mo_ifCovered 3 = .ok (.iload_n 3, 1) := by decide +kernel
theorem d_Mo_ifCovered_4 : decode c_Mo_ifCovered 4 = .ok (.invokevirtual 145, 3) := by decide +kernel
theorem d_Mo_ifCovered_7 : decode c_Mo_ifCovered 7 = .ok (.istore 5, 2) := by decide +kernel
theorem d_Mo_ifCovered_9 : decode c_Mo_ifCovered 9 = .ok (.iload 5, 2) := by decide +kernel
theorem d_Mo_ifCovered_11 : decode c_Mo_ifCovered 11 = .ok (.iconst (-1), 1) := by decide +kernel
theorem d_Mo_ifCovered_12 : decode c_Mo_ifCovered 12 = .ok (.if_icmp .ne 5, 3) := by decide +kernel
theorem d_Mo_ifCovered_15 : decode c_Mo_ifCovered 15 = .ok (.iconst (-1), 1) := by decide +kernel
theorem d_Mo_ifCovered_16 : decode c_Mo_ifCovered 16 = .ok (.ireturn, 1) := by decide +kernel
theorem d_Mo_ifCovered_17 : decode c_Mo_ifCovered 17 = .ok (.iload 5, 2) := by decide +kernel
theorem d_Mo_ifCovered_19 : decode c_Mo_ifCovered 19 = .ok (.ifCond .lt 13, 3) := by decide +kernel
theorem d_Mo_ifCovered_22 : decode c_Mo_ifCovered 22 = .ok (.iload 4, 2) := by decide +kernel
theorem d_Mo_ifCovered_24 : decode c_Mo_ifCovered 24 = .ok (.iconst 0, 1) := by decide +kernel
theorem d_Mo_ifCovered_25 : decode c_Mo_ifCovered 25 = .ok (.iconst 5, 1) := by decide +kernel
theorem d_Mo_ifCovered_26 : decode c_Mo_ifCovered 26 = .ok (.invokestatic 35, 3) := by decide +kernel
theorem d_Mo_ifCovered_29 : decode c_Mo_ifCovered 29 = .ok (.ifCond .ne 6, 3) := by decide +kernel
theorem d_Mo_ifCovered_32 : decode c_Mo_ifCovered 32 = .ok (.bipush (-2), 2) := by decide +kernel
theorem d_Mo_ifCovered_34 : decode c_Mo_ifCovered 34 = .ok (.ireturn, 1) := by decide +kernel
theorem d_Mo_ifCovered_35 : decode c_Mo_ifCovered 35 = .ok (.aload_n 0, 1) := by decide +kernel
theorem d_Mo_ifCovered_36 : decode c_Mo_ifCovered 36 = .ok (.iload_n 2, 1) := by decide +kernel
theorem d_Mo_ifCovered_37 : decode c_Mo_ifCovered 37 = .ok (.iconst 5, 1) := by decide +kernel
theorem d_Mo_ifCovered_38 : decode c_Mo_ifCovered 38 = .ok (.invokevirtual 90, 3) := by decide +kernel
theorem d_Mo_ifCovered_41 : decode c_Mo_ifCovered 41 = .ok (.istore 6, 2) := by decide +kernel
theorem d_Mo_ifCovered_43 : decode c_Mo_ifCovered 43 = .ok (.aload_n 0, 1) := by decide +kernel
theorem d_Mo_ifCovered_44 : decode c_Mo_ifCovered 44 = .ok (.iload_n 2, 1) := by decide +kernel
theorem d_Mo_ifCovered_45 : decode c_Mo_ifCovered 45 = .ok (.iconst 2, 1) := by decide +kernel
theorem d_Mo_ifCovered_46 : decode c_Mo_ifCovered 46 = .ok (.invokevirtual 90, 3) := by decide +kernel
theorem d_Mo_ifCovered_49 : decode c_Mo_ifCovered 49 = .ok (.istore 7, 2) := by decide +kernel
theorem d_Mo_ifCovered_51 : decode c_Mo_ifCovered 51 = .ok (.aload_n 0, 1) := by decide +kernel
theorem d_Mo_ifCovered_52 : decode c_Mo_ifCovered 52 = .ok (.invokevirtual 148, 3) := by decide +kernel
theorem d_Mo_ifCovered_55 : decode c_Mo_ifCovered 55 = .ok (.aload_n 0, 1) := by decide +kernel
theorem d_Mo_ifCovered_56 : decode c_Mo_ifCovered 56 = .ok (.iload_n 1, 1) := by decide +kernel
theorem d_Mo_ifCovered_57 : decode c_Mo_ifCovered 57 = .ok (.iload_n 2, 1) := by decide +kernel
theorem d_Mo_ifCovered_58 : decode c_Mo_ifCovered 58 = .ok (.iload_n 3, 1) := by decide +kernel
theorem d_Mo_ifCovered_59 : decode c_Mo_ifCovered 59 = .ok (.invokevirtual 151, 3) := by decide +kernel
theorem d_Mo_ifCovered_62 : decode c_Mo_ifCovered 62 = .ok (.istore 8, 2) := by decide +kernel
theorem d_Mo_ifCovered_64 : decode c_Mo_ifCovered 64 = .ok (.aload_n 0, 1) := by decide +kernel
theorem d_Mo_ifCovered_65 : decode c_Mo_ifCovered 65 = .ok (.iload_n 2, 1) := by decide +kernel
theorem d_Mo_ifCovered_66 : decode c_Mo_ifCovered 66 = .ok (.iconst 5, 1) := by decide +kernel
theorem d_Mo_ifCovered_67 : decode c_Mo_ifCovered 67 = .ok (.invokevirtual 90, 3) := by decide +kernel
theorem d_Mo_ifCovered_70 : decode c_Mo_ifCovered 70 = .ok (.iload 6, 2) := by decide +kernel
theorem d_Mo_ifCovered_72 : decode c_Mo_ifCovered 72 = .ok (.isub, 1) := by decide +kernel
theorem d_Mo_ifCovered_73 : decode c_Mo_ifCovered 73 = .ok (.istore 9, 2) := by decide +kernel
theorem d_Mo_ifCovered_75 : decode c_Mo_ifCovered 75 = .ok (.iload 7, 2) := by decide +kernel
theorem d_Mo_ifCovered_77 : decode c_Mo_ifCovered 77 = .ok (.aload_n 0, 1) := by decide +kernel
theorem d_Mo_ifCovered_78 : decode c_Mo_ifCovered 78 = .ok (.iload_n 2, 1) := by decide +kernel
theorem d_Mo_ifCovered_79 : decode c_Mo_ifCovered 79 = .ok (.iconst 2, 1) := by decide +kernel
theorem d_Mo_ifCovered_80 : decode c_Mo_ifCovered 80 = .ok (.invokevirtual 90, 3) := by decide +kernel
theorem d_Mo_ifCovered_83 : decode c_Mo_ifCovered 83 = .ok (.isub, 1) := by decide +kernel
theorem d_Mo_ifCovered_84 : decode c_Mo_ifCovered 84 = .ok (.istore 10, 2) := by decide +kernel
theorem d_Mo_ifCovered_86 : decode c_Mo_ifCovered 86 = .ok (.aload_n 0, 1) := by decide +kernel
theorem d_Mo_ifCovered_87 : decode c_Mo_ifCovered 87 = .ok (.invokevirtual 154, 3) := by decide +kernel
theorem d_Mo_ifCovered_90 : decode c_Mo_ifCovered 90 = .ok (.iload 8, 2) := by decide +kernel
theorem d_Mo_ifCovered_92 : decode c_Mo_ifCovered 92 = .ok (.ifCond .le 9, 3) := by decide +kernel
theorem d_Mo_ifCovered_95 : decode c_Mo_ifCovered 95 = .ok (.bipush (-10), 2) := by decide +kernel
theorem d_Mo_ifCovered_97 : decode c_Mo_ifCovered 97 = .ok (.iload 8, 2) := by decide +kernel
theorem d_Mo_ifCovered_99 : decode c_Mo_ifCovered 99 = .ok (.isub, 1) := by decide +kernel
theorem d_Mo_ifCovered_100 : decode c_Mo_ifCovered 100 = .ok (.ireturn, 1) := by decide +kernel
theorem d_Mo_ifCovered_101 : decode c_Mo_ifCovered 101 = .ok (.iload 4, 2) := by decide +kernel
theorem d_Mo_ifCovered_103 : decode c_Mo_ifCovered 103 = .ok (.ifCond .ne 10, 3) := by decide +kernel
theorem d_Mo_ifCovered_106 : decode c_Mo_ifCovered 106 = .ok (.aload_n 0, 1) := by decide +kernel
theorem d_Mo_ifCovered_107 : decode c_Mo_ifCovered 107 = .ok (.getfield 120, 3) := by decide +kernel
theorem d_Mo_ifCovered_110 : decode c_Mo_ifCovered 110 = .ok (.goto 55, 3) := by decide +kernel
theorem d_Mo_ifCovered_113 : decode c_Mo_ifCovered 113 = .ok (.iload 4, 2) := by decide +kernel
theorem d_Mo_ifCovered_115 : decode c_Mo_ifCovered 115 = .ok (.iconst 1, 1) := by decide +kernel
theorem d_Mo_ifCovered_116 : decode c_Mo_ifCovered 116 = .ok (.if_icmp .ne 10, 3) := by decide +kernel
theorem d_Mo_ifCovered_119 : decode c_Mo_ifCovered 119 = .ok (.aload_n 0, 1) := by decide +kernel
theorem d_Mo_ifCovered_120 : decode c_Mo_ifCovered 120 = .ok (.getfield 77, 3) := by decide +kernel
theorem d_Mo_ifCovered_123 : decode c_Mo_ifCovered 123 = .ok (.goto 42, 3) := by decide +kernel
theorem d_Mo_ifCovered_126 : decode c_Mo_ifCovered 126 = .ok (.iload 4, 2) := by decide +kernel
theorem d_Mo_ifCovered_128 : decode c_Mo_ifCovered 128 = .ok (.iconst 2, 1) := by decide +kernel
theorem d_Mo_ifCovered_129 : decode c_Mo_ifCovered 129 = .ok (.if_icmp .ne 10, 3) := by decide +kernel
theorem d_Mo_ifCovered_132 : decode c_Mo_ifCovered 132 = .ok (.aload_n 0, 1) := by decide +kernel
theorem d_Mo_ifCovered_133 : decode c_Mo_ifCovered 133 = .ok (.getfield 80, 3) := by decide +kernel
theorem d_Mo_ifCovered_136 : decode c_Mo_ifCovered 136 = .ok (.goto 29, 3) := by decide +kernel
theorem d_Mo_ifCovered_139 : decode c_Mo_ifCovered 139 = .ok (.iload 4, 2) := by decide +kernel
theorem d_Mo_ifCovered_141 : decode c_Mo_ifCovered 141 = .ok (.iconst 3, 1) := by decide +kernel
theorem d_Mo_ifCovered_142 : decode c_Mo_ifCovered 142 = .ok (.if_icmp .ne 8, 3) := by decide +kernel
theorem d_Mo_ifCovered_145 : decode c_Mo_ifCovered 145 = .ok (.iload 9, 2) := by decide +kernel
theorem d_Mo_ifCovered_147 : decode c_Mo_ifCovered 147 = .ok (.goto 18, 3) := by decide +kernel
theorem d_Mo_ifCovered_150 : decode c_Mo_ifCovered 150 = .ok (.iload 4, 2) := by decide +kernel
theorem d_Mo_ifCovered_152 : decode c_Mo_ifCovered 152 = .ok (.iconst 4, 1) := by decide +kernel
theorem d_Mo_ifCovered_153 : decode c_Mo_ifCovered 153 = .ok (.if_icmp .ne 8, 3) := by decide +kernel
theorem d_Mo_ifCovered_156 : decode c_Mo_ifCovered 156 = .ok (.iload 10, 2) := by decide +kernel
theorem d_Mo_ifCovered_158 : decode c_Mo_ifCovered 158 = .ok (.goto 7, 3) := by decide +kernel
theorem d_Mo_ifCovered_161 : decode c_Mo_ifCovered 161 = .ok (.aload_n 0, 1) := by decide +kernel
theorem d_Mo_ifCovered_162 : decode c_Mo_ifCovered 162 = .ok (.getfield 83, 3) := by decide +kernel
theorem d_Mo_ifCovered_165 : decode c_Mo_ifCovered 165 = .ok (.ireturn, 1) := by decide +kernel
theorem d_Mo_bestFor_0 : decode c_Mo_bestFor 0 = .ok (.bipush (-5), 2) := by decide +kernel
theorem d_Mo_bestFor_2 : decode c_Mo_bestFor 2 = .ok (.istore_n 3, 1) := by decide +kernel
theorem d_Mo_bestFor_3 : decode c_Mo_bestFor 3 = .ok (.iconst 0, 1) := by decide +kernel
theorem d_Mo_bestFor_4 : decode c_Mo_bestFor 4 = .ok (.istore 4, 2) := by decide +kernel
theorem d_Mo_bestFor_6 : decode c_Mo_bestFor 6 = .ok (.iconst 0, 1) := by decide +kernel
theorem d_Mo_bestFor_7 : decode c_Mo_bestFor 7 = .ok (.istore 5, 2) := by decide +kernel
theorem d_Mo_bestFor_9 : decode c_Mo_bestFor 9 = .ok (.iconst 0, 1) := by decide +kernel
theorem d_Mo_bestFor_10 : decode c_Mo_bestFor 10 = .ok (.istore 6, 2) := by decide +kernel
theorem d_Mo_bestFor_12 : decode c_Mo_bestFor 12 = .ok (.iload 6, 2) := by decide +kernel
theorem d_Mo_bestFor_14 : decode c_Mo_bestFor 14 = .ok (.iconst 2, 1) := by decide +kernel
theorem d_Mo_bestFor_15 : decode c_Mo_bestFor 15 = .ok (.aload_n 0, 1) := by decide +kernel
theorem d_Mo_bestFor_16 : decode c_Mo_bestFor 16 = .ok (.getfield 7, 3) := by decide +kernel
theorem d_Mo_bestFor_19 : decode c_Mo_bestFor 19 = .ok (.iconst 0, 1) := by decide +kernel
theorem d_Mo_bestFor_20 : decode c_Mo_bestFor 20 = .ok (.iaload, 1) := by decide +kernel
theorem d_Mo_bestFor_21 : decode c_Mo_bestFor 21 = .ok (.imul, 1) := by decide +kernel
theorem d_Mo_bestFor_22 : decode c_Mo_bestFor 22 = .ok (.if_icmp .ge 90, 3) := by decide +kernel
theorem d_Mo_bestFor_25 : decode c_Mo_bestFor 25 = .ok (.aload_n 0, 1) := by decide +kernel
theorem d_Mo_bestFor_26 : decode c_Mo_bestFor 26 = .ok (.iload 6, 2) := by decide +kernel
theorem d_Mo_bestFor_28 : decode c_Mo_bestFor 28 = .ok (.iconst 2, 1) := by decide +kernel
theorem d_Mo_bestFor_29 : decode c_Mo_bestFor 29 = .ok (.idiv, 1) := by decide +kernel
theorem d_Mo_bestFor_30 : decode c_Mo_bestFor 30 = .ok (.iconst 0, 1) := by decide +kernel
theorem d_Mo_bestFor_31 : decode c_Mo_bestFor 31 = .ok (.invokevirtual 90, 3) := by decide +kernel
theorem d_Mo_bestFor_34 : decode c_Mo_bestFor 34 = .ok (.iload_n 2, 1) := by decide +kernel
theorem d_Mo_bestFor_35 : decode c_Mo_bestFor 35 = .ok (.if_icmp .eq 6, 3) := by decide +kernel
theorem d_Mo_bestFor_38 : decode c_Mo_bestFor 38 = .ok (.goto 68, 3) := by decide +kernel
theorem d_Mo_bestFor_41 : decode c_Mo_bestFor 41 = .ok (.aload_n 0, 1) := by decide +kernel
theorem d_Mo_bestFor_42 : decode c_Mo_bestFor 42 = .ok (.iload_n 1, 1) := by decide +kernel
theorem d_Mo_bestFor_43 : decode c_Mo_bestFor 43 = .ok (.iload 6, 2) := by decide +kernel
theorem d_Mo_bestFor_45 : decode c_Mo_bestFor 45 = .ok (.iconst 2, 1) := by decide +kernel
theorem d_Mo_bestFor_46 : decode c_Mo_bestFor 46 = .ok (.idiv, 1) := by decide +kernel
theorem d_Mo_bestFor_47 : decode c_Mo_bestFor 47 = .ok (.iload 6, 2) := by decide +kernel
theorem d_Mo_bestFor_49 : decode c_Mo_bestFor 49 = .ok (.iconst 2, 1) := by decide +kernel
theorem d_Mo_bestFor_50 : decode c_Mo_bestFor 50 = .ok (.irem, 1) := by decide +kernel
theorem d_Mo_bestFor_51 : decode c_Mo_bestFor 51 = .ok (.iconst 3, 1) := by decide +kernel
theorem d_Mo_bestFor_52 : decode c_Mo_bestFor 52 = .ok (.invokevirtual 202, 3) := by decide +kernel
theorem d_Mo_bestFor_55 : decode c_Mo_bestFor 55 = .ok (.istore 7, 2) := by decide +kernel
theorem d_Mo_bestFor_57 : decode c_Mo_bestFor 57 = .ok (.aload_n 0, 1) := by decide +kernel
theorem d_Mo_bestFor_58 : decode c_Mo_bestFor 58 = .ok (.getfield 120, 3) := by decide +kernel
theorem d_Mo_bestFor_61 : decode c_Mo_bestFor 61 = .ok (.istore 8, 2) := by decide +kernel
theorem d_Mo_bestFor_63 : decode c_Mo_bestFor 63 = .ok (.iload 7, 2) := by decide +kernel
theorem d_Mo_bestFor_65 : decode c_Mo_bestFor 65 = .ok (.ifCond .lt 41, 3) := by decide +kernel
theorem d_Mo_bestFor_68 : decode c_Mo_bestFor 68 = .ok (.iload_n 3, 1) := by decide +kernel
theorem d_Mo_bestFor_69 : decode c_Mo_bestFor 69 = .ok (.bipush (-5), 2) := by decide +kernel
theorem d_Mo_bestFor_71 : decode c_Mo_bestFor 71 = .ok (.if_icmp .eq 24, 3) := by decide +kernel
theorem d_Mo_bestFor_74 : decode c_Mo_bestFor 74 = .ok (.iload 7, 2) := by decide +kernel
theorem d_Mo_bestFor_76 : decode c_Mo_bestFor 76 = .ok (.iload 4, 2) := by decide +kernel
theorem d_Mo_bestFor_78 : decode c_Mo_bestFor 78 = .ok (.if_icmp .lt 17, 3) := by decide +kernel
theorem d_Mo_bestFor_81 : decode c_Mo_bestFor 81 = .ok (.iload 7, 2) := by decide +kernel
theorem d_Mo_bestFor_83 : decode c_Mo_bestFor 83 = .ok (.iload 4, 2) := by decide +kernel
theorem d_Mo_bestFor_85 : decode c_Mo_bestFor 85 = .ok (.if_icmp .ne 21, 3) := by decide +kernel
theorem d_Mo_bestFor_88 : decode c_Mo_bestFor 88 = .ok (.iload 8, 2) := by decide +kernel
theorem d_Mo_bestFor_90 : decode c_Mo_bestFor 90 = .ok (.iload 5, 2) := by decide +kernel
theorem d_Mo_bestFor_92 : decode c_Mo_bestFor 92 = .ok (.if_icmp .ge 14, 3) := by decide +kernel
theorem d_Mo_bestFor_95 : decode c_Mo_bestFor 95 = .ok (.iload 6, 2) := by decide +kernel
theorem d_Mo_bestFor_97 : decode c_Mo_bestFor 97 = .ok (.istore_n 3, 1) := by decide +kernel
theorem d_Mo_bestFor_98 : decode c_Mo_bestFor 98 = .ok (.iload 7, 2) := by decide +kernel
theorem d_Mo_bestFor_100 : decode c_Mo_bestFor 100 = .ok (.istore 4, 2) := by decide +kernel
theorem d_Mo_bestFor_102 : decode c_Mo_bestFor 102 = .ok (.iload 8, 2) := by decide +kernel
theorem d_Mo_bestFor_104 : decode c_Mo_bestFor 104 = .ok (.istore 5, 2) := by decide +kernel
theorem d_Mo_bestFor_106 : decode c_Mo_bestFor 106 = .ok (.iinc 6 1, 3) := by decide +kernel
theorem d_Mo_bestFor_109 : decode c_Mo_bestFor 109 = .ok (.goto (-97), 3) := by decide +kernel
theorem d_Mo_bestFor_112 : decode c_Mo_bestFor 112 = .ok (.iload_n 3, 1) := by decide +kernel
theorem d_Mo_bestFor_113 : decode c_Mo_bestFor 113 = .ok (.ireturn, 1) := by decide +kernel
theorem d_Mo_best_0 : decode c_Mo_best 0 = .ok (.aload_n 0, 1) := by decide +kernel
theorem d_Mo_best_1 : decode c_Mo_best 1 = .ok (.iload_n 1, 1) := by decide +kernel
theorem d_Mo_best_2 : decode c_Mo_best 2 = .ok (.invokevirtual 139, 3) := by decide +kernel
theorem d_Mo_best_5 : decode c_Mo_best 5 = .ok (.ifCond .ne 5, 3) := by decide +kernel
theorem d_Mo_best_8 : decode c_Mo_best 8 = .ok (.iconst (-1), 1) := by decide +kernel
theorem d_Mo_best_9 : decode c_Mo_best 9 = .ok (.ireturn, 1) := by decide +kernel
theorem d_Mo_best_10 : decode c_Mo_best 10 = .ok (.iload_n 2, 1) := by decide +kernel
theorem d_Mo_best_11 : decode c_Mo_best 11 = .ok (.iconst 0, 1) := by decide +kernel
theorem d_Mo_best_12 : decode c_Mo_best 12 = .ok (.bipush 9, 2) := by decide +kernel
theorem d_Mo_best_14 : decode c_Mo_best 14 = .ok (.invokestatic 35, 3) := by decide +kernel
theorem d_Mo_best_17 : decode c_Mo_best 17 = .ok (.ifCond .eq 12, 3) := by decide +kernel
theorem d_Mo_best_20 : decode c_Mo_best 20 = .ok (.iload_n 3, 1) := by decide +kernel
theorem d_Mo_best_21 : decode c_Mo_best 21 = .ok (.iconst 0, 1) := by decide +kernel
theorem d_Mo_best_22 : decode c_Mo_best 22 = .ok (.iconst 3, 1) := by decide +kernel
theorem d_Mo_best_23 : decode c_Mo_best 23 = .ok (.invokestatic 35, 3) := by decide +kernel
theorem d_Mo_best_26 : decode c_Mo_best 26 = .ok (.ifCond .ne 6, 3) := by decide +kernel
theorem d_Mo_best_29 : decode c_Mo_best 29 = .ok (.bipush (-2), 2) := by decide +kernel
theorem d_Mo_best_31 : decode c_Mo_best 31 = .ok (.ireturn, 1) := by decide +kernel
theorem d_Mo_best_32 : decode c_Mo_best 32 = .ok (.aload_n 0, 1) := by decide +kernel
theorem d_Mo_best_33 : decode c_Mo_best 33 = .ok (.iload_n 1, 1) := by decide +kernel
theorem d_Mo_best_34 : decode c_Mo_best 34 = .ok (.iload_n 2, 1) := by decide +kernel
theorem d_Mo_best_35 : decode c_Mo_best 35 = .ok (.invokevirtual 206, 3) := by decide +kernel
theorem d_Mo_best_38 : decode c_Mo_best 38 = .ok (.istore 4, 2) := by decide +kernel
theorem d_Mo_best_40 : decode c_Mo_best 40 = .ok (.iload 4, 2) := by decide +kernel
theorem d_Mo_best_42 : decode c_Mo_best 42 = .ok (.bipush (-5), 2) := by decide +kernel
theorem d_Mo_best_44 : decode c_Mo_best 44 = .ok (.if_icmp .eq 8, 3) := by decide +kernel
theorem d_Mo_best_47 : decode c_Mo_best 47 = .ok (.iload_n 3, 1) := by decide +kernel
theorem d_Mo_best_48 : decode c_Mo_best 48 = .ok (.iconst 2, 1) := by decide +kernel
theorem d_Mo_best_49 : decode c_Mo_best 49 = .ok (.if_icmp .ge 31, 3) := by decide +kernel
theorem d_Mo_best_52 : decode c_Mo_best 52 = .ok (.iload 4, 2) := by decide +kernel
theorem d_Mo_best_54 : decode c_Mo_best 54 = .ok (.bipush (-5), 2) := by decide +kernel
theorem d_Mo_best_56 : decode c_Mo_best 56 = .ok (.if_icmp .ne 8, 3) := by decide +kernel
theorem d_Mo_best_59 : decode c_Mo_best 59 = .ok (.bipush (-5), 2) := by decide +kernel
theorem d_Mo_best_61 : decode c_Mo_best 61 = .ok (.goto 18, 3) := by decide +kernel
theorem d_Mo_best_64 : decode c_Mo_best 64 = .ok (.iload_n 3, 1) := by decide +kernel
theorem d_Mo_best_65 : decode c_Mo_best 65 = .ok (.ifCond .ne 10, 3) := by decide +kernel
theorem d_Mo_best_68 : decode c_Mo_best 68 = .ok (.iload 4, 2) := by decide +kernel
theorem d_Mo_best_70 : decode c_Mo_best 70 = .ok (.iconst 2, 1) := by decide +kernel
theorem d_Mo_best_71 : decode c_Mo_best 71 = .ok (.idiv, 1) := by decide +kernel
theorem d_Mo_best_72 : decode c_Mo_best 72 = .ok (.goto 7, 3) := by decide +kernel
theorem d_Mo_best_75 : decode c_Mo_best 75 = .ok (.iload 4, 2) := by decide +kernel
theorem d_Mo_best_77 : decode c_Mo_best 77 = .ok (.iconst 2, 1) := by decide +kernel
theorem d_Mo_best_78 : decode c_Mo_best 78 = .ok (.irem, 1) := by decide +kernel
theorem d_Mo_best_79 : decode c_Mo_best 79 = .ok (.ireturn, 1) := by decide +kernel
theorem d_Mo_best_80 : decode c_Mo_best 80 = .ok (.aload_n 0, 1) := by decide +kernel
theorem d_Mo_best_81 : decode c_Mo_best 81 = .ok (.iload_n 1, 1) := by decide +kernel
theorem d_Mo_best_82 : decode c_Mo_best 82 = .ok (.iload 4, 2) := by decide +kernel
theorem d_Mo_best_84 : decode c_Mo_best 84 = .ok (.iconst 2, 1) := by decide +kernel
theorem d_Mo_best_85 : decode c_Mo_best 85 = .ok (.idiv, 1) := by decide +kernel
theorem d_Mo_best_86 : decode c_Mo_best 86 = .ok (.iload 4, 2) := by decide +kernel
theorem d_Mo_best_88 : decode c_Mo_best 88 = .ok (.iconst 2, 1) := by decide +kernel
theorem d_Mo_best_89 : decode c_Mo_best 89 = .ok (.irem, 1) := by decide +kernel
theorem d_Mo_best_90 : decode c_Mo_best 90 = .ok (.iload_n 3, 1) := by decide +kernel
theorem d_Mo_best_91 : decode c_Mo_best 91 = .ok (.iconst 2, 1) := by decide +kernel
theorem d_Mo_best_92 : decode c_Mo_best 92 = .ok (.if_icmp .ne 7, 3) := by decide +kernel
theorem d_Mo_best_95 : decode c_Mo_best 95 = .ok (.iconst 3, 1) := by decide +kernel
theorem d_Mo_best_96 : decode c_Mo_best 96 = .ok (.goto 4, 3) := by decide +kernel
theorem d_Mo_best_99 : decode c_Mo_best 99 = .ok (.iconst 0, 1) := by decide +kernel
theorem d_Mo_best_100 : decode c_Mo_best 100 = .ok (.invokevirtual 202, 3) := by decide +kernel
theorem d_Mo_best_103 : decode c_Mo_best 103 = .ok (.ireturn, 1) := by decide +kernel
theorem d_Mo_suits_0 : decode c_Mo_suits 0 = .ok (.aload_n 0, 1) := by decide +kernel
theorem d_Mo_suits_1 : decode c_Mo_suits 1 = .ok (.iload_n 1, 1) := by decide +kernel
theorem d_Mo_suits_2 : decode c_Mo_suits 2 = .ok (.invokevirtual 46, 3) := by decide +kernel
theorem d_Mo_suits_5 : decode c_Mo_suits 5 = .ok (.ifCond .ne 5, 3) := by decide +kernel
theorem d_Mo_suits_8 : decode c_Mo_suits 8 = .ok (.iconst (-1), 1) := by decide +kernel
theorem d_Mo_suits_9 : decode c_Mo_suits 9 = .ok (.ireturn, 1) := by decide +kernel
theorem d_Mo_suits_10 : decode c_Mo_suits 10 = .ok (.iconst 0, 1) := by decide +kernel
theorem d_Mo_suits_11 : decode c_Mo_suits 11 = .ok (.istore_n 2, 1) := by decide +kernel
theorem d_Mo_suits_12 : decode c_Mo_suits 12 = .ok (.iload_n 2, 1) := by decide +kernel
theorem d_Mo_suits_13 : decode c_Mo_suits 13 = .ok (.aload_n 0, 1) := by decide +kernel
theorem d_Mo_suits_14 : decode c_Mo_suits 14 = .ok (.getfield 7, 3) := by decide +kernel
theorem d_Mo_suits_17 : decode c_Mo_suits 17 = .ok (.iconst 2, 1) := by decide +kernel
theorem d_Mo_suits_18 : decode c_Mo_suits 18 = .ok (.iaload, 1) := by decide +kernel
theorem d_Mo_suits_19 : decode c_Mo_suits 19 = .ok (.if_icmp .ge 105, 3) := by decide +kernel
theorem d_Mo_suits_22 : decode c_Mo_suits 22 = .ok (.iconst 0, 1) := by decide +kernel
theorem d_Mo_suits_23 : decode c_Mo_suits 23 = .ok (.istore_n 3, 1) := by decide +kernel
theorem d_Mo_suits_24 : decode c_Mo_suits 24 = .ok (.iload_n 3, 1) := by decide +kernel
theorem d_Mo_suits_25 : decode c_Mo_suits 25 = .ok (.iconst 2, 1) := by decide +kernel
theorem d_Mo_suits_26 : decode c_Mo_suits 26 = .ok (.if_icmp .ge 92, 3) := by decide +kernel
theorem d_Mo_suits_29 : decode c_Mo_suits 29 = .ok (.aload_n 0, 1) := by decide +kernel
theorem d_Mo_suits_30 : decode c_Mo_suits 30 = .ok (.iload_n 2, 1) := by decide +kernel
theorem d_Mo_suits_31 : decode c_Mo_suits 31 = .ok (.bipush 8, 2) := by decide +kernel
theorem d_Mo_suits_33 : decode c_Mo_suits 33 = .ok (.invokevirtual 74, 3) := by decide +kernel
theorem d_Mo_suits_36 : decode c_Mo_suits 36 = .ok (.ifCond .ne 36, 3) := by decide +kernel
theorem d_Mo_suits_39 : decode c_Mo_suits 39 = .ok (.aload_n 0, 1) := by decide +kernel
theorem d_Mo_suits_40 : decode c_Mo_suits 40 = .ok (.iload_n 2, 1) := by decide +kernel
theorem d_Mo_suits_41 : decode c_Mo_suits 41 = .ok (.iconst 0, 1) := by decide +kernel
theorem d_Mo_suits_42 : decode c_Mo_suits 42 = .ok (.invokevirtual 74, 3) := by decide +kernel
theorem d_Mo_suits_45 : decode c_Mo_suits 45 = .ok (.iconst 1, 1) := by decide +kernel
theorem d_Mo_suits_46 : decode c_Mo_suits 46 = .ok (.if_icmp .ne 26, 3) := by decide +kernel
theorem d_Mo_suits_49 : decode c_Mo_suits 49 = .ok (.aload_n 0, 1) := by decide +kernel
theorem d_Mo_suits_50 : decode c_Mo_suits 50 = .ok (.getfield 7, 3) := by decide +kernel
theorem d_Mo_suits_53 : decode c_Mo_suits 53 = .ok (.bipush 8, 2) := by decide +kernel
theorem d_Mo_suits_55 : decode c_Mo_suits 55 = .ok (.iaload, 1) := by decide +kernel
theorem d_Mo_suits_56 : decode c_Mo_suits 56 = .ok (.ifCond .eq 12, 3) := by decide +kernel
theorem d_Mo_suits_59 : decode c_Mo_suits 59 = .ok (.aload_n 0, 1) := by decide +kernel
theorem d_Mo_suits_60 : decode c_Mo_suits 60 = .ok (.iload_n 2, 1) := by decide +kernel
theorem d_Mo_suits_61 : decode c_Mo_suits 61 = .ok (.iload_n 3, 1) := by decide +kernel
theorem d_Mo_suits_62 : decode c_Mo_suits 62 = .ok (.invokevirtual 86, 3) := by decide +kernel
theorem d_Mo_suits_65 : decode c_Mo_suits 65 = .ok (.ifCond .ne 7, 3) := by decide +kernel
theorem d_Mo_suits_68 : decode c_Mo_suits 68 = .ok (.iconst 1, 1) := by decide +kernel
theorem d_Mo_suits_69 : decode c_Mo_suits 69 = .ok (.goto 4, 3) := by decide +kernel
theorem d_Mo_suits_72 : decode c_Mo_suits 72 = .ok (.iconst 0, 1) := by decide +kernel
theorem d_Mo_suits_73 : decode c_Mo_suits 73 = .ok (.istore 4, 2) := by decide +kernel
theorem d_Mo_suits_75 : decode c_Mo_suits 75 = .ok (.iload 4, 2) := by decide +kernel
theorem d_Mo_suits_77 : decode c_Mo_suits 77 = .ok (.ifCond .eq 35, 3) := by decide +kernel
theorem d_Mo_suits_80 : decode c_Mo_suits 80 = .ok (.aload_n 0, 1) := by decide +kernel
theorem d_Mo_suits_81 : decode c_Mo_suits 81 = .ok (.iload_n 2, 1) := by decide +kernel
theorem d_Mo_suits_82 : decode c_Mo_suits 82 = .ok (.iconst 0, 1) := by decide +kernel
theorem d_Mo_suits_83 : decode c_Mo_suits 83 = .ok (.iload_n 3, 1) := by decide +kernel
theorem d_Mo_suits_84 : decode c_Mo_suits 84 = .ok (.invokevirtual 93, 3) := by decide +kernel
theorem d_Mo_suits_87 : decode c_Mo_suits 87 = .ok (.aload_n 0, 1) := by decide +kernel
theorem d_Mo_suits_88 : decode c_Mo_suits 88 = .ok (.iload_n 1, 1) := by decide +kernel
theorem d_Mo_suits_89 : decode c_Mo_suits 89 = .ok (.invokevirtual 39, 3) := by decide +kernel
theorem d_Mo_suits_92 : decode c_Mo_suits 92 = .ok (.if_icmp .gt 20, 3) := by decide +kernel
theorem d_Mo_suits_95 : decode c_Mo_suits 95 = .ok (.aload_n 0, 1) := by decide +kernel
theorem d_Mo_suits_96 : decode c_Mo_suits 96 = .ok (.iload_n 2, 1) := by decide +kernel
theorem d_Mo_suits_97 : decode c_Mo_suits 97 = .ok (.iconst 0, 1) := by decide +kernel
theorem d_Mo_suits_98 : decode c_Mo_suits 98 = .ok (.iload_n 3, 1) := by decide +kernel
theorem d_Mo_suits_99 : decode c_Mo_suits 99 = .ok (.invokevirtual 97, 3) := by decide +kernel
theorem d_Mo_suits_102 : decode c_Mo_suits 102 = .ok (.aload_n 0, 1) := by decide +kernel
theorem d_Mo_suits_103 : decode c_Mo_suits 103 = .ok (.iload_n 1, 1) := by decide +kernel
theorem d_Mo_suits_104 : decode c_Mo_suits 104 = .ok (.invokevirtual 43, 3) := by decide +kernel
theorem d_Mo_suits_107 : decode c_Mo_suits 107 = .ok (.if_icmp .gt 5, 3) := by decide +kernel
theorem d_Mo_suits_110 : decode c_Mo_suits 110 = .ok (.iload_n 2, 1) := by decide +kernel
theorem d_Mo_suits_111 : decode c_Mo_suits 111 = .ok (.ireturn, 1) := by decide +kernel
theorem d_Mo_suits_112 : decode c_Mo_suits 112 = .ok (.iinc 3 1, 3) := by decide +kernel
theorem d_Mo_suits_115 : decode c_Mo_suits 115 = .ok (.goto (-91), 3) := by decide +kernel
theorem d_Mo_suits_118 : decode c_Mo_suits 118 = .ok (.iinc 2 1, 3) := by decide +kernel
theorem d_Mo_suits_121 : decode c_Mo_suits 121 = .ok (.goto (-109), 3) := by decide +kernel
theorem d_Mo_suits_124 : decode c_Mo_suits 124 = .ok (.bipush (-5), 2) := by decide +kernel
theorem d_Mo_suits_126 : decode c_Mo_suits 126 = .ok (.ireturn, 1) := by decide +kernel
theorem d_Mo_coverAll_0 : decode c_Mo_coverAll 0 = .ok (.iload_n 1, 1) := by decide +kernel
theorem d_Mo_coverAll_1 : decode c_Mo_coverAll 1 = .ok (.iconst 0, 1) := by decide +kernel
theorem d_Mo_coverAll_2 : decode c_Mo_coverAll 2 = .ok (.bipush 9, 2) := by decide +kernel
theorem d_Mo_coverAll_4 : decode c_Mo_coverAll 4 = .ok (.invokestatic 35, 3) := by decide +kernel
theorem d_Mo_coverAll_7 : decode c_Mo_coverAll 7 = .ok (.ifCond .eq 12, 3) := by decide +kernel
theorem d_Mo_coverAll_10 : decode c_Mo_coverAll 10 = .ok (.iload_n 2, 1) := by decide +kernel
theorem d_Mo_coverAll_11 : decode c_Mo_coverAll 11 = .ok (.iconst 0, 1) := by decide +kernel
theorem d_Mo_coverAll_12 : decode c_Mo_coverAll 12 = .ok (.iconst 1, 1) := by decide +kernel
theorem d_Mo_coverAll_13 : decode c_Mo_coverAll 13 = .ok (.invokestatic 35, 3) := by decide +kernel
theorem d_Mo_coverAll_16 : decode c_Mo_coverAll 16 = .ok (.ifCond .ne 6, 3) := by decide +kernel
theorem d_Mo_coverAll_19 : decode c_Mo_coverAll 19 = .ok (.bipush (-2), 2) := by decide +kernel
theorem d_Mo_coverAll_21 : decode c_Mo_coverAll 21 = .ok (.ireturn, 1) := by decide +kernel
theorem d_Mo_coverAll_22 : decode c_Mo_coverAll 22 = .ok (.iconst 0, 1) := by decide +kernel
theorem d_Mo_coverAll_23 : decode c_Mo_coverAll 23 = .ok (.istore_n 3, 1) := by decide +kernel
theorem d_Mo_coverAll_24 : decode c_Mo_coverAll 24 = .ok (.iload_n 3, 1) := by decide +kernel
theorem d_Mo_coverAll_25 : decode c_Mo_coverAll 25 = .ok (.sipush 1953, 3) := by decide +kernel
theorem d_Mo_coverAll_28 : decode c_Mo_coverAll 28 = .ok (.if_icmp .ge 21, 3) := by decide +kernel
theorem d_Mo_coverAll_31 : decode c_Mo_coverAll 31 = .ok (.aload_n 0, 1) := by decide +kernel
theorem d_Mo_coverAll_32 : decode c_Mo_coverAll 32 = .ok (.getfield 19, 3) := by decide +kernel
theorem d_Mo_coverAll_35 : decode c_Mo_coverAll 35 = .ok (.iload_n 3, 1) := by decide +kernel
theorem d_Mo_coverAll_36 : decode c_Mo_coverAll 36 = .ok (.aload_n 0, 1) := by decide +kernel
theorem d_Mo_coverAll_37 : decode c_Mo_coverAll 37 = .ok (.getfield 7, 3) := by decide +kernel
theorem d_Mo_coverAll_40 : decode c_Mo_coverAll 40 = .ok (.iload_n 3, 1) := by decide +kernel
theorem d_Mo_coverAll_41 : decode c_Mo_coverAll 41 = .ok (.iaload, 1) := by decide +kernel
theorem d_Mo_coverAll_42 : decode c_Mo_coverAll 42 = .ok (.iastore, 1) := by decide +kernel
theorem d_Mo_coverAll_43 : decode c_Mo_coverAll 43 = .ok (.iinc 3 1, 3) := by decide +kernel
theorem d_Mo_coverAll_46 : decode c_Mo_coverAll 46 = .ok (.goto (-22), 3) := by decide +kernel
theorem d_Mo_coverAll_49 : decode c_Mo_coverAll 49 = .ok (.aload_n 0, 1) := by decide +kernel
theorem d_Mo_coverAll_50 : decode c_Mo_coverAll 50 = .ok (.invokevirtual 197, 3) := by decide +kernel
theorem d_Mo_coverAll_53 : decode c_Mo_coverAll 53 = .ok (.istore_n 3, 1) := by decide +kernel
theorem d_Mo_coverAll_54 : decode c_Mo_coverAll 54 = .ok (.iconst 0, 1) := by decide +kernel
theorem d_Mo_coverAll_55 : decode c_Mo_coverAll 55 = .ok (.istore 4, 2) := by decide +kernel
theorem d_Mo_coverAll_57 : decode c_Mo_coverAll 57 = .ok (.iconst 0, 1) := by decide +kernel
theorem d_Mo_coverAll_58 : decode c_Mo_coverAll 58 = .ok (.istore 5, 2) := by decide +kernel
theorem d_Mo_coverAll_60 : decode c_Mo_coverAll 60 = .ok (.iload 5, 2) := by decide +kernel
theorem d_Mo_coverAll_62 : decode c_Mo_coverAll 62 = .ok (.aload_n 0, 1) := by decide +kernel
theorem d_Mo_coverAll_63 : decode c_Mo_coverAll 63 = .ok (.getfield 7, 3) := by decide +kernel
theorem d_Mo_coverAll_66 : decode c_Mo_coverAll 66 = .ok (.iconst 2, 1) := by decide +kernel
theorem d_Mo_coverAll_67 : decode c_Mo_coverAll 67 = .ok (.iaload, 1) := by decide +kernel
theorem d_Mo_coverAll_68 : decode c_Mo_coverAll 68 = .ok (.if_icmp .ge 43, 3) := by decide +kernel
theorem d_Mo_coverAll_71 : decode c_Mo_coverAll 71 = .ok (.aload_n 0, 1) := by decide +kernel
theorem d_Mo_coverAll_72 : decode c_Mo_coverAll 72 = .ok (.iload 5, 2) := by decide +kernel
theorem d_Mo_coverAll_74 : decode c_Mo_coverAll 74 = .ok (.iload_n 1, 1) := by decide +kernel
theorem d_Mo_coverAll_75 : decode c_Mo_coverAll 75 = .ok (.invokevirtual 206, 3) := by decide +kernel
theorem d_Mo_coverAll_78 : decode c_Mo_coverAll 78 = .ok (.istore 6, 2) := by decide +kernel
theorem d_Mo_coverAll_80 : decode c_Mo_coverAll 80 = .ok (.iload 6, 2) := by decide +kernel
theorem d_Mo_coverAll_82 : decode c_Mo_coverAll 82 = .ok (.bipush (-5), 2) := by decide +kernel
theorem d_Mo_coverAll_84 : decode c_Mo_coverAll 84 = .ok (.if_icmp .eq 21, 3) := by decide +kernel
theorem d_Mo_coverAll_87 : decode c_Mo_coverAll 87 = .ok (.aload_n 0, 1) := by decide +kernel
theorem d_Mo_coverAll_88 : decode c_Mo_coverAll 88 = .ok (.iload 5, 2) := by decide +kernel
theorem d_Mo_coverAll_90 : decode c_Mo_coverAll 90 = .ok (.iload 6, 2) := by decide +kernel
theorem d_Mo_coverAll_92 : decode c_Mo_coverAll 92 = .ok (.iconst 2, 1) := by decide +kernel
theorem d_Mo_coverAll_93 : decode c_Mo_coverAll 93 = .ok (.idiv, 1) := by decide +kernel
theorem d_Mo_coverAll_94 : decode c_Mo_coverAll 94 = .ok (.iload 6, 2) := by decide +kernel
theorem d_Mo_coverAll_96 : decode c_Mo_coverAll 96 = .ok (.iconst 2, 1) := by decide +kernel
theorem d_Mo_coverAll_97 : decode c_Mo_coverAll 97 = .ok (.irem, 1) := by decide +kernel
theorem d_Mo_coverAll_98 : decode c_Mo_coverAll 98 = .ok (.invokevirtual 151, 3) := by decide +kernel
theorem d_Mo_coverAll_101 : decode c_Mo_coverAll 101 = .ok (.pop, 1) := by decide +kernel
theorem d_Mo_coverAll_102 : decode c_Mo_coverAll 102 = .ok (.iinc 4 1, 3) := by decide +kernel
theorem d_Mo_coverAll_105 : decode c_Mo_coverAll 105 = .ok (.iinc 5 1, 3) := by decide +kernel
theorem d_Mo_coverAll_108 : decode c_Mo_coverAll 108 = .ok (.goto (-48), 3) := by decide +kernel
theorem d_Mo_coverAll_111 : decode c_Mo_coverAll 111 = .ok (.aload_n 0, 1) := by decide +kernel
theorem d_Mo_coverAll_112 : decode c_Mo_coverAll 112 = .ok (.invokevirtual 197, 3) := by decide +kernel
theorem d_Mo_coverAll_115 : decode c_Mo_coverAll 115 = .ok (.iload_n 3, 1) := by decide +kernel
theorem d_Mo_coverAll_116 : decode c_Mo_coverAll 116 = .ok (.isub, 1) := by decide +kernel
theorem d_Mo_coverAll_117 : decode c_Mo_coverAll 117 = .ok (.istore 5, 2) := by decide +kernel
theorem d_Mo_coverAll_119 : decode c_Mo_coverAll 119 = .ok (.iconst 0, 1) := by decide +kernel
theorem d_Mo_coverAll_120 : decode c_Mo_coverAll 120 = .ok (.istore 6, 2) := by decide +kernel
theorem d_Mo_coverAll_122 : decode c_Mo_coverAll 122 = .ok (.iload 6, 2) := by decide +kernel
theorem d_Mo_coverAll_124 : decode c_Mo_coverAll 124 = .ok (.sipush 1953, 3) := by decide +kernel
theorem d_Mo_coverAll_127 : decode c_Mo_coverAll 127 = .ok (.if_icmp .ge 23, 3) := by decide +kernel
theorem d_Mo_coverAll_130 : decode c_Mo_coverAll 130 = .ok (.aload_n 0, 1) := by decide +kernel
theorem d_Mo_coverAll_131 : decode c_Mo_coverAll 131 = .ok (.getfield 7, 3) := by decide +kernel
theorem d_Mo_coverAll_134 : decode c_Mo_coverAll 134 = .ok (.iload 6, 2) := by decide +kernel
theorem d_Mo_coverAll_136 : decode c_Mo_coverAll 136 = .ok (.aload_n 0, 1) := by decide +kernel
theorem d_Mo_coverAll_137 : decode c_Mo_coverAll 137 = .ok (.getfield 19, 3) := by decide +kernel
theorem d_Mo_coverAll_140 : decode c_Mo_coverAll 140 = .ok (.iload 6, 2) := by decide +kernel
theorem d_Mo_coverAll_142 : decode c_Mo_coverAll 142 = .ok (.iaload, 1) := by decide +kernel
theorem d_Mo_coverAll_143 : decode c_Mo_coverAll 143 = .ok (.iastore, 1) := by decide +kernel
theorem d_Mo_coverAll_144 : decode c_Mo_coverAll 144 = .ok (.iinc 6 1, 3) := by decide +kernel
theorem d_Mo_coverAll_147 : decode c_Mo_coverAll 147 = .ok (.goto (-25), 3) := by decide +kernel
theorem d_Mo_coverAll_150 : decode c_Mo_coverAll 150 = .ok (.iload_n 2, 1) := by decide +kernel
theorem d_Mo_coverAll_151 : decode c_Mo_coverAll 151 = .ok (.ifCond .ne 8, 3) := by decide +kernel
theorem d_Mo_coverAll_154 : decode c_Mo_coverAll 154 = .ok (.iload 4, 2) := by decide +kernel
theorem d_Mo_coverAll_156 : decode c_Mo_coverAll 156 = .ok (.goto 5, 3) := by decide +kernel
theorem d_Mo_coverAll_159 : decode c_Mo_coverAll 159 = .ok (.iload 5, 2) := by decide +kernel
theorem d_Mo_coverAll_161 : decode c_Mo_coverAll 161 = .ok (.ireturn, 1) := by decide +kernel
theorem d_La_law_0 : decode c_La_law 0 = .ok (.new 7, 3) := by decide +kernel
theorem d_La_law_3 : decode c_La_law 3 = .ok (.dup, 1) := by decide +kernel
theorem d_La_law_4 : decode c_La_law 4 = .ok (.invokespecial 9, 3) := by decide +kernel
theorem d_La_law_7 : decode c_La_law 7 = .ok (.astore_n 1, 1) := by decide +kernel
theorem d_La_law_8 : decode c_La_law 8 = .ok (.new 10, 3) := by decide +kernel
theorem d_La_law_11 : decode c_La_law 11 = .ok (.dup, 1) := by decide +kernel
theorem d_La_law_12 : decode c_La_law 12 = .ok (.invokespecial 12, 3) := by decide +kernel
theorem d_La_law_15 : decode c_La_law 15 = .ok (.astore_n 2, 1) := by decide +kernel
theorem d_La_law_16 : decode c_La_law 16 = .ok (.iconst 0, 1) := by decide +kernel
theorem d_La_law_17 : decode c_La_law 17 = .ok (.istore_n 3, 1) := by decide +kernel
theorem d_La_law_18 : decode c_La_law 18 = .ok (.iload_n 3, 1) := by decide +kernel
theorem d_La_law_19 : decode c_La_law 19 = .ok (.aload_n 0, 1) := by decide +kernel
theorem d_La_law_20 : decode c_La_law 20 = .ok (.arraylength, 1) := by decide +kernel
theorem d_La_law_21 : decode c_La_law 21 = .ok (.iconst 5, 1) := by decide +kernel
theorem d_La_law_22 : decode c_La_law 22 = .ok (.isub, 1) := by decide +kernel
theorem d_La_law_23 : decode c_La_law 23 = .ok (.if_icmp .gt 829, 3) := by decide +kernel
theorem d_La_law_26 : decode c_La_law 26 = .ok (.aload_n 0, 1) := by decide +kernel
theorem d_La_law_27 : decode c_La_law 27 = .ok (.iload_n 3, 1) := by decide +kernel
theorem d_La_law_28 : decode c_La_law 28 = .ok (.iaload, 1) := by decide +kernel
theorem d_La_law_29 : decode c_La_law 29 = .ok (.bipush 31, 2) := by decide +kernel
theorem d_La_law_31 : decode c_La_law 31 = .ok (.iand, 1) := by decide +kernel
theorem d_La_law_32 : decode c_La_law 32 = .ok (.tableswitch 814 0 23 #[112, 165, 178, 221, 244, 267, 300, 333, 358, 371, 384, 397, 410, 423, 456, 489, 512, 545, 588, 611, 662, 715, 758, 781], 112) := by decide +kernel
theorem d_La_law_144 : decode c_La_law 144 = .ok (.aload_n 1, 1) := by decide +kernel
theorem d_La_law_145 : decode c_La_law 145 = .ok (.aload_n 0, 1) := by decide +kernel
theorem d_La_law_146 : decode c_La_law 146 = .ok (.iload_n 3, 1) := by decide +kernel
theorem d_La_law_147 : decode c_La_law 147 = .ok (.iconst 1, 1) := by decide +kernel
theorem d_La_law_148 : decode c_La_law 148 = .ok (.iadd, 1) := by decide +kernel
theorem d_La_law_149 : decode c_La_law 149 = .ok (.iaload, 1) := by decide +kernel
theorem d_La_law_150 : decode c_La_law 150 = .ok (.aload_n 0, 1) := by decide +kernel
theorem d_La_law_151 : decode c_La_law 151 = .ok (.iload_n 3, 1) := by decide +kernel
theorem d_La_law_152 : decode c_La_law 152 = .ok (.iconst 2, 1) := by decide +kernel
theorem d_La_law_153 : decode c_La_law 153 = .ok (.iadd, 1) := by decide +kernel
theorem d_La_law_154 : decode c_La_law 154 = .ok (.iaload, 1) := by decide +kernel
theorem d_La_law_155 : decode c_La_law 155 = .ok (.aload_n 0, 1) := by decide +kernel
theorem d_La_law_156 : decode c_La_law 156 = .ok (.iload_n 3, 1) := by decide +kernel
theorem d_La_law_157 : decode c_La_law 157 = .ok (.iconst 3, 1) := by decide +kernel
theorem d_La_law_158 : decode c_La_law 158 = .ok (.iadd, 1) := by decide +kernel
theorem d_La_law_159 : decode c_La_law 159 = .ok (.iaload, 1) := by decide +kernel
theorem d_La_law_160 : decode c_La_law 160 = .ok (.aload_n 0, 1) := by decide +kernel
theorem d_La_law_161 : decode c_La_law 161 = .ok (.iload_n 3, 1) := by decide +kernel
theorem d_La_law_162 : decode c_La_law 162 = .ok (.iconst 4, 1) := by decide +kernel
theorem d_La_law_163 : decode c_La_law 163 = .ok (.iadd, 1) := by decide +kernel
theorem d_La_law_164 : decode c_La_law 164 = .ok (.iaload, 1) := by decide +kernel
theorem d_La_law_165 : decode c_La_law 165 = .ok (.invokevirtual 13, 3) := by decide +kernel
theorem d_La_law_168 : decode c_La_law 168 = .ok (.aload_n 2, 1) := by decide +kernel
theorem d_La_law_169 : decode c_La_law 169 = .ok (.aload_n 0, 1) := by decide +kernel
theorem d_La_law_170 : decode c_La_law 170 = .ok (.iload_n 3, 1) := by decide +kernel
theorem d_La_law_171 : decode c_La_law 171 = .ok (.iconst 1, 1) := by decide +kernel
theorem d_La_law_172 : decode c_La_law 172 = .ok (.iadd, 1) := by decide +kernel
theorem d_La_law_173 : decode c_La_law 173 = .ok (.iaload, 1) := by decide +kernel
theorem d_La_law_174 : decode c_La_law 174 = .ok (.aload_n 0, 1) := by decide +kernel
theorem d_La_law_175 : decode c_La_law 175 = .ok (.iload_n 3, 1) := by decide +kernel
theorem d_La_law_176 : decode c_La_law 176 = .ok (.iconst 2, 1) := by decide +kernel
theorem d_La_law_177 : decode c_La_law 177 = .ok (.iadd, 1) := by decide +kernel
theorem d_La_law_178 : decode c_La_law 178 = .ok (.iaload, 1) := by decide +kernel
theorem d_La_law_179 : decode c_La_law 179 = .ok (.aload_n 0, 1) := by decide +kernel
theorem d_La_law_180 : decode c_La_law 180 = .ok (.iload_n 3, 1) := by decide +kernel
theorem d_La_law_181 : decode c_La_law 181 = .ok (.iconst 3, 1) := by decide +kernel
theorem d_La_law_182 : decode c_La_law 182 = .ok (.iadd, 1) := by decide +kernel
theorem d_La_law_183 : decode c_La_law 183 = .ok (.iaload, 1) := by decide +kernel
theorem d_La_law_184 : decode c_La_law 184 = .ok (.aload_n 0, 1) := by decide +kernel
theorem d_La_law_185 : decode c_La_law 185 = .ok (.iload_n 3, 1) := by decide +kernel
theorem d_La_law_186 : decode c_La_law 186 = .ok (.iconst 4, 1) := by decide +kernel
theorem d_La_law_187 : decode c_La_law 187 = .ok (.iadd, 1) := by decide +kernel
theorem d_La_law_188 : decode c_La_law 188 = .ok (.iaload, 1) := by decide +kernel
theorem d_La_law_189 : decode c_La_law 189 = .ok (.invokevirtual 17, 3) := by decide +kernel
theorem d_La_law_192 : decode c_La_law 192 = .ok (.if_icmp .eq 654, 3) := by decide +kernel
theorem d_La_law_195 : decode c_La_law 195 = .ok (.iconst 0, 1) := by decide +kernel
theorem d_La_law_196 : decode c_La_law 196 = .ok (.ireturn, 1) := by decide +kernel
theorem d_La_law_197 : decode c_La_law 197 = .ok (.aload_n 1, 1) := by decide +kernel
theorem d_La_law_198 : decode c_La_law 198 = .ok (.invokevirtual 18, 3) := by decide +kernel
theorem d_La_law_201 : decode c_La_law 201 = .ok (.aload_n 2, 1) := by decide +kernel
theorem d_La_law_202 : decode c_La_law 202 = .ok (.invokevirtual 22, 3) := by decide +kernel
theorem d_La_law_205 : decode c_La_law 205 = .ok (.if_icmp .eq 641, 3) := by decide +kernel
theorem d_La_law_208 : decode c_La_law 208 = .ok (.iconst 0, 1) := by decide +kernel
theorem d_La_law_209 : decode c_La_law 209 = .ok (.ireturn, 1) := by decide +kernel
theorem d_La_law_210 : decode c_La_law 210 = .ok (.aload_n 1, 1) := by decide +kernel
theorem d_La_law_211 : decode c_La_law 211 = .ok (.aload_n 0, 1) := by decide +kernel
theorem d_La_law_212 : decode c_La_law 212 = .ok (.iload_n 3, 1) := by decide +kernel
theorem d_La_law_213 : decode c_La_law 213 = .ok (.iconst 1, 1) := by decide +kernel
theorem d_La_law_214 : decode c_La_law 214 = .ok (.iadd, 1) := by decide +kernel
theorem d_La_law_215 : decode c_La_law 215 = .ok (.iaload, 1) := by decide +kernel
theorem d_La_law_216 : decode c_La_law 216 = .ok (.aload_n 0, 1) := by decide +kernel
theorem d_La_law_217 : decode c_La_law 217 = .ok (.iload_n 3, 1) := by decide +kernel
theorem d_La_law_218 : decode c_La_law 218 = .ok (.iconst 2, 1) := by decide +kernel
theorem d_La_law_219 : decode c_La_law 219 = .ok (.iadd, 1) := by decide +kernel
theorem d_La_law_220 : decode c_La_law 220 = .ok (.iaload, 1) := by decide +kernel
theorem d_La_law_221 : decode c_La_law 221 = .ok (.aload_n 0, 1) := by decide +kernel
theorem d_La_law_222 : decode c_La_law 222 = .ok (.iload_n 3, 1) := by decide +kernel
theorem d_La_law_223 : decode c_La_law 223 = .ok (.iconst 3, 1) := by decide +kernel
theorem d_La_law_224 : decode c_La_law 224 = .ok (.iadd, 1) := by decide +kernel
theorem d_La_law_225 : decode c_La_law 225 = .ok (.iaload, 1) := by decide +kernel
theorem d_La_law_226 : decode c_La_law 226 = .ok (.invokevirtual 23, 3) := by decide +kernel
theorem d_La_law_229 : decode c_La_law 229 = .ok (.aload_n 2, 1) := by decide +kernel
theorem d_La_law_230 : decode c_La_law 230 = .ok (.aload_n 0, 1) := by decide +kernel
theorem d_La_law_231 : decode c_La_law 231 = .ok (.iload_n 3, 1) := by decide +kernel
theorem d_La_law_232 : decode c_La_law 232 = .ok (.iconst 1, 1) := by decide +kernel
theorem d_La_law_233 : decode c_La_law 233 = .ok (.iadd, 1) := by decide +kernel
theorem d_La_law_234 : decode c_La_law 234 = .ok (.iaload, 1) := by decide +kernel
theorem d_La_law_235 : decode c_La_law 235 = .ok (.aload_n 0, 1) := by decide +kernel
theorem d_La_law_236 : decode c_La_law 236 = .ok (.iload_n 3, 1) := by decide +kernel
theorem d_La_law_237 : decode c_La_law 237 = .ok (.iconst 2, 1) := by decide +kernel
theorem d_La_law_238 : decode c_La_law 238 = .ok (.iadd, 1) := by decide +kernel
theorem d_La_law_239 : decode c_La_law 239 = .ok (.iaload, 1) := by decide +kernel
theorem d_La_law_240 : decode c_La_law 240 = .ok (.aload_n 0, 1) := by decide +kernel
theorem d_La_law_241 : decode c_La_law 241 = .ok (.iload_n 3, 1) := by decide +kernel
theorem d_La_law_242 : decode c_La_law 242 = .ok (.iconst 3, 1) := by decide +kernel
theorem d_La_law_243 : decode c_La_law 243 = .ok (.iadd, 1) := by decide +kernel
theorem d_La_law_244 : decode c_La_law 244 = .ok (.iaload, 1) := by decide +kernel
theorem d_La_law_245 : decode c_La_law 245 = .ok (.invokevirtual 27, 3) := by decide +kernel
theorem d_La_law_248 : decode c_La_law 248 = .ok (.if_icmp .eq 598, 3) := by decide +kernel
theorem d_La_law_251 : decode c_La_law 251 = .ok (.iconst 0, 1) := by decide +kernel
theorem d_La_law_252 : decode c_La_law 252 = .ok (.ireturn, 1) := by decide +kernel
theorem d_La_law_253 : decode c_La_law 253 = .ok (.aload_n 1, 1) := by decide +kernel
theorem d_La_law_254 : decode c_La_law 254 = .ok (.aload_n 0, 1) := by decide +kernel
theorem d_La_law_255 : decode c_La_law 255 = .ok (.iload_n 3, 1) := by decide +kernel
theorem d_La_law_256 : decode c_La_law 256 = .ok (.iconst 1, 1) := by decide +kernel
theorem d_La_law_257 : decode c_La_law 257 = .ok (.iadd, 1) := by decide +kernel
theorem d_La_law_258 : decode c_La_law 258 = .ok (.iaload, 1) := by decide +kernel
theorem d_La_law_259 : decode c_La_law 259 = .ok (.invokevirtual 28, 3) := by decide +kernel
theorem d_La_law_262 : decode c_La_law 262 = .ok (.aload_n 2, 1) := by decide +kernel
theorem d_La_law_263 : decode c_La_law 263 = .ok (.aload_n 0, 1) := by decide +kernel
theorem d_La_law_264 : decode c_La_law 264 = .ok (.iload_n 3, 1) := by decide +kernel
theorem d_La_law_265 : decode c_La_law 265 = .ok (.iconst 1, 1) := by decide +kernel
theorem d_La_law_266 : decode c_La_law 266 = .ok (.iadd, 1) := by decide +kernel
theorem d_La_law_267 : decode c_La_law 267 = .ok (.iaload, 1) := by decide +kernel
theorem d_La_law_268 : decode c_La_law 268 = .ok (.invokevirtual 32, 3) := by decide +kernel
theorem d_La_law_271 : decode c_La_law 271 = .ok (.if_icmp .eq 575, 3) := by decide +kernel
theorem d_La_law_274 : decode c_La_law 274 = .ok (.iconst 0, 1) := by decide +kernel
theorem d_La_law_275 : decode c_La_law 275 = .ok (.ireturn, 1) := by decide +kernel
theorem d_La_law_276 : decode c_La_law 276 = .ok (.aload_n 1, 1) := by decide +kernel
theorem d_La_law_277 : decode c_La_law 277 = .ok (.aload_n 0, 1) := by decide +kernel
theorem d_La_law_278 : decode c_La_law 278 = .ok (.iload_n 3, 1) := by decide +kernel
theorem d_La_law_279 : decode c_La_law 279 = .ok (.iconst 1, 1) := by decide +kernel
theorem d_La_law_280 : decode c_La_law 280 = .ok (.iadd, 1) := by decide +kernel
theorem d_La_law_281 : decode c_La_law 281 = .ok (.iaload, 1) := by decide +kernel
theorem d_La_law_282 : decode c_La_law 282 = .ok (.invokevirtual 33, 3) := by decide +kernel
theorem d_La_law_285 : decode c_La_law 285 = .ok (.aload_n 2, 1) := by decide +kernel
theorem d_La_law_286 : decode c_La_law 286 = .ok (.aload_n 0, 1) := by decide +kernel
theorem d_La_law_287 : decode c_La_law 287 = .ok (.iload_n 3, 1) := by decide +kernel
theorem d_La_law_288 : decode c_La_law 288 = .ok (.iconst 1, 1) := by decide +kernel
theorem d_La_law_289 : decode c_La_law 289 = .ok (.iadd, 1) := by decide +kernel
theorem d_La_law_290 : decode c_La_law 290 = .ok (.iaload, 1) := by decide +kernel
theorem d_La_law_291 : decode c_La_law 291 = .ok (.invokevirtual 36, 3) := by decide +kernel
theorem d_La_law_294 : decode c_La_law 294 = .ok (.if_icmp .eq 552, 3) := by decide +kernel
theorem d_La_law_297 : decode c_La_law 297 = .ok (.iconst 0, 1) := by decide +kernel
theorem d_La_law_298 : decode c_La_law 298 = .ok (.ireturn, 1) := by decide +kernel
theorem d_La_law_299 : decode c_La_law 299 = .ok (.aload_n 1, 1) := by decide +kernel
theorem d_La_law_300 : decode c_La_law 300 = .ok (.aload_n 0, 1) := by decide +kernel
theorem d_La_law_301 : decode c_La_law 301 = .ok (.iload_n 3, 1) := by decide +kernel
theorem d_La_law_302 : decode c_La_law 302 = .ok (.iconst 1, 1) := by decide +kernel
theorem d_La_law_303 : decode c_La_law 303 = .ok (.iadd, 1) := by decide +kernel
theorem d_La_law_304 : decode c_La_law 304 = .ok (.iaload, 1) := by decide +kernel
theorem d_La_law_305 : decode c_La_law 305 = .ok (.aload_n 0, 1) := by decide +kernel
theorem d_La_law_306 : decode c_La_law 306 = .ok (.iload_n 3, 1) := by decide +kernel
theorem d_La_law_307 : decode c_La_law 307 = .ok (.iconst 2, 1) := by decide +kernel
theorem d_La_law_308 : decode c_La_law 308 = .ok (.iadd, 1) := by decide +kernel
theorem d_La_law_309 : decode c_La_law 309 = .ok (.iaload, 1) := by decide +kernel
theorem d_La_law_310 : decode c_La_law 310 = .ok (.invokevirtual 37, 3) := by decide +kernel
theorem d_La_law_313 : decode c_La_law 313 = .ok (.aload_n 2, 1) := by decide +kernel
theorem d_La_law_314 : decode c_La_law 314 = .ok (.aload_n 0, 1) := by decide +kernel
theorem d_La_law_315 : decode c_La_law 315 = .ok (.iload_n 3, 1) := by decide +kernel
theorem d_La_law_316 : decode c_La_law 316 = .ok (.iconst 1, 1) := by decide +kernel
theorem d_La_law_317 : decode c_La_law 317 = .ok (.iadd, 1) := by decide +kernel
theorem d_La_law_318 : decode c_La_law 318 = .ok (.iaload, 1) := by decide +kernel
theorem d_La_law_319 : decode c_La_law 319 = .ok (.aload_n 0, 1) := by decide +kernel
theorem d_La_law_320 : decode c_La_law 320 = .ok (.iload_n 3, 1) := by decide +kernel
theorem d_La_law_321 : decode c_La_law 321 = .ok (.iconst 2, 1) := by decide +kernel
theorem d_La_law_322 : decode c_La_law 322 = .ok (.iadd, 1) := by decide +kernel
theorem d_La_law_323 : decode c_La_law 323 = .ok (.iaload, 1) := by decide +kernel
theorem d_La_law_324 : decode c_La_law 324 = .ok (.invokevirtual 41, 3) := by decide +kernel
theorem d_La_law_327 : decode c_La_law 327 = .ok (.if_icmp .eq 519, 3) := by decide +kernel
theorem d_La_law_330 : decode c_La_law 330 = .ok (.iconst 0, 1) := by decide +kernel
theorem d_La_law_331 : decode c_La_law 331 = .ok (.ireturn, 1) := by decide +kernel
theorem d_La_law_332 : decode c_La_law 332 = .ok (.aload_n 1, 1) := by decide +kernel
theorem d_La_law_333 : decode c_La_law 333 = .ok (.aload_n 0, 1) := by decide +kernel
theorem d_La_law_334 : decode c_La_law 334 = .ok (.iload_n 3, 1) := by decide +kernel
theorem d_La_law_335 : decode c_La_law 335 = .ok (.iconst 1, 1) := by decide +kernel
theorem d_La_law_336 : decode c_La_law 336 = .ok (.iadd, 1) := by decide +kernel
theorem d_La_law_337 : decode c_La_law 337 = .ok (.iaload, 1) := by decide +kernel
theorem d_La_law_338 : decode c_La_law 338 = .ok (.aload_n 0, 1) := by decide +kernel
theorem d_La_law_339 : decode c_La_law 339 = .ok (.iload_n 3, 1) := by decide +kernel
theorem d_La_law_340 : decode c_La_law 340 = .ok (.iconst 2, 1) := by decide +kernel
theorem d_La_law_341 : decode c_La_law 341 = .ok (.iadd, 1) := by decide +kernel
theorem d_La_law_342 : decode c_La_law 342 = .ok (.iaload, 1) := by decide +kernel
theorem d_La_law_343 : decode c_La_law 343 = .ok (.invokevirtual 42, 3) := by decide +kernel
theorem d_La_law_346 : decode c_La_law 346 = .ok (.aload_n 2, 1) := by decide +kernel
theorem d_La_law_347 : decode c_La_law 347 = .ok (.aload_n 0, 1) := by decide +kernel
theorem d_La_law_348 : decode c_La_law 348 = .ok (.iload_n 3, 1) := by decide +kernel
theorem d_La_law_349 : decode c_La_law 349 = .ok (.iconst 1, 1) := by decide +kernel
theorem d_La_law_350 : decode c_La_law 350 = .ok (.iadd, 1) := by decide +kernel
theorem d_La_law_351 : decode c_La_law 351 = .ok (.iaload, 1) := by decide +kernel
theorem d_La_law_352 : decode c_La_law 352 = .ok (.aload_n 0, 1) := by decide +kernel
theorem d_La_law_353 : decode c_La_law 353 = .ok (.iload_n 3, 1) := by decide +kernel
theorem d_La_law_354 : decode c_La_law 354 = .ok (.iconst 2, 1) := by decide +kernel
theorem d_La_law_355 : decode c_La_law 355 = .ok (.iadd, 1) := by decide +kernel
theorem d_La_law_356 : decode c_La_law 356 = .ok (.iaload, 1) := by decide +kernel
theorem d_La_law_357 : decode c_La_law 357 = .ok (.invokevirtual 45, 3) := by decide +kernel
theorem d_La_law_360 : decode c_La_law 360 = .ok (.if_icmp .eq 486, 3) := by decide +kernel
theorem d_La_law_363 : decode c_La_law 363 = .ok (.iconst 0, 1) := by decide +kernel
theorem d_La_law_364 : decode c_La_law 364 = .ok (.ireturn, 1) := by decide +kernel
theorem d_La_law_365 : decode c_La_law 365 = .ok (.aload_n 1, 1) := by decide +kernel
theorem d_La_law_366 : decode c_La_law 366 = .ok (.aload_n 0, 1) := by decide +kernel
theorem d_La_law_367 : decode c_La_law 367 = .ok (.iload_n 3, 1) := by decide +kernel
theorem d_La_law_368 : decode c_La_law 368 = .ok (.iconst 1, 1) := by decide +kernel
theorem d_La_law_369 : decode c_La_law 369 = .ok (.iadd, 1) := by decide +kernel
theorem d_La_law_370 : decode c_La_law 370 = .ok (.iaload, 1) := by decide +kernel
theorem d_La_law_371 : decode c_La_law 371 = .ok (.i2c, 1) := by decide +kernel
theorem d_La_law_372 : decode c_La_law 372 = .ok (.invokevirtual 46, 3) := by decide +kernel
theorem d_La_law_375 : decode c_La_law 375 = .ok (.aload_n 2, 1) := by decide +kernel
theorem d_La_law_376 : decode c_La_law 376 = .ok (.aload_n 0, 1) := by decide +kernel
theorem d_La_law_377 : decode c_La_law 377 = .ok (.iload_n 3, 1) := by decide +kernel
theorem d_La_law_378 : decode c_La_law 378 = .ok (.iconst 1, 1) := by decide +kernel
theorem d_La_law_379 : decode c_La_law 379 = .ok (.iadd, 1) := by decide +kernel
theorem d_La_law_380 : decode c_La_law 380 = .ok (.iaload, 1) := by decide +kernel
theorem d_La_law_381 : decode c_La_law 381 = .ok (.i2c, 1) := by decide +kernel
theorem d_La_law_382 : decode c_La_law 382 = .ok (.invokevirtual 50, 3) := by decide +kernel
theorem d_La_law_385 : decode c_La_law 385 = .ok (.if_icmp .eq 461, 3) := by decide +kernel
theorem d_La_law_388 : decode c_La_law 388 = .ok (.iconst 0, 1) := by decide +kernel
theorem d_La_law_389 : decode c_La_law 389 = .ok (.ireturn, 1) := by decide +kernel
theorem d_La_law_390 : decode c_La_law 390 = .ok (.aload_n 1, 1) := by decide +kernel
theorem d_La_law_391 : decode c_La_law 391 = .ok (.invokevirtual 51, 3) := by decide +kernel
theorem d_La_law_394 : decode c_La_law 394 = .ok (.aload_n 2, 1) := by decide +kernel
theorem d_La_law_395 : decode c_La_law 395 = .ok (.invokevirtual 54, 3) := by decide +kernel
theorem d_La_law_398 : decode c_La_law 398 = .ok (.if_icmp .eq 448, 3) := by decide +kernel
theorem d_La_law_401 : decode c_La_law 401 = .ok (.iconst 0, 1) := by decide +kernel
theorem d_La_law_402 : decode c_La_law 402 = .ok (.ireturn, 1) := by decide +kernel
theorem d_La_law_403 : decode c_La_law 403 = .ok (.aload_n 1, 1) := by decide +kernel
theorem d_La_law_404 : decode c_La_law 404 = .ok (.invokevirtual 55, 3) := by decide +kernel
theorem d_La_law_407 : decode c_La_law 407 = .ok (.aload_n 2, 1) := by decide +kernel
theorem d_La_law_408 : decode c_La_law 408 = .ok (.invokevirtual 58, 3) := by decide +kernel
theorem d_La_law_411 : decode c_La_law 411 = .ok (.if_icmp .eq 435, 3) := by decide +kernel
theorem d_La_law_414 : decode c_La_law 414 = .ok (.iconst 0, 1) := by decide +kernel
theorem d_La_law_415 : decode c_La_law 415 = .ok (.ireturn, 1) := by decide +kernel
theorem d_La_law_416 : decode c_La_law 416 = .ok (.aload_n 1, 1) := by decide +kernel
theorem d_La_law_417 : decode c_La_law 417 = .ok (.invokevirtual 59, 3) := by decide +kernel
theorem d_La_law_420 : decode c_La_law 420 = .ok (.aload_n 2, 1) := by decide +kernel
theorem d_La_law_421 : decode c_La_law 421 = .ok (.invokevirtual 62, 3) := by decide +kernel
theorem d_La_law_424 : decode c_La_law 424 = .ok (.if_icmp .eq 422, 3) := by decide +kernel
theorem d_La_law_427 : decode c_La_law 427 = .ok (.iconst 0, 1) := by decide +kernel
theorem d_La_law_428 : decode c_La_law 428 = .ok (.ireturn, 1) := by decide +kernel
theorem d_La_law_429 : decode c_La_law 429 = .ok (.aload_n 1, 1) := by decide +kernel
theorem d_La_law_430 : decode c_La_law 430 = .ok (.invokevirtual 63, 3) := by decide +kernel
theorem d_La_law_433 : decode c_La_law 433 = .ok (.aload_n 2, 1) := by decide +kernel
theorem d_La_law_434 : decode c_La_law 434 = .ok (.invokevirtual 66, 3) := by decide +kernel
theorem d_La_law_437 : decode c_La_law 437 = .ok (.if_icmp .eq 409, 3) := by decide +kernel
theorem d_La_law_440 : decode c_La_law 440 = .ok (.iconst 0, 1) := by decide +kernel
theorem d_La_law_441 : decode c_La_law 441 = .ok (.ireturn, 1) := by decide +kernel
theorem d_La_law_442 : decode c_La_law 442 = .ok (.aload_n 1, 1) := by decide +kernel
theorem d_La_law_443 : decode c_La_law 443 = .ok (.invokevirtual 67, 3) := by decide +kernel
theorem d_La_law_446 : decode c_La_law 446 = .ok (.aload_n 2, 1) := by decide +kernel
theorem d_La_law_447 : decode c_La_law 447 = .ok (.invokevirtual 70, 3) := by decide +kernel
theorem d_La_law_450 : decode c_La_law 450 = .ok (.if_icmp .eq 396, 3) := by decide +kernel
theorem d_La_law_453 : decode c_La_law 453 = .ok (.iconst 0, 1) := by decide +kernel
theorem d_La_law_454 : decode c_La_law 454 = .ok (.ireturn, 1) := by decide +kernel
theorem d_La_law_455 : decode c_La_law 455 = .ok (.aload_n 1, 1) := by decide +kernel
theorem d_La_law_456 : decode c_La_law 456 = .ok (.aload_n 0, 1) := by decide +kernel
theorem d_La_law_457 : decode c_La_law 457 = .ok (.iload_n 3, 1) := by decide +kernel
theorem d_La_law_458 : decode c_La_law 458 = .ok (.iconst 1, 1) := by decide +kernel
theorem d_La_law_459 : decode c_La_law 459 = .ok (.iadd, 1) := by decide +kernel
theorem d_La_law_460 : decode c_La_law 460 = .ok (.iaload, 1) := by decide +kernel
theorem d_La_law_461 : decode c_La_law 461 = .ok (.aload_n 0, 1) := by decide +kernel
theorem d_La_law_462 : decode c_La_law 462 = .ok (.iload_n 3, 1) := by decide +kernel
theorem d_La_law_463 : decode c_La_law 463 = .ok (.iconst 2, 1) := by decide +kernel
theorem d_La_law_464 : decode c_La_law 464 = .ok (.iadd, 1) := by decide +kernel
theorem d_La_law_465 : decode c_La_law 465 = .ok (.iaload, 1) := by decide +kernel
theorem d_La_law_466 : decode c_La_law 466 = .ok (.invokevirtual 71, 3) := by decide +kernel
theorem d_La_law_469 : decode c_La_law 469 = .ok (.aload_n 2, 1) := by decide +kernel
theorem d_La_law_470 : decode c_La_law 470 = .ok (.aload_n 0, 1) := by decide +kernel
theorem d_La_law_471 : decode c_La_law 471 = .ok (.iload_n 3, 1) := by decide +kernel
theorem d_La_law_472 : decode c_La_law 472 = .ok (.iconst 1, 1) := by decide +kernel
theorem d_La_law_473 : decode c_La_law 473 = .ok (.iadd, 1) := by decide +kernel
theorem d_La_law_474 : decode c_La_law 474 = .ok (.iaload, 1) := by decide +kernel
theorem d_La_law_475 : decode c_La_law 475 = .ok (.aload_n 0, 1) := by decide +kernel
theorem d_La_law_476 : decode c_La_law 476 = .ok (.iload_n 3, 1) := by decide +kernel
theorem d_La_law_477 : decode c_La_law 477 = .ok (.iconst 2, 1) := by decide +kernel
theorem d_La_law_478 : decode c_La_law 478 = .ok (.iadd, 1) := by decide +kernel
theorem d_La_law_479 : decode c_La_law 479 = .ok (.iaload, 1) := by decide +kernel
theorem d_La_law_480 : decode c_La_law 480 = .ok (.invokevirtual 74, 3) := by decide +kernel
theorem d_La_law_483 : decode c_La_law 483 = .ok (.if_icmp .eq 363, 3) := by decide +kernel
theorem d_La_law_486 : decode c_La_law 486 = .ok (.iconst 0, 1) := by decide +kernel
theorem d_La_law_487 : decode c_La_law 487 = .ok (.ireturn, 1) := by decide +kernel
theorem d_La_law_488 : decode c_La_law 488 = .ok (.aload_n 1, 1) := by decide +kernel
theorem d_La_law_489 : decode c_La_law 489 = .ok (.aload_n 0, 1) := by decide +kernel
theorem d_La_law_490 : decode c_La_law 490 = .ok (.iload_n 3, 1) := by decide +kernel
theorem d_La_law_491 : decode c_La_law 491 = .ok (.iconst 1, 1) := by decide +kernel
theorem d_La_law_492 : decode c_La_law 492 = .ok (.iadd, 1) := by decide +kernel
theorem d_La_law_493 : decode c_La_law 493 = .ok (.iaload, 1) := by decide +kernel
theorem d_La_law_494 : decode c_La_law 494 = .ok (.aload_n 0, 1) := by decide +kernel
theorem d_La_law_495 : decode c_La_law 495 = .ok (.iload_n 3, 1) := by decide +kernel
theorem d_La_law_496 : decode c_La_law 496 = .ok (.iconst 2, 1) := by decide +kernel
theorem d_La_law_497 : decode c_La_law 497 = .ok (.iadd, 1) := by decide +kernel
theorem d_La_law_498 : decode c_La_law 498 = .ok (.iaload, 1) := by decide +kernel
theorem d_La_law_499 : decode c_La_law 499 = .ok (.invokevirtual 75, 3) := by decide +kernel
theorem d_La_law_502 : decode c_La_law 502 = .ok (.aload_n 2, 1) := by decide +kernel
theorem d_La_law_503 : decode c_La_law 503 = .ok (.aload_n 0, 1) := by decide +kernel
theorem d_La_law_504 : decode c_La_law 504 = .ok (.iload_n 3, 1) := by decide +kernel
theorem d_La_law_505 : decode c_La_law 505 = .ok (.iconst 1, 1) := by decide +kernel
theorem d_La_law_506 : decode c_La_law 506 = .ok (.iadd, 1) := by decide +kernel
theorem d_La_law_507 : decode c_La_law 507 = .ok (.iaload, 1) := by decide +kernel
theorem d_La_law_508 : decode c_La_law 508 = .ok (.aload_n 0, 1) := by decide +kernel
theorem d_La_law_509 : decode c_La_law 509 = .ok (.iload_n 3, 1) := by decide +kernel
theorem d_La_law_510 : decode c_La_law 510 = .ok (.iconst 2, 1) := by decide +kernel
theorem d_La_law_511 : decode c_La_law 511 = .ok (.iadd, 1) := by decide +kernel
theorem d_La_law_512 : decode c_La_law 512 = .ok (.iaload, 1) := by decide +kernel
theorem d_La_law_513 : decode c_La_law 513 = .ok (.invokevirtual 78, 3) := by decide +kernel
theorem d_La_law_516 : decode c_La_law 516 = .ok (.if_icmp .eq 330, 3) := by decide +kernel
theorem d_La_law_519 : decode c_La_law 519 = .ok (.iconst 0, 1) := by decide +kernel
theorem d_La_law_520 : decode c_La_law 520 = .ok (.ireturn, 1) := by decide +kernel
theorem d_La_law_521 : decode c_La_law 521 = .ok (.aload_n 1, 1) := by decide +kernel
theorem d_La_law_522 : decode c_La_law 522 = .ok (.aload_n 0, 1) := by decide +kernel
theorem d_La_law_523 : decode c_La_law 523 = .ok (.iload_n 3, 1) := by decide +kernel
theorem d_La_law_524 : decode c_La_law 524 = .ok (.iconst 1, 1) := by decide +kernel
theorem d_La_law_525 : decode c_La_law 525 = .ok (.iadd, 1) := by decide +kernel
theorem d_La_law_526 : decode c_La_law 526 = .ok (.iaload, 1) := by decide +kernel
theorem d_La_law_527 : decode c_La_law 527 = .ok (.invokevirtual 79, 3) := by decide +kernel
theorem d_La_law_530 : decode c_La_law 530 = .ok (.aload_n 2, 1) := by decide +kernel
theorem d_La_law_531 : decode c_La_law 531 = .ok (.aload_n 0, 1) := by decide +kernel
theorem d_La_law_532 : decode c_La_law 532 = .ok (.iload_n 3, 1) := by decide +kernel
theorem d_La_law_533 : decode c_La_law 533 = .ok (.iconst 1, 1) := by decide +kernel
theorem d_La_law_534 : decode c_La_law 534 = .ok (.iadd, 1) := by decide +kernel
theorem d_La_law_535 : decode c_La_law 535 = .ok (.iaload, 1) := by decide +kernel
theorem d_La_law_536 : decode c_La_law 536 = .ok (.invokevirtual 82, 3) := by decide +kernel
theorem d_La_law_539 : decode c_La_law 539 = .ok (.if_icmp .eq 307, 3) := by decide +kernel
theorem d_La_law_542 : decode c_La_law 542 = .ok (.iconst 0, 1) := by decide +kernel
theorem d_La_law_543 : decode c_La_law 543 = .ok (.ireturn, 1) := by decide +kernel
theorem d_La_law_544 : decode c_La_law 544 = .ok (.aload_n 1, 1) := by decide +kernel
theorem d_La_law_545 : decode c_La_law 545 = .ok (.aload_n 0, 1) := by decide +kernel
theorem d_La_law_546 : decode c_La_law 546 = .ok (.iload_n 3, 1) := by decide +kernel
theorem d_La_law_547 : decode c_La_law 547 = .ok (.iconst 1, 1) := by decide +kernel
theorem d_La_law_548 : decode c_La_law 548 = .ok (.iadd, 1) := by decide +kernel
theorem d_La_law_549 : decode c_La_law 549 = .ok (.iaload, 1) := by decide +kernel
theorem d_La_law_550 : decode c_La_law 550 = .ok (.aload_n 0, 1) := by decide +kernel
theorem d_La_law_551 : decode c_La_law 551 = .ok (.iload_n 3, 1) := by decide +kernel
theorem d_La_law_552 : decode c_La_law 552 = .ok (.iconst 2, 1) := by decide +kernel
theorem d_La_law_553 : decode c_La_law 553 = .ok (.iadd, 1) := by decide +kernel
theorem d_La_law_554 : decode c_La_law 554 = .ok (.iaload, 1) := by decide +kernel
theorem d_La_law_555 : decode c_La_law 555 = .ok (.invokevirtual 83, 3) := by decide +kernel
theorem d_La_law_558 : decode c_La_law 558 = .ok (.aload_n 2, 1) := by decide +kernel
theorem d_La_law_559 : decode c_La_law 559 = .ok (.aload_n 0, 1) := by decide +kernel
theorem d_La_law_560 : decode c_La_law 560 = .ok (.iload_n 3, 1) := by decide +kernel
theorem d_La_law_561 : decode c_La_law 561 = .ok (.iconst 1, 1) := by decide +kernel
theorem d_La_law_562 : decode c_La_law 562 = .ok (.iadd, 1) := by decide +kernel
theorem d_La_law_563 : decode c_La_law 563 = .ok (.iaload, 1) := by decide +kernel
theorem d_La_law_564 : decode c_La_law 564 = .ok (.aload_n 0, 1) := by decide +kernel
theorem d_La_law_565 : decode c_La_law 565 = .ok (.iload_n 3, 1) := by decide +kernel
theorem d_La_law_566 : decode c_La_law 566 = .ok (.iconst 2, 1) := by decide +kernel
theorem d_La_law_567 : decode c_La_law 567 = .ok (.iadd, 1) := by decide +kernel
theorem d_La_law_568 : decode c_La_law 568 = .ok (.iaload, 1) := by decide +kernel
theorem d_La_law_569 : decode c_La_law 569 = .ok (.invokevirtual 86, 3) := by decide +kernel
theorem d_La_law_572 : decode c_La_law 572 = .ok (.if_icmp .eq 274, 3) := by decide +kernel
theorem d_La_law_575 : decode c_La_law 575 = .ok (.iconst 0, 1) := by decide +kernel
theorem d_La_law_576 : decode c_La_law 576 = .ok (.ireturn, 1) := by decide +kernel
theorem d_La_law_577 : decode c_La_law 577 = .ok (.aload_n 1, 1) := by decide +kernel
theorem d_La_law_578 : decode c_La_law 578 = .ok (.aload_n 0, 1) := by decide +kernel
theorem d_La_law_579 : decode c_La_law 579 = .ok (.iload_n 3, 1) := by decide +kernel
theorem d_La_law_580 : decode c_La_law 580 = .ok (.iconst 1, 1) := by decide +kernel
theorem d_La_law_581 : decode c_La_law 581 = .ok (.iadd, 1) := by decide +kernel
theorem d_La_law_582 : decode c_La_law 582 = .ok (.iaload, 1) := by decide +kernel
theorem d_La_law_583 : decode c_La_law 583 = .ok (.aload_n 0, 1) := by decide +kernel
theorem d_La_law_584 : decode c_La_law 584 = .ok (.iload_n 3, 1) := by decide +kernel
theorem d_La_law_585 : decode c_La_law 585 = .ok (.iconst 2, 1) := by decide +kernel
theorem d_La_law_586 : decode c_La_law 586 = .ok (.iadd, 1) := by decide +kernel
theorem d_La_law_587 : decode c_La_law 587 = .ok (.iaload, 1) := by decide +kernel
theorem d_La_law_588 : decode c_La_law 588 = .ok (.aload_n 0, 1) := by decide +kernel
theorem d_La_law_589 : decode c_La_law 589 = .ok (.iload_n 3, 1) := by decide +kernel
theorem d_La_law_590 : decode c_La_law 590 = .ok (.iconst 3, 1) := by decide +kernel
theorem d_La_law_591 : decode c_La_law 591 = .ok (.iadd, 1) := by decide +kernel
theorem d_La_law_592 : decode c_La_law 592 = .ok (.iaload, 1) := by decide +kernel
theorem d_La_law_593 : decode c_La_law 593 = .ok (.invokevirtual 87, 3) := by decide +kernel
theorem d_La_law_596 : decode c_La_law 596 = .ok (.aload_n 2, 1) := by decide +kernel
theorem d_La_law_597 : decode c_La_law 597 = .ok (.aload_n 0, 1) := by decide +kernel
theorem d_La_law_598 : decode c_La_law 598 = .ok (.iload_n 3, 1) := by decide +kernel
theorem d_La_law_599 : decode c_La_law 599 = .ok (.iconst 1, 1) := by decide +kernel
theorem d_La_law_600 : decode c_La_law 600 = .ok (.iadd, 1) := by decide +kernel
theorem d_La_law_601 : decode c_La_law 601 = .ok (.iaload, 1) := by decide +kernel
theorem d_La_law_602 : decode c_La_law 602 = .ok (.aload_n 0, 1) := by decide +kernel
theorem d_La_law_603 : decode c_La_law 603 = .ok (.iload_n 3, 1) := by decide +kernel
theorem d_La_law_604 : decode c_La_law 604 = .ok (.iconst 2, 1) := by decide +kernel
theorem d_La_law_605 : decode c_La_law 605 = .ok (.iadd, 1) := by decide +kernel
theorem d_La_law_606 : decode c_La_law 606 = .ok (.iaload, 1) := by decide +kernel
theorem d_La_law_607 : decode c_La_law 607 = .ok (.aload_n 0, 1) := by decide +kernel
theorem d_La_law_608 : decode c_La_law 608 = .ok (.iload_n 3, 1) := by decide +kernel
theorem d_La_law_609 : decode c_La_law 609 = .ok (.iconst 3, 1) := by decide +kernel
theorem d_La_law_610 : decode c_La_law 610 = .ok (.iadd, 1) := by decide +kernel
theorem d_La_law_611 : decode c_La_law 611 = .ok (.iaload, 1) := by decide +kernel
theorem d_La_law_612 : decode c_La_law 612 = .ok (.invokevirtual 90, 3) := by decide +kernel
theorem d_La_law_615 : decode c_La_law 615 = .ok (.if_icmp .eq 231, 3) := by decide +kernel
theorem d_La_law_618 : decode c_La_law 618 = .ok (.iconst 0, 1) := by decide +kernel
theorem d_La_law_619 : decode c_La_law 619 = .ok (.ireturn, 1) := by decide +kernel
theorem d_La_law_620 : decode c_La_law 620 = .ok (.aload_n 1, 1) := by decide +kernel
theorem d_La_law_621 : decode c_La_law 621 = .ok (.aload_n 0, 1) := by decide +kernel
theorem d_La_law_622 : decode c_La_law 622 = .ok (.iload_n 3, 1) := by decide +kernel
theorem d_La_law_623 : decode c_La_law 623 = .ok (.iconst 1, 1) := by decide +kernel
theorem d_La_law_624 : decode c_La_law 624 = .ok (.iadd, 1) := by decide +kernel
theorem d_La_law_625 : decode c_La_law 625 = .ok (.iaload, 1) := by decide +kernel
theorem d_La_law_626 : decode c_La_law 626 = .ok (.invokevirtual 91, 3) := by decide +kernel
theorem d_La_law_629 : decode c_La_law 629 = .ok (.aload_n 2, 1) := by decide +kernel
theorem d_La_law_630 : decode c_La_law 630 = .ok (.aload_n 0, 1) := by decide +kernel
theorem d_La_law_631 : decode c_La_law 631 = .ok (.iload_n 3, 1) := by decide +kernel
theorem d_La_law_632 : decode c_La_law 632 = .ok (.iconst 1, 1) := by decide +kernel
theorem d_La_law_633 : decode c_La_law 633 = .ok (.iadd, 1) := by decide +kernel
theorem d_La_law_634 : decode c_La_law 634 = .ok (.iaload, 1) := by decide +kernel
theorem d_La_law_635 : decode c_La_law 635 = .ok (.invokevirtual 94, 3) := by decide +kernel
theorem d_La_law_638 : decode c_La_law 638 = .ok (.if_icmp .eq 208, 3) := by decide +kernel
theorem d_La_law_641 : decode c_La_law 641 = .ok (.iconst 0, 1) := by decide +kernel
theorem d_La_law_642 : decode c_La_law 642 = .ok (.ireturn, 1) := by decide +kernel
theorem d_La_law_643 : decode c_La_law 643 = .ok (.aload_n 1, 1) := by decide +kernel
theorem d_La_law_644 : decode c_La_law 644 = .ok (.aload_n 0, 1) := by decide +kernel
theorem d_La_law_645 : decode c_La_law 645 = .ok (.iload_n 3, 1) := by decide +kernel
theorem d_La_law_646 : decode c_La_law 646 = .ok (.iconst 1, 1) := by decide +kernel
theorem d_La_law_647 : decode c_La_law 647 = .ok (.iadd, 1) := by decide +kernel
theorem d_La_law_648 : decode c_La_law 648 = .ok (.iaload, 1) := by decide +kernel
theorem d_La_law_649 : decode c_La_law 649 = .ok (.invokevirtual 95, 3) := by decide +kernel
theorem d_La_law_652 : decode c_La_law 652 = .ok (.dstore 4, 2) := by decide +kernel
theorem d_La_law_654 : decode c_La_law 654 = .ok (.aload_n 2, 1) := by decide +kernel
theorem d_La_law_655 : decode c_La_law 655 = .ok (.aload_n 0, 1) := by decide +kernel
theorem d_La_law_656 : decode c_La_law 656 = .ok (.iload_n 3, 1) := by decide +kernel
theorem d_La_law_657 : decode c_La_law 657 = .ok (.iconst 1, 1) := by decide +kernel
theorem d_La_law_658 : decode c_La_law 658 = .ok (.iadd, 1) := by decide +kernel
theorem d_La_law_659 : decode c_La_law 659 = .ok (.iaload, 1) := by decide +kernel
theorem d_La_law_660 : decode c_La_law 660 = .ok (.invokevirtual 99, 3) := by decide +kernel
theorem d_La_law_663 : decode c_La_law 663 = .ok (.dstore 6, 2) := by decide +kernel
theorem d_La_law_665 : decode c_La_law 665 = .ok (.dload 4, 2) := by decide +kernel
theorem d_La_law_667 : decode c_La_law 667 = .ok (.dload 6, 2) := by decide +kernel
theorem d_La_law_669 : decode c_La_law 669 = .ok (.dcmp .l, 1) := by decide +kernel
theorem d_La_law_670 : decode c_La_law 670 = .ok (.ifCond .eq 21, 3) := by decide +kernel
theorem d_La_law_673 : decode c_La_law 673 = .ok (.dload 4, 2) := by decide +kernel
theorem d_La_law_675 : decode c_La_law 675 = .ok (.dload 4, 2) := by decide +kernel
theorem d_La_law_677 : decode c_La_law 677 = .ok (.dcmp .l, 1) := by decide +kernel
theorem d_La_law_678 : decode c_La_law 678 = .ok (.ifCond .eq 11, 3) := by decide +kernel
theorem d_La_law_681 : decode c_La_law 681 = .ok (.dload 6, 2) := by decide +kernel
theorem d_La_law_683 : decode c_La_law 683 = .ok (.dload 6, 2) := by decide +kernel
theorem d_La_law_685 : decode c_La_law 685 = .ok (.dcmp .l, 1) := by decide +kernel
theorem d_La_law_686 : decode c_La_law 686 = .ok (.ifCond .ne 5, 3) := by decide +kernel
theorem d_La_law_689 : decode c_La_law 689 = .ok (.iconst 0, 1) := by decide +kernel
theorem d_La_law_690 : decode c_La_law 690 = .ok (.ireturn, 1) := by decide +kernel
theorem d_La_law_691 : decode c_La_law 691 = .ok (.goto 155, 3) := by decide +kernel
theorem d_La_law_694 : decode c_La_law 694 = .ok (.aload_n 1, 1) := by decide +kernel
theorem d_La_law_695 : decode c_La_law 695 = .ok (.aload_n 0, 1) := by decide +kernel
theorem d_La_law_696 : decode c_La_law 696 = .ok (.iload_n 3, 1) := by decide +kernel
theorem d_La_law_697 : decode c_La_law 697 = .ok (.iconst 1, 1) := by decide +kernel
theorem d_La_law_698 : decode c_La_law 698 = .ok (.iadd, 1) := by decide +kernel
theorem d_La_law_699 : decode c_La_law 699 = .ok (.iaload, 1) := by decide +kernel
theorem d_La_law_700 : decode c_La_law 700 = .ok (.aload_n 0, 1) := by decide +kernel
theorem d_La_law_701 : decode c_La_law 701 = .ok (.iload_n 3, 1) := by decide +kernel
theorem d_La_law_702 : decode c_La_law 702 = .ok (.iconst 2, 1) := by decide +kernel
theorem d_La_law_703 : decode c_La_law 703 = .ok (.iadd, 1) := by decide +kernel
theorem d_La_law_704 : decode c_La_law 704 = .ok (.iaload, 1) := by decide +kernel
theorem d_La_law_705 : decode c_La_law 705 = .ok (.aload_n 0, 1) := by decide +kernel
theorem d_La_law_706 : decode c_La_law 706 = .ok (.iload_n 3, 1) := by decide +kernel
theorem d_La_law_707 : decode c_La_law 707 = .ok (.iconst 3, 1) := by decide +kernel
theorem d_La_law_708 : decode c_La_law 708 = .ok (.iadd, 1) := by decide +kernel
theorem d_La_law_709 : decode c_La_law 709 = .ok (.iaload, 1) := by decide +kernel
theorem d_La_law_710 : decode c_La_law 710 = .ok (.aload_n 0, 1) := by decide +kernel
theorem d_La_law_711 : decode c_La_law 711 = .ok (.iload_n 3, 1) := by decide +kernel
theorem d_La_law_712 : decode c_La_law 712 = .ok (.iconst 4, 1) := by decide +kernel
theorem d_La_law_713 : decode c_La_law 713 = .ok (.iadd, 1) := by decide +kernel
theorem d_La_law_714 : decode c_La_law 714 = .ok (.iaload, 1) := by decide +kernel
theorem d_La_law_715 : decode c_La_law 715 = .ok (.invokevirtual 100, 3) := by decide +kernel
theorem d_La_law_718 : decode c_La_law 718 = .ok (.aload_n 2, 1) := by decide +kernel
theorem d_La_law_719 : decode c_La_law 719 = .ok (.aload_n 0, 1) := by decide +kernel
theorem d_La_law_720 : decode c_La_law 720 = .ok (.iload_n 3, 1) := by decide +kernel
theorem d_La_law_721 : decode c_La_law 721 = .ok (.iconst 1, 1) := by decide +kernel
theorem d_La_law_722 : decode c_La_law 722 = .ok (.iadd, 1) := by decide +kernel
theorem d_La_law_723 : decode c_La_law 723 = .ok (.iaload, 1) := by decide +kernel
theorem d_La_law_724 : decode c_La_law 724 = .ok (.aload_n 0, 1) := by decide +kernel
theorem d_La_law_725 : decode c_La_law 725 = .ok (.iload_n 3, 1) := by decide +kernel
theorem d_La_law_726 : decode c_La_law 726 = .ok (.iconst 2, 1) := by decide +kernel
theorem d_La_law_727 : decode c_La_law 727 = .ok (.iadd, 1) := by decide +kernel
theorem d_La_law_728 : decode c_La_law 728 = .ok (.iaload, 1) := by decide +kernel
theorem d_La_law_729 : decode c_La_law 729 = .ok (.aload_n 0, 1) := by decide +kernel
theorem d_La_law_730 : decode c_La_law 730 = .ok (.iload_n 3, 1) := by decide +kernel
theorem d_La_law_731 : decode c_La_law 731 = .ok (.iconst 3, 1) := by decide +kernel
theorem d_La_law_732 : decode c_La_law 732 = .ok (.iadd, 1) := by decide +kernel
theorem d_La_law_733 : decode c_La_law 733 = .ok (.iaload, 1) := by decide +kernel
theorem d_La_law_734 : decode c_La_law 734 = .ok (.aload_n 0, 1) := by decide +kernel
theorem d_La_law_735 : decode c_La_law 735 = .ok (.iload_n 3, 1) := by decide +kernel
theorem d_La_law_736 : decode c_La_law 736 = .ok (.iconst 4, 1) := by decide +kernel
theorem d_La_law_737 : decode c_La_law 737 = .ok (.iadd, 1) := by decide +kernel
theorem d_La_law_738 : decode c_La_law 738 = .ok (.iaload, 1) := by decide +kernel
theorem d_La_law_739 : decode c_La_law 739 = .ok (.invokevirtual 103, 3) := by decide +kernel
theorem d_La_law_742 : decode c_La_law 742 = .ok (.if_icmp .eq 104, 3) := by decide +kernel
theorem d_La_law_745 : decode c_La_law 745 = .ok (.iconst 0, 1) := by decide +kernel
theorem d_La_law_746 : decode c_La_law 746 = .ok (.ireturn, 1) := by decide +kernel
theorem d_La_law_747 : decode c_La_law 747 = .ok (.aload_n 1, 1) := by decide +kernel
theorem d_La_law_748 : decode c_La_law 748 = .ok (.aload_n 0, 1) := by decide +kernel
theorem d_La_law_749 : decode c_La_law 749 = .ok (.iload_n 3, 1) := by decide +kernel
theorem d_La_law_750 : decode c_La_law 750 = .ok (.iconst 1, 1) := by decide +kernel
theorem d_La_law_751 : decode c_La_law 751 = .ok (.iadd, 1) := by decide +kernel
theorem d_La_law_752 : decode c_La_law 752 = .ok (.iaload, 1) := by decide +kernel
theorem d_La_law_753 : decode c_La_law 753 = .ok (.aload_n 0, 1) := by decide +kernel
theorem d_La_law_754 : decode c_La_law 754 = .ok (.iload_n 3, 1) := by decide +kernel
theorem d_La_law_755 : decode c_La_law 755 = .ok (.iconst 2, 1) := by decide +kernel
theorem d_La_law_756 : decode c_La_law 756 = .ok (.iadd, 1) := by decide +kernel
theorem d_La_law_757 : decode c_La_law 757 = .ok (.iaload, 1) := by decide +kernel
theorem d_La_law_758 : decode c_La_law 758 = .ok (.aload_n 0, 1) := by decide +kernel
theorem d_La_law_759 : decode c_La_law 759 = .ok (.iload_n 3, 1) := by decide +kernel
theorem d_La_law_760 : decode c_La_law 760 = .ok (.iconst 3, 1) := by decide +kernel
theorem d_La_law_761 : decode c_La_law 761 = .ok (.iadd, 1) := by decide +kernel
theorem d_La_law_762 : decode c_La_law 762 = .ok (.iaload, 1) := by decide +kernel
theorem d_La_law_763 : decode c_La_law 763 = .ok (.invokevirtual 104, 3) := by decide +kernel
theorem d_La_law_766 : decode c_La_law 766 = .ok (.aload_n 2, 1) := by decide +kernel
theorem d_La_law_767 : decode c_La_law 767 = .ok (.aload_n 0, 1) := by decide +kernel
theorem d_La_law_768 : decode c_La_law 768 = .ok (.iload_n 3, 1) := by decide +kernel
theorem d_La_law_769 : decode c_La_law 769 = .ok (.iconst 1, 1) := by decide +kernel
theorem d_La_law_770 : decode c_La_law 770 = .ok (.iadd, 1) := by decide +kernel
theorem d_La_law_771 : decode c_La_law 771 = .ok (.iaload, 1) := by decide +kernel
theorem d_La_law_772 : decode c_La_law 772 = .ok (.aload_n 0, 1) := by decide +kernel
theorem d_La_law_773 : decode c_La_law 773 = .ok (.iload_n 3, 1) := by decide +kernel
theorem d_La_law_774 : decode c_La_law 774 = .ok (.iconst 2, 1) := by decide +kernel
theorem d_La_law_775 : decode c_La_law 775 = .ok (.iadd, 1) := by decide +kernel
theorem d_La_law_776 : decode c_La_law 776 = .ok (.iaload, 1) := by decide +kernel
theorem d_La_law_777 : decode c_La_law 777 = .ok (.aload_n 0, 1) := by decide +kernel
theorem d_La_law_778 : decode c_La_law 778 = .ok (.iload_n 3, 1) := by decide +kernel
theorem d_La_law_779 : decode c_La_law 779 = .ok (.iconst 3, 1) := by decide +kernel
theorem d_La_law_780 : decode c_La_law 780 = .ok (.iadd, 1) := by decide +kernel
theorem d_La_law_781 : decode c_La_law 781 = .ok (.iaload, 1) := by decide +kernel
theorem d_La_law_782 : decode c_La_law 782 = .ok (.invokevirtual 107, 3) := by decide +kernel
theorem d_La_law_785 : decode c_La_law 785 = .ok (.if_icmp .eq 61, 3) := by decide +kernel
theorem d_La_law_788 : decode c_La_law 788 = .ok (.iconst 0, 1) := by decide +kernel
theorem d_La_law_789 : decode c_La_law 789 = .ok (.ireturn, 1) := by decide +kernel
theorem d_La_law_790 : decode c_La_law 790 = .ok (.aload_n 1, 1) := by decide +kernel
theorem d_La_law_791 : decode c_La_law 791 = .ok (.aload_n 0, 1) := by decide +kernel
theorem d_La_law_792 : decode c_La_law 792 = .ok (.iload_n 3, 1) := by decide +kernel
theorem d_La_law_793 : decode c_La_law 793 = .ok (.iconst 1, 1) := by decide +kernel
theorem d_La_law_794 : decode c_La_law 794 = .ok (.iadd, 1) := by decide +kernel
theorem d_La_law_795 : decode c_La_law 795 = .ok (.iaload, 1) := by decide +kernel
theorem d_La_law_796 : decode c_La_law 796 = .ok (.invokevirtual 108, 3) := by decide +kernel
theorem d_La_law_799 : decode c_La_law 799 = .ok (.aload_n 2, 1) := by decide +kernel
theorem d_La_law_800 : decode c_La_law 800 = .ok (.aload_n 0, 1) := by decide +kernel
theorem d_La_law_801 : decode c_La_law 801 = .ok (.iload_n 3, 1) := by decide +kernel
theorem d_La_law_802 : decode c_La_law 802 = .ok (.iconst 1, 1) := by decide +kernel
theorem d_La_law_803 : decode c_La_law 803 = .ok (.iadd, 1) := by decide +kernel
theorem d_La_law_804 : decode c_La_law 804 = .ok (.iaload, 1) := by decide +kernel
theorem d_La_law_805 : decode c_La_law 805 = .ok (.invokevirtual 111, 3) := by decide +kernel
theorem d_La_law_808 : decode c_La_law 808 = .ok (.if_icmp .eq 38, 3) := by decide +kernel
theorem d_La_law_811 : decode c_La_law 811 = .ok (.iconst 0, 1) := by decide +kernel
theorem d_La_law_812 : decode c_La_law 812 = .ok (.ireturn, 1) := by decide +kernel
theorem d_La_law_813 : decode c_La_law 813 = .ok (.aload_n 1, 1) := by decide +kernel
theorem d_La_law_814 : decode c_La_law 814 = .ok (.aload_n 0, 1) := by decide +kernel
theorem d_La_law_815 : decode c_La_law 815 = .ok (.iload_n 3, 1) := by decide +kernel
theorem d_La_law_816 : decode c_La_law 816 = .ok (.iconst 1, 1) := by decide +kernel
theorem d_La_law_817 : decode c_La_law 817 = .ok (.iadd, 1) := by decide +kernel
theorem d_La_law_818 : decode c_La_law 818 = .ok (.iaload, 1) := by decide +kernel
theorem d_La_law_819 : decode c_La_law 819 = .ok (.aload_n 0, 1) := by decide +kernel
theorem d_La_law_820 : decode c_La_law 820 = .ok (.iload_n 3, 1) := by decide +kernel
theorem d_La_law_821 : decode c_La_law 821 = .ok (.iconst 2, 1) := by decide +kernel
theorem d_La_law_822 : decode c_La_law 822 = .ok (.iadd, 1) := by decide +kernel
theorem d_La_law_823 : decode c_La_law 823 = .ok (.iaload, 1) := by decide +kernel
theorem d_La_law_824 : decode c_La_law 824 = .ok (.invokevirtual 112, 3) := by decide +kernel
theorem d_La_law_827 : decode c_La_law 827 = .ok (.aload_n 2, 1) := by decide +kernel
theorem d_La_law_828 : decode c_La_law 828 = .ok (.aload_n 0, 1) := by decide +kernel
theorem d_La_law_829 : decode c_La_law 829 = .ok (.iload_n 3, 1) := by decide +kernel
theorem d_La_law_830 : decode c_La_law 830 = .ok (.iconst 1, 1) := by decide +kernel
theorem d_La_law_831 : decode c_La_law 831 = .ok (.iadd, 1) := by decide +kernel
theorem d_La_law_832 : decode c_La_law 832 = .ok (.iaload, 1) := by decide +kernel
theorem d_La_law_833 : decode c_La_law 833 = .ok (.aload_n 0, 1) := by decide +kernel
theorem d_La_law_834 : decode c_La_law 834 = .ok (.iload_n 3, 1) := by decide +kernel
theorem d_La_law_835 : decode c_La_law 835 = .ok (.iconst 2, 1) := by decide +kernel
theorem d_La_law_836 : decode c_La_law 836 = .ok (.iadd, 1) := by decide +kernel
theorem d_La_law_837 : decode c_La_law 837 = .ok (.iaload, 1) := by decide +kernel
theorem d_La_law_838 : decode c_La_law 838 = .ok (.invokevirtual 115, 3) := by decide +kernel
theorem d_La_law_841 : decode c_La_law 841 = .ok (.if_icmp .eq 5, 3) := by decide +kernel
theorem d_La_law_844 : decode c_La_law 844 = .ok (.iconst 0, 1) := by decide +kernel
theorem d_La_law_845 : decode c_La_law 845 = .ok (.ireturn, 1) := by decide +kernel
theorem d_La_law_846 : decode c_La_law 846 = .ok (.iinc 3 5, 3) := by decide +kernel
theorem d_La_law_849 : decode c_La_law 849 = .ok (.goto (-831), 3) := by decide +kernel
theorem d_La_law_852 : decode c_La_law 852 = .ok (.iconst 1, 1) := by decide +kernel
theorem d_La_law_853 : decode c_La_law 853 = .ok (.ireturn, 1) := by decide +kernel
