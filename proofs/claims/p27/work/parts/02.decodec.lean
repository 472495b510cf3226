theorem d_Cc_offcut_73 : decode c_Cc_offcut 73 = .ok (.ireturn, 1) := by decide +kernel
theorem d_Cc_offcut_74 : decode c_Cc_offcut 74 = .ok (.aload_n 0, 1) := by decide +kernel
theorem d_Cc_offcut_75 : decode c_Cc_offcut 75 = .ok (.getfield 10, 3) := by decide +kernel
theorem d_Cc_offcut_78 : decode c_Cc_offcut 78 = .ok (.getfield 107, 3) := by decide +kernel
theorem d_Cc_offcut_81 : decode c_Cc_offcut 81 = .ok (.getfield 191, 3) := by decide +kernel
theorem d_Cc_offcut_84 : decode c_Cc_offcut 84 = .ok (.iload_n 3, 1) := by decide +kernel
theorem d_Cc_offcut_85 : decode c_Cc_offcut 85 = .ok (.invokevirtual 134, 3) := by decide +kernel
theorem d_Cc_offcut_88 : decode c_Cc_offcut 88 = .ok (.ireturn, 1) := by decide +kernel
theorem d_Cc_offcut_89 : decode c_Cc_offcut 89 = .ok (.bipush (-2), 2) := by decide +kernel
theorem d_Cc_offcut_91 : decode c_Cc_offcut 91 = .ok (.ireturn, 1) := by decide +kernel
theorem d_Cc_room_0 : decode c_Cc_room 0 = .ok (.aload_n 0, 1) := by decide +kernel
theorem d_Cc_room_1 : decode c_Cc_room 1 = .ok (.getfield 10, 3) := by decide +kernel
theorem d_Cc_room_4 : decode c_Cc_room 4 = .ok (.getfield 79, 3) := by decide +kernel
theorem d_Cc_room_7 : decode c_Cc_room 7 = .ok (.iload_n 1, 1) := by decide +kernel
theorem d_Cc_room_8 : decode c_Cc_room 8 = .ok (.invokevirtual 86, 3) := by decide +kernel
theorem d_Cc_room_11 : decode c_Cc_room 11 = .ok (.ifCond .ne 5, 3) := by decide +kernel
theorem d_Cc_room_14 : decode c_Cc_room 14 = .ok (.iconst (-1), 1) := by decide +kernel
theorem d_Cc_room_15 : decode c_Cc_room 15 = .ok (.ireturn, 1) := by decide +kernel
theorem d_Cc_room_16 : decode c_Cc_room 16 = .ok (.iload_n 2, 1) := by decide +kernel
theorem d_Cc_room_17 : decode c_Cc_room 17 = .ok (.ifCond .lt 9, 3) := by decide +kernel
theorem d_Cc_room_20 : decode c_Cc_room 20 = .ok (.iload_n 2, 1) := by decide +kernel
theorem d_Cc_room_21 : decode c_Cc_room 21 = .ok (.bipush 8, 2) := by decide +kernel
theorem d_Cc_room_23 : decode c_Cc_room 23 = .ok (.if_icmp .le 6, 3) := by decide +kernel
theorem d_Cc_room_26 : decode c_Cc_room 26 = .ok (.bipush (-2), 2) := by decide +kernel
theorem d_Cc_room_28 : decode c_Cc_room 28 = .ok (.ireturn, 1) := by decide +kernel
theorem d_Cc_room_29 : decode c_Cc_room 29 = .ok (.aload_n 0, 1) := by decide +kernel
theorem d_Cc_room_30 : decode c_Cc_room 30 = .ok (.getfield 10, 3) := by decide +kernel
theorem d_Cc_room_33 : decode c_Cc_room 33 = .ok (.getfield 79, 3) := by decide +kernel
theorem d_Cc_room_36 : decode c_Cc_room 36 = .ok (.iload_n 1, 1) := by decide +kernel
theorem d_Cc_room_37 : decode c_Cc_room 37 = .ok (.invokevirtual 100, 3) := by decide +kernel
theorem d_Cc_room_40 : decode c_Cc_room 40 = .ok (.istore_n 3, 1) := by decide +kernel
theorem d_Cc_room_41 : decode c_Cc_room 41 = .ok (.iload_n 2, 1) := by decide +kernel
theorem d_Cc_room_42 : decode c_Cc_room 42 = .ok (.tableswitch 82 0 3 #[30, 45, 57, 72], 30) := by decide +kernel
theorem d_Cc_room_72 : decode c_Cc_room 72 = .ok (.aload_n 0, 1) := by decide +kernel
theorem d_Cc_room_73 : decode c_Cc_room 73 = .ok (.getfield 10, 3) := by decide +kernel
theorem d_Cc_room_76 : decode c_Cc_room 76 = .ok (.getfield 79, 3) := by decide +kernel
theorem d_Cc_room_79 : decode c_Cc_room 79 = .ok (.getfield 199, 3) := by decide +kernel
theorem d_Cc_room_82 : decode c_Cc_room 82 = .ok (.iload_n 1, 1) := by decide +kernel
theorem d_Cc_room_83 : decode c_Cc_room 83 = .ok (.invokevirtual 134, 3) := by decide +kernel
theorem d_Cc_room_86 : decode c_Cc_room 86 = .ok (.ireturn, 1) := by decide +kernel
theorem d_Cc_room_87 : decode c_Cc_room 87 = .ok (.aload_n 0, 1) := by decide +kernel
theorem d_Cc_room_88 : decode c_Cc_room 88 = .ok (.getfield 10, 3) := by decide +kernel
theorem d_Cc_room_91 : decode c_Cc_room 91 = .ok (.getfield 79, 3) := by decide +kernel
theorem d_Cc_room_94 : decode c_Cc_room 94 = .ok (.iload_n 1, 1) := by decide +kernel
theorem d_Cc_room_95 : decode c_Cc_room 95 = .ok (.invokevirtual 202, 3) := by decide +kernel
theorem d_Cc_room_98 : decode c_Cc_room 98 = .ok (.ireturn, 1) := by decide +kernel
theorem d_Cc_room_99 : decode c_Cc_room 99 = .ok (.aload_n 0, 1) := by decide +kernel
theorem d_Cc_room_100 : decode c_Cc_room 100 = .ok (.getfield 10, 3) := by decide +kernel
theorem d_Cc_room_103 : decode c_Cc_room 103 = .ok (.getfield 79, 3) := by decide +kernel
theorem d_Cc_room_106 : decode c_Cc_room 106 = .ok (.getfield 205, 3) := by decide +kernel
theorem d_Cc_room_109 : decode c_Cc_room 109 = .ok (.iload_n 1, 1) := by decide +kernel
theorem d_Cc_room_110 : decode c_Cc_room 110 = .ok (.invokevirtual 134, 3) := by decide +kernel
theorem d_Cc_room_113 : decode c_Cc_room 113 = .ok (.ireturn, 1) := by decide +kernel
theorem d_Cc_room_114 : decode c_Cc_room 114 = .ok (.iload_n 3, 1) := by decide +kernel
theorem d_Cc_room_115 : decode c_Cc_room 115 = .ok (.ifCond .eq 7, 3) := by decide +kernel
theorem d_Cc_room_118 : decode c_Cc_room 118 = .ok (.iconst 1, 1) := by decide +kernel
theorem d_Cc_room_119 : decode c_Cc_room 119 = .ok (.goto 4, 3) := by decide +kernel
theorem d_Cc_room_122 : decode c_Cc_room 122 = .ok (.iconst 0, 1) := by decide +kernel
theorem d_Cc_room_123 : decode c_Cc_room 123 = .ok (.ireturn, 1) := by decide +kernel
theorem d_Cc_room_124 : decode c_Cc_room 124 = .ok (.iload_n 3, 1) := by decide +kernel
theorem d_Cc_room_125 : decode c_Cc_room 125 = .ok (.ifCond .eq 12, 3) := by decide +kernel
theorem d_Cc_room_128 : decode c_Cc_room 128 = .ok (.aload_n 0, 1) := by decide +kernel
theorem d_Cc_room_129 : decode c_Cc_room 129 = .ok (.iload_n 1, 1) := by decide +kernel
theorem d_Cc_room_130 : decode c_Cc_room 130 = .ok (.iload_n 2, 1) := by decide +kernel
theorem d_Cc_room_131 : decode c_Cc_room 131 = .ok (.invokevirtual 208, 3) := by decide +kernel
theorem d_Cc_room_134 : decode c_Cc_room 134 = .ok (.goto 5, 3) := by decide +kernel
theorem d_Cc_room_137 : decode c_Cc_room 137 = .ok (.bipush (-5), 2) := by decide +kernel
theorem d_Cc_room_139 : decode c_Cc_room 139 = .ok (.ireturn, 1) := by decide +kernel
theorem d_Cc_covering_0 : decode c_Cc_covering 0 = .ok (.iload_n 2, 1) := by decide +kernel
theorem d_Cc_covering_1 : decode c_Cc_covering 1 = .ok (.tableswitch 85 4 7 #[31, 46, 61, 73], 31) := by decide +kernel
theorem d_Cc_covering_32 : decode c_Cc_covering 32 = .ok (.aload_n 0, 1) := by decide +kernel
theorem d_Cc_covering_33 : decode c_Cc_covering 33 = .ok (.getfield 10, 3) := by decide +kernel
theorem d_Cc_covering_36 : decode c_Cc_covering 36 = .ok (.getfield 79, 3) := by decide +kernel
theorem d_Cc_covering_39 : decode c_Cc_covering 39 = .ok (.getfield 211, 3) := by decide +kernel
theorem d_Cc_covering_42 : decode c_Cc_covering 42 = .ok (.iload_n 1, 1) := by decide +kernel
theorem d_Cc_covering_43 : decode c_Cc_covering 43 = .ok (.invokevirtual 134, 3) := by decide +kernel
theorem d_Cc_covering_46 : decode c_Cc_covering 46 = .ok (.ireturn, 1) := by decide +kernel
theorem d_Cc_covering_47 : decode c_Cc_covering 47 = .ok (.aload_n 0, 1) := by decide +kernel
theorem d_Cc_covering_48 : decode c_Cc_covering 48 = .ok (.getfield 10, 3) := by decide +kernel
theorem d_Cc_covering_51 : decode c_Cc_covering 51 = .ok (.getfield 79, 3) := by decide +kernel
theorem d_Cc_covering_54 : decode c_Cc_covering 54 = .ok (.getfield 212, 3) := by decide +kernel
theorem d_Cc_covering_57 : decode c_Cc_covering 57 = .ok (.iload_n 1, 1) := by decide +kernel
theorem d_Cc_covering_58 : decode c_Cc_covering 58 = .ok (.invokevirtual 134, 3) := by decide +kernel
theorem d_Cc_covering_61 : decode c_Cc_covering 61 = .ok (.ireturn, 1) := by decide +kernel
theorem d_Cc_covering_62 : decode c_Cc_covering 62 = .ok (.aload_n 0, 1) := by decide +kernel
theorem d_Cc_covering_63 : decode c_Cc_covering 63 = .ok (.getfield 10, 3) := by decide +kernel
theorem d_Cc_covering_66 : decode c_Cc_covering 66 = .ok (.getfield 79, 3) := by decide +kernel
theorem d_Cc_covering_69 : decode c_Cc_covering 69 = .ok (.iload_n 1, 1) := by decide +kernel
theorem d_Cc_covering_70 : decode c_Cc_covering 70 = .ok (.invokevirtual 215, 3) := by decide +kernel
theorem d_Cc_covering_73 : decode c_Cc_covering 73 = .ok (.ireturn, 1) := by decide +kernel
theorem d_Cc_covering_74 : decode c_Cc_covering 74 = .ok (.aload_n 0, 1) := by decide +kernel
theorem d_Cc_covering_75 : decode c_Cc_covering 75 = .ok (.getfield 10, 3) := by decide +kernel
theorem d_Cc_covering_78 : decode c_Cc_covering 78 = .ok (.getfield 79, 3) := by decide +kernel
theorem d_Cc_covering_81 : decode c_Cc_covering 81 = .ok (.iload_n 1, 1) := by decide +kernel
theorem d_Cc_covering_82 : decode c_Cc_covering 82 = .ok (.invokevirtual 218, 3) := by decide +kernel
theorem d_Cc_covering_85 : decode c_Cc_covering 85 = .ok (.ireturn, 1) := by decide +kernel
theorem d_Cc_covering_86 : decode c_Cc_covering 86 = .ok (.aload_n 0, 1) := by decide +kernel
theorem d_Cc_covering_87 : decode c_Cc_covering 87 = .ok (.getfield 10, 3) := by decide +kernel
theorem d_Cc_covering_90 : decode c_Cc_covering 90 = .ok (.getfield 79, 3) := by decide +kernel
theorem d_Cc_covering_93 : decode c_Cc_covering 93 = .ok (.getfield 221, 3) := by decide +kernel
theorem d_Cc_covering_96 : decode c_Cc_covering 96 = .ok (.iload_n 1, 1) := by decide +kernel
theorem d_Cc_covering_97 : decode c_Cc_covering 97 = .ok (.invokevirtual 134, 3) := by decide +kernel
theorem d_Cc_covering_100 : decode c_Cc_covering 100 = .ok (.ireturn, 1) := by decide +kernel
theorem d_Cc_strip_0 : decode c_Cc_strip 0 = .ok (.aload_n 0, 1) := by decide +kernel
theorem d_Cc_strip_1 : decode c_Cc_strip 1 = .ok (.getfield 10, 3) := by decide +kernel
theorem d_Cc_strip_4 : decode c_Cc_strip 4 = .ok (.getfield 79, 3) := by decide +kernel
theorem d_Cc_strip_7 : decode c_Cc_strip 7 = .ok (.iload_n 1, 1) := by decide +kernel
theorem d_Cc_strip_8 : decode c_Cc_strip 8 = .ok (.invokevirtual 86, 3) := by decide +kernel
theorem d_Cc_strip_11 : decode c_Cc_strip 11 = .ok (.ifCond .ne 5, 3) := by decide +kernel
theorem d_Cc_strip_14 : decode c_Cc_strip 14 = .ok (.iconst (-1), 1) := by decide +kernel
theorem d_Cc_strip_15 : decode c_Cc_strip 15 = .ok (.ireturn, 1) := by decide +kernel
theorem d_Cc_strip_16 : decode c_Cc_strip 16 = .ok (.iload_n 2, 1) := by decide +kernel
theorem d_Cc_strip_17 : decode c_Cc_strip 17 = .ok (.ifCond .lt 12, 3) := by decide +kernel
theorem d_Cc_strip_20 : decode c_Cc_strip 20 = .ok (.iload_n 3, 1) := by decide +kernel
theorem d_Cc_strip_21 : decode c_Cc_strip 21 = .ok (.ifCond .lt 8, 3) := by decide +kernel
theorem d_Cc_strip_24 : decode c_Cc_strip 24 = .ok (.iload_n 3, 1) := by decide +kernel
theorem d_Cc_strip_25 : decode c_Cc_strip 25 = .ok (.iconst 2, 1) := by decide +kernel
theorem d_Cc_strip_26 : decode c_Cc_strip 26 = .ok (.if_icmp .le 6, 3) := by decide +kernel
theorem d_Cc_strip_29 : decode c_Cc_strip 29 = .ok (.bipush (-2), 2) := by decide +kernel
theorem d_Cc_strip_31 : decode c_Cc_strip 31 = .ok (.ireturn, 1) := by decide +kernel
theorem d_Cc_strip_32 : decode c_Cc_strip 32 = .ok (.iload_n 2, 1) := by decide +kernel
theorem d_Cc_strip_33 : decode c_Cc_strip 33 = .ok (.aload_n 0, 1) := by decide +kernel
theorem d_Cc_strip_34 : decode c_Cc_strip 34 = .ok (.getfield 10, 3) := by decide +kernel
theorem d_Cc_strip_37 : decode c_Cc_strip 37 = .ok (.getfield 79, 3) := by decide +kernel
theorem d_Cc_strip_40 : decode c_Cc_strip 40 = .ok (.iload_n 1, 1) := by decide +kernel
theorem d_Cc_strip_41 : decode c_Cc_strip 41 = .ok (.invokevirtual 215, 3) := by decide +kernel
theorem d_Cc_strip_44 : decode c_Cc_strip 44 = .ok (.if_icmp .lt 6, 3) := by decide +kernel
theorem d_Cc_strip_47 : decode c_Cc_strip 47 = .ok (.bipush (-5), 2) := by decide +kernel
theorem d_Cc_strip_49 : decode c_Cc_strip 49 = .ok (.ireturn, 1) := by decide +kernel
theorem d_Cc_strip_50 : decode c_Cc_strip 50 = .ok (.iload_n 3, 1) := by decide +kernel
theorem d_Cc_strip_51 : decode c_Cc_strip 51 = .ok (.lookupswitch 51 #[(0, 25), (1, 38)], 25) := by decide +kernel
theorem d_Cc_strip_76 : decode c_Cc_strip 76 = .ok (.aload_n 0, 1) := by decide +kernel
theorem d_Cc_strip_77 : decode c_Cc_strip 77 = .ok (.getfield 10, 3) := by decide +kernel
theorem d_Cc_strip_80 : decode c_Cc_strip 80 = .ok (.getfield 79, 3) := by decide +kernel
theorem d_Cc_strip_83 : decode c_Cc_strip 83 = .ok (.iload_n 1, 1) := by decide +kernel
theorem d_Cc_strip_84 : decode c_Cc_strip 84 = .ok (.iload_n 2, 1) := by decide +kernel
theorem d_Cc_strip_85 : decode c_Cc_strip 85 = .ok (.invokevirtual 222, 3) := by decide +kernel
theorem d_Cc_strip_88 : decode c_Cc_strip 88 = .ok (.ireturn, 1) := by decide +kernel
theorem d_Cc_strip_89 : decode c_Cc_strip 89 = .ok (.aload_n 0, 1) := by decide +kernel
theorem d_Cc_strip_90 : decode c_Cc_strip 90 = .ok (.getfield 10, 3) := by decide +kernel
theorem d_Cc_strip_93 : decode c_Cc_strip 93 = .ok (.getfield 79, 3) := by decide +kernel
theorem d_Cc_strip_96 : decode c_Cc_strip 96 = .ok (.iload_n 1, 1) := by decide +kernel
theorem d_Cc_strip_97 : decode c_Cc_strip 97 = .ok (.iload_n 2, 1) := by decide +kernel
theorem d_Cc_strip_98 : decode c_Cc_strip 98 = .ok (.invokevirtual 225, 3) := by decide +kernel
theorem d_Cc_strip_101 : decode c_Cc_strip 101 = .ok (.ireturn, 1) := by decide +kernel
theorem d_Cc_strip_102 : decode c_Cc_strip 102 = .ok (.aload_n 0, 1) := by decide +kernel
theorem d_Cc_strip_103 : decode c_Cc_strip 103 = .ok (.getfield 10, 3) := by decide +kernel
theorem d_Cc_strip_106 : decode c_Cc_strip 106 = .ok (.getfield 79, 3) := by decide +kernel
theorem d_Cc_strip_109 : decode c_Cc_strip 109 = .ok (.iload_n 1, 1) := by decide +kernel
theorem d_Cc_strip_110 : decode c_Cc_strip 110 = .ok (.iload_n 2, 1) := by decide +kernel
theorem d_Cc_strip_111 : decode c_Cc_strip 111 = .ok (.invokevirtual 228, 3) := by decide +kernel
theorem d_Cc_strip_114 : decode c_Cc_strip 114 = .ok (.ireturn, 1) := by decide +kernel
theorem d_Cc_count_0 : decode c_Cc_count 0 = .ok (.iload_n 1, 1) := by decide +kernel
theorem d_Cc_count_1 : decode c_Cc_count 1 = .ok (.tableswitch 177 0 10 #[59, 70, 81, 92, 103, 114, 128, 142, 153, 161, 169], 59) := by decide +kernel
theorem d_Cc_count_60 : decode c_Cc_count 60 = .ok (.aload_n 0, 1) := by decide +kernel
theorem d_Cc_count_61 : decode c_Cc_count 61 = .ok (.getfield 10, 3) := by decide +kernel
theorem d_Cc_count_64 : decode c_Cc_count 64 = .ok (.getfield 50, 3) := by decide +kernel
theorem d_Cc_count_67 : decode c_Cc_count 67 = .ok (.getfield 54, 3) := by decide +kernel
theorem d_Cc_count_70 : decode c_Cc_count 70 = .ok (.ireturn, 1) := by decide +kernel
theorem d_Cc_count_71 : decode c_Cc_count 71 = .ok (.aload_n 0, 1) := by decide +kernel
theorem d_Cc_count_72 : decode c_Cc_count 72 = .ok (.getfield 10, 3) := by decide +kernel
theorem d_Cc_count_75 : decode c_Cc_count 75 = .ok (.getfield 79, 3) := by decide +kernel
theorem d_Cc_count_78 : decode c_Cc_count 78 = .ok (.getfield 76, 3) := by decide +kernel
theorem d_Cc_count_81 : decode c_Cc_count 81 = .ok (.ireturn, 1) := by decide +kernel
theorem d_Cc_count_82 : decode c_Cc_count 82 = .ok (.aload_n 0, 1) := by decide +kernel
theorem d_Cc_count_83 : decode c_Cc_count 83 = .ok (.getfield 10, 3) := by decide +kernel
theorem d_Cc_count_86 : decode c_Cc_count 86 = .ok (.getfield 79, 3) := by decide +kernel
theorem d_Cc_count_89 : decode c_Cc_count 89 = .ok (.invokevirtual 231, 3) := by decide +kernel
theorem d_Cc_count_92 : decode c_Cc_count 92 = .ok (.ireturn, 1) := by decide +kernel
theorem d_Cc_count_93 : decode c_Cc_count 93 = .ok (.aload_n 0, 1) := by decide +kernel
theorem d_Cc_count_94 : decode c_Cc_count 94 = .ok (.getfield 10, 3) := by decide +kernel
theorem d_Cc_count_97 : decode c_Cc_count 97 = .ok (.getfield 107, 3) := by decide +kernel
theorem d_Cc_count_100 : decode c_Cc_count 100 = .ok (.getfield 234, 3) := by decide +kernel
theorem d_Cc_count_103 : decode c_Cc_count 103 = .ok (.ireturn, 1) := by decide +kernel
theorem d_Cc_count_104 : decode c_Cc_count 104 = .ok (.aload_n 0, 1) := by decide +kernel
theorem d_Cc_count_105 : decode c_Cc_count 105 = .ok (.getfield 10, 3) := by decide +kernel
theorem d_Cc_count_108 : decode c_Cc_count 108 = .ok (.getfield 107, 3) := by decide +kernel
theorem d_Cc_count_111 : decode c_Cc_count 111 = .ok (.getfield 237, 3) := by decide +kernel
theorem d_Cc_count_114 : decode c_Cc_count 114 = .ok (.ireturn, 1) := by decide +kernel
theorem d_Cc_count_115 : decode c_Cc_count 115 = .ok (.aload_n 0, 1) := by decide +kernel
theorem d_Cc_count_116 : decode c_Cc_count 116 = .ok (.getfield 10, 3) := by decide +kernel
theorem d_Cc_count_119 : decode c_Cc_count 119 = .ok (.getfield 50, 3) := by decide +kernel
theorem d_Cc_count_122 : decode c_Cc_count 122 = .ok (.getfield 178, 3) := by decide +kernel
theorem d_Cc_count_125 : decode c_Cc_count 125 = .ok (.invokevirtual 238, 3) := by decide +kernel
theorem d_Cc_count_128 : decode c_Cc_count 128 = .ok (.ireturn, 1) := by decide +kernel
theorem d_Cc_count_129 : decode c_Cc_count 129 = .ok (.aload_n 0, 1) := by decide +kernel
theorem d_Cc_count_130 : decode c_Cc_count 130 = .ok (.getfield 10, 3) := by decide +kernel
theorem d_Cc_count_133 : decode c_Cc_count 133 = .ok (.getfield 50, 3) := by decide +kernel
theorem d_Cc_count_136 : decode c_Cc_count 136 = .ok (.getfield 175, 3) := by decide +kernel
theorem d_Cc_count_139 : decode c_Cc_count 139 = .ok (.invokevirtual 238, 3) := by decide +kernel
theorem d_Cc_count_142 : decode c_Cc_count 142 = .ok (.ireturn, 1) := by decide +kernel
theorem d_Cc_count_143 : decode c_Cc_count 143 = .ok (.aload_n 0, 1) := by decide +kernel
theorem d_Cc_count_144 : decode c_Cc_count 144 = .ok (.getfield 10, 3) := by decide +kernel
theorem d_Cc_count_147 : decode c_Cc_count 147 = .ok (.getfield 79, 3) := by decide +kernel
theorem d_Cc_count_150 : decode c_Cc_count 150 = .ok (.invokevirtual 241, 3) := by decide +kernel
theorem d_Cc_count_153 : decode c_Cc_count 153 = .ok (.ireturn, 1) := by decide +kernel
theorem d_Cc_count_154 : decode c_Cc_count 154 = .ok (.aload_n 0, 1) := by decide +kernel
theorem d_Cc_count_155 : decode c_Cc_count 155 = .ok (.getfield 10, 3) := by decide +kernel
theorem d_Cc_count_158 : decode c_Cc_count 158 = .ok (.getfield 244, 3) := by decide +kernel
theorem d_Cc_count_161 : decode c_Cc_count 161 = .ok (.ireturn, 1) := by decide +kernel
theorem d_Cc_count_162 : decode c_Cc_count 162 = .ok (.aload_n 0, 1) := by decide +kernel
theorem d_Cc_count_163 : decode c_Cc_count 163 = .ok (.getfield 28, 3) := by decide +kernel
theorem d_Cc_count_166 : decode c_Cc_count 166 = .ok (.getfield 149, 3) := by decide +kernel
theorem d_Cc_count_169 : decode c_Cc_count 169 = .ok (.ireturn, 1) := by decide +kernel
theorem d_Cc_count_170 : decode c_Cc_count 170 = .ok (.aload_n 0, 1) := by decide +kernel
theorem d_Cc_count_171 : decode c_Cc_count 171 = .ok (.getfield 35, 3) := by decide +kernel
theorem d_Cc_count_174 : decode c_Cc_count 174 = .ok (.getfield 146, 3) := by decide +kernel
theorem d_Cc_count_177 : decode c_Cc_count 177 = .ok (.ireturn, 1) := by decide +kernel
theorem d_Cc_count_178 : decode c_Cc_count 178 = .ok (.aload_n 0, 1) := by decide +kernel
theorem d_Cc_count_179 : decode c_Cc_count 179 = .ok (.iload_n 1, 1) := by decide +kernel
theorem d_Cc_count_180 : decode c_Cc_count 180 = .ok (.bipush 11, 2) := by decide +kernel
theorem d_Cc_count_182 : decode c_Cc_count 182 = .ok (.isub, 1) := by decide +kernel
theorem d_Cc_count_183 : decode c_Cc_count 183 = .ok (.invokevirtual 247, 3) := by decide +kernel
theorem d_Cc_count_186 : decode c_Cc_count 186 = .ok (.ireturn, 1) := by decide +kernel
theorem d_Cc_setting_0 : decode c_Cc_setting 0 = .ok (.iload_n 1, 1) := by decide +kernel
theorem d_Cc_setting_1 : decode c_Cc_setting 1 = .ok (.ifCond .lt 8, 3) := by decide +kernel
theorem d_Cc_setting_4 : decode c_Cc_setting 4 = .ok (.iload_n 1, 1) := by decide +kernel
theorem d_Cc_setting_5 : decode c_Cc_setting 5 = .ok (.iconst 5, 1) := by decide +kernel
theorem d_Cc_setting_6 : decode c_Cc_setting 6 = .ok (.if_icmp .lt 8, 3) := by decide +kernel
theorem d_Cc_setting_9 : decode c_Cc_setting 9 = .ok (.bipush (-2), 2) := by decide +kernel
theorem d_Cc_setting_11 : decode c_Cc_setting 11 = .ok (.goto 14, 3) := by decide +kernel
theorem d_Cc_setting_14 : decode c_Cc_setting 14 = .ok (.aload_n 0, 1) := by decide +kernel
theorem d_Cc_setting_15 : decode c_Cc_setting 15 = .ok (.getfield 10, 3) := by decide +kernel
theorem d_Cc_setting_18 : decode c_Cc_setting 18 = .ok (.getfield 130, 3) := by decide +kernel
theorem d_Cc_setting_21 : decode c_Cc_setting 21 = .ok (.iload_n 1, 1) := by decide +kernel
theorem d_Cc_setting_22 : decode c_Cc_setting 22 = .ok (.invokevirtual 134, 3) := by decide +kernel
theorem d_Cc_setting_25 : decode c_Cc_setting 25 = .ok (.ireturn, 1) := by decide +kernel
theorem d_Cc_wasted_0 : decode c_Cc_wasted 0 = .ok (.aload_n 0, 1) := by decide +kernel
theorem d_Cc_wasted_1 : decode c_Cc_wasted 1 = .ok (.getfield 10, 3) := by decide +kernel
theorem d_Cc_wasted_4 : decode c_Cc_wasted 4 = .ok (.getfield 50, 3) := by decide +kernel
theorem d_Cc_wasted_7 : decode c_Cc_wasted 7 = .ok (.iload_n 1, 1) := by decide +kernel
theorem d_Cc_wasted_8 : decode c_Cc_wasted 8 = .ok (.invokevirtual 89, 3) := by decide +kernel
theorem d_Cc_wasted_11 : decode c_Cc_wasted 11 = .ok (.ifCond .eq 20, 3) := by decide +kernel
theorem d_Cc_wasted_14 : decode c_Cc_wasted 14 = .ok (.aload_n 0, 1) := by decide +kernel
theorem d_Cc_wasted_15 : decode c_Cc_wasted 15 = .ok (.getfield 10, 3) := by decide +kernel
theorem d_Cc_wasted_18 : decode c_Cc_wasted 18 = .ok (.getfield 50, 3) := by decide +kernel
theorem d_Cc_wasted_21 : decode c_Cc_wasted 21 = .ok (.getfield 184, 3) := by decide +kernel
theorem d_Cc_wasted_24 : decode c_Cc_wasted 24 = .ok (.iload_n 1, 1) := by decide +kernel
theorem d_Cc_wasted_25 : decode c_Cc_wasted 25 = .ok (.invokevirtual 134, 3) := by decide +kernel
theorem d_Cc_wasted_28 : decode c_Cc_wasted 28 = .ok (.goto 4, 3) := by decide +kernel
theorem d_Cc_wasted_31 : decode c_Cc_wasted 31 = .ok (.iconst 0, 1) := by decide +kernel
theorem d_Cc_wasted_32 : decode c_Cc_wasted 32 = .ok (.istore_n 2, 1) := by decide +kernel
theorem d_Cc_wasted_33 : decode c_Cc_wasted 33 = .ok (.iload_n 2, 1) := by decide +kernel
theorem d_Cc_wasted_34 : decode c_Cc_wasted 34 = .ok (.ifCond .gt 7, 3) := by decide +kernel
theorem d_Cc_wasted_37 : decode c_Cc_wasted 37 = .ok (.ldc2_w 250, 3) := by decide +kernel
theorem d_Cc_wasted_40 : decode c_Cc_wasted 40 = .ok (.dreturn, 1) := by decide +kernel
theorem d_Cc_wasted_41 : decode c_Cc_wasted 41 = .ok (.aload_n 0, 1) := by decide +kernel
theorem d_Cc_wasted_42 : decode c_Cc_wasted 42 = .ok (.getfield 10, 3) := by decide +kernel
theorem d_Cc_wasted_45 : decode c_Cc_wasted 45 = .ok (.getfield 50, 3) := by decide +kernel
theorem d_Cc_wasted_48 : decode c_Cc_wasted 48 = .ok (.getfield 178, 3) := by decide +kernel
theorem d_Cc_wasted_51 : decode c_Cc_wasted 51 = .ok (.iload_n 1, 1) := by decide +kernel
theorem d_Cc_wasted_52 : decode c_Cc_wasted 52 = .ok (.invokevirtual 134, 3) := by decide +kernel
theorem d_Cc_wasted_55 : decode c_Cc_wasted 55 = .ok (.i2d, 1) := by decide +kernel
theorem d_Cc_wasted_56 : decode c_Cc_wasted 56 = .ok (.iload_n 2, 1) := by decide +kernel
theorem d_Cc_wasted_57 : decode c_Cc_wasted 57 = .ok (.i2d, 1) := by decide +kernel
theorem d_Cc_wasted_58 : decode c_Cc_wasted 58 = .ok (.ddiv, 1) := by decide +kernel
theorem d_Cc_wasted_59 : decode c_Cc_wasted 59 = .ok (.dreturn, 1) := by decide +kernel
theorem d_Cc_isKind_0 : decode c_Cc_isKind 0 = .ok (.iload_n 0, 1) := by decide +kernel
theorem d_Cc_isKind_1 : decode c_Cc_isKind 1 = .ok (.ifCond .lt 13, 3) := by decide +kernel
theorem d_Cc_isKind_4 : decode c_Cc_isKind 4 = .ok (.iload_n 0, 1) := by decide +kernel
theorem d_Cc_isKind_5 : decode c_Cc_isKind 5 = .ok (.bipush 9, 2) := by decide +kernel
theorem d_Cc_isKind_7 : decode c_Cc_isKind 7 = .ok (.if_icmp .gt 7, 3) := by decide +kernel
theorem d_Cc_isKind_10 : decode c_Cc_isKind 10 = .ok (.iconst 1, 1) := by decide +kernel
theorem d_Cc_isKind_11 : decode c_Cc_isKind 11 = .ok (.goto 4, 3) := by decide +kernel
theorem d_Cc_isKind_14 : decode c_Cc_isKind 14 = .ok (.iconst 0, 1) := by decide +kernel
theorem d_Cc_isKind_15 : decode c_Cc_isKind 15 = .ok (.ireturn, 1) := by decide +kernel
theorem d_Cc_isWay_0 : decode c_Cc_isWay 0 = .ok (.iload_n 0, 1) := by decide +kernel
theorem d_Cc_isWay_1 : decode c_Cc_isWay 1 = .ok (.ifCond .eq 8, 3) := by decide +kernel
theorem d_Cc_isWay_4 : decode c_Cc_isWay 4 = .ok (.iload_n 0, 1) := by decide +kernel
theorem d_Cc_isWay_5 : decode c_Cc_isWay 5 = .ok (.iconst 1, 1) := by decide +kernel
theorem d_Cc_isWay_6 : decode c_Cc_isWay 6 = .ok (.if_icmp .ne 7, 3) := by decide +kernel
theorem d_Cc_isWay_9 : decode c_Cc_isWay 9 = .ok (.iconst 1, 1) := by decide +kernel
theorem d_Cc_isWay_10 : decode c_Cc_isWay 10 = .ok (.goto 4, 3) := by decide +kernel
theorem d_Cc_isWay_13 : decode c_Cc_isWay 13 = .ok (.iconst 0, 1) := by decide +kernel
theorem d_Cc_isWay_14 : decode c_Cc_isWay 14 = .ok (.ireturn, 1) := by decide +kernel
theorem d_La_cell_0 : decode c_La_cell 0 = .ok (.iload_n 1, 1) := by decide +kernel
theorem d_La_cell_1 : decode c_La_cell 1 = .ok (.aload_n 0, 1) := by decide +kernel
theorem d_La_cell_2 : decode c_La_cell 2 = .ok (.arraylength, 1) := by decide +kernel
theorem d_La_cell_3 : decode c_La_cell 3 = .ok (.if_icmp .ge 9, 3) := by decide +kernel
theorem d_La_cell_6 : decode c_La_cell 6 = .ok (.aload_n 0, 1) := by decide +kernel
theorem d_La_cell_7 : decode c_La_cell 7 = .ok (.iload_n 1, 1) := by decide +kernel
theorem d_La_cell_8 : decode c_La_cell 8 = .ok (.iaload, 1) := by decide +kernel
theorem d_La_cell_9 : decode c_La_cell 9 = .ok (.goto 11, 3) := by decide +kernel
theorem d_La_cell_12 : decode c_La_cell 12 = .ok (.ldc 7, 2) := by decide +kernel
theorem d_La_cell_14 : decode c_La_cell 14 = .ok (.iload_n 1, 1) := by decide +kernel
theorem d_La_cell_15 : decode c_La_cell 15 = .ok (.imul, 1) := by decide +kernel
theorem d_La_cell_16 : decode c_La_cell 16 = .ok (.sipush 1979, 3) := by decide +kernel
theorem d_La_cell_19 : decode c_La_cell 19 = .ok (.iadd, 1) := by decide +kernel
theorem d_La_cell_20 : decode c_La_cell 20 = .ok (.ireturn, 1) := by decide +kernel
theorem d_La_low_0 : decode c_La_low 0 = .ok (.iload_n 0, 1) := by decide +kernel
theorem d_La_low_1 : decode c_La_low 1 = .ok (.ldc 8, 2) := by decide +kernel
theorem d_La_low_3 : decode c_La_low 3 = .ok (.iand, 1) := by decide +kernel
theorem d_La_low_4 : decode c_La_low 4 = .ok (.iload_n 1, 1) := by decide +kernel
theorem d_La_low_5 : decode c_La_low 5 = .ok (.irem, 1) := by decide +kernel
theorem d_La_low_6 : decode c_La_low 6 = .ok (.ireturn, 1) := by decide +kernel
theorem d_La_tell_0 : decode c_La_tell 0 = .ok (.bipush 64, 2) := by decide +kernel
theorem d_La_tell_2 : decode c_La_tell 2 = .ok (.newarray .int, 2) := by decide +kernel
theorem d_La_tell_4 : decode c_La_tell 4 = .ok (.astore_n 1, 1) := by decide +kernel
theorem d_La_tell_5 : decode c_La_tell 5 = .ok (.iconst 0, 1) := by decide +kernel
theorem d_La_tell_6 : decode c_La_tell 6 = .ok (.istore_n 2, 1) := by decide +kernel
theorem d_La_tell_7 : decode c_La_tell 7 = .ok (.iload_n 2, 1) := by decide +kernel
theorem d_La_tell_8 : decode c_La_tell 8 = .ok (.bipush 9, 2) := by decide +kernel
theorem d_La_tell_10 : decode c_La_tell 10 = .ok (.if_icmp .ge 17, 3) := by decide +kernel
theorem d_La_tell_13 : decode c_La_tell 13 = .ok (.aload_n 1, 1) := by decide +kernel
theorem d_La_tell_14 : decode c_La_tell 14 = .ok (.iload_n 2, 1) := by decide +kernel
theorem d_La_tell_15 : decode c_La_tell 15 = .ok (.aload_n 0, 1) := by decide +kernel
theorem d_La_tell_16 : decode c_La_tell 16 = .ok (.iload_n 2, 1) := by decide +kernel
theorem d_La_tell_17 : decode c_La_tell 17 = .ok (.invokevirtual 9, 3) := by decide +kernel
theorem d_La_tell_20 : decode c_La_tell 20 = .ok (.iastore, 1) := by decide +kernel
theorem d_La_tell_21 : decode c_La_tell 21 = .ok (.iinc 2 1, 3) := by decide +kernel
theorem d_La_tell_24 : decode c_La_tell 24 = .ok (.goto (-17), 3) := by decide +kernel
theorem d_La_tell_27 : decode c_La_tell 27 = .ok (.iconst 0, 1) := by decide +kernel
theorem d_La_tell_28 : decode c_La_tell 28 = .ok (.istore_n 2, 1) := by decide +kernel
theorem d_La_tell_29 : decode c_La_tell 29 = .ok (.iload_n 2, 1) := by decide +kernel
theorem d_La_tell_30 : decode c_La_tell 30 = .ok (.iconst 5, 1) := by decide +kernel
theorem d_La_tell_31 : decode c_La_tell 31 = .ok (.if_icmp .ge 23, 3) := by decide +kernel
theorem d_La_tell_34 : decode c_La_tell 34 = .ok (.aload_n 1, 1) := by decide +kernel
theorem d_La_tell_35 : decode c_La_tell 35 = .ok (.bipush 9, 2) := by decide +kernel
theorem d_La_tell_37 : decode c_La_tell 37 = .ok (.iload_n 2, 1) := by decide +kernel
theorem d_La_tell_38 : decode c_La_tell 38 = .ok (.iadd, 1) := by decide +kernel
theorem d_La_tell_39 : decode c_La_tell 39 = .ok (.aload_n 0, 1) := by decide +kernel
theorem d_La_tell_40 : decode c_La_tell 40 = .ok (.bipush 11, 2) := by decide +kernel
theorem d_La_tell_42 : decode c_La_tell 42 = .ok (.iload_n 2, 1) := by decide +kernel
theorem d_La_tell_43 : decode c_La_tell 43 = .ok (.iadd, 1) := by decide +kernel
theorem d_La_tell_44 : decode c_La_tell 44 = .ok (.invokevirtual 9, 3) := by decide +kernel
theorem d_La_tell_47 : decode c_La_tell 47 = .ok (.iastore, 1) := by decide +kernel
theorem d_La_tell_48 : decode c_La_tell 48 = .ok (.iinc 2 1, 3) := by decide +kernel
theorem d_La_tell_51 : decode c_La_tell 51 = .ok (.goto (-22), 3) := by decide +kernel
theorem d_La_tell_54 : decode c_La_tell 54 = .ok (.iconst 0, 1) := by decide +kernel
theorem d_La_tell_55 : decode c_La_tell 55 = .ok (.istore_n 2, 1) := by decide +kernel
theorem d_La_tell_56 : decode c_La_tell 56 = .ok (.iload_n 2, 1) := by decide +kernel
theorem d_La_tell_57 : decode c_La_tell 57 = .ok (.bipush 6, 2) := by decide +kernel
theorem d_La_tell_59 : decode c_La_tell 59 = .ok (.if_icmp .ge 67, 3) := by decide +kernel
theorem d_La_tell_62 : decode c_La_tell 62 = .ok (.aload_n 1, 1) := by decide +kernel
theorem d_La_tell_63 : decode c_La_tell 63 = .ok (.bipush 14, 2) := by decide +kernel
theorem d_La_tell_65 : decode c_La_tell 65 = .ok (.iconst 4, 1) := by decide +kernel
theorem d_La_tell_66 : decode c_La_tell 66 = .ok (.iload_n 2, 1) := by decide +kernel
theorem d_La_tell_67 : decode c_La_tell 67 = .ok (.imul, 1) := by decide +kernel
theorem d_La_tell_68 : decode c_La_tell 68 = .ok (.iadd, 1) := by decide +kernel
theorem d_La_tell_69 : decode c_La_tell 69 = .ok (.aload_n 0, 1) := by decide +kernel
theorem d_La_tell_70 : decode c_La_tell 70 = .ok (.iload_n 2, 1) := by decide +kernel
theorem d_La_tell_71 : decode c_La_tell 71 = .ok (.iconst 2, 1) := by decide +kernel
theorem d_La_tell_72 : decode c_La_tell 72 = .ok (.invokevirtual 15, 3) := by decide +kernel
theorem d_La_tell_75 : decode c_La_tell 75 = .ok (.iastore, 1) := by decide +kernel
theorem d_La_tell_76 : decode c_La_tell 76 = .ok (.aload_n 1, 1) := by decide +kernel
theorem d_La_tell_77 : decode c_La_tell 77 = .ok (.bipush 15, 2) := by decide +kernel
theorem d_La_tell_79 : decode c_La_tell 79 = .ok (.iconst 4, 1) := by decide +kernel
theorem d_La_tell_80 : decode c_La_tell 80 = .ok (.iload_n 2, 1) := by decide +kernel
theorem d_La_tell_81 : decode c_La_tell 81 = .ok (.imul, 1) := by decide +kernel
theorem d_La_tell_82 : decode c_La_tell 82 = .ok (.iadd, 1) := by decide +kernel
theorem d_La_tell_83 : decode c_La_tell 83 = .ok (.aload_n 0, 1) := by decide +kernel
theorem d_La_tell_84 : decode c_La_tell 84 = .ok (.iload_n 2, 1) := by decide +kernel
theorem d_La_tell_85 : decode c_La_tell 85 = .ok (.iconst 5, 1) := by decide +kernel
theorem d_La_tell_86 : decode c_La_tell 86 = .ok (.invokevirtual 15, 3) := by decide +kernel
theorem d_La_tell_89 : decode c_La_tell 89 = .ok (.iastore, 1) := by decide +kernel
theorem d_La_tell_90 : decode c_La_tell 90 = .ok (.aload_n 1, 1) := by decide +kernel
theorem d_La_tell_91 : decode c_La_tell 91 = .ok (.bipush 16, 2) := by decide +kernel
theorem d_La_tell_93 : decode c_La_tell 93 = .ok (.iconst 4, 1) := by decide +kernel
theorem d_La_tell_94 : decode c_La_tell 94 = .ok (.iload_n 2, 1) := by decide +kernel
theorem d_La_tell_95 : decode c_La_tell 95 = .ok (.imul, 1) := by decide +kernel
theorem d_La_tell_96 : decode c_La_tell 96 = .ok (.iadd, 1) := by decide +kernel
theorem d_La_tell_97 : decode c_La_tell 97 = .ok (.aload_n 0, 1) := by decide +kernel
theorem d_La_tell_98 : decode c_La_tell 98 = .ok (.iload_n 2, 1) := by decide +kernel
theorem d_La_tell_99 : decode c_La_tell 99 = .ok (.bipush 7, 2) := by decide +kernel
theorem d_La_tell_101 : decode c_La_tell 101 = .ok (.invokevirtual 15, 3) := by decide +kernel
theorem d_La_tell_104 : decode c_La_tell 104 = .ok (.iastore, 1) := by decide +kernel
theorem d_La_tell_105 : decode c_La_tell 105 = .ok (.aload_n 1, 1) := by decide +kernel
theorem d_La_tell_106 : decode c_La_tell 106 = .ok (.bipush 17, 2) := by decide +kernel
theorem d_La_tell_108 : decode c_La_tell 108 = .ok (.iconst 4, 1) := by decide +kernel
theorem d_La_tell_109 : decode c_La_tell 109 = .ok (.iload_n 2, 1) := by decide +kernel
theorem d_La_tell_110 : decode c_La_tell 110 = .ok (.imul, 1) := by decide +kernel
theorem d_La_tell_111 : decode c_La_tell 111 = .ok (.iadd, 1) := by decide +kernel
theorem d_La_tell_112 : decode c_La_tell 112 = .ok (.aload_n 0, 1) := by decide +kernel
theorem d_La_tell_113 : decode c_La_tell 113 = .ok (.iload_n 2, 1) := by decide +kernel
theorem d_La_tell_114 : decode c_La_tell 114 = .ok (.bipush 8, 2) := by decide +kernel
theorem d_La_tell_116 : decode c_La_tell 116 = .ok (.invokevirtual 15, 3) := by decide +kernel
theorem d_La_tell_119 : decode c_La_tell 119 = .ok (.iastore, 1) := by decide +kernel
theorem d_La_tell_120 : decode c_La_tell 120 = .ok (.iinc 2 1, 3) := by decide +kernel
theorem d_La_tell_123 : decode c_La_tell 123 = .ok (.goto (-67), 3) := by decide +kernel
theorem d_La_tell_126 : decode c_La_tell 126 = .ok (.iconst 0, 1) := by decide +kernel
theorem d_La_tell_127 : decode c_La_tell 127 = .ok (.istore_n 2, 1) := by decide +kernel
theorem d_La_tell_128 : decode c_La_tell 128 = .ok (.iload_n 2, 1) := by decide +kernel
theorem d_La_tell_129 : decode c_La_tell 129 = .ok (.bipush 12, 2) := by decide +kernel
theorem d_La_tell_131 : decode c_La_tell 131 = .ok (.if_icmp .ge 38, 3) := by decide +kernel
theorem d_La_tell_134 : decode c_La_tell 134 = .ok (.aload_n 1, 1) := by decide +kernel
theorem d_La_tell_135 : decode c_La_tell 135 = .ok (.bipush 38, 2) := by decide +kernel
theorem d_La_tell_137 : decode c_La_tell 137 = .ok (.iconst 2, 1) := by decide +kernel
theorem d_La_tell_138 : decode c_La_tell 138 = .ok (.iload_n 2, 1) := by decide +kernel
theorem d_La_tell_139 : decode c_La_tell 139 = .ok (.imul, 1) := by decide +kernel
theorem d_La_tell_140 : decode c_La_tell 140 = .ok (.iadd, 1) := by decide +kernel
theorem d_La_tell_141 : decode c_La_tell 141 = .ok (.aload_n 0, 1) := by decide +kernel
theorem d_La_tell_142 : decode c_La_tell 142 = .ok (.iload_n 2, 1) := by decide +kernel
theorem d_La_tell_143 : decode c_La_tell 143 = .ok (.iconst 3, 1) := by decide +kernel
theorem d_La_tell_144 : decode c_La_tell 144 = .ok (.invokevirtual 19, 3) := by decide +kernel
theorem d_La_tell_147 : decode c_La_tell 147 = .ok (.iastore, 1) := by decide +kernel
theorem d_La_tell_148 : decode c_La_tell 148 = .ok (.aload_n 1, 1) := by decide +kernel
theorem d_La_tell_149 : decode c_La_tell 149 = .ok (.bipush 39, 2) := by decide +kernel
theorem d_La_tell_151 : decode c_La_tell 151 = .ok (.iconst 2, 1) := by decide +kernel
theorem d_La_tell_152 : decode c_La_tell 152 = .ok (.iload_n 2, 1) := by decide +kernel
theorem d_La_tell_153 : decode c_La_tell 153 = .ok (.imul, 1) := by decide +kernel
theorem d_La_tell_154 : decode c_La_tell 154 = .ok (.iadd, 1) := by decide +kernel
theorem d_La_tell_155 : decode c_La_tell 155 = .ok (.aload_n 0, 1) := by decide +kernel
theorem d_La_tell_156 : decode c_La_tell 156 = .ok (.iload_n 2, 1) := by decide +kernel
theorem d_La_tell_157 : decode c_La_tell 157 = .ok (.bipush 8, 2) := by decide +kernel
theorem d_La_tell_159 : decode c_La_tell 159 = .ok (.invokevirtual 19, 3) := by decide +kernel
theorem d_La_tell_162 : decode c_La_tell 162 = .ok (.iastore, 1) := by decide +kernel
theorem d_La_tell_163 : decode c_La_tell 163 = .ok (.iinc 2 1, 3) := by decide +kernel
theorem d_La_tell_166 : decode c_La_tell 166 = .ok (.goto (-38), 3) := by decide +kernel
theorem d_La_tell_169 : decode c_La_tell 169 = .ok (.aload_n 1, 1) := by decide +kernel
theorem d_La_tell_170 : decode c_La_tell 170 = .ok (.areturn, 1) := by decide +kernel
theorem d_La_same_0 : decode c_La_same 0 = .ok (.iconst 0, 1) := by decide +kernel
theorem d_La_same_1 : decode c_La_same 1 = .ok (.istore_n 2, 1) := by decide +kernel
theorem d_La_same_2 : decode c_La_same 2 = .ok (.iload_n 2, 1) := by decide +kernel
theorem d_La_same_3 : decode c_La_same 3 = .ok (.bipush 62, 2) := by decide +kernel
theorem d_La_same_5 : decode c_La_same 5 = .ok (.if_icmp .ge 20, 3) := by decide +kernel
theorem d_La_same_8 : decode c_La_same 8 = .ok (.aload_n 0, 1) := by decide +kernel
theorem d_La_same_9 : decode c_La_same 9 = .ok (.iload_n 2, 1) := by decide +kernel
theorem d_La_same_10 : decode c_La_same 10 = .ok (.iaload, 1) := by decide +kernel
theorem d_La_same_11 : decode c_La_same 11 = .ok (.aload_n 1, 1) := by decide +kernel
theorem d_La_same_12 : decode c_La_same 12 = .ok (.iload_n 2, 1) := by decide +kernel
theorem d_La_same_13 : decode c_La_same 13 = .ok (.iaload, 1) := by decide +kernel
theorem d_La_same_14 : decode c_La_same 14 = .ok (.if_icmp .eq 5, 3) := by decide +kernel
theorem d_La_same_17 : decode c_La_same 17 = .ok (.iconst 0, 1) := by decide +kernel
theorem d_La_same_18 : decode c_La_same 18 = .ok (.ireturn, 1) := by decide +kernel
theorem d_La_same_19 : decode c_La_same 19 = .ok (.iinc 2 1, 3) := by decide +kernel
theorem d_La_same_22 : decode c_La_same 22 = .ok (.goto (-20), 3) := by decide +kernel
theorem d_La_same_25 : decode c_La_same 25 = .ok (.iconst 1, 1) := by decide +kernel
theorem d_La_same_26 : decode c_La_same 26 = .ok (.ireturn, 1) := by decide +kernel
theorem d_La_areas_0 : decode c_La_areas 0 = .ok (.iconst 0, 1) := by decide +kernel
theorem d_La_areas_1 : decode c_La_areas 1 = .ok (.istore_n 1, 1) := by decide +kernel
theorem d_La_areas_2 : decode c_La_areas 2 = .ok (.iconst 0, 1) := by decide +kernel
theorem d_La_areas_3 : decode c_La_areas 3 = .ok (.istore_n 2, 1) := by decide +kernel
theorem d_La_areas_4 : decode c_La_areas 4 = .ok (.iconst 0, 1) := by decide +kernel
theorem d_La_areas_5 : decode c_La_areas 5 = .ok (.istore_n 3, 1) := by decide +kernel
theorem d_La_areas_6 : decode c_La_areas 6 = .ok (.iconst 0, 1) := by decide +kernel
theorem d_La_areas_7 : decode c_La_areas 7 = .ok (.istore 4, 2) := by decide +kernel
theorem d_La_areas_9 : decode c_La_areas 9 = .ok (.iload 4, 2) := by decide +kernel
theorem d_La_areas_11 : decode c_La_areas 11 = .ok (.aload_n 0, 1) := by decide +kernel
theorem d_La_areas_12 : decode c_La_areas 12 = .ok (.iconst 0, 1) := by decide +kernel
theorem d_La_areas_13 : decode c_La_areas 13 = .ok (.invokevirtual 9, 3) := by decide +kernel
theorem d_La_areas_16 : decode c_La_areas 16 = .ok (.if_icmp .ge 165, 3) := by decide +kernel
theorem d_La_areas_19 : decode c_La_areas 19 = .ok (.aload_n 0, 1) := by decide +kernel
theorem d_La_areas_20 : decode c_La_areas 20 = .ok (.iload 4, 2) := by decide +kernel
theorem d_La_areas_22 : decode c_La_areas 22 = .ok (.bipush 9, 2) := by decide +kernel
theorem d_La_areas_24 : decode c_La_areas 24 = .ok (.invokevirtual 15, 3) := by decide +kernel
theorem d_La_areas_27 : decode c_La_areas 27 = .ok (.istore 5, 2) := by decide +kernel
theorem d_La_areas_29 : decode c_La_areas 29 = .ok (.aload_n 0, 1) := by decide +kernel
theorem d_La_areas_30 : decode c_La_areas 30 = .ok (.iload 4, 2) := by decide +kernel
theorem d_La_areas_32 : decode c_La_areas 32 = .ok (.iconst 1, 1) := by decide +kernel
theorem d_La_areas_33 : decode c_La_areas 33 = .ok (.invokevirtual 15, 3) := by decide +kernel
theorem d_La_areas_36 : decode c_La_areas 36 = .ok (.aload_n 0, 1) := by decide +kernel
theorem d_La_areas_37 : decode c_La_areas 37 = .ok (.iload 4, 2) := by decide +kernel
theorem d_La_areas_39 : decode c_La_areas 39 = .ok (.iconst 2, 1) := by decide +kernel
theorem d_La_areas_40 : decode c_La_areas 40 = .ok (.invokevirtual 15, 3) := by decide +kernel
theorem d_La_areas_43 : decode c_La_areas 43 = .ok (.imul, 1) := by decide +kernel
theorem d_La_areas_44 : decode c_La_areas 44 = .ok (.istore 6, 2) := by decide +kernel
theorem d_La_areas_46 : decode c_La_areas 46 = .ok (.iload 5, 2) := by decide +kernel
theorem d_La_areas_48 : decode c_La_areas 48 = .ok (.iload 6, 2) := by decide +kernel
theorem d_La_areas_50 : decode c_La_areas 50 = .ok (.aload_n 0, 1) := by decide +kernel
theorem d_La_areas_51 : decode c_La_areas 51 = .ok (.iload 4, 2) := by decide +kernel
theorem d_La_areas_53 : decode c_La_areas 53 = .ok (.iconst 5, 1) := by decide +kernel
theorem d_La_areas_54 : decode c_La_areas 54 = .ok (.invokevirtual 15, 3) := by decide +kernel
theorem d_La_areas_57 : decode c_La_areas 57 = .ok (.iadd, 1) := by decide +kernel
theorem d_La_areas_58 : decode c_La_areas 58 = .ok (.aload_n 0, 1) := by decide +kernel
theorem d_La_areas_59 : decode c_La_areas 59 = .ok (.iload 4, 2) := by decide +kernel
theorem d_La_areas_61 : decode c_La_areas 61 = .ok (.bipush 6, 2) := by decide +kernel
theorem d_La_areas_63 : decode c_La_areas 63 = .ok (.invokevirtual 15, 3) := by decide +kernel
theorem d_La_areas_66 : decode c_La_areas 66 = .ok (.iadd, 1) := by decide +kernel
theorem d_La_areas_67 : decode c_La_areas 67 = .ok (.aload_n 0, 1) := by decide +kernel
theorem d_La_areas_68 : decode c_La_areas 68 = .ok (.iload 4, 2) := by decide +kernel
theorem d_La_areas_70 : decode c_La_areas 70 = .ok (.bipush 7, 2) := by decide +kernel
theorem d_La_areas_72 : decode c_La_areas 72 = .ok (.invokevirtual 15, 3) := by decide +kernel
theorem d_La_areas_75 : decode c_La_areas 75 = .ok (.iadd, 1) := by decide +kernel
theorem d_La_areas_76 : decode c_La_areas 76 = .ok (.aload_n 0, 1) := by decide +kernel
theorem d_La_areas_77 : decode c_La_areas 77 = .ok (.iload 4, 2) := by decide +kernel
theorem d_La_areas_79 : decode c_La_areas 79 = .ok (.bipush 8, 2) := by decide +kernel
theorem d_La_areas_81 : decode c_La_areas 81 = .ok (.invokevirtual 15, 3) := by decide +kernel
theorem d_La_areas_84 : decode c_La_areas 84 = .ok (.iadd, 1) := by decide +kernel
theorem d_La_areas_85 : decode c_La_areas 85 = .ok (.if_icmp .ne 13, 3) := by decide +kernel
theorem d_La_areas_88 : decode c_La_areas 88 = .ok (.aload_n 0, 1) := by decide +kernel
theorem d_La_areas_89 : decode c_La_areas 89 = .ok (.iload 4, 2) := by decide +kernel
theorem d_La_areas_91 : decode c_La_areas 91 = .ok (.iconst 2, 1) := by decide +kernel
theorem d_La_areas_92 : decode c_La_areas 92 = .ok (.invokevirtual 15, 3) := by decide +kernel
theorem d_La_areas_95 : decode c_La_areas 95 = .ok (.ifCond .ge 5, 3) := by decide +kernel
theorem d_La_areas_98 : decode c_La_areas 98 = .ok (.iconst 0, 1) := by decide +kernel
theorem d_La_areas_99 : decode c_La_areas 99 = .ok (.ireturn, 1) := by decide +kernel
theorem d_La_areas_100 : decode c_La_areas 100 = .ok (.iload_n 1, 1) := by decide +kernel
theorem d_La_areas_101 : decode c_La_areas 101 = .ok (.aload_n 0, 1) := by decide +kernel
theorem d_La_areas_102 : decode c_La_areas 102 = .ok (.iload 4, 2) := by decide +kernel
theorem d_La_areas_104 : decode c_La_areas 104 = .ok (.bipush 6, 2) := by decide +kernel
theorem d_La_areas_106 : decode c_La_areas 106 = .ok (.invokevirtual 15, 3) := by decide +kernel
theorem d_La_areas_109 : decode c_La_areas 109 = .ok (.iadd, 1) := by decide +kernel
theorem d_La_areas_110 : decode c_La_areas 110 = .ok (.istore_n 1, 1) := by decide +kernel
theorem d_La_areas_111 : decode c_La_areas 111 = .ok (.iload_n 2, 1) := by decide +kernel
theorem d_La_areas_112 : decode c_La_areas 112 = .ok (.aload_n 0, 1) := by decide +kernel
theorem d_La_areas_113 : decode c_La_areas 113 = .ok (.iload 4, 2) := by decide +kernel
theorem d_La_areas_115 : decode c_La_areas 115 = .ok (.bipush 7, 2) := by decide +kernel
theorem d_La_areas_117 : decode c_La_areas 117 = .ok (.invokevirtual 15, 3) := by decide +kernel
theorem d_La_areas_120 : decode c_La_areas 120 = .ok (.iadd, 1) := by decide +kernel
theorem d_La_areas_121 : decode c_La_areas 121 = .ok (.istore_n 2, 1) := by decide +kernel
theorem d_La_areas_122 : decode c_La_areas 122 = .ok (.iload_n 3, 1) := by decide +kernel
theorem d_La_areas_123 : decode c_La_areas 123 = .ok (.aload_n 0, 1) := by decide +kernel
theorem d_La_areas_124 : decode c_La_areas 124 = .ok (.iload 4, 2) := by decide +kernel
theorem d_La_areas_126 : decode c_La_areas 126 = .ok (.iconst 4, 1) := by decide +kernel
theorem d_La_areas_127 : decode c_La_areas 127 = .ok (.invokevirtual 15, 3) := by decide +kernel
theorem d_La_areas_130 : decode c_La_areas 130 = .ok (.iadd, 1) := by decide +kernel
theorem d_La_areas_131 : decode c_La_areas 131 = .ok (.istore_n 3, 1) := by decide +kernel
theorem d_La_areas_132 : decode c_La_areas 132 = .ok (.aload_n 0, 1) := by decide +kernel
theorem d_La_areas_133 : decode c_La_areas 133 = .ok (.iload 4, 2) := by decide +kernel
theorem d_La_areas_135 : decode c_La_areas 135 = .ok (.invokevirtual 22, 3) := by decide +kernel
theorem d_La_areas_138 : decode c_La_areas 138 = .ok (.dstore 7, 2) := by decide +kernel
theorem d_La_areas_140 : decode c_La_areas 140 = .ok (.dload 7, 2) := by decide +kernel
theorem d_La_areas_142 : decode c_La_areas 142 = .ok (.aload_n 0, 1) := by decide +kernel
theorem d_La_areas_143 : decode c_La_areas 143 = .ok (.iload 4, 2) := by decide +kernel
theorem d_La_areas_145 : decode c_La_areas 145 = .ok (.bipush 7, 2) := by decide +kernel
theorem d_La_areas_147 : decode c_La_areas 147 = .ok (.invokevirtual 15, 3) := by decide +kernel
theorem d_La_areas_150 : decode c_La_areas 150 = .ok (.i2d, 1) := by decide +kernel
theorem d_La_areas_151 : decode c_La_areas 151 = .ok (.iload 5, 2) := by decide +kernel
theorem d_La_areas_153 : decode c_La_areas 153 = .ok (.i2d, 1) := by decide +kernel
theorem d_La_areas_154 : decode c_La_areas 154 = .ok (.ddiv, 1) := by decide +kernel
theorem d_La_areas_155 : decode c_La_areas 155 = .ok (.dcmp .l, 1) := by decide +kernel
theorem d_La_areas_156 : decode c_La_areas 156 = .ok (.ifCond .ne 17, 3) := by decide +kernel
theorem d_La_areas_159 : decode c_La_areas 159 = .ok (.dload 7, 2) := by decide +kernel
theorem d_La_areas_161 : decode c_La_areas 161 = .ok (.dconst 0, 1) := by decide +kernel
theorem d_La_areas_162 : decode c_La_areas 162 = .ok (.dcmp .g, 1) := by decide +kernel
theorem d_La_areas_163 : decode c_La_areas 163 = .ok (.ifCond .lt 10, 3) := by decide +kernel
theorem d_La_areas_166 : decode c_La_areas 166 = .ok (.dload 7, 2) := by decide +kernel
theorem d_La_areas_168 : decode c_La_areas 168 = .ok (.dconst 1, 1) := by decide +kernel
theorem d_La_areas_169 : decode c_La_areas 169 = .ok (.dcmp .l, 1) := by decide +kernel
theorem d_La_areas_170 : decode c_La_areas 170 = .ok (.ifCond .le 5, 3) := by decide +kernel
theorem d_La_areas_173 : decode c_La_areas 173 = .ok (.iconst 0, 1) := by decide +kernel
theorem d_La_areas_174 : decode c_La_areas 174 = .ok (.ireturn, 1) := by decide +kernel
theorem d_La_areas_175 : decode c_La_areas 175 = .ok (.iinc 4 1, 3) := by decide +kernel
theorem d_La_areas_178 : decode c_La_areas 178 = .ok (.goto (-169), 3) := by decide +kernel
theorem d_La_areas_181 : decode c_La_areas 181 = .ok (.iload_n 1, 1) := by decide +kernel
theorem d_La_areas_182 : decode c_La_areas 182 = .ok (.aload_n 0, 1) := by decide +kernel
theorem d_La_areas_183 : decode c_La_areas 183 = .ok (.bipush 6, 2) := by decide +kernel
theorem d_La_areas_185 : decode c_La_areas 185 = .ok (.invokevirtual 9, 3) := by decide +kernel
theorem d_La_areas_188 : decode c_La_areas 188 = .ok (.if_icmp .ne 41, 3) := by decide +kernel
theorem d_La_areas_191 : decode c_La_areas 191 = .ok (.iload_n 1, 1) := by decide +kernel
theorem d_La_areas_192 : decode c_La_areas 192 = .ok (.aload_n 0, 1) := by decide +kernel
theorem d_La_areas_193 : decode c_La_areas 193 = .ok (.bipush 7, 2) := by decide +kernel
theorem d_La_areas_195 : decode c_La_areas 195 = .ok (.invokevirtual 9, 3) := by decide +kernel
theorem d_La_areas_198 : decode c_La_areas 198 = .ok (.if_icmp .ne 31, 3) := by decide +kernel
theorem d_La_areas_201 : decode c_La_areas 201 = .ok (.iload_n 2, 1) := by decide +kernel
theorem d_La_areas_202 : decode c_La_areas 202 = .ok (.aload_n 0, 1) := by decide +kernel
theorem d_La_areas_203 : decode c_La_areas 203 = .ok (.iconst 5, 1) := by decide +kernel
theorem d_La_areas_204 : decode c_La_areas 204 = .ok (.invokevirtual 9, 3) := by decide +kernel
theorem d_La_areas_207 : decode c_La_areas 207 = .ok (.if_icmp .ne 22, 3) := by decide +kernel
theorem d_La_areas_210 : decode c_La_areas 210 = .ok (.iload_n 3, 1) := by decide +kernel
theorem d_La_areas_211 : decode c_La_areas 211 = .ok (.aload_n 0, 1) := by decide +kernel
theorem d_La_areas_212 : decode c_La_areas 212 = .ok (.iconst 3, 1) := by decide +kernel
theorem d_La_areas_213 : decode c_La_areas 213 = .ok (.invokevirtual 9, 3) := by decide +kernel
theorem d_La_areas_216 : decode c_La_areas 216 = .ok (.if_icmp .ne 13, 3) := by decide +kernel
theorem d_La_areas_219 : decode c_La_areas 219 = .ok (.iload_n 3, 1) := by decide +kernel
theorem d_La_areas_220 : decode c_La_areas 220 = .ok (.bipush 60, 2) := by decide +kernel
theorem d_La_areas_222 : decode c_La_areas 222 = .ok (.if_icmp .gt 7, 3) := by decide +kernel
theorem d_La_areas_225 : decode c_La_areas 225 = .ok (.iconst 1, 1) := by decide +kernel
theorem d_La_areas_226 : decode c_La_areas 226 = .ok (.goto 4, 3) := by decide +kernel
theorem d_La_areas_229 : decode c_La_areas 229 = .ok (.iconst 0, 1) := by decide +kernel
theorem d_La_areas_230 : decode c_La_areas 230 = .ok (.ireturn, 1) := by decide +kernel
theorem d_La_rooms_0 : decode c_La_rooms 0 = .ok (.iconst 0, 1) := by decide +kernel
theorem d_La_rooms_1 : decode c_La_rooms 1 = .ok (.istore_n 1, 1) := by decide +kernel
theorem d_La_rooms_2 : decode c_La_rooms 2 = .ok (.iconst 0, 1) := by decide +kernel
theorem d_La_rooms_3 : decode c_La_rooms 3 = .ok (.istore_n 2, 1) := by decide +kernel
theorem d_La_rooms_4 : decode c_La_rooms 4 = .ok (.iconst 0, 1) := by decide +kernel
theorem d_La_rooms_5 : decode c_La_rooms 5 = .ok (.istore_n 3, 1) := by decide +kernel
theorem d_La_rooms_6 : decode c_La_rooms 6 = .ok (.iload_n 3, 1) := by decide +kernel
theorem d_La_rooms_7 : decode c_La_rooms 7 = .ok (.aload_n 0, 1) := by decide +kernel
theorem d_La_rooms_8 : decode c_La_rooms 8 = .ok (.iconst 1, 1) := by decide +kernel
theorem d_La_rooms_9 : decode c_La_rooms 9 = .ok (.invokevirtual 9, 3) := by decide +kernel
theorem d_La_rooms_12 : decode c_La_rooms 12 = .ok (.if_icmp .ge 247, 3) := by decide +kernel
theorem d_La_rooms_15 : decode c_La_rooms 15 = .ok (.aload_n 0, 1) := by decide +kernel
theorem d_La_rooms_16 : decode c_La_rooms 16 = .ok (.iload_n 3, 1) := by decide +kernel
theorem d_La_rooms_17 : decode c_La_rooms 17 = .ok (.iconst 3, 1) := by decide +kernel
theorem d_La_rooms_18 : decode c_La_rooms 18 = .ok (.invokevirtual 19, 3) := by decide +kernel
theorem d_La_rooms_21 : decode c_La_rooms 21 = .ok (.ifCond .ne 40, 3) := by decide +kernel
theorem d_La_rooms_24 : decode c_La_rooms 24 = .ok (.aload_n 0, 1) := by decide +kernel
theorem d_La_rooms_25 : decode c_La_rooms 25 = .ok (.iload_n 3, 1) := by decide +kernel
theorem d_La_rooms_26 : decode c_La_rooms 26 = .ok (.iconst 4, 1) := by decide +kernel
theorem d_La_rooms_27 : decode c_La_rooms 27 = .ok (.invokevirtual 19, 3) := by decide +kernel
theorem d_La_rooms_30 : decode c_La_rooms 30 = .ok (.bipush (-5), 2) := by decide +kernel
theorem d_La_rooms_32 : decode c_La_rooms 32 = .ok (.if_icmp .ne 27, 3) := by decide +kernel
theorem d_La_rooms_35 : decode c_La_rooms 35 = .ok (.aload_n 0, 1) := by decide +kernel
theorem d_La_rooms_36 : decode c_La_rooms 36 = .ok (.iload_n 3, 1) := by decide +kernel
theorem d_La_rooms_37 : decode c_La_rooms 37 = .ok (.bipush 8, 2) := by decide +kernel
theorem d_La_rooms_39 : decode c_La_rooms 39 = .ok (.invokevirtual 19, 3) := by decide +kernel
theorem d_La_rooms_42 : decode c_La_rooms 42 = .ok (.bipush (-5), 2) := by decide +kernel
theorem d_La_rooms_44 : decode c_La_rooms 44 = .ok (.if_icmp .ne 15, 3) := by decide +kernel
theorem d_La_rooms_47 : decode c_La_rooms 47 = .ok (.aload_n 0, 1) := by decide +kernel
theorem d_La_rooms_48 : decode c_La_rooms 48 = .ok (.iload_n 3, 1) := by decide +kernel
theorem d_La_rooms_49 : decode c_La_rooms 49 = .ok (.iconst 0, 1) := by decide +kernel
theorem d_La_rooms_50 : decode c_La_rooms 50 = .ok (.iconst 0, 1) := by decide +kernel
theorem d_La_rooms_51 : decode c_La_rooms 51 = .ok (.invokevirtual 26, 3) := by decide +kernel
theorem d_La_rooms_54 : decode c_La_rooms 54 = .ok (.bipush (-5), 2) := by decide +kernel
theorem d_La_rooms_56 : decode c_La_rooms 56 = .ok (.if_icmp .eq 197, 3) := by decide +kernel
theorem d_La_rooms_59 : decode c_La_rooms 59 = .ok (.iconst 0, 1) := by decide +kernel
theorem d_La_rooms_60 : decode c_La_rooms 60 = .ok (.ireturn, 1) := by decide +kernel
theorem d_La_rooms_61 : decode c_La_rooms 61 = .ok (.iinc 1 1, 3) := by decide +kernel
theorem d_La_rooms_64 : decode c_La_rooms 64 = .ok (.iload_n 2, 1) := by decide +kernel
theorem d_La_rooms_65 : decode c_La_rooms 65 = .ok (.aload_n 0, 1) := by decide +kernel
theorem d_La_rooms_66 : decode c_La_rooms 66 = .ok (.iload_n 3, 1) := by decide +kernel
theorem d_La_rooms_67 : decode c_La_rooms 67 = .ok (.iconst 1, 1) := by decide +kernel
theorem d_La_rooms_68 : decode c_La_rooms 68 = .ok (.invokevirtual 19, 3) := by decide +kernel
theorem d_La_rooms_71 : decode c_La_rooms 71 = .ok (.iadd, 1) := by decide +kernel
theorem d_La_rooms_72 : decode c_La_rooms 72 = .ok (.istore_n 2, 1) := by decide +kernel
theorem d_La_rooms_73 : decode c_La_rooms 73 = .ok (.iconst 0, 1) := by decide +kernel
theorem d_La_rooms_74 : decode c_La_rooms 74 = .ok (.istore 4, 2) := by decide +kernel
theorem d_La_rooms_76 : decode c_La_rooms 76 = .ok (.aload_n 0, 1) := by decide +kernel
theorem d_La_rooms_77 : decode c_La_rooms 77 = .ok (.iload_n 3, 1) := by decide +kernel
theorem d_La_rooms_78 : decode c_La_rooms 78 = .ok (.bipush 6, 2) := by decide +kernel
theorem d_La_rooms_80 : decode c_La_rooms 80 = .ok (.invokevirtual 19, 3) := by decide +kernel
theorem d_La_rooms_83 : decode c_La_rooms 83 = .ok (.istore 5, 2) := by decide +kernel
theorem d_La_rooms_85 : decode c_La_rooms 85 = .ok (.aload_n 0, 1) := by decide +kernel
theorem d_La_rooms_86 : decode c_La_rooms 86 = .ok (.aload_n 0, 1) := by decide +kernel
theorem d_La_rooms_87 : decode c_La_rooms 87 = .ok (.iload_n 3, 1) := by decide +kernel
theorem d_La_rooms_88 : decode c_La_rooms 88 = .ok (.iconst 4, 1) := by decide +kernel
theorem d_La_rooms_89 : decode c_La_rooms 89 = .ok (.invokevirtual 19, 3) := by decide +kernel
theorem d_La_rooms_92 : decode c_La_rooms 92 = .ok (.iconst 1, 1) := by decide +kernel
theorem d_La_rooms_93 : decode c_La_rooms 93 = .ok (.invokevirtual 15, 3) := by decide +kernel
theorem d_La_rooms_96 : decode c_La_rooms 96 = .ok (.istore 6, 2) := by decide +kernel
theorem d_La_rooms_98 : decode c_La_rooms 98 = .ok (.iconst 0, 1) := by decide +kernel
theorem d_La_rooms_99 : decode c_La_rooms 99 = .ok (.istore 7, 2) := by decide +kernel
theorem d_La_rooms_101 : decode c_La_rooms 101 = .ok (.iconst 0, 1) := by decide +kernel
theorem d_La_rooms_102 : decode c_La_rooms 102 = .ok (.istore 8, 2) := by decide +kernel
theorem d_La_rooms_104 : decode c_La_rooms 104 = .ok (.iload 8, 2) := by decide +kernel
theorem d_La_rooms_106 : decode c_La_rooms 106 = .ok (.iload 5, 2) := by decide +kernel
theorem d_La_rooms_108 : decode c_La_rooms 108 = .ok (.if_icmp .ge 97, 3) := by decide +kernel
theorem d_La_rooms_111 : decode c_La_rooms 111 = .ok (.iload 4, 2) := by decide +kernel
theorem d_La_rooms_113 : decode c_La_rooms 113 = .ok (.aload_n 0, 1) := by decide +kernel
theorem d_La_rooms_114 : decode c_La_rooms 114 = .ok (.iload_n 3, 1) := by decide +kernel
theorem d_La_rooms_115 : decode c_La_rooms 115 = .ok (.iload 8, 2) := by decide +kernel
theorem d_La_rooms_117 : decode c_La_rooms 117 = .ok (.iconst 0, 1) := by decide +kernel
theorem d_La_rooms_118 : decode c_La_rooms 118 = .ok (.invokevirtual 26, 3) := by decide +kernel
theorem d_La_rooms_121 : decode c_La_rooms 121 = .ok (.aload_n 0, 1) := by decide +kernel
theorem d_La_rooms_122 : decode c_La_rooms 122 = .ok (.iload_n 3, 1) := by decide +kernel
theorem d_La_rooms_123 : decode c_La_rooms 123 = .ok (.iload 8, 2) := by decide +kernel
theorem d_La_rooms_125 : decode c_La_rooms 125 = .ok (.iconst 1, 1) := by decide +kernel
theorem d_La_rooms_126 : decode c_La_rooms 126 = .ok (.invokevirtual 26, 3) := by decide +kernel
theorem d_La_rooms_129 : decode c_La_rooms 129 = .ok (.imul, 1) := by decide +kernel
theorem d_La_rooms_130 : decode c_La_rooms 130 = .ok (.iadd, 1) := by decide +kernel
theorem d_La_rooms_131 : decode c_La_rooms 131 = .ok (.istore 4, 2) := by decide +kernel
theorem d_La_rooms_133 : decode c_La_rooms 133 = .ok (.iload 7, 2) := by decide +kernel
theorem d_La_rooms_135 : decode c_La_rooms 135 = .ok (.aload_n 0, 1) := by decide +kernel
theorem d_La_rooms_136 : decode c_La_rooms 136 = .ok (.iload_n 3, 1) := by decide +kernel
theorem d_La_rooms_137 : decode c_La_rooms 137 = .ok (.iload 8, 2) := by decide +kernel
theorem d_La_rooms_139 : decode c_La_rooms 139 = .ok (.iconst 0, 1) := by decide +kernel
theorem d_La_rooms_140 : decode c_La_rooms 140 = .ok (.invokevirtual 26, 3) := by decide +kernel
theorem d_La_rooms_143 : decode c_La_rooms 143 = .ok (.iload 6, 2) := by decide +kernel
theorem d_La_rooms_145 : decode c_La_rooms 145 = .ok (.if_icmp .ge 7, 3) := by decide +kernel
theorem d_La_rooms_148 : decode c_La_rooms 148 = .ok (.iconst 1, 1) := by decide +kernel
theorem d_La_rooms_149 : decode c_La_rooms 149 = .ok (.goto 4, 3) := by decide +kernel
theorem d_La_rooms_152 : decode c_La_rooms 152 = .ok (.iconst 0, 1) := by decide +kernel
theorem d_La_rooms_153 : decode c_La_rooms 153 = .ok (.iadd, 1) := by decide +kernel
theorem d_La_rooms_154 : decode c_La_rooms 154 = .ok (.istore 7, 2) := by decide +kernel
theorem d_La_rooms_156 : decode c_La_rooms 156 = .ok (.aload_n 0, 1) := by decide +kernel
theorem d_La_rooms_157 : decode c_La_rooms 157 = .ok (.iload_n 3, 1) := by decide +kernel
theorem d_La_rooms_158 : decode c_La_rooms 158 = .ok (.iload 8, 2) := by decide +kernel
theorem d_La_rooms_160 : decode c_La_rooms 160 = .ok (.iconst 0, 1) := by decide +kernel
theorem d_La_rooms_161 : decode c_La_rooms 161 = .ok (.invokevirtual 26, 3) := by decide +kernel
theorem d_La_rooms_164 : decode c_La_rooms 164 = .ok (.iload 6, 2) := by decide +kernel
theorem d_La_rooms_166 : decode c_La_rooms 166 = .ok (.if_icmp .gt 31, 3) := by decide +kernel
theorem d_La_rooms_169 : decode c_La_rooms 169 = .ok (.aload_n 0, 1) := by decide +kernel
theorem d_La_rooms_170 : decode c_La_rooms 170 = .ok (.iload_n 3, 1) := by decide +kernel
theorem d_La_rooms_171 : decode c_La_rooms 171 = .ok (.iload 8, 2) := by decide +kernel
theorem d_La_rooms_173 : decode c_La_rooms 173 = .ok (.iconst 0, 1) := by decide +kernel
theorem d_La_rooms_174 : decode c_La_rooms 174 = .ok (.invokevirtual 26, 3) := by decide +kernel
theorem d_La_rooms_177 : decode c_La_rooms 177 = .ok (.iconst 1, 1) := by decide +kernel
theorem d_La_rooms_178 : decode c_La_rooms 178 = .ok (.if_icmp .lt 19, 3) := by decide +kernel
theorem d_La_rooms_181 : decode c_La_rooms 181 = .ok (.aload_n 0, 1) := by decide +kernel
theorem d_La_rooms_182 : decode c_La_rooms 182 = .ok (.iload_n 3, 1) := by decide +kernel
theorem d_La_rooms_183 : decode c_La_rooms 183 = .ok (.iload 8, 2) := by decide +kernel
theorem d_La_rooms_185 : decode c_La_rooms 185 = .ok (.iconst 2, 1) := by decide +kernel
theorem d_La_rooms_186 : decode c_La_rooms 186 = .ok (.invokevirtual 26, 3) := by decide +kernel
theorem d_La_rooms_189 : decode c_La_rooms 189 = .ok (.aload_n 0, 1) := by decide +kernel
theorem d_La_rooms_190 : decode c_La_rooms 190 = .ok (.iconst 4, 1) := by decide +kernel
theorem d_La_rooms_191 : decode c_La_rooms 191 = .ok (.invokevirtual 9, 3) := by decide +kernel
theorem d_La_rooms_194 : decode c_La_rooms 194 = .ok (.if_icmp .lt 5, 3) := by decide +kernel
theorem d_La_rooms_197 : decode c_La_rooms 197 = .ok (.iconst 0, 1) := by decide +kernel
theorem d_La_rooms_198 : decode c_La_rooms 198 = .ok (.ireturn, 1) := by decide +kernel
theorem d_La_rooms_199 : decode c_La_rooms 199 = .ok (.iinc 8 1, 3) := by decide +kernel
theorem d_La_rooms_202 : decode c_La_rooms 202 = .ok (.goto (-98), 3) := by decide +kernel
theorem d_La_rooms_205 : decode c_La_rooms 205 = .ok (.iload 4, 2) := by decide +kernel
theorem d_La_rooms_207 : decode c_La_rooms 207 = .ok (.aload_n 0, 1) := by decide +kernel
theorem d_La_rooms_208 : decode c_La_rooms 208 = .ok (.iload_n 3, 1) := by decide +kernel
theorem d_La_rooms_209 : decode c_La_rooms 209 = .ok (.iconst 1, 1) := by decide +kernel
theorem d_La_rooms_210 : decode c_La_rooms 210 = .ok (.invokevirtual 19, 3) := by decide +kernel
theorem d_La_rooms_213 : decode c_La_rooms 213 = .ok (.if_icmp .ne 38, 3) := by decide +kernel
theorem d_La_rooms_216 : decode c_La_rooms 216 = .ok (.iload 7, 2) := by decide +kernel
theorem d_La_rooms_218 : decode c_La_rooms 218 = .ok (.aload_n 0, 1) := by decide +kernel
theorem d_La_rooms_219 : decode c_La_rooms 219 = .ok (.iload_n 3, 1) := by decide +kernel
theorem d_La_rooms_220 : decode c_La_rooms 220 = .ok (.iconst 0, 1) := by decide +kernel
theorem d_La_rooms_221 : decode c_La_rooms 221 = .ok (.invokevirtual 19, 3) := by decide +kernel
theorem d_La_rooms_224 : decode c_La_rooms 224 = .ok (.if_icmp .gt 27, 3) := by decide +kernel
theorem d_La_rooms_227 : decode c_La_rooms 227 = .ok (.iload 5, 2) := by decide +kernel
theorem d_La_rooms_229 : decode c_La_rooms 229 = .ok (.aload_n 0, 1) := by decide +kernel
theorem d_La_rooms_230 : decode c_La_rooms 230 = .ok (.iload_n 3, 1) := by decide +kernel
theorem d_La_rooms_231 : decode c_La_rooms 231 = .ok (.iconst 0, 1) := by decide +kernel
theorem d_La_rooms_232 : decode c_La_rooms 232 = .ok (.invokevirtual 19, 3) := by decide +kernel
theorem d_La_rooms_235 : decode c_La_rooms 235 = .ok (.if_icmp .lt 16, 3) := by decide +kernel
theorem d_La_rooms_238 : decode c_La_rooms 238 = .ok (.aload_n 0, 1) := by decide +kernel
theorem d_La_rooms_239 : decode c_La_rooms 239 = .ok (.iload_n 3, 1) := by decide +kernel
theorem d_La_rooms_240 : decode c_La_rooms 240 = .ok (.iload 5, 2) := by decide +kernel
theorem d_La_rooms_242 : decode c_La_rooms 242 = .ok (.iconst 0, 1) := by decide +kernel
theorem d_La_rooms_243 : decode c_La_rooms 243 = .ok (.invokevirtual 26, 3) := by decide +kernel
theorem d_La_rooms_246 : decode c_La_rooms 246 = .ok (.bipush (-5), 2) := by decide +kernel
theorem d_La_rooms_248 : decode c_La_rooms 248 = .ok (.if_icmp .eq 5, 3) := by decide +kernel
theorem d_La_rooms_251 : decode c_La_rooms 251 = .ok (.iconst 0, 1) := by decide +kernel
theorem d_La_rooms_252 : decode c_La_rooms 252 = .ok (.ireturn, 1) := by decide +kernel
theorem d_La_rooms_253 : decode c_La_rooms 253 = .ok (.iinc 3 1, 3) := by decide +kernel
theorem d_La_rooms_256 : decode c_La_rooms 256 = .ok (.goto (-250), 3) := by decide +kernel
theorem d_La_rooms_259 : decode c_La_rooms 259 = .ok (.iload_n 1, 1) := by decide +kernel
theorem d_La_rooms_260 : decode c_La_rooms 260 = .ok (.aload_n 0, 1) := by decide +kernel
theorem d_La_rooms_261 : decode c_La_rooms 261 = .ok (.iconst 2, 1) := by decide +kernel
theorem d_La_rooms_262 : decode c_La_rooms 262 = .ok (.invokevirtual 9, 3) := by decide +kernel
theorem d_La_rooms_265 : decode c_La_rooms 265 = .ok (.if_icmp .ne 17, 3) := by decide +kernel
theorem d_La_rooms_268 : decode c_La_rooms 268 = .ok (.iload_n 2, 1) := by decide +kernel
theorem d_La_rooms_269 : decode c_La_rooms 269 = .ok (.aload_n 0, 1) := by decide +kernel
theorem d_La_rooms_270 : decode c_La_rooms 270 = .ok (.bipush 7, 2) := by decide +kernel
theorem d_La_rooms_272 : decode c_La_rooms 272 = .ok (.invokevirtual 9, 3) := by decide +kernel
theorem d_La_rooms_275 : decode c_La_rooms 275 = .ok (.if_icmp .ne 7, 3) := by decide +kernel
theorem d_La_rooms_278 : decode c_La_rooms 278 = .ok (.iconst 1, 1) := by decide +kernel
theorem d_La_rooms_279 : decode c_La_rooms 279 = .ok (.goto 4, 3) := by decide +kernel
theorem d_La_rooms_282 : decode c_La_rooms 282 = .ok (.iconst 0, 1) := by decide +kernel
theorem d_La_rooms_283 : decode c_La_rooms 283 = .ok (.ireturn, 1) := by decide +kernel
theorem d_La_number_0 : decode c_La_number 0 = .ok (.iload_n 1, 1) := by decide +kernel
theorem d_La_number_1 : decode c_La_number 1 = .ok (.bipush 9, 2) := by decide +kernel
theorem d_La_number_3 : decode c_La_number 3 = .ok (.if_icmp .le 16, 3) := by decide +kernel
theorem d_La_number_6 : decode c_La_number 6 = .ok (.aload_n 0, 1) := by decide +kernel
theorem d_La_number_7 : decode c_La_number 7 = .ok (.bipush 48, 2) := by decide +kernel
theorem d_La_number_9 : decode c_La_number 9 = .ok (.iload_n 1, 1) := by decide +kernel
theorem d_La_number_10 : decode c_La_number 10 = .ok (.bipush 10, 2) := by decide +kernel
theorem d_La_number_12 : decode c_La_number 12 = .ok (.idiv, 1) := by decide +kernel
theorem d_La_number_13 : decode c_La_number 13 = .ok (.iadd, 1) := by decide +kernel
theorem d_La_number_14 : decode c_La_number 14 = .ok (.i2c, 1) := by decide +kernel
theorem d_La_number_15 : decode c_La_number 15 = .ok (.invokevirtual 30, 3) := by decide +kernel
theorem d_La_number_18 : decode c_La_number 18 = .ok (.pop, 1) := by decide +kernel
theorem d_La_number_19 : decode c_La_number 19 = .ok (.aload_n 0, 1) := by decide +kernel
theorem d_La_number_20 : decode c_La_number 20 = .ok (.bipush 48, 2) := by decide +kernel
theorem d_La_number_22 : decode c_La_number 22 = .ok (.iload_n 1, 1) := by decide +kernel
theorem d_La_number_23 : decode c_La_number 23 = .ok (.bipush 10, 2) := by decide +kernel
theorem d_La_number_25 : decode c_La_number 25 = .ok (.irem, 1) := by decide +kernel
theorem d_La_number_26 : decode c_La_number 26 = .ok (.iadd, 1) := by decide +kernel
theorem d_La_number_27 : decode c_La_number 27 = .ok (.i2c, 1) := by decide +kernel
theorem d_La_number_28 : decode c_La_number 28 = .ok (.invokevirtual 30, 3) := by decide +kernel
theorem d_La_number_31 : decode c_La_number 31 = .ok (.pop, 1) := by decide +kernel
theorem d_La_number_32 : decode c_La_number 32 = .ok (.return_, 1) := by decide +kernel
theorem d_La_read_0 : decode c_La_read 0 = .ok (.aload_n 0, 1) := by decide +kernel
theorem d_La_read_1 : decode c_La_read 1 = .ok (.invokevirtual 34, 3) := by decide +kernel
theorem d_La_read_4 : decode c_La_read 4 = .ok (.pop, 1) := by decide +kernel
theorem d_La_read_5 : decode c_La_read 5 = .ok (.aload_n 0, 1) := by decide +kernel
theorem d_La_read_6 : decode c_La_read 6 = .ok (.iconst 1, 1) := by decide +kernel
theorem d_La_read_7 : decode c_La_read 7 = .ok (.iload_n 1, 1) := by decide +kernel
theorem d_La_read_8 : decode c_La_read 8 = .ok (.bipush 30, 2) := by decide +kernel
theorem d_La_read_10 : decode c_La_read 10 = .ok (.invokestatic 38, 3) := by decide +kernel
theorem d_La_read_13 : decode c_La_read 13 = .ok (.iadd, 1) := by decide +kernel
theorem d_La_read_14 : decode c_La_read 14 = .ok (.invokestatic 43, 3) := by decide +kernel
theorem d_La_read_17 : decode c_La_read 17 = .ok (.aload_n 0, 1) := by decide +kernel
theorem d_La_read_18 : decode c_La_read 18 = .ok (.bipush 120, 2) := by decide +kernel
theorem d_La_read_20 : decode c_La_read 20 = .ok (.invokevirtual 30, 3) := by decide +kernel
theorem d_La_read_23 : decode c_La_read 23 = .ok (.pop, 1) := by decide +kernel
theorem d_La_read_24 : decode c_La_read 24 = .ok (.aload_n 0, 1) := by decide +kernel
theorem d_La_read_25 : decode c_La_read 25 = .ok (.iconst 1, 1) := by decide +kernel
theorem d_La_read_26 : decode c_La_read 26 = .ok (.iload_n 1, 1) := by decide +kernel
theorem d_La_read_27 : decode c_La_read 27 = .ok (.iconst 5, 1) := by decide +kernel
theorem d_La_read_28 : decode c_La_read 28 = .ok (.ishr, 1) := by decide +kernel
theorem d_La_read_29 : decode c_La_read 29 = .ok (.bipush 30, 2) := by decide +kernel
theorem d_La_read_31 : decode c_La_read 31 = .ok (.invokestatic 38, 3) := by decide +kernel
theorem d_La_read_34 : decode c_La_read 34 = .ok (.iadd, 1) := by decide +kernel
theorem d_La_read_35 : decode c_La_read 35 = .ok (.invokestatic 43, 3) := by decide +kernel
theorem d_La_read_38 : decode c_La_read 38 = .ok (.iload_n 1, 1) := by decide +kernel
theorem d_La_read_39 : decode c_La_read 39 = .ok (.bipush 9, 2) := by decide +kernel
theorem d_La_read_41 : decode c_La_read 41 = .ok (.ishr, 1) := by decide +kernel
theorem d_La_read_42 : decode c_La_read 42 = .ok (.iconst 2, 1) := by decide +kernel
theorem d_La_read_43 : decode c_La_read 43 = .ok (.invokestatic 38, 3) := by decide +kernel
theorem d_La_read_46 : decode c_La_read 46 = .ok (.ifCond .ne 46, 3) := by decide +kernel
theorem d_La_read_49 : decode c_La_read 49 = .ok (.aload_n 0, 1) := by decide +kernel
theorem d_La_read_50 : decode c_La_read 50 = .ok (.bipush 43, 2) := by decide +kernel
theorem d_La_read_52 : decode c_La_read 52 = .ok (.invokevirtual 30, 3) := by decide +kernel
theorem d_La_read_55 : decode c_La_read 55 = .ok (.pop, 1) := by decide +kernel
theorem d_La_read_56 : decode c_La_read 56 = .ok (.aload_n 0, 1) := by decide +kernel
theorem d_La_read_57 : decode c_La_read 57 = .ok (.iconst 1, 1) := by decide +kernel
theorem d_La_read_58 : decode c_La_read 58 = .ok (.iload_n 1, 1) := by decide +kernel
theorem d_La_read_59 : decode c_La_read 59 = .ok (.iconst 2, 1) := by decide +kernel
theorem d_La_read_60 : decode c_La_read 60 = .ok (.ishr, 1) := by decide +kernel
theorem d_La_read_61 : decode c_La_read 61 = .ok (.bipush 9, 2) := by decide +kernel
theorem d_La_read_63 : decode c_La_read 63 = .ok (.invokestatic 38, 3) := by decide +kernel
theorem d_La_read_66 : decode c_La_read 66 = .ok (.iadd, 1) := by decide +kernel
theorem d_La_read_67 : decode c_La_read 67 = .ok (.invokestatic 43, 3) := by decide +kernel
theorem d_La_read_70 : decode c_La_read 70 = .ok (.aload_n 0, 1) := by decide +kernel
theorem d_La_read_71 : decode c_La_read 71 = .ok (.bipush 120, 2) := by decide +kernel
theorem d_La_read_73 : decode c_La_read 73 = .ok (.invokevirtual 30, 3) := by decide +kernel
theorem d_La_read_76 : decode c_La_read 76 = .ok (.pop, 1) := by decide +kernel
theorem d_La_read_77 : decode c_La_read 77 = .ok (.aload_n 0, 1) := by decide +kernel
theorem d_La_read_78 : decode c_La_read 78 = .ok (.iconst 1, 1) := by decide +kernel
theorem d_La_read_79 : decode c_La_read 79 = .ok (.iload_n 1, 1) := by decide +kernel
theorem d_La_read_80 : decode c_La_read 80 = .ok (.bipush 7, 2) := by decide +kernel
theorem d_La_read_82 : decode c_La_read 82 = .ok (.ishr, 1) := by decide +kernel
theorem d_La_read_83 : decode c_La_read 83 = .ok (.bipush 9, 2) := by decide +kernel
theorem d_La_read_85 : decode c_La_read 85 = .ok (.invokestatic 38, 3) := by decide +kernel
theorem d_La_read_88 : decode c_La_read 88 = .ok (.iadd, 1) := by decide +kernel
theorem d_La_read_89 : decode c_La_read 89 = .ok (.invokestatic 43, 3) := by decide +kernel
theorem d_La_read_92 : decode c_La_read 92 = .ok (.aload_n 0, 1) := by decide +kernel
theorem d_La_read_93 : decode c_La_read 93 = .ok (.bipush 64, 2) := by decide +kernel
theorem d_La_read_95 : decode c_La_read 95 = .ok (.invokevirtual 30, 3) := by decide +kernel
theorem d_La_read_98 : decode c_La_read 98 = .ok (.pop, 1) := by decide +kernel
theorem d_La_read_99 : decode c_La_read 99 = .ok (.aload_n 0, 1) := by decide +kernel
theorem d_La_read_100 : decode c_La_read 100 = .ok (.bipush 48, 2) := by decide +kernel
theorem d_La_read_102 : decode c_La_read 102 = .ok (.iload_n 1, 1) := by decide +kernel
theorem d_La_read_103 : decode c_La_read 103 = .ok (.bipush 11, 2) := by decide +kernel
theorem d_La_read_105 : decode c_La_read 105 = .ok (.ishr, 1) := by decide +kernel
theorem d_La_read_106 : decode c_La_read 106 = .ok (.iconst 5, 1) := by decide +kernel
theorem d_La_read_107 : decode c_La_read 107 = .ok (.invokestatic 38, 3) := by decide +kernel
theorem d_La_read_110 : decode c_La_read 110 = .ok (.iadd, 1) := by decide +kernel
theorem d_La_read_111 : decode c_La_read 111 = .ok (.i2c, 1) := by decide +kernel
theorem d_La_read_112 : decode c_La_read 112 = .ok (.invokevirtual 30, 3) := by decide +kernel
theorem d_La_read_115 : decode c_La_read 115 = .ok (.pop, 1) := by decide +kernel
theorem d_La_read_116 : decode c_La_read 116 = .ok (.aload_n 0, 1) := by decide +kernel
theorem d_La_read_117 : decode c_La_read 117 = .ok (.invokevirtual 47, 3) := by decide +kernel
theorem d_La_read_120 : decode c_La_read 120 = .ok (.ireturn, 1) := by decide +kernel
theorem d_La_act_0 : decode c_La_act 0 = .ok (.iload_n 1, 1) := by decide +kernel
theorem d_La_act_1 : decode c_La_act 1 = .ok (.iconst 3, 1) := by decide +kernel
theorem d_La_act_2 : decode c_La_act 2 = .ok (.ishr, 1) := by decide +kernel
theorem d_La_act_3 : decode c_La_act 3 = .ok (.bipush 14, 2) := by decide +kernel
theorem d_La_act_5 : decode c_La_act 5 = .ok (.invokestatic 38, 3) := by decide +kernel
theorem d_La_act_8 : decode c_La_act 8 = .ok (.istore_n 3, 1) := by decide +kernel
theorem d_La_act_9 : decode c_La_act 9 = .ok (.iload_n 2, 1) := by decide +kernel
theorem d_La_act_10 : decode c_La_act 10 = .ok (.aload_n 0, 1) := by decide +kernel
theorem d_La_act_11 : decode c_La_act 11 = .ok (.iconst 1, 1) := by decide +kernel
theorem d_La_act_12 : decode c_La_act 12 = .ok (.invokevirtual 9, 3) := by decide +kernel
theorem d_La_act_15 : decode c_La_act 15 = .ok (.iconst 1, 1) := by decide +kernel
theorem d_La_act_16 : decode c_La_act 16 = .ok (.iadd, 1) := by decide +kernel
theorem d_La_act_17 : decode c_La_act 17 = .ok (.invokestatic 38, 3) := by decide +kernel
theorem d_La_act_20 : decode c_La_act 20 = .ok (.istore 4, 2) := by decide +kernel
theorem d_La_act_22 : decode c_La_act 22 = .ok (.iload_n 3, 1) := by decide +kernel
theorem d_La_act_23 : decode c_La_act 23 = .ok (.iconst 2, 1) := by decide +kernel
theorem d_La_act_24 : decode c_La_act 24 = .ok (.if_icmp .ge 43, 3) := by decide +kernel
theorem d_La_act_27 : decode c_La_act 27 = .ok (.aload_n 0, 1) := by decide +kernel
theorem d_La_act_28 : decode c_La_act 28 = .ok (.iload_n 2, 1) := by decide +kernel
theorem d_La_act_29 : decode c_La_act 29 = .ok (.iconst 3, 1) := by decide +kernel
theorem d_La_act_30 : decode c_La_act 30 = .ok (.invokestatic 38, 3) := by decide +kernel
theorem d_La_act_33 : decode c_La_act 33 = .ok (.iconst 4, 1) := by decide +kernel
theorem d_La_act_34 : decode c_La_act 34 = .ok (.iload_n 2, 1) := by decide +kernel
theorem d_La_act_35 : decode c_La_act 35 = .ok (.iconst 2, 1) := by decide +kernel
theorem d_La_act_36 : decode c_La_act 36 = .ok (.ishr, 1) := by decide +kernel
theorem d_La_act_37 : decode c_La_act 37 = .ok (.bipush 25, 2) := by decide +kernel
theorem d_La_act_39 : decode c_La_act 39 = .ok (.invokestatic 38, 3) := by decide +kernel
theorem d_La_act_42 : decode c_La_act 42 = .ok (.iadd, 1) := by decide +kernel
theorem d_La_act_43 : decode c_La_act 43 = .ok (.iconst 1, 1) := by decide +kernel
theorem d_La_act_44 : decode c_La_act 44 = .ok (.iload_n 2, 1) := by decide +kernel
theorem d_La_act_45 : decode c_La_act 45 = .ok (.bipush 6, 2) := by decide +kernel
theorem d_La_act_47 : decode c_La_act 47 = .ok (.ishr, 1) := by decide +kernel
theorem d_La_act_48 : decode c_La_act 48 = .ok (.bipush 120, 2) := by decide +kernel
theorem d_La_act_50 : decode c_La_act 50 = .ok (.invokestatic 38, 3) := by decide +kernel
theorem d_La_act_53 : decode c_La_act 53 = .ok (.iadd, 1) := by decide +kernel
theorem d_La_act_54 : decode c_La_act 54 = .ok (.iload_n 2, 1) := by decide +kernel
theorem d_La_act_55 : decode c_La_act 55 = .ok (.bipush 9, 2) := by decide +kernel
theorem d_La_act_57 : decode c_La_act 57 = .ok (.ishr, 1) := by decide +kernel
theorem d_La_act_58 : decode c_La_act 58 = .ok (.bipush 100, 2) := by decide +kernel
theorem d_La_act_60 : decode c_La_act 60 = .ok (.invokestatic 38, 3) := by decide +kernel
theorem d_La_act_63 : decode c_La_act 63 = .ok (.invokevirtual 50, 3) := by decide +kernel
theorem d_La_act_66 : decode c_La_act 66 = .ok (.ireturn, 1) := by decide +kernel
theorem d_La_act_67 : decode c_La_act 67 = .ok (.iload_n 3, 1) := by decide +kernel
theorem d_La_act_68 : decode c_La_act 68 = .ok (.iconst 5, 1) := by decide +kernel
theorem d_La_act_69 : decode c_La_act 69 = .ok (.if_icmp .ge 9, 3) := by decide +kernel
theorem d_La_act_72 : decode c_La_act 72 = .ok (.aload_n 0, 1) := by decide +kernel
theorem d_La_act_73 : decode c_La_act 73 = .ok (.iload_n 2, 1) := by decide +kernel
theorem d_La_act_74 : decode c_La_act 74 = .ok (.invokestatic 54, 3) := by decide +kernel
theorem d_La_act_77 : decode c_La_act 77 = .ok (.ireturn, 1) := by decide +kernel
theorem d_La_act_78 : decode c_La_act 78 = .ok (.iload_n 3, 1) := by decide +kernel
theorem d_La_act_79 : decode c_La_act 79 = .ok (.bipush 10, 2) := by decide +kernel
theorem d_La_act_81 : decode c_La_act 81 = .ok (.if_icmp .ge 31, 3) := by decide +kernel
theorem d_La_act_84 : decode c_La_act 84 = .ok (.aload_n 0, 1) := by decide +kernel
theorem d_La_act_85 : decode c_La_act 85 = .ok (.iload 4, 2) := by decide +kernel
theorem d_La_act_87 : decode c_La_act 87 = .ok (.iload_n 2, 1) := by decide +kernel
theorem d_La_act_88 : decode c_La_act 88 = .ok (.iconst 4, 1) := by decide +kernel
theorem d_La_act_89 : decode c_La_act 89 = .ok (.ishr, 1) := by decide +kernel
theorem d_La_act_90 : decode c_La_act 90 = .ok (.aload_n 0, 1) := by decide +kernel
theorem d_La_act_91 : decode c_La_act 91 = .ok (.iconst 0, 1) := by decide +kernel
theorem d_La_act_92 : decode c_La_act 92 = .ok (.invokevirtual 9, 3) := by decide +kernel
theorem d_La_act_95 : decode c_La_act 95 = .ok (.iconst 1, 1) := by decide +kernel
theorem d_La_act_96 : decode c_La_act 96 = .ok (.iadd, 1) := by decide +kernel
theorem d_La_act_97 : decode c_La_act 97 = .ok (.invokestatic 38, 3) := by decide +kernel
theorem d_La_act_100 : decode c_La_act 100 = .ok (.iload_n 2, 1) := by decide +kernel
theorem d_La_act_101 : decode c_La_act 101 = .ok (.bipush 7, 2) := by decide +kernel
theorem d_La_act_103 : decode c_La_act 103 = .ok (.ishr, 1) := by decide +kernel
theorem d_La_act_104 : decode c_La_act 104 = .ok (.iconst 2, 1) := by decide +kernel
theorem d_La_act_105 : decode c_La_act 105 = .ok (.invokestatic 38, 3) := by decide +kernel
theorem d_La_act_108 : decode c_La_act 108 = .ok (.invokevirtual 58, 3) := by decide +kernel
theorem d_La_act_111 : decode c_La_act 111 = .ok (.ireturn, 1) := by decide +kernel
theorem d_La_act_112 : decode c_La_act 112 = .ok (.iload_n 3, 1) := by decide +kernel
theorem d_La_act_113 : decode c_La_act 113 = .ok (.bipush 10, 2) := by decide +kernel
theorem d_La_act_115 : decode c_La_act 115 = .ok (.if_icmp .ne 10, 3) := by decide +kernel
theorem d_La_act_118 : decode c_La_act 118 = .ok (.aload_n 0, 1) := by decide +kernel
theorem d_La_act_119 : decode c_La_act 119 = .ok (.iload 4, 2) := by decide +kernel
theorem d_La_act_121 : decode c_La_act 121 = .ok (.invokevirtual 61, 3) := by decide +kernel
theorem d_La_act_124 : decode c_La_act 124 = .ok (.ireturn, 1) := by decide +kernel
theorem d_La_act_125 : decode c_La_act 125 = .ok (.iload_n 3, 1) := by decide +kernel
theorem d_La_act_126 : decode c_La_act 126 = .ok (.bipush 11, 2) := by decide +kernel
theorem d_La_act_128 : decode c_La_act 128 = .ok (.if_icmp .ne 19, 3) := by decide +kernel
theorem d_La_act_131 : decode c_La_act 131 = .ok (.aload_n 0, 1) := by decide +kernel
theorem d_La_act_132 : decode c_La_act 132 = .ok (.iload_n 2, 1) := by decide +kernel
theorem d_La_act_133 : decode c_La_act 133 = .ok (.aload_n 0, 1) := by decide +kernel
theorem d_La_act_134 : decode c_La_act 134 = .ok (.iconst 4, 1) := by decide +kernel
theorem d_La_act_135 : decode c_La_act 135 = .ok (.invokevirtual 9, 3) := by decide +kernel
theorem d_La_act_138 : decode c_La_act 138 = .ok (.iconst 1, 1) := by decide +kernel
theorem d_La_act_139 : decode c_La_act 139 = .ok (.iadd, 1) := by decide +kernel
theorem d_La_act_140 : decode c_La_act 140 = .ok (.invokestatic 38, 3) := by decide +kernel
theorem d_La_act_143 : decode c_La_act 143 = .ok (.invokevirtual 64, 3) := by decide +kernel
theorem d_La_act_146 : decode c_La_act 146 = .ok (.ireturn, 1) := by decide +kernel
theorem d_La_act_147 : decode c_La_act 147 = .ok (.iload_n 3, 1) := by decide +kernel
theorem d_La_act_148 : decode c_La_act 148 = .ok (.bipush 12, 2) := by decide +kernel
theorem d_La_act_150 : decode c_La_act 150 = .ok (.if_icmp .ne 30, 3) := by decide +kernel
theorem d_La_act_153 : decode c_La_act 153 = .ok (.aload_n 0, 1) := by decide +kernel
theorem d_La_act_154 : decode c_La_act 154 = .ok (.iload_n 2, 1) := by decide +kernel
theorem d_La_act_155 : decode c_La_act 155 = .ok (.aload_n 0, 1) := by decide +kernel
theorem d_La_act_156 : decode c_La_act 156 = .ok (.iconst 0, 1) := by decide +kernel
theorem d_La_act_157 : decode c_La_act 157 = .ok (.invokevirtual 9, 3) := by decide +kernel
theorem d_La_act_160 : decode c_La_act 160 = .ok (.iconst 1, 1) := by decide +kernel
theorem d_La_act_161 : decode c_La_act 161 = .ok (.iadd, 1) := by decide +kernel
theorem d_La_act_162 : decode c_La_act 162 = .ok (.invokestatic 38, 3) := by decide +kernel
theorem d_La_act_165 : decode c_La_act 165 = .ok (.iconst 1, 1) := by decide +kernel
theorem d_La_act_166 : decode c_La_act 166 = .ok (.iload_n 2, 1) := by decide +kernel
theorem d_La_act_167 : decode c_La_act 167 = .ok (.iconst 3, 1) := by decide +kernel
theorem d_La_act_168 : decode c_La_act 168 = .ok (.ishr, 1) := by decide +kernel
theorem d_La_act_169 : decode c_La_act 169 = .ok (.sipush 200, 3) := by decide +kernel
theorem d_La_act_172 : decode c_La_act 172 = .ok (.invokestatic 38, 3) := by decide +kernel
theorem d_La_act_175 : decode c_La_act 175 = .ok (.iadd, 1) := by decide +kernel
theorem d_La_act_176 : decode c_La_act 176 = .ok (.invokevirtual 67, 3) := by decide +kernel
theorem d_La_act_179 : decode c_La_act 179 = .ok (.ireturn, 1) := by decide +kernel
theorem d_La_act_180 : decode c_La_act 180 = .ok (.iload_n 2, 1) := by decide +kernel
theorem d_La_act_181 : decode c_La_act 181 = .ok (.iconst 5, 1) := by decide +kernel
theorem d_La_act_182 : decode c_La_act 182 = .ok (.invokestatic 38, 3) := by decide +kernel
theorem d_La_act_185 : decode c_La_act 185 = .ok (.istore 5, 2) := by decide +kernel
theorem d_La_act_187 : decode c_La_act 187 = .ok (.aload_n 0, 1) := by decide +kernel
theorem d_La_act_188 : decode c_La_act 188 = .ok (.iload 5, 2) := by decide +kernel
theorem d_La_act_190 : decode c_La_act 190 = .ok (.iload_n 2, 1) := by decide +kernel
theorem d_La_act_191 : decode c_La_act 191 = .ok (.iconst 3, 1) := by decide +kernel
theorem d_La_act_192 : decode c_La_act 192 = .ok (.ishr, 1) := by decide +kernel
theorem d_La_act_193 : decode c_La_act 193 = .ok (.iload 5, 2) := by decide +kernel
theorem d_La_act_195 : decode c_La_act 195 = .ok (.ifCond .ne 7, 3) := by decide +kernel
theorem d_La_act_198 : decode c_La_act 198 = .ok (.iconst 3, 1) := by decide +kernel
theorem d_La_act_199 : decode c_La_act 199 = .ok (.goto 15, 3) := by decide +kernel
theorem d_La_act_202 : decode c_La_act 202 = .ok (.iload 5, 2) := by decide +kernel
theorem d_La_act_204 : decode c_La_act 204 = .ok (.iconst 4, 1) := by decide +kernel
theorem d_La_act_205 : decode c_La_act 205 = .ok (.if_icmp .ne 7, 3) := by decide +kernel
theorem d_La_act_208 : decode c_La_act 208 = .ok (.iconst 2, 1) := by decide +kernel
theorem d_La_act_209 : decode c_La_act 209 = .ok (.goto 5, 3) := by decide +kernel
theorem d_La_act_212 : decode c_La_act 212 = .ok (.bipush 10, 2) := by decide +kernel
theorem d_La_act_214 : decode c_La_act 214 = .ok (.invokestatic 38, 3) := by decide +kernel
theorem d_La_act_217 : decode c_La_act 217 = .ok (.invokevirtual 70, 3) := by decide +kernel
theorem d_La_act_220 : decode c_La_act 220 = .ok (.ireturn, 1) := by decide +kernel
theorem d_La_again_0 : decode c_La_again 0 = .ok (.aload_n 0, 1) := by decide +kernel
theorem d_La_again_1 : decode c_La_again 1 = .ok (.iconst 4, 1) := by decide +kernel
theorem d_La_again_2 : decode c_La_again 2 = .ok (.invokevirtual 9, 3) := by decide +kernel
theorem d_La_again_5 : decode c_La_again 5 = .ok (.istore 4, 2) := by decide +kernel
theorem d_La_again_7 : decode c_La_again 7 = .ok (.aload_n 0, 1) := by decide +kernel
theorem d_La_again_8 : decode c_La_again 8 = .ok (.iload_n 1, 1) := by decide +kernel
theorem d_La_again_9 : decode c_La_again 9 = .ok (.iload_n 2, 1) := by decide +kernel
theorem d_La_again_10 : decode c_La_again 10 = .ok (.iload_n 3, 1) := by decide +kernel
theorem d_La_again_11 : decode c_La_again 11 = .ok (.invokevirtual 58, 3) := by decide +kernel
theorem d_La_again_14 : decode c_La_again 14 = .ok (.istore 5, 2) := by decide +kernel
theorem d_La_again_16 : decode c_La_again 16 = .ok (.iload 5, 2) := by decide +kernel
theorem d_La_again_18 : decode c_La_again 18 = .ok (.ifCond .ge 5, 3) := by decide +kernel
theorem d_La_again_21 : decode c_La_again 21 = .ok (.iconst 1, 1) := by decide +kernel
theorem d_La_again_22 : decode c_La_again 22 = .ok (.ireturn, 1) := by decide +kernel
theorem d_La_again_23 : decode c_La_again 23 = .ok (.aload_n 0, 1) := by decide +kernel
theorem d_La_again_24 : decode c_La_again 24 = .ok (.iload_n 1, 1) := by decide +kernel
theorem d_La_again_25 : decode c_La_again 25 = .ok (.bipush 6, 2) := by decide +kernel
theorem d_La_again_27 : decode c_La_again 27 = .ok (.invokevirtual 19, 3) := by decide +kernel
theorem d_La_again_30 : decode c_La_again 30 = .ok (.istore 6, 2) := by decide +kernel
theorem d_La_again_32 : decode c_La_again 32 = .ok (.aload_n 0, 1) := by decide +kernel
theorem d_La_again_33 : decode c_La_again 33 = .ok (.iconst 4, 1) := by decide +kernel
theorem d_La_again_34 : decode c_La_again 34 = .ok (.invokevirtual 9, 3) := by decide +kernel
theorem d_La_again_37 : decode c_La_again 37 = .ok (.istore 7, 2) := by decide +kernel
theorem d_La_again_39 : decode c_La_again 39 = .ok (.aload_n 0, 1) := by decide +kernel
theorem d_La_again_40 : decode c_La_again 40 = .ok (.iload_n 2, 1) := by decide +kernel
theorem d_La_again_41 : decode c_La_again 41 = .ok (.bipush 7, 2) := by decide +kernel
theorem d_La_again_43 : decode c_La_again 43 = .ok (.invokevirtual 15, 3) := by decide +kernel
theorem d_La_again_46 : decode c_La_again 46 = .ok (.istore 8, 2) := by decide +kernel
theorem d_La_again_48 : decode c_La_again 48 = .ok (.aload_n 0, 1) := by decide +kernel
theorem d_La_again_49 : decode c_La_again 49 = .ok (.iload_n 1, 1) := by decide +kernel
theorem d_La_again_50 : decode c_La_again 50 = .ok (.iconst 0, 1) := by decide +kernel
theorem d_La_again_51 : decode c_La_again 51 = .ok (.iconst 0, 1) := by decide +kernel
theorem d_La_again_52 : decode c_La_again 52 = .ok (.invokevirtual 26, 3) := by decide +kernel
theorem d_La_again_55 : decode c_La_again 55 = .ok (.istore 9, 2) := by decide +kernel
theorem d_La_again_57 : decode c_La_again 57 = .ok (.aload_n 0, 1) := by decide +kernel
theorem d_La_again_58 : decode c_La_again 58 = .ok (.iload_n 1, 1) := by decide +kernel
theorem d_La_again_59 : decode c_La_again 59 = .ok (.iconst 0, 1) := by decide +kernel
theorem d_La_again_60 : decode c_La_again 60 = .ok (.iconst 1, 1) := by decide +kernel
theorem d_La_again_61 : decode c_La_again 61 = .ok (.invokevirtual 26, 3) := by decide +kernel
theorem d_La_again_64 : decode c_La_again 64 = .ok (.istore 10, 2) := by decide +kernel
theorem d_La_again_66 : decode c_La_again 66 = .ok (.aload_n 0, 1) := by decide +kernel
theorem d_La_again_67 : decode c_La_again 67 = .ok (.iload_n 1, 1) := by decide +kernel
theorem d_La_again_68 : decode c_La_again 68 = .ok (.invokevirtual 61, 3) := by decide +kernel
theorem d_La_again_71 : decode c_La_again 71 = .ok (.istore 11, 2) := by decide +kernel
theorem d_La_again_73 : decode c_La_again 73 = .ok (.iload 11, 2) := by decide +kernel
theorem d_La_again_75 : decode c_La_again 75 = .ok (.iload 6, 2) := by decide +kernel
theorem d_La_again_77 : decode c_La_again 77 = .ok (.if_icmp .gt 61, 3) := by decide +kernel
theorem d_La_again_80 : decode c_La_again 80 = .ok (.iload 11, 2) := by decide +kernel
theorem d_La_again_82 : decode c_La_again 82 = .ok (.iload 6, 2) := by decide +kernel
theorem d_La_again_84 : decode c_La_again 84 = .ok (.if_icmp .ne 7, 3) := by decide +kernel
theorem d_La_again_87 : decode c_La_again 87 = .ok (.iconst 1, 1) := by decide +kernel
theorem d_La_again_88 : decode c_La_again 88 = .ok (.goto 4, 3) := by decide +kernel
theorem d_La_again_91 : decode c_La_again 91 = .ok (.iconst 0, 1) := by decide +kernel
theorem d_La_again_92 : decode c_La_again 92 = .ok (.aload_n 0, 1) := by decide +kernel
theorem d_La_again_93 : decode c_La_again 93 = .ok (.iload_n 2, 1) := by decide +kernel
theorem d_La_again_94 : decode c_La_again 94 = .ok (.bipush 7, 2) := by decide +kernel
theorem d_La_again_96 : decode c_La_again 96 = .ok (.invokevirtual 15, 3) := by decide +kernel
theorem d_La_again_99 : decode c_La_again 99 = .ok (.iload 8, 2) := by decide +kernel
theorem d_La_again_101 : decode c_La_again 101 = .ok (.if_icmp .ne 7, 3) := by decide +kernel
theorem d_La_again_104 : decode c_La_again 104 = .ok (.iconst 1, 1) := by decide +kernel
theorem d_La_again_105 : decode c_La_again 105 = .ok (.goto 4, 3) := by decide +kernel
theorem d_La_again_108 : decode c_La_again 108 = .ok (.iconst 0, 1) := by decide +kernel
theorem d_La_again_109 : decode c_La_again 109 = .ok (.if_icmp .ne 29, 3) := by decide +kernel
theorem d_La_again_112 : decode c_La_again 112 = .ok (.aload_n 0, 1) := by decide +kernel
theorem d_La_again_113 : decode c_La_again 113 = .ok (.iconst 4, 1) := by decide +kernel
theorem d_La_again_114 : decode c_La_again 114 = .ok (.invokevirtual 9, 3) := by decide +kernel
theorem d_La_again_117 : decode c_La_again 117 = .ok (.iload 7, 2) := by decide +kernel
theorem d_La_again_119 : decode c_La_again 119 = .ok (.iload 11, 2) := by decide +kernel
theorem d_La_again_121 : decode c_La_again 121 = .ok (.iadd, 1) := by decide +kernel
theorem d_La_again_122 : decode c_La_again 122 = .ok (.if_icmp .ne 16, 3) := by decide +kernel
theorem d_La_again_125 : decode c_La_again 125 = .ok (.aload_n 0, 1) := by decide +kernel
theorem d_La_again_126 : decode c_La_again 126 = .ok (.iload_n 1, 1) := by decide +kernel
theorem d_La_again_127 : decode c_La_again 127 = .ok (.iconst 3, 1) := by decide +kernel
theorem d_La_again_128 : decode c_La_again 128 = .ok (.invokevirtual 19, 3) := by decide +kernel
theorem d_La_again_131 : decode c_La_again 131 = .ok (.ifCond .ne 7, 3) := by decide +kernel
theorem d_La_again_134 : decode c_La_again 134 = .ok (.iconst 1, 1) := by decide +kernel
theorem d_La_again_135 : decode c_La_again 135 = .ok (.goto 4, 3) := by decide +kernel
theorem d_La_again_138 : decode c_La_again 138 = .ok (.iconst 0, 1) := by decide +kernel
theorem d_La_again_139 : decode c_La_again 139 = .ok (.istore 12, 2) := by decide +kernel
theorem d_La_again_141 : decode c_La_again 141 = .ok (.iload 12, 2) := by decide +kernel
theorem d_La_again_143 : decode c_La_again 143 = .ok (.iload 11, 2) := by decide +kernel
theorem d_La_again_145 : decode c_La_again 145 = .ok (.ifCond .eq 38, 3) := by decide +kernel
theorem d_La_again_148 : decode c_La_again 148 = .ok (.aload_n 0, 1) := by decide +kernel
theorem d_La_again_149 : decode c_La_again 149 = .ok (.iload 7, 2) := by decide +kernel
theorem d_La_again_151 : decode c_La_again 151 = .ok (.iconst 1, 1) := by decide +kernel
theorem d_La_again_152 : decode c_La_again 152 = .ok (.invokevirtual 73, 3) := by decide +kernel
theorem d_La_again_155 : decode c_La_again 155 = .ok (.iload 9, 2) := by decide +kernel
theorem d_La_again_157 : decode c_La_again 157 = .ok (.if_icmp .ne 30, 3) := by decide +kernel
theorem d_La_again_160 : decode c_La_again 160 = .ok (.aload_n 0, 1) := by decide +kernel
theorem d_La_again_161 : decode c_La_again 161 = .ok (.iload 7, 2) := by decide +kernel
theorem d_La_again_163 : decode c_La_again 163 = .ok (.iconst 2, 1) := by decide +kernel
theorem d_La_again_164 : decode c_La_again 164 = .ok (.invokevirtual 73, 3) := by decide +kernel
theorem d_La_again_167 : decode c_La_again 167 = .ok (.iload 10, 2) := by decide +kernel
theorem d_La_again_169 : decode c_La_again 169 = .ok (.if_icmp .ne 18, 3) := by decide +kernel
theorem d_La_again_172 : decode c_La_again 172 = .ok (.aload_n 0, 1) := by decide +kernel
theorem d_La_again_173 : decode c_La_again 173 = .ok (.iload 7, 2) := by decide +kernel
theorem d_La_again_175 : decode c_La_again 175 = .ok (.iconst 0, 1) := by decide +kernel
theorem d_La_again_176 : decode c_La_again 176 = .ok (.invokevirtual 73, 3) := by decide +kernel
theorem d_La_again_179 : decode c_La_again 179 = .ok (.iload_n 2, 1) := by decide +kernel
theorem d_La_again_180 : decode c_La_again 180 = .ok (.if_icmp .ne 7, 3) := by decide +kernel
theorem d_La_again_183 : decode c_La_again 183 = .ok (.iconst 1, 1) := by decide +kernel
theorem d_La_again_184 : decode c_La_again 184 = .ok (.goto 4, 3) := by decide +kernel
theorem d_La_again_187 : decode c_La_again 187 = .ok (.iconst 0, 1) := by decide +kernel
theorem d_La_again_188 : decode c_La_again 188 = .ok (.iand, 1) := by decide +kernel
theorem d_La_again_189 : decode c_La_again 189 = .ok (.istore 12, 2) := by decide +kernel
theorem d_La_again_191 : decode c_La_again 191 = .ok (.aload_n 0, 1) := by decide +kernel
theorem d_La_again_192 : decode c_La_again 192 = .ok (.invokevirtual 76, 3) := by decide +kernel
theorem d_La_again_195 : decode c_La_again 195 = .ok (.pop, 1) := by decide +kernel
theorem d_La_again_196 : decode c_La_again 196 = .ok (.aload_n 0, 1) := by decide +kernel
theorem d_La_again_197 : decode c_La_again 197 = .ok (.invokevirtual 76, 3) := by decide +kernel
theorem d_La_again_200 : decode c_La_again 200 = .ok (.pop, 1) := by decide +kernel
theorem d_La_again_201 : decode c_La_again 201 = .ok (.iload 12, 2) := by decide +kernel
theorem d_La_again_203 : decode c_La_again 203 = .ok (.ifCond .eq 26, 3) := by decide +kernel
theorem d_La_again_206 : decode c_La_again 206 = .ok (.aload_n 0, 1) := by decide +kernel
theorem d_La_again_207 : decode c_La_again 207 = .ok (.iconst 4, 1) := by decide +kernel
theorem d_La_again_208 : decode c_La_again 208 = .ok (.invokevirtual 9, 3) := by decide +kernel
theorem d_La_again_211 : decode c_La_again 211 = .ok (.iload 4, 2) := by decide +kernel
theorem d_La_again_213 : decode c_La_again 213 = .ok (.if_icmp .ne 16, 3) := by decide +kernel
theorem d_La_again_216 : decode c_La_again 216 = .ok (.aload_n 0, 1) := by decide +kernel
theorem d_La_again_217 : decode c_La_again 217 = .ok (.iload_n 1, 1) := by decide +kernel
theorem d_La_again_218 : decode c_La_again 218 = .ok (.iconst 3, 1) := by decide +kernel
theorem d_La_again_219 : decode c_La_again 219 = .ok (.invokevirtual 19, 3) := by decide +kernel
theorem d_La_again_222 : decode c_La_again 222 = .ok (.ifCond .ne 7, 3) := by decide +kernel
theorem d_La_again_225 : decode c_La_again 225 = .ok (.iconst 1, 1) := by decide +kernel
theorem d_La_again_226 : decode c_La_again 226 = .ok (.goto 4, 3) := by decide +kernel
theorem d_La_again_229 : decode c_La_again 229 = .ok (.iconst 0, 1) := by decide +kernel
theorem d_La_again_230 : decode c_La_again 230 = .ok (.ireturn, 1) := by decide +kernel
theorem d_La_law_0 : decode c_La_law 0 = .ok (.new 10, 3) := by decide +kernel
theorem d_La_law_3 : decode c_La_law 3 = .ok (.dup, 1) := by decide +kernel
theorem d_La_law_4 : decode c_La_law 4 = .ok (.invokespecial 79, 3) := by decide +kernel
theorem d_La_law_7 : decode c_La_law 7 = .ok (.astore_n 1, 1) := by decide +kernel
theorem d_La_law_8 : decode c_La_law 8 = .ok (.iconst 0, 1) := by decide +kernel
theorem d_La_law_9 : decode c_La_law 9 = .ok (.istore_n 2, 1) := by decide +kernel
theorem d_La_law_10 : decode c_La_law 10 = .ok (.iload_n 2, 1) := by decide +kernel
theorem d_La_law_11 : decode c_La_law 11 = .ok (.bipush 28, 2) := by decide +kernel
theorem d_La_law_13 : decode c_La_law 13 = .ok (.if_icmp .ge 234, 3) := by decide +kernel
theorem d_La_law_16 : decode c_La_law 16 = .ok (.aload_n 0, 1) := by decide +kernel
theorem d_La_law_17 : decode c_La_law 17 = .ok (.iconst 2, 1) := by decide +kernel
theorem d_La_law_18 : decode c_La_law 18 = .ok (.iload_n 2, 1) := by decide +kernel
theorem d_La_law_19 : decode c_La_law 19 = .ok (.imul, 1) := by decide +kernel
theorem d_La_law_20 : decode c_La_law 20 = .ok (.invokestatic 80, 3) := by decide +kernel
theorem d_La_law_23 : decode c_La_law 23 = .ok (.istore_n 3, 1) := by decide +kernel
theorem d_La_law_24 : decode c_La_law 24 = .ok (.aload_n 0, 1) := by decide +kernel
theorem d_La_law_25 : decode c_La_law 25 = .ok (.iconst 2, 1) := by decide +kernel
theorem d_La_law_26 : decode c_La_law 26 = .ok (.iload_n 2, 1) := by decide +kernel
theorem d_La_law_27 : decode c_La_law 27 = .ok (.imul, 1) := by decide +kernel
theorem d_La_law_28 : decode c_La_law 28 = .ok (.iconst 1, 1) := by decide +kernel
theorem d_La_law_29 : decode c_La_law 29 = .ok (.iadd, 1) := by decide +kernel
theorem d_La_law_30 : decode c_La_law 30 = .ok (.invokestatic 80, 3) := by decide +kernel
theorem d_La_law_33 : decode c_La_law 33 = .ok (.istore 4, 2) := by decide +kernel
theorem d_La_law_35 : decode c_La_law 35 = .ok (.aload_n 1, 1) := by decide +kernel
theorem d_La_law_36 : decode c_La_law 36 = .ok (.invokestatic 84, 3) := by decide +kernel
theorem d_La_law_39 : decode c_La_law 39 = .ok (.astore 5, 2) := by decide +kernel
theorem d_La_law_41 : decode c_La_law 41 = .ok (.aload_n 1, 1) := by decide +kernel
theorem d_La_law_42 : decode c_La_law 42 = .ok (.bipush 9, 2) := by decide +kernel
theorem d_La_law_44 : decode c_La_law 44 = .ok (.invokevirtual 9, 3) := by decide +kernel
theorem d_La_law_47 : decode c_La_law 47 = .ok (.istore 6, 2) := by decide +kernel
theorem d_La_law_49 : decode c_La_law 49 = .ok (.aload_n 1, 1) := by decide +kernel
theorem d_La_law_50 : decode c_La_law 50 = .ok (.iload_n 3, 1) := by decide +kernel
theorem d_La_law_51 : decode c_La_law 51 = .ok (.iload 4, 2) := by decide +kernel
theorem d_La_law_53 : decode c_La_law 53 = .ok (.invokestatic 88, 3) := by decide +kernel
theorem d_La_law_56 : decode c_La_law 56 = .ok (.istore 7, 2) := by decide +kernel
theorem d_La_law_58 : decode c_La_law 58 = .ok (.aload_n 1, 1) := by decide +kernel
theorem d_La_law_59 : decode c_La_law 59 = .ok (.invokestatic 84, 3) := by decide +kernel
theorem d_La_law_62 : decode c_La_law 62 = .ok (.astore 8, 2) := by decide +kernel
theorem d_La_law_64 : decode c_La_law 64 = .ok (.iload 7, 2) := by decide +kernel
theorem d_La_law_66 : decode c_La_law 66 = .ok (.ifCond .ge 26, 3) := by decide +kernel
theorem d_La_law_69 : decode c_La_law 69 = .ok (.aload 5, 2) := by decide +kernel
theorem d_La_law_71 : decode c_La_law 71 = .ok (.aload 8, 2) := by decide +kernel
theorem d_La_law_73 : decode c_La_law 73 = .ok (.invokestatic 92, 3) := by decide +kernel
theorem d_La_law_76 : decode c_La_law 76 = .ok (.ifCond .eq 14, 3) := by decide +kernel
theorem d_La_law_79 : decode c_La_law 79 = .ok (.aload_n 1, 1) := by decide +kernel
theorem d_La_law_80 : decode c_La_law 80 = .ok (.bipush 9, 2) := by decide +kernel
theorem d_La_law_82 : decode c_La_law 82 = .ok (.invokevirtual 9, 3) := by decide +kernel
theorem d_La_law_85 : decode c_La_law 85 = .ok (.iload 6, 2) := by decide +kernel
theorem d_La_law_87 : decode c_La_law 87 = .ok (.if_icmp .eq 5, 3) := by decide +kernel
theorem d_La_law_90 : decode c_La_law 90 = .ok (.iconst 0, 1) := by decide +kernel
theorem d_La_law_91 : decode c_La_law 91 = .ok (.ireturn, 1) := by decide +kernel
theorem d_La_law_92 : decode c_La_law 92 = .ok (.iload 7, 2) := by decide +kernel
theorem d_La_law_94 : decode c_La_law 94 = .ok (.ifCond .lt 72, 3) := by decide +kernel
theorem d_La_law_97 : decode c_La_law 97 = .ok (.iload_n 3, 1) := by decide +kernel
theorem d_La_law_98 : decode c_La_law 98 = .ok (.iconst 4, 1) := by decide +kernel
theorem d_La_law_99 : decode c_La_law 99 = .ok (.invokestatic 38, 3) := by decide +kernel
theorem d_La_law_102 : decode c_La_law 102 = .ok (.ifCond .ne 64, 3) := by decide +kernel
theorem d_La_law_105 : decode c_La_law 105 = .ok (.aload_n 1, 1) := by decide +kernel
theorem d_La_law_106 : decode c_La_law 106 = .ok (.invokevirtual 76, 3) := by decide +kernel
theorem d_La_law_109 : decode c_La_law 109 = .ok (.istore 9, 2) := by decide +kernel
theorem d_La_law_111 : decode c_La_law 111 = .ok (.aload_n 1, 1) := by decide +kernel
theorem d_La_law_112 : decode c_La_law 112 = .ok (.invokestatic 84, 3) := by decide +kernel
theorem d_La_law_115 : decode c_La_law 115 = .ok (.aload 5, 2) := by decide +kernel
theorem d_La_law_117 : decode c_La_law 117 = .ok (.invokestatic 92, 3) := by decide +kernel
theorem d_La_law_120 : decode c_La_law 120 = .ok (.ifCond .eq 44, 3) := by decide +kernel
theorem d_La_law_123 : decode c_La_law 123 = .ok (.iload 9, 2) := by decide +kernel
theorem d_La_law_125 : decode c_La_law 125 = .ok (.iload 6, 2) := by decide +kernel
theorem d_La_law_127 : decode c_La_law 127 = .ok (.iconst 4, 1) := by decide +kernel
theorem d_La_law_128 : decode c_La_law 128 = .ok (.if_icmp .ne 7, 3) := by decide +kernel
theorem d_La_law_131 : decode c_La_law 131 = .ok (.iconst 3, 1) := by decide +kernel
theorem d_La_law_132 : decode c_La_law 132 = .ok (.goto 5, 3) := by decide +kernel
theorem d_La_law_135 : decode c_La_law 135 = .ok (.iload 6, 2) := by decide +kernel
theorem d_La_law_137 : decode c_La_law 137 = .ok (.if_icmp .ne 27, 3) := by decide +kernel
theorem d_La_law_140 : decode c_La_law 140 = .ok (.aload_n 1, 1) := by decide +kernel
theorem d_La_law_141 : decode c_La_law 141 = .ok (.iload_n 3, 1) := by decide +kernel
theorem d_La_law_142 : decode c_La_law 142 = .ok (.iload 4, 2) := by decide +kernel
theorem d_La_law_144 : decode c_La_law 144 = .ok (.invokestatic 88, 3) := by decide +kernel
theorem d_La_law_147 : decode c_La_law 147 = .ok (.iload 7, 2) := by decide +kernel
theorem d_La_law_149 : decode c_La_law 149 = .ok (.if_icmp .ne 15, 3) := by decide +kernel
theorem d_La_law_152 : decode c_La_law 152 = .ok (.aload_n 1, 1) := by decide +kernel
theorem d_La_law_153 : decode c_La_law 153 = .ok (.invokestatic 84, 3) := by decide +kernel
theorem d_La_law_156 : decode c_La_law 156 = .ok (.aload 8, 2) := by decide +kernel
theorem d_La_law_158 : decode c_La_law 158 = .ok (.invokestatic 92, 3) := by decide +kernel
theorem d_La_law_161 : decode c_La_law 161 = .ok (.ifCond .ne 5, 3) := by decide +kernel
theorem d_La_law_164 : decode c_La_law 164 = .ok (.iconst 0, 1) := by decide +kernel
theorem d_La_law_165 : decode c_La_law 165 = .ok (.ireturn, 1) := by decide +kernel
theorem d_La_law_166 : decode c_La_law 166 = .ok (.aload_n 1, 1) := by decide +kernel
theorem d_La_law_167 : decode c_La_law 167 = .ok (.invokestatic 96, 3) := by decide +kernel
theorem d_La_law_170 : decode c_La_law 170 = .ok (.ifCond .eq 10, 3) := by decide +kernel
theorem d_La_law_173 : decode c_La_law 173 = .ok (.aload_n 1, 1) := by decide +kernel
theorem d_La_law_174 : decode c_La_law 174 = .ok (.invokestatic 100, 3) := by decide +kernel
theorem d_La_law_177 : decode c_La_law 177 = .ok (.ifCond .ne 5, 3) := by decide +kernel
theorem d_La_law_180 : decode c_La_law 180 = .ok (.iconst 0, 1) := by decide +kernel
theorem d_La_law_181 : decode c_La_law 181 = .ok (.ireturn, 1) := by decide +kernel
theorem d_La_law_182 : decode c_La_law 182 = .ok (.iload_n 2, 1) := by decide +kernel
theorem d_La_law_183 : decode c_La_law 183 = .ok (.iconst 4, 1) := by decide +kernel
theorem d_La_law_184 : decode c_La_law 184 = .ok (.irem, 1) := by decide +kernel
theorem d_La_law_185 : decode c_La_law 185 = .ok (.iconst 3, 1) := by decide +kernel
theorem d_La_law_186 : decode c_La_law 186 = .ok (.if_icmp .ne 55, 3) := by decide +kernel
theorem d_La_law_189 : decode c_La_law 189 = .ok (.aload_n 1, 1) := by decide +kernel
theorem d_La_law_190 : decode c_La_law 190 = .ok (.iconst 1, 1) := by decide +kernel
theorem d_La_law_191 : decode c_La_law 191 = .ok (.invokevirtual 9, 3) := by decide +kernel
theorem d_La_law_194 : decode c_La_law 194 = .ok (.ifCond .le 47, 3) := by decide +kernel
theorem d_La_law_197 : decode c_La_law 197 = .ok (.aload_n 1, 1) := by decide +kernel
theorem d_La_law_198 : decode c_La_law 198 = .ok (.iconst 0, 1) := by decide +kernel
theorem d_La_law_199 : decode c_La_law 199 = .ok (.invokevirtual 9, 3) := by decide +kernel
theorem d_La_law_202 : decode c_La_law 202 = .ok (.ifCond .le 39, 3) := by decide +kernel
theorem d_La_law_205 : decode c_La_law 205 = .ok (.aload_n 1, 1) := by decide +kernel
theorem d_La_law_206 : decode c_La_law 206 = .ok (.iload 4, 2) := by decide +kernel
theorem d_La_law_208 : decode c_La_law 208 = .ok (.aload_n 1, 1) := by decide +kernel
theorem d_La_law_209 : decode c_La_law 209 = .ok (.iconst 1, 1) := by decide +kernel
theorem d_La_law_210 : decode c_La_law 210 = .ok (.invokevirtual 9, 3) := by decide +kernel
theorem d_La_law_213 : decode c_La_law 213 = .ok (.invokestatic 38, 3) := by decide +kernel
theorem d_La_law_216 : decode c_La_law 216 = .ok (.iload_n 3, 1) := by decide +kernel
theorem d_La_law_217 : decode c_La_law 217 = .ok (.aload_n 1, 1) := by decide +kernel
theorem d_La_law_218 : decode c_La_law 218 = .ok (.iconst 0, 1) := by decide +kernel
theorem d_La_law_219 : decode c_La_law 219 = .ok (.invokevirtual 9, 3) := by decide +kernel
theorem d_La_law_222 : decode c_La_law 222 = .ok (.invokestatic 38, 3) := by decide +kernel
theorem d_La_law_225 : decode c_La_law 225 = .ok (.iload 4, 2) := by decide +kernel
theorem d_La_law_227 : decode c_La_law 227 = .ok (.iconst 3, 1) := by decide +kernel
theorem d_La_law_228 : decode c_La_law 228 = .ok (.ishr, 1) := by decide +kernel
theorem d_La_law_229 : decode c_La_law 229 = .ok (.iconst 2, 1) := by decide +kernel
theorem d_La_law_230 : decode c_La_law 230 = .ok (.invokestatic 38, 3) := by decide +kernel
theorem d_La_law_233 : decode c_La_law 233 = .ok (.invokestatic 102, 3) := by decide +kernel
theorem d_La_law_236 : decode c_La_law 236 = .ok (.ifCond .ne 5, 3) := by decide +kernel
theorem d_La_law_239 : decode c_La_law 239 = .ok (.iconst 0, 1) := by decide +kernel
theorem d_La_law_240 : decode c_La_law 240 = .ok (.ireturn, 1) := by decide +kernel
theorem d_La_law_241 : decode c_La_law 241 = .ok (.iinc 2 1, 3) := by decide +kernel
theorem d_La_law_244 : decode c_La_law 244 = .ok (.goto (-234), 3) := by decide +kernel
theorem d_La_law_247 : decode c_La_law 247 = .ok (.aload_n 1, 1) := by decide +kernel
theorem d_La_law_248 : decode c_La_law 248 = .ok (.iconst (-1), 1) := by decide +kernel
theorem d_La_law_249 : decode c_La_law 249 = .ok (.iconst 0, 1) := by decide +kernel
theorem d_La_law_250 : decode c_La_law 250 = .ok (.invokevirtual 73, 3) := by decide +kernel
theorem d_La_law_253 : decode c_La_law 253 = .ok (.iconst (-1), 1) := by decide +kernel
theorem d_La_law_254 : decode c_La_law 254 = .ok (.if_icmp .ne 30, 3) := by decide +kernel
theorem d_La_law_257 : decode c_La_law 257 = .ok (.aload_n 1, 1) := by decide +kernel
theorem d_La_law_258 : decode c_La_law 258 = .ok (.sipush 300, 3) := by decide +kernel
theorem d_La_law_261 : decode c_La_law 261 = .ok (.invokevirtual 64, 3) := by decide +kernel
theorem d_La_law_264 : decode c_La_law 264 = .ok (.iconst (-1), 1) := by decide +kernel
theorem d_La_law_265 : decode c_La_law 265 = .ok (.if_icmp .ne 19, 3) := by decide +kernel
theorem d_La_law_268 : decode c_La_law 268 = .ok (.aload_n 1, 1) := by decide +kernel
theorem d_La_law_269 : decode c_La_law 269 = .ok (.iconst (-1), 1) := by decide +kernel
theorem d_La_law_270 : decode c_La_law 270 = .ok (.invokevirtual 22, 3) := by decide +kernel
theorem d_La_law_273 : decode c_La_law 273 = .ok (.ldc2_w 106, 3) := by decide +kernel
theorem d_La_law_276 : decode c_La_law 276 = .ok (.dcmp .l, 1) := by decide +kernel
theorem d_La_law_277 : decode c_La_law 277 = .ok (.ifCond .ne 7, 3) := by decide +kernel
theorem d_La_law_280 : decode c_La_law 280 = .ok (.iconst 1, 1) := by decide +kernel
theorem d_La_law_281 : decode c_La_law 281 = .ok (.goto 4, 3) := by decide +kernel
theorem d_La_law_284 : decode c_La_law 284 = .ok (.iconst 0, 1) := by decide +kernel
theorem d_La_law_285 : decode c_La_law 285 = .ok (.ireturn, 1) := by decide +kernel
