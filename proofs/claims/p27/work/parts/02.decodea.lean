theorem d_Bk_init_0 : decode c_Bk_init 0 = .ok (.aload_n 0, 1) := by decide +kernel
theorem d_Bk_init_1 : decode c_Bk_init 1 = .ok (.invokespecial 3, 3) := by decide +kernel
theorem d_Bk_init_4 : decode c_Bk_init 4 = .ok (.aload_n 0, 1) := by decide +kernel
theorem d_Bk_init_5 : decode c_Bk_init 5 = .ok (.new 9, 3) := by decide +kernel
theorem d_Bk_init_8 : decode c_Bk_init 8 = .ok (.dup, 1) := by decide +kernel
theorem d_Bk_init_9 : decode c_Bk_init 9 = .ok (.iconst 5, 1) := by decide +kernel
theorem d_Bk_init_10 : decode c_Bk_init 10 = .ok (.invokespecial 11, 3) := by decide +kernel
theorem d_Bk_init_13 : decode c_Bk_init 13 = .ok (.putfield 14, 3) := by decide +kernel
theorem d_Bk_init_16 : decode c_Bk_init 16 = .ok (.aload_n 0, 1) := by decide +kernel
theorem d_Bk_init_17 : decode c_Bk_init 17 = .ok (.new 20, 3) := by decide +kernel
theorem d_Bk_init_20 : decode c_Bk_init 20 = .ok (.dup, 1) := by decide +kernel
theorem d_Bk_init_21 : decode c_Bk_init 21 = .ok (.invokespecial 22, 3) := by decide +kernel
theorem d_Bk_init_24 : decode c_Bk_init 24 = .ok (.putfield 23, 3) := by decide +kernel
theorem d_Bk_init_27 : decode c_Bk_init 27 = .ok (.aload_n 0, 1) := by decide +kernel
theorem d_Bk_init_28 : decode c_Bk_init 28 = .ok (.new 27, 3) := by decide +kernel
theorem d_Bk_init_31 : decode c_Bk_init 31 = .ok (.dup, 1) := by decide +kernel
theorem d_Bk_init_32 : decode c_Bk_init 32 = .ok (.invokespecial 29, 3) := by decide +kernel
theorem d_Bk_init_35 : decode c_Bk_init 35 = .ok (.putfield 30, 3) := by decide +kernel
theorem d_Bk_init_38 : decode c_Bk_init 38 = .ok (.aload_n 0, 1) := by decide +kernel
theorem d_Bk_init_39 : decode c_Bk_init 39 = .ok (.new 34, 3) := by decide +kernel
theorem d_Bk_init_42 : decode c_Bk_init 42 = .ok (.dup, 1) := by decide +kernel
theorem d_Bk_init_43 : decode c_Bk_init 43 = .ok (.invokespecial 36, 3) := by decide +kernel
theorem d_Bk_init_46 : decode c_Bk_init 46 = .ok (.putfield 37, 3) := by decide +kernel
theorem d_Bk_init_49 : decode c_Bk_init 49 = .ok (.aload_n 0, 1) := by decide +kernel
theorem d_Bk_init_50 : decode c_Bk_init 50 = .ok (.getfield 14, 3) := by decide +kernel
theorem d_Bk_init_53 : decode c_Bk_init 53 = .ok (.iconst 1, 1) := by decide +kernel
theorem d_Bk_init_54 : decode c_Bk_init 54 = .ok (.iconst 3, 1) := by decide +kernel
theorem d_Bk_init_55 : decode c_Bk_init 55 = .ok (.invokevirtual 41, 3) := by decide +kernel
theorem d_Bk_init_58 : decode c_Bk_init 58 = .ok (.aload_n 0, 1) := by decide +kernel
theorem d_Bk_init_59 : decode c_Bk_init 59 = .ok (.getfield 14, 3) := by decide +kernel
theorem d_Bk_init_62 : decode c_Bk_init 62 = .ok (.iconst 2, 1) := by decide +kernel
theorem d_Bk_init_63 : decode c_Bk_init 63 = .ok (.iconst 2, 1) := by decide +kernel
theorem d_Bk_init_64 : decode c_Bk_init 64 = .ok (.invokevirtual 41, 3) := by decide +kernel
theorem d_Bk_init_67 : decode c_Bk_init 67 = .ok (.aload_n 0, 1) := by decide +kernel
theorem d_Bk_init_68 : decode c_Bk_init 68 = .ok (.getfield 14, 3) := by decide +kernel
theorem d_Bk_init_71 : decode c_Bk_init 71 = .ok (.iconst 3, 1) := by decide +kernel
theorem d_Bk_init_72 : decode c_Bk_init 72 = .ok (.iconst 3, 1) := by decide +kernel
theorem d_Bk_init_73 : decode c_Bk_init 73 = .ok (.invokevirtual 41, 3) := by decide +kernel
theorem d_Bk_init_76 : decode c_Bk_init 76 = .ok (.return_, 1) := by decide +kernel
theorem d_Bk_copyFrom_0 : decode c_Bk_copyFrom 0 = .ok (.aload_n 0, 1) := by decide +kernel
theorem d_Bk_copyFrom_1 : decode c_Bk_copyFrom 1 = .ok (.getfield 14, 3) := by decide +kernel
theorem d_Bk_copyFrom_4 : decode c_Bk_copyFrom 4 = .ok (.aload_n 1, 1) := by decide +kernel
theorem d_Bk_copyFrom_5 : decode c_Bk_copyFrom 5 = .ok (.getfield 14, 3) := by decide +kernel
theorem d_Bk_copyFrom_8 : decode c_Bk_copyFrom 8 = .ok (.invokevirtual 45, 3) := by decide +kernel
theorem d_Bk_copyFrom_11 : decode c_Bk_copyFrom 11 = .ok (.aload_n 0, 1) := by decide +kernel
theorem d_Bk_copyFrom_12 : decode c_Bk_copyFrom 12 = .ok (.getfield 23, 3) := by decide +kernel
theorem d_Bk_copyFrom_15 : decode c_Bk_copyFrom 15 = .ok (.aload_n 1, 1) := by decide +kernel
theorem d_Bk_copyFrom_16 : decode c_Bk_copyFrom 16 = .ok (.getfield 23, 3) := by decide +kernel
theorem d_Bk_copyFrom_19 : decode c_Bk_copyFrom 19 = .ok (.invokevirtual 49, 3) := by decide +kernel
theorem d_Bk_copyFrom_22 : decode c_Bk_copyFrom 22 = .ok (.aload_n 0, 1) := by decide +kernel
theorem d_Bk_copyFrom_23 : decode c_Bk_copyFrom 23 = .ok (.getfield 30, 3) := by decide +kernel
theorem d_Bk_copyFrom_26 : decode c_Bk_copyFrom 26 = .ok (.aload_n 1, 1) := by decide +kernel
theorem d_Bk_copyFrom_27 : decode c_Bk_copyFrom 27 = .ok (.getfield 30, 3) := by decide +kernel
theorem d_Bk_copyFrom_30 : decode c_Bk_copyFrom 30 = .ok (.invokevirtual 52, 3) := by decide +kernel
theorem d_Bk_copyFrom_33 : decode c_Bk_copyFrom 33 = .ok (.aload_n 0, 1) := by decide +kernel
theorem d_Bk_copyFrom_34 : decode c_Bk_copyFrom 34 = .ok (.getfield 37, 3) := by decide +kernel
theorem d_Bk_copyFrom_37 : decode c_Bk_copyFrom 37 = .ok (.aload_n 1, 1) := by decide +kernel
theorem d_Bk_copyFrom_38 : decode c_Bk_copyFrom 38 = .ok (.getfield 37, 3) := by decide +kernel
theorem d_Bk_copyFrom_41 : decode c_Bk_copyFrom 41 = .ok (.invokevirtual 55, 3) := by decide +kernel
theorem d_Bk_copyFrom_44 : decode c_Bk_copyFrom 44 = .ok (.aload_n 0, 1) := by decide +kernel
theorem d_Bk_copyFrom_45 : decode c_Bk_copyFrom 45 = .ok (.aload_n 1, 1) := by decide +kernel
theorem d_Bk_copyFrom_46 : decode c_Bk_copyFrom 46 = .ok (.getfield 58, 3) := by decide +kernel
theorem d_Bk_copyFrom_49 : decode c_Bk_copyFrom 49 = .ok (.putfield 58, 3) := by decide +kernel
theorem d_Bk_copyFrom_52 : decode c_Bk_copyFrom 52 = .ok (.return_, 1) := by decide +kernel
theorem d_Bk_lay_0 : decode c_Bk_lay 0 = .ok (.aload_n 0, 1) := by decide +kernel
theorem d_Bk_lay_1 : decode c_Bk_lay 1 = .ok (.getfield 37, 3) := by decide +kernel
theorem d_Bk_lay_4 : decode c_Bk_lay 4 = .ok (.iload_n 1, 1) := by decide +kernel
theorem d_Bk_lay_5 : decode c_Bk_lay 5 = .ok (.invokevirtual 62, 3) := by decide +kernel
theorem d_Bk_lay_8 : decode c_Bk_lay 8 = .ok (.ifCond .eq 6, 3) := by decide +kernel
theorem d_Bk_lay_11 : decode c_Bk_lay 11 = .ok (.bipush (-11), 2) := by decide +kernel
theorem d_Bk_lay_13 : decode c_Bk_lay 13 = .ok (.ireturn, 1) := by decide +kernel
theorem d_Bk_lay_14 : decode c_Bk_lay 14 = .ok (.aload_n 0, 1) := by decide +kernel
theorem d_Bk_lay_15 : decode c_Bk_lay 15 = .ok (.getfield 14, 3) := by decide +kernel
theorem d_Bk_lay_18 : decode c_Bk_lay 18 = .ok (.iconst 4, 1) := by decide +kernel
theorem d_Bk_lay_19 : decode c_Bk_lay 19 = .ok (.invokevirtual 66, 3) := by decide +kernel
theorem d_Bk_lay_22 : decode c_Bk_lay 22 = .ok (.iconst 1, 1) := by decide +kernel
theorem d_Bk_lay_23 : decode c_Bk_lay 23 = .ok (.if_icmp .ne 18, 3) := by decide +kernel
theorem d_Bk_lay_26 : decode c_Bk_lay 26 = .ok (.aload_n 0, 1) := by decide +kernel
theorem d_Bk_lay_27 : decode c_Bk_lay 27 = .ok (.getfield 37, 3) := by decide +kernel
theorem d_Bk_lay_30 : decode c_Bk_lay 30 = .ok (.iload_n 1, 1) := by decide +kernel
theorem d_Bk_lay_31 : decode c_Bk_lay 31 = .ok (.iload_n 3, 1) := by decide +kernel
theorem d_Bk_lay_32 : decode c_Bk_lay 32 = .ok (.invokevirtual 70, 3) := by decide +kernel
theorem d_Bk_lay_35 : decode c_Bk_lay 35 = .ok (.ifCond .eq 6, 3) := by decide +kernel
theorem d_Bk_lay_38 : decode c_Bk_lay 38 = .ok (.bipush (-12), 2) := by decide +kernel
theorem d_Bk_lay_40 : decode c_Bk_lay 40 = .ok (.ireturn, 1) := by decide +kernel
theorem d_Bk_lay_41 : decode c_Bk_lay 41 = .ok (.aload_n 0, 1) := by decide +kernel
theorem d_Bk_lay_42 : decode c_Bk_lay 42 = .ok (.getfield 37, 3) := by decide +kernel
theorem d_Bk_lay_45 : decode c_Bk_lay 45 = .ok (.iload_n 1, 1) := by decide +kernel
theorem d_Bk_lay_46 : decode c_Bk_lay 46 = .ok (.iload_n 2, 1) := by decide +kernel
theorem d_Bk_lay_47 : decode c_Bk_lay 47 = .ok (.aload_n 0, 1) := by decide +kernel
theorem d_Bk_lay_48 : decode c_Bk_lay 48 = .ok (.getfield 23, 3) := by decide +kernel
theorem d_Bk_lay_51 : decode c_Bk_lay 51 = .ok (.getfield 74, 3) := by decide +kernel
theorem d_Bk_lay_54 : decode c_Bk_lay 54 = .ok (.iload_n 2, 1) := by decide +kernel
theorem d_Bk_lay_55 : decode c_Bk_lay 55 = .ok (.invokevirtual 66, 3) := by decide +kernel
theorem d_Bk_lay_58 : decode c_Bk_lay 58 = .ok (.iload_n 3, 1) := by decide +kernel
theorem d_Bk_lay_59 : decode c_Bk_lay 59 = .ok (.invokevirtual 77, 3) := by decide +kernel
theorem d_Bk_lay_62 : decode c_Bk_lay 62 = .ok (.aload_n 0, 1) := by decide +kernel
theorem d_Bk_lay_63 : decode c_Bk_lay 63 = .ok (.getfield 37, 3) := by decide +kernel
theorem d_Bk_lay_66 : decode c_Bk_lay 66 = .ok (.iload_n 1, 1) := by decide +kernel
theorem d_Bk_lay_67 : decode c_Bk_lay 67 = .ok (.invokevirtual 81, 3) := by decide +kernel
theorem d_Bk_lay_70 : decode c_Bk_lay 70 = .ok (.istore 4, 2) := by decide +kernel
theorem d_Bk_lay_72 : decode c_Bk_lay 72 = .ok (.iconst 0, 1) := by decide +kernel
theorem d_Bk_lay_73 : decode c_Bk_lay 73 = .ok (.istore 5, 2) := by decide +kernel
theorem d_Bk_lay_75 : decode c_Bk_lay 75 = .ok (.iload 5, 2) := by decide +kernel
theorem d_Bk_lay_77 : decode c_Bk_lay 77 = .ok (.iload 4, 2) := by decide +kernel
theorem d_Bk_lay_79 : decode c_Bk_lay 79 = .ok (.if_icmp .ge 82, 3) := by decide +kernel
theorem d_Bk_lay_82 : decode c_Bk_lay 82 = .ok (.aload_n 0, 1) := by decide +kernel
theorem d_Bk_lay_83 : decode c_Bk_lay 83 = .ok (.getfield 37, 3) := by decide +kernel
theorem d_Bk_lay_86 : decode c_Bk_lay 86 = .ok (.iload_n 1, 1) := by decide +kernel
theorem d_Bk_lay_87 : decode c_Bk_lay 87 = .ok (.iload 5, 2) := by decide +kernel
theorem d_Bk_lay_89 : decode c_Bk_lay 89 = .ok (.invokevirtual 84, 3) := by decide +kernel
theorem d_Bk_lay_92 : decode c_Bk_lay 92 = .ok (.istore 6, 2) := by decide +kernel
theorem d_Bk_lay_94 : decode c_Bk_lay 94 = .ok (.aload_n 0, 1) := by decide +kernel
theorem d_Bk_lay_95 : decode c_Bk_lay 95 = .ok (.getfield 37, 3) := by decide +kernel
theorem d_Bk_lay_98 : decode c_Bk_lay 98 = .ok (.iload_n 1, 1) := by decide +kernel
theorem d_Bk_lay_99 : decode c_Bk_lay 99 = .ok (.iload 5, 2) := by decide +kernel
theorem d_Bk_lay_101 : decode c_Bk_lay 101 = .ok (.invokevirtual 88, 3) := by decide +kernel
theorem d_Bk_lay_104 : decode c_Bk_lay 104 = .ok (.istore 7, 2) := by decide +kernel
theorem d_Bk_lay_106 : decode c_Bk_lay 106 = .ok (.aload_n 0, 1) := by decide +kernel
theorem d_Bk_lay_107 : decode c_Bk_lay 107 = .ok (.iload_n 2, 1) := by decide +kernel
theorem d_Bk_lay_108 : decode c_Bk_lay 108 = .ok (.iload 6, 2) := by decide +kernel
theorem d_Bk_lay_110 : decode c_Bk_lay 110 = .ok (.iload 7, 2) := by decide +kernel
theorem d_Bk_lay_112 : decode c_Bk_lay 112 = .ok (.iload_n 1, 1) := by decide +kernel
theorem d_Bk_lay_113 : decode c_Bk_lay 113 = .ok (.iload 5, 2) := by decide +kernel
theorem d_Bk_lay_115 : decode c_Bk_lay 115 = .ok (.invokevirtual 91, 3) := by decide +kernel
theorem d_Bk_lay_118 : decode c_Bk_lay 118 = .ok (.ifCond .ne 6, 3) := by decide +kernel
theorem d_Bk_lay_121 : decode c_Bk_lay 121 = .ok (.bipush (-13), 2) := by decide +kernel
theorem d_Bk_lay_123 : decode c_Bk_lay 123 = .ok (.ireturn, 1) := by decide +kernel
theorem d_Bk_lay_124 : decode c_Bk_lay 124 = .ok (.aload_n 0, 1) := by decide +kernel
theorem d_Bk_lay_125 : decode c_Bk_lay 125 = .ok (.getfield 23, 3) := by decide +kernel
theorem d_Bk_lay_128 : decode c_Bk_lay 128 = .ok (.getfield 95, 3) := by decide +kernel
theorem d_Bk_lay_131 : decode c_Bk_lay 131 = .ok (.iload_n 2, 1) := by decide +kernel
theorem d_Bk_lay_132 : decode c_Bk_lay 132 = .ok (.iload 6, 2) := by decide +kernel
theorem d_Bk_lay_134 : decode c_Bk_lay 134 = .ok (.iload 7, 2) := by decide +kernel
theorem d_Bk_lay_136 : decode c_Bk_lay 136 = .ok (.imul, 1) := by decide +kernel
theorem d_Bk_lay_137 : decode c_Bk_lay 137 = .ok (.invokevirtual 98, 3) := by decide +kernel
theorem d_Bk_lay_140 : decode c_Bk_lay 140 = .ok (.aload_n 0, 1) := by decide +kernel
theorem d_Bk_lay_141 : decode c_Bk_lay 141 = .ok (.iload_n 2, 1) := by decide +kernel
theorem d_Bk_lay_142 : decode c_Bk_lay 142 = .ok (.iload 6, 2) := by decide +kernel
theorem d_Bk_lay_144 : decode c_Bk_lay 144 = .ok (.iload 7, 2) := by decide +kernel
theorem d_Bk_lay_146 : decode c_Bk_lay 146 = .ok (.invokevirtual 101, 3) := by decide +kernel
theorem d_Bk_lay_149 : decode c_Bk_lay 149 = .ok (.ifCond .ne 6, 3) := by decide +kernel
theorem d_Bk_lay_152 : decode c_Bk_lay 152 = .ok (.bipush (-14), 2) := by decide +kernel
theorem d_Bk_lay_154 : decode c_Bk_lay 154 = .ok (.ireturn, 1) := by decide +kernel
theorem d_Bk_lay_155 : decode c_Bk_lay 155 = .ok (.iinc 5 1, 3) := by decide +kernel
theorem d_Bk_lay_158 : decode c_Bk_lay 158 = .ok (.goto (-83), 3) := by decide +kernel
theorem d_Bk_lay_161 : decode c_Bk_lay 161 = .ok (.aload_n 0, 1) := by decide +kernel
theorem d_Bk_lay_162 : decode c_Bk_lay 162 = .ok (.getfield 37, 3) := by decide +kernel
theorem d_Bk_lay_165 : decode c_Bk_lay 165 = .ok (.iload_n 1, 1) := by decide +kernel
theorem d_Bk_lay_166 : decode c_Bk_lay 166 = .ok (.invokevirtual 105, 3) := by decide +kernel
theorem d_Bk_lay_169 : decode c_Bk_lay 169 = .ok (.aload_n 0, 1) := by decide +kernel
theorem d_Bk_lay_170 : decode c_Bk_lay 170 = .ok (.getfield 23, 3) := by decide +kernel
theorem d_Bk_lay_173 : decode c_Bk_lay 173 = .ok (.getfield 108, 3) := by decide +kernel
theorem d_Bk_lay_176 : decode c_Bk_lay 176 = .ok (.iload_n 2, 1) := by decide +kernel
theorem d_Bk_lay_177 : decode c_Bk_lay 177 = .ok (.invokevirtual 66, 3) := by decide +kernel
theorem d_Bk_lay_180 : decode c_Bk_lay 180 = .ok (.imul, 1) := by decide +kernel
theorem d_Bk_lay_181 : decode c_Bk_lay 181 = .ok (.aload_n 0, 1) := by decide +kernel
theorem d_Bk_lay_182 : decode c_Bk_lay 182 = .ok (.getfield 37, 3) := by decide +kernel
theorem d_Bk_lay_185 : decode c_Bk_lay 185 = .ok (.iload_n 1, 1) := by decide +kernel
theorem d_Bk_lay_186 : decode c_Bk_lay 186 = .ok (.invokevirtual 111, 3) := by decide +kernel
theorem d_Bk_lay_189 : decode c_Bk_lay 189 = .ok (.aload_n 0, 1) := by decide +kernel
theorem d_Bk_lay_190 : decode c_Bk_lay 190 = .ok (.iload_n 1, 1) := by decide +kernel
theorem d_Bk_lay_191 : decode c_Bk_lay 191 = .ok (.iload_n 3, 1) := by decide +kernel
theorem d_Bk_lay_192 : decode c_Bk_lay 192 = .ok (.invokevirtual 114, 3) := by decide +kernel
theorem d_Bk_lay_195 : decode c_Bk_lay 195 = .ok (.imul, 1) := by decide +kernel
theorem d_Bk_lay_196 : decode c_Bk_lay 196 = .ok (.iadd, 1) := by decide +kernel
theorem d_Bk_lay_197 : decode c_Bk_lay 197 = .ok (.istore 5, 2) := by decide +kernel
theorem d_Bk_lay_199 : decode c_Bk_lay 199 = .ok (.aload_n 0, 1) := by decide +kernel
theorem d_Bk_lay_200 : decode c_Bk_lay 200 = .ok (.getfield 37, 3) := by decide +kernel
theorem d_Bk_lay_203 : decode c_Bk_lay 203 = .ok (.getfield 117, 3) := by decide +kernel
theorem d_Bk_lay_206 : decode c_Bk_lay 206 = .ok (.iload_n 1, 1) := by decide +kernel
theorem d_Bk_lay_207 : decode c_Bk_lay 207 = .ok (.iload 5, 2) := by decide +kernel
theorem d_Bk_lay_209 : decode c_Bk_lay 209 = .ok (.invokevirtual 41, 3) := by decide +kernel
theorem d_Bk_lay_212 : decode c_Bk_lay 212 = .ok (.aload_n 0, 1) := by decide +kernel
theorem d_Bk_lay_213 : decode c_Bk_lay 213 = .ok (.dup, 1) := by decide +kernel
theorem d_Bk_lay_214 : decode c_Bk_lay 214 = .ok (.getfield 58, 3) := by decide +kernel
theorem d_Bk_lay_217 : decode c_Bk_lay 217 = .ok (.iload 5, 2) := by decide +kernel
theorem d_Bk_lay_219 : decode c_Bk_lay 219 = .ok (.iadd, 1) := by decide +kernel
theorem d_Bk_lay_220 : decode c_Bk_lay 220 = .ok (.putfield 58, 3) := by decide +kernel
theorem d_Bk_lay_223 : decode c_Bk_lay 223 = .ok (.iload 5, 2) := by decide +kernel
theorem d_Bk_lay_225 : decode c_Bk_lay 225 = .ok (.ireturn, 1) := by decide +kernel
theorem d_Bk_seamPrice_0 : decode c_Bk_seamPrice 0 = .ok (.aload_n 0, 1) := by decide +kernel
theorem d_Bk_seamPrice_1 : decode c_Bk_seamPrice 1 = .ok (.getfield 37, 3) := by decide +kernel
theorem d_Bk_seamPrice_4 : decode c_Bk_seamPrice 4 = .ok (.iload_n 1, 1) := by decide +kernel
theorem d_Bk_seamPrice_5 : decode c_Bk_seamPrice 5 = .ok (.iload_n 2, 1) := by decide +kernel
theorem d_Bk_seamPrice_6 : decode c_Bk_seamPrice 6 = .ok (.invokevirtual 70, 3) := by decide +kernel
theorem d_Bk_seamPrice_9 : decode c_Bk_seamPrice 9 = .ok (.ifCond .eq 14, 3) := by decide +kernel
theorem d_Bk_seamPrice_12 : decode c_Bk_seamPrice 12 = .ok (.aload_n 0, 1) := by decide +kernel
theorem d_Bk_seamPrice_13 : decode c_Bk_seamPrice 13 = .ok (.getfield 14, 3) := by decide +kernel
theorem d_Bk_seamPrice_16 : decode c_Bk_seamPrice 16 = .ok (.iconst 3, 1) := by decide +kernel
theorem d_Bk_seamPrice_17 : decode c_Bk_seamPrice 17 = .ok (.invokevirtual 66, 3) := by decide +kernel
theorem d_Bk_seamPrice_20 : decode c_Bk_seamPrice 20 = .ok (.goto 4, 3) := by decide +kernel
theorem d_Bk_seamPrice_23 : decode c_Bk_seamPrice 23 = .ok (.iconst 1, 1) := by decide +kernel
theorem d_Bk_seamPrice_24 : decode c_Bk_seamPrice 24 = .ok (.istore_n 3, 1) := by decide +kernel
theorem d_Bk_seamPrice_25 : decode c_Bk_seamPrice 25 = .ok (.aload_n 0, 1) := by decide +kernel
theorem d_Bk_seamPrice_26 : decode c_Bk_seamPrice 26 = .ok (.getfield 14, 3) := by decide +kernel
theorem d_Bk_seamPrice_29 : decode c_Bk_seamPrice 29 = .ok (.iconst 2, 1) := by decide +kernel
theorem d_Bk_seamPrice_30 : decode c_Bk_seamPrice 30 = .ok (.invokevirtual 66, 3) := by decide +kernel
theorem d_Bk_seamPrice_33 : decode c_Bk_seamPrice 33 = .ok (.iload_n 3, 1) := by decide +kernel
theorem d_Bk_seamPrice_34 : decode c_Bk_seamPrice 34 = .ok (.imul, 1) := by decide +kernel
theorem d_Bk_seamPrice_35 : decode c_Bk_seamPrice 35 = .ok (.ireturn, 1) := by decide +kernel
theorem d_Bk_takePiece_0 : decode c_Bk_takePiece 0 = .ok (.aload_n 0, 1) := by decide +kernel
theorem d_Bk_takePiece_1 : decode c_Bk_takePiece 1 = .ok (.getfield 30, 3) := by decide +kernel
theorem d_Bk_takePiece_4 : decode c_Bk_takePiece 4 = .ok (.iload_n 1, 1) := by decide +kernel
theorem d_Bk_takePiece_5 : decode c_Bk_takePiece 5 = .ok (.iload_n 2, 1) := by decide +kernel
theorem d_Bk_takePiece_6 : decode c_Bk_takePiece 6 = .ok (.iload_n 3, 1) := by decide +kernel
theorem d_Bk_takePiece_7 : decode c_Bk_takePiece 7 = .ok (.invokevirtual 118, 3) := by decide +kernel
theorem d_Bk_takePiece_10 : decode c_Bk_takePiece 10 = .ok (.istore 6, 2) := by decide +kernel
theorem d_Bk_takePiece_12 : decode c_Bk_takePiece 12 = .ok (.iload 6, 2) := by decide +kernel
theorem d_Bk_takePiece_14 : decode c_Bk_takePiece 14 = .ok (.ifCond .lt 69, 3) := by decide +kernel
theorem d_Bk_takePiece_17 : decode c_Bk_takePiece 17 = .ok (.aload_n 0, 1) := by decide +kernel
theorem d_Bk_takePiece_18 : decode c_Bk_takePiece 18 = .ok (.aload_n 0, 1) := by decide +kernel
theorem d_Bk_takePiece_19 : decode c_Bk_takePiece 19 = .ok (.getfield 30, 3) := by decide +kernel
theorem d_Bk_takePiece_22 : decode c_Bk_takePiece 22 = .ok (.getfield 122, 3) := by decide +kernel
theorem d_Bk_takePiece_25 : decode c_Bk_takePiece 25 = .ok (.iload 6, 2) := by decide +kernel
theorem d_Bk_takePiece_27 : decode c_Bk_takePiece 27 = .ok (.invokevirtual 66, 3) := by decide +kernel
theorem d_Bk_takePiece_30 : decode c_Bk_takePiece 30 = .ok (.putfield 123, 3) := by decide +kernel
theorem d_Bk_takePiece_33 : decode c_Bk_takePiece 33 = .ok (.aload_n 0, 1) := by decide +kernel
theorem d_Bk_takePiece_34 : decode c_Bk_takePiece 34 = .ok (.aload_n 0, 1) := by decide +kernel
theorem d_Bk_takePiece_35 : decode c_Bk_takePiece 35 = .ok (.getfield 30, 3) := by decide +kernel
theorem d_Bk_takePiece_38 : decode c_Bk_takePiece 38 = .ok (.getfield 126, 3) := by decide +kernel
theorem d_Bk_takePiece_41 : decode c_Bk_takePiece 41 = .ok (.iload 6, 2) := by decide +kernel
theorem d_Bk_takePiece_43 : decode c_Bk_takePiece 43 = .ok (.invokevirtual 66, 3) := by decide +kernel
theorem d_Bk_takePiece_46 : decode c_Bk_takePiece 46 = .ok (.putfield 129, 3) := by decide +kernel
theorem d_Bk_takePiece_49 : decode c_Bk_takePiece 49 = .ok (.aload_n 0, 1) := by decide +kernel
theorem d_Bk_takePiece_50 : decode c_Bk_takePiece 50 = .ok (.getfield 37, 3) := by decide +kernel
theorem d_Bk_takePiece_53 : decode c_Bk_takePiece 53 = .ok (.iload 4, 2) := by decide +kernel
theorem d_Bk_takePiece_55 : decode c_Bk_takePiece 55 = .ok (.iload 5, 2) := by decide +kernel
theorem d_Bk_takePiece_57 : decode c_Bk_takePiece 57 = .ok (.aload_n 0, 1) := by decide +kernel
theorem d_Bk_takePiece_58 : decode c_Bk_takePiece 58 = .ok (.getfield 30, 3) := by decide +kernel
theorem d_Bk_takePiece_61 : decode c_Bk_takePiece 61 = .ok (.getfield 132, 3) := by decide +kernel
theorem d_Bk_takePiece_64 : decode c_Bk_takePiece 64 = .ok (.iload 6, 2) := by decide +kernel
theorem d_Bk_takePiece_66 : decode c_Bk_takePiece 66 = .ok (.invokevirtual 66, 3) := by decide +kernel
theorem d_Bk_takePiece_69 : decode c_Bk_takePiece 69 = .ok (.invokevirtual 135, 3) := by decide +kernel
theorem d_Bk_takePiece_72 : decode c_Bk_takePiece 72 = .ok (.aload_n 0, 1) := by decide +kernel
theorem d_Bk_takePiece_73 : decode c_Bk_takePiece 73 = .ok (.getfield 30, 3) := by decide +kernel
theorem d_Bk_takePiece_76 : decode c_Bk_takePiece 76 = .ok (.iload 6, 2) := by decide +kernel
theorem d_Bk_takePiece_78 : decode c_Bk_takePiece 78 = .ok (.invokevirtual 139, 3) := by decide +kernel
theorem d_Bk_takePiece_81 : decode c_Bk_takePiece 81 = .ok (.iconst 1, 1) := by decide +kernel
theorem d_Bk_takePiece_82 : decode c_Bk_takePiece 82 = .ok (.ireturn, 1) := by decide +kernel
theorem d_Bk_takePiece_83 : decode c_Bk_takePiece 83 = .ok (.aload_n 0, 1) := by decide +kernel
theorem d_Bk_takePiece_84 : decode c_Bk_takePiece 84 = .ok (.getfield 23, 3) := by decide +kernel
theorem d_Bk_takePiece_87 : decode c_Bk_takePiece 87 = .ok (.getfield 142, 3) := by decide +kernel
theorem d_Bk_takePiece_90 : decode c_Bk_takePiece 90 = .ok (.iload_n 1, 1) := by decide +kernel
theorem d_Bk_takePiece_91 : decode c_Bk_takePiece 91 = .ok (.invokevirtual 66, 3) := by decide +kernel
theorem d_Bk_takePiece_94 : decode c_Bk_takePiece 94 = .ok (.iload_n 3, 1) := by decide +kernel
theorem d_Bk_takePiece_95 : decode c_Bk_takePiece 95 = .ok (.if_icmp .ge 5, 3) := by decide +kernel
theorem d_Bk_takePiece_98 : decode c_Bk_takePiece 98 = .ok (.iconst 0, 1) := by decide +kernel
theorem d_Bk_takePiece_99 : decode c_Bk_takePiece 99 = .ok (.ireturn, 1) := by decide +kernel
theorem d_Bk_takePiece_100 : decode c_Bk_takePiece 100 = .ok (.aload_n 0, 1) := by decide +kernel
theorem d_Bk_takePiece_101 : decode c_Bk_takePiece 101 = .ok (.getfield 23, 3) := by decide +kernel
theorem d_Bk_takePiece_104 : decode c_Bk_takePiece 104 = .ok (.getfield 142, 3) := by decide +kernel
theorem d_Bk_takePiece_107 : decode c_Bk_takePiece 107 = .ok (.iload_n 1, 1) := by decide +kernel
theorem d_Bk_takePiece_108 : decode c_Bk_takePiece 108 = .ok (.iload_n 3, 1) := by decide +kernel
theorem d_Bk_takePiece_109 : decode c_Bk_takePiece 109 = .ok (.ineg, 1) := by decide +kernel
theorem d_Bk_takePiece_110 : decode c_Bk_takePiece 110 = .ok (.invokevirtual 98, 3) := by decide +kernel
theorem d_Bk_takePiece_113 : decode c_Bk_takePiece 113 = .ok (.aload_n 0, 1) := by decide +kernel
theorem d_Bk_takePiece_114 : decode c_Bk_takePiece 114 = .ok (.aload_n 0, 1) := by decide +kernel
theorem d_Bk_takePiece_115 : decode c_Bk_takePiece 115 = .ok (.getfield 23, 3) := by decide +kernel
theorem d_Bk_takePiece_118 : decode c_Bk_takePiece 118 = .ok (.getfield 74, 3) := by decide +kernel
theorem d_Bk_takePiece_121 : decode c_Bk_takePiece 121 = .ok (.iload_n 1, 1) := by decide +kernel
theorem d_Bk_takePiece_122 : decode c_Bk_takePiece 122 = .ok (.invokevirtual 66, 3) := by decide +kernel
theorem d_Bk_takePiece_125 : decode c_Bk_takePiece 125 = .ok (.putfield 123, 3) := by decide +kernel
theorem d_Bk_takePiece_128 : decode c_Bk_takePiece 128 = .ok (.aload_n 0, 1) := by decide +kernel
theorem d_Bk_takePiece_129 : decode c_Bk_takePiece 129 = .ok (.iload_n 3, 1) := by decide +kernel
theorem d_Bk_takePiece_130 : decode c_Bk_takePiece 130 = .ok (.putfield 129, 3) := by decide +kernel
theorem d_Bk_takePiece_133 : decode c_Bk_takePiece 133 = .ok (.aload_n 0, 1) := by decide +kernel
theorem d_Bk_takePiece_134 : decode c_Bk_takePiece 134 = .ok (.getfield 37, 3) := by decide +kernel
theorem d_Bk_takePiece_137 : decode c_Bk_takePiece 137 = .ok (.iload 4, 2) := by decide +kernel
theorem d_Bk_takePiece_139 : decode c_Bk_takePiece 139 = .ok (.iload 5, 2) := by decide +kernel
theorem d_Bk_takePiece_141 : decode c_Bk_takePiece 141 = .ok (.bipush (-5), 2) := by decide +kernel
theorem d_Bk_takePiece_143 : decode c_Bk_takePiece 143 = .ok (.invokevirtual 135, 3) := by decide +kernel
theorem d_Bk_takePiece_146 : decode c_Bk_takePiece 146 = .ok (.iconst 1, 1) := by decide +kernel
theorem d_Bk_takePiece_147 : decode c_Bk_takePiece 147 = .ok (.ireturn, 1) := by decide +kernel
theorem d_Bk_leaveRests_0 : decode c_Bk_leaveRests 0 = .ok (.aload_n 0, 1) := by decide +kernel
theorem d_Bk_leaveRests_1 : decode c_Bk_leaveRests 1 = .ok (.iload_n 2, 1) := by decide +kernel
theorem d_Bk_leaveRests_2 : decode c_Bk_leaveRests 2 = .ok (.iload_n 3, 1) := by decide +kernel
theorem d_Bk_leaveRests_3 : decode c_Bk_leaveRests 3 = .ok (.invokevirtual 145, 3) := by decide +kernel
theorem d_Bk_leaveRests_6 : decode c_Bk_leaveRests 6 = .ok (.istore 4, 2) := by decide +kernel
theorem d_Bk_leaveRests_8 : decode c_Bk_leaveRests 8 = .ok (.iload 4, 2) := by decide +kernel
theorem d_Bk_leaveRests_10 : decode c_Bk_leaveRests 10 = .ok (.ifCond .eq 10, 3) := by decide +kernel
theorem d_Bk_leaveRests_13 : decode c_Bk_leaveRests 13 = .ok (.aload_n 0, 1) := by decide +kernel
theorem d_Bk_leaveRests_14 : decode c_Bk_leaveRests 14 = .ok (.getfield 129, 3) := by decide +kernel
theorem d_Bk_leaveRests_17 : decode c_Bk_leaveRests 17 = .ok (.goto 4, 3) := by decide +kernel
theorem d_Bk_leaveRests_20 : decode c_Bk_leaveRests 20 = .ok (.iload_n 3, 1) := by decide +kernel
theorem d_Bk_leaveRests_21 : decode c_Bk_leaveRests 21 = .ok (.istore 5, 2) := by decide +kernel
theorem d_Bk_leaveRests_23 : decode c_Bk_leaveRests 23 = .ok (.iload 4, 2) := by decide +kernel
theorem d_Bk_leaveRests_25 : decode c_Bk_leaveRests 25 = .ok (.ifCond .eq 7, 3) := by decide +kernel
theorem d_Bk_leaveRests_28 : decode c_Bk_leaveRests 28 = .ok (.iload_n 2, 1) := by decide +kernel
theorem d_Bk_leaveRests_29 : decode c_Bk_leaveRests 29 = .ok (.goto 7, 3) := by decide +kernel
theorem d_Bk_leaveRests_32 : decode c_Bk_leaveRests 32 = .ok (.aload_n 0, 1) := by decide +kernel
theorem d_Bk_leaveRests_33 : decode c_Bk_leaveRests 33 = .ok (.getfield 123, 3) := by decide +kernel
theorem d_Bk_leaveRests_36 : decode c_Bk_leaveRests 36 = .ok (.istore 6, 2) := by decide +kernel
theorem d_Bk_leaveRests_38 : decode c_Bk_leaveRests 38 = .ok (.aload_n 0, 1) := by decide +kernel
theorem d_Bk_leaveRests_39 : decode c_Bk_leaveRests 39 = .ok (.iload_n 1, 1) := by decide +kernel
theorem d_Bk_leaveRests_40 : decode c_Bk_leaveRests 40 = .ok (.aload_n 0, 1) := by decide +kernel
theorem d_Bk_leaveRests_41 : decode c_Bk_leaveRests 41 = .ok (.getfield 123, 3) := by decide +kernel
theorem d_Bk_leaveRests_44 : decode c_Bk_leaveRests 44 = .ok (.iload_n 2, 1) := by decide +kernel
theorem d_Bk_leaveRests_45 : decode c_Bk_leaveRests 45 = .ok (.isub, 1) := by decide +kernel
theorem d_Bk_leaveRests_46 : decode c_Bk_leaveRests 46 = .ok (.iload 5, 2) := by decide +kernel
theorem d_Bk_leaveRests_48 : decode c_Bk_leaveRests 48 = .ok (.invokevirtual 148, 3) := by decide +kernel
theorem d_Bk_leaveRests_51 : decode c_Bk_leaveRests 51 = .ok (.ifCond .eq 23, 3) := by decide +kernel
theorem d_Bk_leaveRests_54 : decode c_Bk_leaveRests 54 = .ok (.aload_n 0, 1) := by decide +kernel
theorem d_Bk_leaveRests_55 : decode c_Bk_leaveRests 55 = .ok (.iload_n 1, 1) := by decide +kernel
theorem d_Bk_leaveRests_56 : decode c_Bk_leaveRests 56 = .ok (.iload 6, 2) := by decide +kernel
theorem d_Bk_leaveRests_58 : decode c_Bk_leaveRests 58 = .ok (.aload_n 0, 1) := by decide +kernel
theorem d_Bk_leaveRests_59 : decode c_Bk_leaveRests 59 = .ok (.getfield 129, 3) := by decide +kernel
theorem d_Bk_leaveRests_62 : decode c_Bk_leaveRests 62 = .ok (.iload_n 3, 1) := by decide +kernel
theorem d_Bk_leaveRests_63 : decode c_Bk_leaveRests 63 = .ok (.isub, 1) := by decide +kernel
theorem d_Bk_leaveRests_64 : decode c_Bk_leaveRests 64 = .ok (.invokevirtual 148, 3) := by decide +kernel
theorem d_Bk_leaveRests_67 : decode c_Bk_leaveRests 67 = .ok (.ifCond .eq 7, 3) := by decide +kernel
theorem d_Bk_leaveRests_70 : decode c_Bk_leaveRests 70 = .ok (.iconst 1, 1) := by decide +kernel
theorem d_Bk_leaveRests_71 : decode c_Bk_leaveRests 71 = .ok (.goto 4, 3) := by decide +kernel
theorem d_Bk_leaveRests_74 : decode c_Bk_leaveRests 74 = .ok (.iconst 0, 1) := by decide +kernel
theorem d_Bk_leaveRests_75 : decode c_Bk_leaveRests 75 = .ok (.ireturn, 1) := by decide +kernel
theorem d_Bk_isLongBeside_0 : decode c_Bk_isLongBeside 0 = .ok (.aload_n 0, 1) := by decide +kernel
theorem d_Bk_isLongBeside_1 : decode c_Bk_isLongBeside 1 = .ok (.getfield 14, 3) := by decide +kernel
theorem d_Bk_isLongBeside_4 : decode c_Bk_isLongBeside 4 = .ok (.iconst 0, 1) := by decide +kernel
theorem d_Bk_isLongBeside_5 : decode c_Bk_isLongBeside 5 = .ok (.invokevirtual 66, 3) := by decide +kernel
theorem d_Bk_isLongBeside_8 : decode c_Bk_isLongBeside 8 = .ok (.istore_n 3, 1) := by decide +kernel
theorem d_Bk_isLongBeside_9 : decode c_Bk_isLongBeside 9 = .ok (.iload_n 3, 1) := by decide +kernel
theorem d_Bk_isLongBeside_10 : decode c_Bk_isLongBeside 10 = .ok (.iconst 2, 1) := by decide +kernel
theorem d_Bk_isLongBeside_11 : decode c_Bk_isLongBeside 11 = .ok (.if_icmp .eq 13, 3) := by decide +kernel
theorem d_Bk_isLongBeside_14 : decode c_Bk_isLongBeside 14 = .ok (.iload_n 3, 1) := by decide +kernel
theorem d_Bk_isLongBeside_15 : decode c_Bk_isLongBeside 15 = .ok (.ifCond .ne 7, 3) := by decide +kernel
theorem d_Bk_isLongBeside_18 : decode c_Bk_isLongBeside 18 = .ok (.iconst 1, 1) := by decide +kernel
theorem d_Bk_isLongBeside_19 : decode c_Bk_isLongBeside 19 = .ok (.goto 4, 3) := by decide +kernel
theorem d_Bk_isLongBeside_22 : decode c_Bk_isLongBeside 22 = .ok (.iconst 0, 1) := by decide +kernel
theorem d_Bk_isLongBeside_23 : decode c_Bk_isLongBeside 23 = .ok (.ireturn, 1) := by decide +kernel
theorem d_Bk_isLongBeside_24 : decode c_Bk_isLongBeside 24 = .ok (.aload_n 0, 1) := by decide +kernel
theorem d_Bk_isLongBeside_25 : decode c_Bk_isLongBeside 25 = .ok (.getfield 123, 3) := by decide +kernel
theorem d_Bk_isLongBeside_28 : decode c_Bk_isLongBeside 28 = .ok (.iload_n 1, 1) := by decide +kernel
theorem d_Bk_isLongBeside_29 : decode c_Bk_isLongBeside 29 = .ok (.isub, 1) := by decide +kernel
theorem d_Bk_isLongBeside_30 : decode c_Bk_isLongBeside 30 = .ok (.istore 4, 2) := by decide +kernel
theorem d_Bk_isLongBeside_32 : decode c_Bk_isLongBeside 32 = .ok (.aload_n 0, 1) := by decide +kernel
theorem d_Bk_isLongBeside_33 : decode c_Bk_isLongBeside 33 = .ok (.getfield 129, 3) := by decide +kernel
theorem d_Bk_isLongBeside_36 : decode c_Bk_isLongBeside 36 = .ok (.iload_n 2, 1) := by decide +kernel
theorem d_Bk_isLongBeside_37 : decode c_Bk_isLongBeside 37 = .ok (.isub, 1) := by decide +kernel
theorem d_Bk_isLongBeside_38 : decode c_Bk_isLongBeside 38 = .ok (.istore 5, 2) := by decide +kernel
theorem d_Bk_isLongBeside_40 : decode c_Bk_isLongBeside 40 = .ok (.iload 4, 2) := by decide +kernel
theorem d_Bk_isLongBeside_42 : decode c_Bk_isLongBeside 42 = .ok (.aload_n 0, 1) := by decide +kernel
theorem d_Bk_isLongBeside_43 : decode c_Bk_isLongBeside 43 = .ok (.getfield 129, 3) := by decide +kernel
theorem d_Bk_isLongBeside_46 : decode c_Bk_isLongBeside 46 = .ok (.imul, 1) := by decide +kernel
theorem d_Bk_isLongBeside_47 : decode c_Bk_isLongBeside 47 = .ok (.iload_n 1, 1) := by decide +kernel
theorem d_Bk_isLongBeside_48 : decode c_Bk_isLongBeside 48 = .ok (.iload 5, 2) := by decide +kernel
theorem d_Bk_isLongBeside_50 : decode c_Bk_isLongBeside 50 = .ok (.imul, 1) := by decide +kernel
theorem d_Bk_isLongBeside_51 : decode c_Bk_isLongBeside 51 = .ok (.invokestatic 151, 3) := by decide +kernel
theorem d_Bk_isLongBeside_54 : decode c_Bk_isLongBeside 54 = .ok (.istore 6, 2) := by decide +kernel
theorem d_Bk_isLongBeside_56 : decode c_Bk_isLongBeside 56 = .ok (.iload 4, 2) := by decide +kernel
theorem d_Bk_isLongBeside_58 : decode c_Bk_isLongBeside 58 = .ok (.iload_n 2, 1) := by decide +kernel
theorem d_Bk_isLongBeside_59 : decode c_Bk_isLongBeside 59 = .ok (.imul, 1) := by decide +kernel
theorem d_Bk_isLongBeside_60 : decode c_Bk_isLongBeside 60 = .ok (.aload_n 0, 1) := by decide +kernel
theorem d_Bk_isLongBeside_61 : decode c_Bk_isLongBeside 61 = .ok (.getfield 123, 3) := by decide +kernel
theorem d_Bk_isLongBeside_64 : decode c_Bk_isLongBeside 64 = .ok (.iload 5, 2) := by decide +kernel
theorem d_Bk_isLongBeside_66 : decode c_Bk_isLongBeside 66 = .ok (.imul, 1) := by decide +kernel
theorem d_Bk_isLongBeside_67 : decode c_Bk_isLongBeside 67 = .ok (.invokestatic 151, 3) := by decide +kernel
theorem d_Bk_isLongBeside_70 : decode c_Bk_isLongBeside 70 = .ok (.istore 7, 2) := by decide +kernel
theorem d_Bk_isLongBeside_72 : decode c_Bk_isLongBeside 72 = .ok (.iload 6, 2) := by decide +kernel
theorem d_Bk_isLongBeside_74 : decode c_Bk_isLongBeside 74 = .ok (.iload 7, 2) := by decide +kernel
theorem d_Bk_isLongBeside_76 : decode c_Bk_isLongBeside 76 = .ok (.if_icmp .lt 7, 3) := by decide +kernel
theorem d_Bk_isLongBeside_79 : decode c_Bk_isLongBeside 79 = .ok (.iconst 1, 1) := by decide +kernel
theorem d_Bk_isLongBeside_80 : decode c_Bk_isLongBeside 80 = .ok (.goto 4, 3) := by decide +kernel
theorem d_Bk_isLongBeside_83 : decode c_Bk_isLongBeside 83 = .ok (.iconst 0, 1) := by decide +kernel
theorem d_Bk_isLongBeside_84 : decode c_Bk_isLongBeside 84 = .ok (.ireturn, 1) := by decide +kernel
theorem d_Bk_leaveRest_0 : decode c_Bk_leaveRest 0 = .ok (.aload_n 0, 1) := by decide +kernel
theorem d_Bk_leaveRest_1 : decode c_Bk_leaveRest 1 = .ok (.getfield 14, 3) := by decide +kernel
theorem d_Bk_leaveRest_4 : decode c_Bk_leaveRest 4 = .ok (.iconst 1, 1) := by decide +kernel
theorem d_Bk_leaveRest_5 : decode c_Bk_leaveRest 5 = .ok (.invokevirtual 66, 3) := by decide +kernel
theorem d_Bk_leaveRest_8 : decode c_Bk_leaveRest 8 = .ok (.istore 4, 2) := by decide +kernel
theorem d_Bk_leaveRest_10 : decode c_Bk_leaveRest 10 = .ok (.iload_n 2, 1) := by decide +kernel
theorem d_Bk_leaveRest_11 : decode c_Bk_leaveRest 11 = .ok (.iload 4, 2) := by decide +kernel
theorem d_Bk_leaveRest_13 : decode c_Bk_leaveRest 13 = .ok (.if_icmp .lt 9, 3) := by decide +kernel
theorem d_Bk_leaveRest_16 : decode c_Bk_leaveRest 16 = .ok (.iload_n 3, 1) := by decide +kernel
theorem d_Bk_leaveRest_17 : decode c_Bk_leaveRest 17 = .ok (.iload 4, 2) := by decide +kernel
theorem d_Bk_leaveRest_19 : decode c_Bk_leaveRest 19 = .ok (.if_icmp .ge 19, 3) := by decide +kernel
theorem d_Bk_leaveRest_22 : decode c_Bk_leaveRest 22 = .ok (.aload_n 0, 1) := by decide +kernel
theorem d_Bk_leaveRest_23 : decode c_Bk_leaveRest 23 = .ok (.getfield 23, 3) := by decide +kernel
theorem d_Bk_leaveRest_26 : decode c_Bk_leaveRest 26 = .ok (.getfield 156, 3) := by decide +kernel
theorem d_Bk_leaveRest_29 : decode c_Bk_leaveRest 29 = .ok (.iload_n 1, 1) := by decide +kernel
theorem d_Bk_leaveRest_30 : decode c_Bk_leaveRest 30 = .ok (.iload_n 2, 1) := by decide +kernel
theorem d_Bk_leaveRest_31 : decode c_Bk_leaveRest 31 = .ok (.iload_n 3, 1) := by decide +kernel
theorem d_Bk_leaveRest_32 : decode c_Bk_leaveRest 32 = .ok (.imul, 1) := by decide +kernel
theorem d_Bk_leaveRest_33 : decode c_Bk_leaveRest 33 = .ok (.invokevirtual 98, 3) := by decide +kernel
theorem d_Bk_leaveRest_36 : decode c_Bk_leaveRest 36 = .ok (.iconst 1, 1) := by decide +kernel
theorem d_Bk_leaveRest_37 : decode c_Bk_leaveRest 37 = .ok (.ireturn, 1) := by decide +kernel
theorem d_Bk_leaveRest_38 : decode c_Bk_leaveRest 38 = .ok (.aload_n 0, 1) := by decide +kernel
theorem d_Bk_leaveRest_39 : decode c_Bk_leaveRest 39 = .ok (.getfield 30, 3) := by decide +kernel
theorem d_Bk_leaveRest_42 : decode c_Bk_leaveRest 42 = .ok (.iload_n 1, 1) := by decide +kernel
theorem d_Bk_leaveRest_43 : decode c_Bk_leaveRest 43 = .ok (.iload_n 2, 1) := by decide +kernel
theorem d_Bk_leaveRest_44 : decode c_Bk_leaveRest 44 = .ok (.iload_n 3, 1) := by decide +kernel
theorem d_Bk_leaveRest_45 : decode c_Bk_leaveRest 45 = .ok (.invokevirtual 159, 3) := by decide +kernel
theorem d_Bk_leaveRest_48 : decode c_Bk_leaveRest 48 = .ok (.ireturn, 1) := by decide +kernel
theorem d_Bk_lift_0 : decode c_Bk_lift 0 = .ok (.aload_n 0, 1) := by decide +kernel
theorem d_Bk_lift_1 : decode c_Bk_lift 1 = .ok (.getfield 37, 3) := by decide +kernel
theorem d_Bk_lift_4 : decode c_Bk_lift 4 = .ok (.getfield 162, 3) := by decide +kernel
theorem d_Bk_lift_7 : decode c_Bk_lift 7 = .ok (.iload_n 1, 1) := by decide +kernel
theorem d_Bk_lift_8 : decode c_Bk_lift 8 = .ok (.invokevirtual 66, 3) := by decide +kernel
theorem d_Bk_lift_11 : decode c_Bk_lift 11 = .ok (.istore_n 2, 1) := by decide +kernel
theorem d_Bk_lift_12 : decode c_Bk_lift 12 = .ok (.aload_n 0, 1) := by decide +kernel
theorem d_Bk_lift_13 : decode c_Bk_lift 13 = .ok (.getfield 37, 3) := by decide +kernel
theorem d_Bk_lift_16 : decode c_Bk_lift 16 = .ok (.iload_n 1, 1) := by decide +kernel
theorem d_Bk_lift_17 : decode c_Bk_lift 17 = .ok (.invokevirtual 81, 3) := by decide +kernel
theorem d_Bk_lift_20 : decode c_Bk_lift 20 = .ok (.istore_n 3, 1) := by decide +kernel
theorem d_Bk_lift_21 : decode c_Bk_lift 21 = .ok (.iconst 0, 1) := by decide +kernel
theorem d_Bk_lift_22 : decode c_Bk_lift 22 = .ok (.istore 4, 2) := by decide +kernel
theorem d_Bk_lift_24 : decode c_Bk_lift 24 = .ok (.iconst 0, 1) := by decide +kernel
theorem d_Bk_lift_25 : decode c_Bk_lift 25 = .ok (.istore 5, 2) := by decide +kernel
theorem d_Bk_lift_27 : decode c_Bk_lift 27 = .ok (.iload 5, 2) := by decide +kernel
theorem d_Bk_lift_29 : decode c_Bk_lift 29 = .ok (.iload_n 3, 1) := by decide +kernel
theorem d_Bk_lift_30 : decode c_Bk_lift 30 = .ok (.if_icmp .ge 87, 3) := by decide +kernel
theorem d_Bk_lift_33 : decode c_Bk_lift 33 = .ok (.aload_n 0, 1) := by decide +kernel
theorem d_Bk_lift_34 : decode c_Bk_lift 34 = .ok (.getfield 37, 3) := by decide +kernel
theorem d_Bk_lift_37 : decode c_Bk_lift 37 = .ok (.iload_n 1, 1) := by decide +kernel
theorem d_Bk_lift_38 : decode c_Bk_lift 38 = .ok (.iload 5, 2) := by decide +kernel
theorem d_Bk_lift_40 : decode c_Bk_lift 40 = .ok (.invokevirtual 84, 3) := by decide +kernel
theorem d_Bk_lift_43 : decode c_Bk_lift 43 = .ok (.istore 6, 2) := by decide +kernel
theorem d_Bk_lift_45 : decode c_Bk_lift 45 = .ok (.aload_n 0, 1) := by decide +kernel
theorem d_Bk_lift_46 : decode c_Bk_lift 46 = .ok (.getfield 37, 3) := by decide +kernel
theorem d_Bk_lift_49 : decode c_Bk_lift 49 = .ok (.iload_n 1, 1) := by decide +kernel
theorem d_Bk_lift_50 : decode c_Bk_lift 50 = .ok (.iload 5, 2) := by decide +kernel
theorem d_Bk_lift_52 : decode c_Bk_lift 52 = .ok (.invokevirtual 88, 3) := by decide +kernel
theorem d_Bk_lift_55 : decode c_Bk_lift 55 = .ok (.istore 7, 2) := by decide +kernel
theorem d_Bk_lift_57 : decode c_Bk_lift 57 = .ok (.aload_n 0, 1) := by decide +kernel
theorem d_Bk_lift_58 : decode c_Bk_lift 58 = .ok (.getfield 23, 3) := by decide +kernel
theorem d_Bk_lift_61 : decode c_Bk_lift 61 = .ok (.getfield 95, 3) := by decide +kernel
theorem d_Bk_lift_64 : decode c_Bk_lift 64 = .ok (.iload_n 2, 1) := by decide +kernel
theorem d_Bk_lift_65 : decode c_Bk_lift 65 = .ok (.iload 6, 2) := by decide +kernel
theorem d_Bk_lift_67 : decode c_Bk_lift 67 = .ok (.iload 7, 2) := by decide +kernel
theorem d_Bk_lift_69 : decode c_Bk_lift 69 = .ok (.imul, 1) := by decide +kernel
theorem d_Bk_lift_70 : decode c_Bk_lift 70 = .ok (.ineg, 1) := by decide +kernel
theorem d_Bk_lift_71 : decode c_Bk_lift 71 = .ok (.invokevirtual 98, 3) := by decide +kernel
theorem d_Bk_lift_74 : decode c_Bk_lift 74 = .ok (.aload_n 0, 1) := by decide +kernel
theorem d_Bk_lift_75 : decode c_Bk_lift 75 = .ok (.getfield 30, 3) := by decide +kernel
theorem d_Bk_lift_78 : decode c_Bk_lift 78 = .ok (.iload_n 2, 1) := by decide +kernel
theorem d_Bk_lift_79 : decode c_Bk_lift 79 = .ok (.iload 6, 2) := by decide +kernel
theorem d_Bk_lift_81 : decode c_Bk_lift 81 = .ok (.iload 7, 2) := by decide +kernel
theorem d_Bk_lift_83 : decode c_Bk_lift 83 = .ok (.invokevirtual 159, 3) := by decide +kernel
theorem d_Bk_lift_86 : decode c_Bk_lift 86 = .ok (.ifCond .eq 9, 3) := by decide +kernel
theorem d_Bk_lift_89 : decode c_Bk_lift 89 = .ok (.iinc 4 1, 3) := by decide +kernel
theorem d_Bk_lift_92 : decode c_Bk_lift 92 = .ok (.goto 19, 3) := by decide +kernel
theorem d_Bk_lift_95 : decode c_Bk_lift 95 = .ok (.aload_n 0, 1) := by decide +kernel
theorem d_Bk_lift_96 : decode c_Bk_lift 96 = .ok (.getfield 23, 3) := by decide +kernel
theorem d_Bk_lift_99 : decode c_Bk_lift 99 = .ok (.getfield 156, 3) := by decide +kernel
theorem d_Bk_lift_102 : decode c_Bk_lift 102 = .ok (.iload_n 2, 1) := by decide +kernel
theorem d_Bk_lift_103 : decode c_Bk_lift 103 = .ok (.iload 6, 2) := by decide +kernel
theorem d_Bk_lift_105 : decode c_Bk_lift 105 = .ok (.iload 7, 2) := by decide +kernel
theorem d_Bk_lift_107 : decode c_Bk_lift 107 = .ok (.imul, 1) := by decide +kernel
theorem d_Bk_lift_108 : decode c_Bk_lift 108 = .ok (.invokevirtual 98, 3) := by decide +kernel
theorem d_Bk_lift_111 : decode c_Bk_lift 111 = .ok (.iinc 5 1, 3) := by decide +kernel
theorem d_Bk_lift_114 : decode c_Bk_lift 114 = .ok (.goto (-87), 3) := by decide +kernel
theorem d_Bk_lift_117 : decode c_Bk_lift 117 = .ok (.aload_n 0, 1) := by decide +kernel
theorem d_Bk_lift_118 : decode c_Bk_lift 118 = .ok (.getfield 37, 3) := by decide +kernel
theorem d_Bk_lift_121 : decode c_Bk_lift 121 = .ok (.iload_n 1, 1) := by decide +kernel
theorem d_Bk_lift_122 : decode c_Bk_lift 122 = .ok (.invokevirtual 165, 3) := by decide +kernel
theorem d_Bk_lift_125 : decode c_Bk_lift 125 = .ok (.iload 4, 2) := by decide +kernel
theorem d_Bk_lift_127 : decode c_Bk_lift 127 = .ok (.ireturn, 1) := by decide +kernel
theorem d_Bk_sellAt_0 : decode c_Bk_sellAt 0 = .ok (.aload_n 0, 1) := by decide +kernel
theorem d_Bk_sellAt_1 : decode c_Bk_sellAt 1 = .ok (.getfield 30, 3) := by decide +kernel
theorem d_Bk_sellAt_4 : decode c_Bk_sellAt 4 = .ok (.getfield 168, 3) := by decide +kernel
theorem d_Bk_sellAt_7 : decode c_Bk_sellAt 7 = .ok (.iload_n 1, 1) := by decide +kernel
theorem d_Bk_sellAt_8 : decode c_Bk_sellAt 8 = .ok (.invokevirtual 66, 3) := by decide +kernel
theorem d_Bk_sellAt_11 : decode c_Bk_sellAt 11 = .ok (.istore_n 2, 1) := by decide +kernel
theorem d_Bk_sellAt_12 : decode c_Bk_sellAt 12 = .ok (.aload_n 0, 1) := by decide +kernel
theorem d_Bk_sellAt_13 : decode c_Bk_sellAt 13 = .ok (.getfield 30, 3) := by decide +kernel
theorem d_Bk_sellAt_16 : decode c_Bk_sellAt 16 = .ok (.iload_n 1, 1) := by decide +kernel
theorem d_Bk_sellAt_17 : decode c_Bk_sellAt 17 = .ok (.invokevirtual 169, 3) := by decide +kernel
theorem d_Bk_sellAt_20 : decode c_Bk_sellAt 20 = .ok (.istore_n 3, 1) := by decide +kernel
theorem d_Bk_sellAt_21 : decode c_Bk_sellAt 21 = .ok (.iload_n 3, 1) := by decide +kernel
theorem d_Bk_sellAt_22 : decode c_Bk_sellAt 22 = .ok (.aload_n 0, 1) := by decide +kernel
theorem d_Bk_sellAt_23 : decode c_Bk_sellAt 23 = .ok (.getfield 23, 3) := by decide +kernel
theorem d_Bk_sellAt_26 : decode c_Bk_sellAt 26 = .ok (.getfield 108, 3) := by decide +kernel
theorem d_Bk_sellAt_29 : decode c_Bk_sellAt 29 = .ok (.iload_n 2, 1) := by decide +kernel
theorem d_Bk_sellAt_30 : decode c_Bk_sellAt 30 = .ok (.invokevirtual 66, 3) := by decide +kernel
theorem d_Bk_sellAt_33 : decode c_Bk_sellAt 33 = .ok (.imul, 1) := by decide +kernel
theorem d_Bk_sellAt_34 : decode c_Bk_sellAt 34 = .ok (.iconst 2, 1) := by decide +kernel
theorem d_Bk_sellAt_35 : decode c_Bk_sellAt 35 = .ok (.idiv, 1) := by decide +kernel
theorem d_Bk_sellAt_36 : decode c_Bk_sellAt 36 = .ok (.istore 4, 2) := by decide +kernel
theorem d_Bk_sellAt_38 : decode c_Bk_sellAt 38 = .ok (.aload_n 0, 1) := by decide +kernel
theorem d_Bk_sellAt_39 : decode c_Bk_sellAt 39 = .ok (.getfield 23, 3) := by decide +kernel
theorem d_Bk_sellAt_42 : decode c_Bk_sellAt 42 = .ok (.getfield 170, 3) := by decide +kernel
theorem d_Bk_sellAt_45 : decode c_Bk_sellAt 45 = .ok (.iload_n 2, 1) := by decide +kernel
theorem d_Bk_sellAt_46 : decode c_Bk_sellAt 46 = .ok (.iload_n 3, 1) := by decide +kernel
theorem d_Bk_sellAt_47 : decode c_Bk_sellAt 47 = .ok (.invokevirtual 98, 3) := by decide +kernel
theorem d_Bk_sellAt_50 : decode c_Bk_sellAt 50 = .ok (.aload_n 0, 1) := by decide +kernel
theorem d_Bk_sellAt_51 : decode c_Bk_sellAt 51 = .ok (.dup, 1) := by decide +kernel
theorem d_Bk_sellAt_52 : decode c_Bk_sellAt 52 = .ok (.getfield 58, 3) := by decide +kernel
theorem d_Bk_sellAt_55 : decode c_Bk_sellAt 55 = .ok (.iload 4, 2) := by decide +kernel
theorem d_Bk_sellAt_57 : decode c_Bk_sellAt 57 = .ok (.iadd, 1) := by decide +kernel
theorem d_Bk_sellAt_58 : decode c_Bk_sellAt 58 = .ok (.putfield 58, 3) := by decide +kernel
theorem d_Bk_sellAt_61 : decode c_Bk_sellAt 61 = .ok (.aload_n 0, 1) := by decide +kernel
theorem d_Bk_sellAt_62 : decode c_Bk_sellAt 62 = .ok (.getfield 30, 3) := by decide +kernel
theorem d_Bk_sellAt_65 : decode c_Bk_sellAt 65 = .ok (.iload_n 1, 1) := by decide +kernel
theorem d_Bk_sellAt_66 : decode c_Bk_sellAt 66 = .ok (.invokevirtual 139, 3) := by decide +kernel
theorem d_Bk_sellAt_69 : decode c_Bk_sellAt 69 = .ok (.iload 4, 2) := by decide +kernel
theorem d_Bk_sellAt_71 : decode c_Bk_sellAt 71 = .ok (.ireturn, 1) := by decide +kernel
theorem d_Bk_throwSmallOnes_0 : decode c_Bk_throwSmallOnes 0 = .ok (.iconst 0, 1) := by decide +kernel
theorem d_Bk_throwSmallOnes_1 : decode c_Bk_throwSmallOnes 1 = .ok (.istore_n 3, 1) := by decide +kernel
theorem d_Bk_throwSmallOnes_2 : decode c_Bk_throwSmallOnes 2 = .ok (.aload_n 0, 1) := by decide +kernel
theorem d_Bk_throwSmallOnes_3 : decode c_Bk_throwSmallOnes 3 = .ok (.getfield 30, 3) := by decide +kernel
theorem d_Bk_throwSmallOnes_6 : decode c_Bk_throwSmallOnes 6 = .ok (.getfield 173, 3) := by decide +kernel
theorem d_Bk_throwSmallOnes_9 : decode c_Bk_throwSmallOnes 9 = .ok (.iconst 1, 1) := by decide +kernel
theorem d_Bk_throwSmallOnes_10 : decode c_Bk_throwSmallOnes 10 = .ok (.isub, 1) := by decide +kernel
theorem d_Bk_throwSmallOnes_11 : decode c_Bk_throwSmallOnes 11 = .ok (.istore 4, 2) := by decide +kernel
theorem d_Bk_throwSmallOnes_13 : decode c_Bk_throwSmallOnes 13 = .ok (.iload 4, 2) := by decide +kernel
theorem d_Bk_throwSmallOnes_15 : decode c_Bk_throwSmallOnes 15 = .ok (.ifCond .lt 55, 3) := by decide +kernel
theorem d_Bk_throwSmallOnes_18 : decode c_Bk_throwSmallOnes 18 = .ok (.aload_n 0, 1) := by decide +kernel
theorem d_Bk_throwSmallOnes_19 : decode c_Bk_throwSmallOnes 19 = .ok (.getfield 30, 3) := by decide +kernel
theorem d_Bk_throwSmallOnes_22 : decode c_Bk_throwSmallOnes 22 = .ok (.iload 4, 2) := by decide +kernel
theorem d_Bk_throwSmallOnes_24 : decode c_Bk_throwSmallOnes 24 = .ok (.iload_n 1, 1) := by decide +kernel
theorem d_Bk_throwSmallOnes_25 : decode c_Bk_throwSmallOnes 25 = .ok (.iload_n 2, 1) := by decide +kernel
theorem d_Bk_throwSmallOnes_26 : decode c_Bk_throwSmallOnes 26 = .ok (.invokevirtual 176, 3) := by decide +kernel
theorem d_Bk_throwSmallOnes_29 : decode c_Bk_throwSmallOnes 29 = .ok (.ifCond .eq 35, 3) := by decide +kernel
theorem d_Bk_throwSmallOnes_32 : decode c_Bk_throwSmallOnes 32 = .ok (.aload_n 0, 1) := by decide +kernel
theorem d_Bk_throwSmallOnes_33 : decode c_Bk_throwSmallOnes 33 = .ok (.getfield 23, 3) := by decide +kernel
theorem d_Bk_throwSmallOnes_36 : decode c_Bk_throwSmallOnes 36 = .ok (.getfield 156, 3) := by decide +kernel
theorem d_Bk_throwSmallOnes_39 : decode c_Bk_throwSmallOnes 39 = .ok (.iload_n 1, 1) := by decide +kernel
theorem d_Bk_throwSmallOnes_40 : decode c_Bk_throwSmallOnes 40 = .ok (.aload_n 0, 1) := by decide +kernel
theorem d_Bk_throwSmallOnes_41 : decode c_Bk_throwSmallOnes 41 = .ok (.getfield 30, 3) := by decide +kernel
theorem d_Bk_throwSmallOnes_44 : decode c_Bk_throwSmallOnes 44 = .ok (.iload 4, 2) := by decide +kernel
theorem d_Bk_throwSmallOnes_46 : decode c_Bk_throwSmallOnes 46 = .ok (.invokevirtual 169, 3) := by decide +kernel
theorem d_Bk_throwSmallOnes_49 : decode c_Bk_throwSmallOnes 49 = .ok (.invokevirtual 98, 3) := by decide +kernel
theorem d_Bk_throwSmallOnes_52 : decode c_Bk_throwSmallOnes 52 = .ok (.aload_n 0, 1) := by decide +kernel
theorem d_Bk_throwSmallOnes_53 : decode c_Bk_throwSmallOnes 53 = .ok (.getfield 30, 3) := by decide +kernel
theorem d_Bk_throwSmallOnes_56 : decode c_Bk_throwSmallOnes 56 = .ok (.iload 4, 2) := by decide +kernel
theorem d_Bk_throwSmallOnes_58 : decode c_Bk_throwSmallOnes 58 = .ok (.invokevirtual 139, 3) := by decide +kernel
theorem d_Bk_throwSmallOnes_61 : decode c_Bk_throwSmallOnes 61 = .ok (.iinc 3 1, 3) := by decide +kernel
theorem d_Bk_throwSmallOnes_64 : decode c_Bk_throwSmallOnes 64 = .ok (.iinc 4 (-1), 3) := by decide +kernel
theorem d_Bk_throwSmallOnes_67 : decode c_Bk_throwSmallOnes 67 = .ok (.goto (-54), 3) := by decide +kernel
theorem d_Bk_throwSmallOnes_70 : decode c_Bk_throwSmallOnes 70 = .ok (.iload_n 3, 1) := by decide +kernel
theorem d_Bk_throwSmallOnes_71 : decode c_Bk_throwSmallOnes 71 = .ok (.ireturn, 1) := by decide +kernel
theorem d_Ch_init_0 : decode c_Ch_init 0 = .ok (.aload_n 0, 1) := by decide +kernel
theorem d_Ch_init_1 : decode c_Ch_init 1 = .ok (.invokespecial 1, 3) := by decide +kernel
theorem d_Ch_init_4 : decode c_Ch_init 4 = .ok (.return_, 1) := by decide +kernel
theorem d_Hi_init_0 : decode c_Hi_init 0 = .ok (.aload_n 0, 1) := by decide +kernel
theorem d_Hi_init_1 : decode c_Hi_init 1 = .ok (.invokespecial 3, 3) := by decide +kernel
theorem d_Hi_init_4 : decode c_Hi_init 4 = .ok (.aload_n 0, 1) := by decide +kernel
theorem d_Hi_init_5 : decode c_Hi_init 5 = .ok (.iconst 4, 1) := by decide +kernel
theorem d_Hi_init_6 : decode c_Hi_init 6 = .ok (.anewarray 9, 3) := by decide +kernel
theorem d_Hi_init_9 : decode c_Hi_init 9 = .ok (.putfield 11, 3) := by decide +kernel
theorem d_Hi_init_12 : decode c_Hi_init 12 = .ok (.iconst 0, 1) := by decide +kernel
theorem d_Hi_init_13 : decode c_Hi_init 13 = .ok (.istore_n 1, 1) := by decide +kernel
theorem d_Hi_init_14 : decode c_Hi_init 14 = .ok (.iload_n 1, 1) := by decide +kernel
theorem d_Hi_init_15 : decode c_Hi_init 15 = .ok (.aload_n 0, 1) := by decide +kernel
theorem d_Hi_init_16 : decode c_Hi_init 16 = .ok (.getfield 11, 3) := by decide +kernel
theorem d_Hi_init_19 : decode c_Hi_init 19 = .ok (.arraylength, 1) := by decide +kernel
theorem d_Hi_init_20 : decode c_Hi_init 20 = .ok (.if_icmp .ge 22, 3) := by decide +kernel
theorem d_Hi_init_23 : decode c_Hi_init 23 = .ok (.aload_n 0, 1) := by decide +kernel
theorem d_Hi_init_24 : decode c_Hi_init 24 = .ok (.getfield 11, 3) := by decide +kernel
theorem d_Hi_init_27 : decode c_Hi_init 27 = .ok (.iload_n 1, 1) := by decide +kernel
theorem d_Hi_init_28 : decode c_Hi_init 28 = .ok (.new 9, 3) := by decide +kernel
theorem d_Hi_init_31 : decode c_Hi_init 31 = .ok (.dup, 1) := by decide +kernel
theorem d_Hi_init_32 : decode c_Hi_init 32 = .ok (.invokespecial 17, 3) := by decide +kernel
theorem d_Hi_init_35 : decode c_Hi_init 35 = .ok (.aastore, 1) := by decide +kernel
theorem d_Hi_init_36 : decode c_Hi_init 36 = .ok (.iinc 1 1, 3) := by decide +kernel
theorem d_Hi_init_39 : decode c_Hi_init 39 = .ok (.goto (-25), 3) := by decide +kernel
theorem d_Hi_init_42 : decode c_Hi_init 42 = .ok (.return_, 1) := by decide +kernel
theorem d_Hi_record_0 : decode c_Hi_record 0 = .ok (.aload_n 0, 1) := by decide +kernel
theorem d_Hi_record_1 : decode c_Hi_record 1 = .ok (.aload_n 0, 1) := by decide +kernel
theorem d_Hi_record_2 : decode c_Hi_record 2 = .ok (.getfield 18, 3) := by decide +kernel
theorem d_Hi_record_5 : decode c_Hi_record 5 = .ok (.aload_n 0, 1) := by decide +kernel
theorem d_Hi_record_6 : decode c_Hi_record 6 = .ok (.getfield 22, 3) := by decide +kernel
theorem d_Hi_record_9 : decode c_Hi_record 9 = .ok (.iadd, 1) := by decide +kernel
theorem d_Hi_record_10 : decode c_Hi_record 10 = .ok (.invokevirtual 25, 3) := by decide +kernel
theorem d_Hi_record_13 : decode c_Hi_record 13 = .ok (.astore_n 2, 1) := by decide +kernel
theorem d_Hi_record_14 : decode c_Hi_record 14 = .ok (.aload_n 2, 1) := by decide +kernel
theorem d_Hi_record_15 : decode c_Hi_record 15 = .ok (.ifnonnull 4, 3) := by decide +kernel
theorem d_Hi_record_18 : decode c_Hi_record 18 = .ok (.return_, 1) := by decide +kernel
theorem d_Hi_record_19 : decode c_Hi_record 19 = .ok (.aload_n 2, 1) := by decide +kernel
theorem d_Hi_record_20 : decode c_Hi_record 20 = .ok (.aload_n 1, 1) := by decide +kernel
theorem d_Hi_record_21 : decode c_Hi_record 21 = .ok (.invokevirtual 29, 3) := by decide +kernel
theorem d_Hi_record_24 : decode c_Hi_record 24 = .ok (.aload_n 0, 1) := by decide +kernel
theorem d_Hi_record_25 : decode c_Hi_record 25 = .ok (.getfield 22, 3) := by decide +kernel
theorem d_Hi_record_28 : decode c_Hi_record 28 = .ok (.iconst 4, 1) := by decide +kernel
theorem d_Hi_record_29 : decode c_Hi_record 29 = .ok (.if_icmp .ge 16, 3) := by decide +kernel
theorem d_Hi_record_32 : decode c_Hi_record 32 = .ok (.aload_n 0, 1) := by decide +kernel
theorem d_Hi_record_33 : decode c_Hi_record 33 = .ok (.dup, 1) := by decide +kernel
theorem d_Hi_record_34 : decode c_Hi_record 34 = .ok (.getfield 22, 3) := by decide +kernel
theorem d_Hi_record_37 : decode c_Hi_record 37 = .ok (.iconst 1, 1) := by decide +kernel
theorem d_Hi_record_38 : decode c_Hi_record 38 = .ok (.iadd, 1) := by decide +kernel
theorem d_Hi_record_39 : decode c_Hi_record 39 = .ok (.putfield 22, 3) := by decide +kernel
theorem d_Hi_record_42 : decode c_Hi_record 42 = .ok (.goto 15, 3) := by decide +kernel
theorem d_Hi_record_45 : decode c_Hi_record 45 = .ok (.aload_n 0, 1) := by decide +kernel
theorem d_Hi_record_46 : decode c_Hi_record 46 = .ok (.aload_n 0, 1) := by decide +kernel
theorem d_Hi_record_47 : decode c_Hi_record 47 = .ok (.getfield 18, 3) := by decide +kernel
theorem d_Hi_record_50 : decode c_Hi_record 50 = .ok (.iconst 1, 1) := by decide +kernel
theorem d_Hi_record_51 : decode c_Hi_record 51 = .ok (.iadd, 1) := by decide +kernel
theorem d_Hi_record_52 : decode c_Hi_record 52 = .ok (.iconst 4, 1) := by decide +kernel
theorem d_Hi_record_53 : decode c_Hi_record 53 = .ok (.irem, 1) := by decide +kernel
theorem d_Hi_record_54 : decode c_Hi_record 54 = .ok (.putfield 18, 3) := by decide +kernel
theorem d_Hi_record_57 : decode c_Hi_record 57 = .ok (.return_, 1) := by decide +kernel
theorem d_Hi_moveLatestTo_0 : decode c_Hi_moveLatestTo 0 = .ok (.aload_n 0, 1) := by decide +kernel
theorem d_Hi_moveLatestTo_1 : decode c_Hi_moveLatestTo 1 = .ok (.aload_n 0, 1) := by decide +kernel
theorem d_Hi_moveLatestTo_2 : decode c_Hi_moveLatestTo 2 = .ok (.getfield 18, 3) := by decide +kernel
theorem d_Hi_moveLatestTo_5 : decode c_Hi_moveLatestTo 5 = .ok (.aload_n 0, 1) := by decide +kernel
theorem d_Hi_moveLatestTo_6 : decode c_Hi_moveLatestTo 6 = .ok (.getfield 22, 3) := by decide +kernel
theorem d_Hi_moveLatestTo_9 : decode c_Hi_moveLatestTo 9 = .ok (.iadd, 1) := by decide +kernel
theorem d_Hi_moveLatestTo_10 : decode c_Hi_moveLatestTo 10 = .ok (.iconst 1, 1) := by decide +kernel
theorem d_Hi_moveLatestTo_11 : decode c_Hi_moveLatestTo 11 = .ok (.isub, 1) := by decide +kernel
theorem d_Hi_moveLatestTo_12 : decode c_Hi_moveLatestTo 12 = .ok (.invokevirtual 25, 3) := by decide +kernel
theorem d_Hi_moveLatestTo_15 : decode c_Hi_moveLatestTo 15 = .ok (.astore_n 2, 1) := by decide +kernel
theorem d_Hi_moveLatestTo_16 : decode c_Hi_moveLatestTo 16 = .ok (.aload_n 2, 1) := by decide +kernel
theorem d_Hi_moveLatestTo_17 : decode c_Hi_moveLatestTo 17 = .ok (.ifnull 10, 3) := by decide +kernel
theorem d_Hi_moveLatestTo_20 : decode c_Hi_moveLatestTo 20 = .ok (.aload_n 0, 1) := by decide +kernel
theorem d_Hi_moveLatestTo_21 : decode c_Hi_moveLatestTo 21 = .ok (.getfield 22, 3) := by decide +kernel
theorem d_Hi_moveLatestTo_24 : decode c_Hi_moveLatestTo 24 = .ok (.ifCond .gt 4, 3) := by decide +kernel
theorem d_Hi_moveLatestTo_27 : decode c_Hi_moveLatestTo 27 = .ok (.return_, 1) := by decide +kernel
theorem d_Hi_moveLatestTo_28 : decode c_Hi_moveLatestTo 28 = .ok (.aload_n 1, 1) := by decide +kernel
theorem d_Hi_moveLatestTo_29 : decode c_Hi_moveLatestTo 29 = .ok (.aload_n 2, 1) := by decide +kernel
theorem d_Hi_moveLatestTo_30 : decode c_Hi_moveLatestTo 30 = .ok (.invokevirtual 29, 3) := by decide +kernel
theorem d_Hi_moveLatestTo_33 : decode c_Hi_moveLatestTo 33 = .ok (.aload_n 0, 1) := by decide +kernel
theorem d_Hi_moveLatestTo_34 : decode c_Hi_moveLatestTo 34 = .ok (.dup, 1) := by decide +kernel
theorem d_Hi_moveLatestTo_35 : decode c_Hi_moveLatestTo 35 = .ok (.getfield 22, 3) := by decide +kernel
theorem d_Hi_moveLatestTo_38 : decode c_Hi_moveLatestTo 38 = .ok (.iconst 1, 1) := by decide +kernel
theorem d_Hi_moveLatestTo_39 : decode c_Hi_moveLatestTo 39 = .ok (.isub, 1) := by decide +kernel
theorem d_Hi_moveLatestTo_40 : decode c_Hi_moveLatestTo 40 = .ok (.putfield 22, 3) := by decide +kernel
theorem d_Hi_moveLatestTo_43 : decode c_Hi_moveLatestTo 43 = .ok (.return_, 1) := by decide +kernel
theorem d_Hi_slotAt_0 : decode c_Hi_slotAt 0 = .ok (.iload_n 1, 1) := by decide +kernel
theorem d_Hi_slotAt_1 : decode c_Hi_slotAt 1 = .ok (.iconst 4, 1) := by decide +kernel
theorem d_Hi_slotAt_2 : decode c_Hi_slotAt 2 = .ok (.invokestatic 33, 3) := by decide +kernel
theorem d_Hi_slotAt_5 : decode c_Hi_slotAt 5 = .ok (.istore_n 2, 1) := by decide +kernel
theorem d_Hi_slotAt_6 : decode c_Hi_slotAt 6 = .ok (.iload_n 2, 1) := by decide +kernel
theorem d_Hi_slotAt_7 : decode c_Hi_slotAt 7 = .ok (.ifCond .lt 21, 3) := by decide +kernel
theorem d_Hi_slotAt_10 : decode c_Hi_slotAt 10 = .ok (.iload_n 2, 1) := by decide +kernel
theorem d_Hi_slotAt_11 : decode c_Hi_slotAt 11 = .ok (.aload_n 0, 1) := by decide +kernel
theorem d_Hi_slotAt_12 : decode c_Hi_slotAt 12 = .ok (.getfield 11, 3) := by decide +kernel
theorem d_Hi_slotAt_15 : decode c_Hi_slotAt 15 = .ok (.arraylength, 1) := by decide +kernel
theorem d_Hi_slotAt_16 : decode c_Hi_slotAt 16 = .ok (.if_icmp .ge 12, 3) := by decide +kernel
theorem d_Hi_slotAt_19 : decode c_Hi_slotAt 19 = .ok (.aload_n 0, 1) := by decide +kernel
theorem d_Hi_slotAt_20 : decode c_Hi_slotAt 20 = .ok (.getfield 11, 3) := by decide +kernel
theorem d_Hi_slotAt_23 : decode c_Hi_slotAt 23 = .ok (.iload_n 2, 1) := by decide +kernel
theorem d_Hi_slotAt_24 : decode c_Hi_slotAt 24 = .ok (.aaload, 1) := by decide +kernel
theorem d_Hi_slotAt_25 : decode c_Hi_slotAt 25 = .ok (.goto 4, 3) := by decide +kernel
theorem d_Hi_slotAt_28 : decode c_Hi_slotAt 28 = .ok (.aconst_null, 1) := by decide +kernel
theorem d_Hi_slotAt_29 : decode c_Hi_slotAt 29 = .ok (.areturn, 1) := by decide +kernel
theorem d_Of_init_0 : decode c_Of_init 0 = .ok (.aload_n 0, 1) := by decide +kernel
theorem d_Of_init_1 : decode c_Of_init 1 = .ok (.invokespecial 3, 3) := by decide +kernel
theorem d_Of_init_4 : decode c_Of_init 4 = .ok (.aload_n 0, 1) := by decide +kernel
theorem d_Of_init_5 : decode c_Of_init 5 = .ok (.new 9, 3) := by decide +kernel
theorem d_Of_init_8 : decode c_Of_init 8 = .ok (.dup, 1) := by decide +kernel
theorem d_Of_init_9 : decode c_Of_init 9 = .ok (.bipush 60, 2) := by decide +kernel
theorem d_Of_init_11 : decode c_Of_init 11 = .ok (.invokespecial 11, 3) := by decide +kernel
theorem d_Of_init_14 : decode c_Of_init 14 = .ok (.putfield 14, 3) := by decide +kernel
theorem d_Of_init_17 : decode c_Of_init 17 = .ok (.aload_n 0, 1) := by decide +kernel
theorem d_Of_init_18 : decode c_Of_init 18 = .ok (.new 9, 3) := by decide +kernel
theorem d_Of_init_21 : decode c_Of_init 21 = .ok (.dup, 1) := by decide +kernel
theorem d_Of_init_22 : decode c_Of_init 22 = .ok (.bipush 60, 2) := by decide +kernel
theorem d_Of_init_24 : decode c_Of_init 24 = .ok (.invokespecial 11, 3) := by decide +kernel
theorem d_Of_init_27 : decode c_Of_init 27 = .ok (.putfield 20, 3) := by decide +kernel
theorem d_Of_init_30 : decode c_Of_init 30 = .ok (.aload_n 0, 1) := by decide +kernel
theorem d_Of_init_31 : decode c_Of_init 31 = .ok (.new 9, 3) := by decide +kernel
theorem d_Of_init_34 : decode c_Of_init 34 = .ok (.dup, 1) := by decide +kernel
theorem d_Of_init_35 : decode c_Of_init 35 = .ok (.bipush 60, 2) := by decide +kernel
theorem d_Of_init_37 : decode c_Of_init 37 = .ok (.invokespecial 11, 3) := by decide +kernel
theorem d_Of_init_40 : decode c_Of_init 40 = .ok (.putfield 23, 3) := by decide +kernel
theorem d_Of_init_43 : decode c_Of_init 43 = .ok (.aload_n 0, 1) := by decide +kernel
theorem d_Of_init_44 : decode c_Of_init 44 = .ok (.new 9, 3) := by decide +kernel
theorem d_Of_init_47 : decode c_Of_init 47 = .ok (.dup, 1) := by decide +kernel
theorem d_Of_init_48 : decode c_Of_init 48 = .ok (.bipush 60, 2) := by decide +kernel
theorem d_Of_init_50 : decode c_Of_init 50 = .ok (.invokespecial 11, 3) := by decide +kernel
theorem d_Of_init_53 : decode c_Of_init 53 = .ok (.putfield 26, 3) := by decide +kernel
theorem d_Of_init_56 : decode c_Of_init 56 = .ok (.return_, 1) := by decide +kernel
theorem d_Of_append_0 : decode c_Of_append 0 = .ok (.aload_n 0, 1) := by decide +kernel
theorem d_Of_append_1 : decode c_Of_append 1 = .ok (.getfield 29, 3) := by decide +kernel
theorem d_Of_append_4 : decode c_Of_append 4 = .ok (.bipush 60, 2) := by decide +kernel
theorem d_Of_append_6 : decode c_Of_append 6 = .ok (.if_icmp .ge 13, 3) := by decide +kernel
theorem d_Of_append_9 : decode c_Of_append 9 = .ok (.aload_n 0, 1) := by decide +kernel
theorem d_Of_append_10 : decode c_Of_append 10 = .ok (.getfield 33, 3) := by decide +kernel
theorem d_Of_append_13 : decode c_Of_append 13 = .ok (.sipush 300, 3) := by decide +kernel
theorem d_Of_append_16 : decode c_Of_append 16 = .ok (.if_icmp .lt 5, 3) := by decide +kernel
theorem d_Of_append_19 : decode c_Of_append 19 = .ok (.iconst 0, 1) := by decide +kernel
theorem d_Of_append_20 : decode c_Of_append 20 = .ok (.ireturn, 1) := by decide +kernel
theorem d_Of_append_21 : decode c_Of_append 21 = .ok (.aload_n 0, 1) := by decide +kernel
theorem d_Of_append_22 : decode c_Of_append 22 = .ok (.getfield 14, 3) := by decide +kernel
theorem d_Of_append_25 : decode c_Of_append 25 = .ok (.aload_n 0, 1) := by decide +kernel
theorem d_Of_append_26 : decode c_Of_append 26 = .ok (.getfield 29, 3) := by decide +kernel
theorem d_Of_append_29 : decode c_Of_append 29 = .ok (.aload_n 0, 1) := by decide +kernel
theorem d_Of_append_30 : decode c_Of_append 30 = .ok (.getfield 33, 3) := by decide +kernel
theorem d_Of_append_33 : decode c_Of_append 33 = .ok (.invokevirtual 36, 3) := by decide +kernel
theorem d_Of_append_36 : decode c_Of_append 36 = .ok (.aload_n 0, 1) := by decide +kernel
theorem d_Of_append_37 : decode c_Of_append 37 = .ok (.getfield 20, 3) := by decide +kernel
theorem d_Of_append_40 : decode c_Of_append 40 = .ok (.aload_n 0, 1) := by decide +kernel
theorem d_Of_append_41 : decode c_Of_append 41 = .ok (.getfield 29, 3) := by decide +kernel
theorem d_Of_append_44 : decode c_Of_append 44 = .ok (.iload_n 1, 1) := by decide +kernel
theorem d_Of_append_45 : decode c_Of_append 45 = .ok (.invokevirtual 36, 3) := by decide +kernel
theorem d_Of_append_48 : decode c_Of_append 48 = .ok (.aload_n 0, 1) := by decide +kernel
theorem d_Of_append_49 : decode c_Of_append 49 = .ok (.getfield 23, 3) := by decide +kernel
theorem d_Of_append_52 : decode c_Of_append 52 = .ok (.aload_n 0, 1) := by decide +kernel
theorem d_Of_append_53 : decode c_Of_append 53 = .ok (.getfield 29, 3) := by decide +kernel
theorem d_Of_append_56 : decode c_Of_append 56 = .ok (.iload_n 2, 1) := by decide +kernel
theorem d_Of_append_57 : decode c_Of_append 57 = .ok (.invokevirtual 36, 3) := by decide +kernel
theorem d_Of_append_60 : decode c_Of_append 60 = .ok (.aload_n 0, 1) := by decide +kernel
theorem d_Of_append_61 : decode c_Of_append 61 = .ok (.getfield 26, 3) := by decide +kernel
theorem d_Of_append_64 : decode c_Of_append 64 = .ok (.aload_n 0, 1) := by decide +kernel
theorem d_Of_append_65 : decode c_Of_append 65 = .ok (.getfield 29, 3) := by decide +kernel
theorem d_Of_append_68 : decode c_Of_append 68 = .ok (.iload_n 3, 1) := by decide +kernel
theorem d_Of_append_69 : decode c_Of_append 69 = .ok (.invokevirtual 36, 3) := by decide +kernel
theorem d_Of_append_72 : decode c_Of_append 72 = .ok (.aload_n 0, 1) := by decide +kernel
theorem d_Of_append_73 : decode c_Of_append 73 = .ok (.dup, 1) := by decide +kernel
theorem d_Of_append_74 : decode c_Of_append 74 = .ok (.getfield 29, 3) := by decide +kernel
theorem d_Of_append_77 : decode c_Of_append 77 = .ok (.iconst 1, 1) := by decide +kernel
theorem d_Of_append_78 : decode c_Of_append 78 = .ok (.iadd, 1) := by decide +kernel
theorem d_Of_append_79 : decode c_Of_append 79 = .ok (.putfield 29, 3) := by decide +kernel
theorem d_Of_append_82 : decode c_Of_append 82 = .ok (.aload_n 0, 1) := by decide +kernel
theorem d_Of_append_83 : decode c_Of_append 83 = .ok (.dup, 1) := by decide +kernel
theorem d_Of_append_84 : decode c_Of_append 84 = .ok (.getfield 33, 3) := by decide +kernel
theorem d_Of_append_87 : decode c_Of_append 87 = .ok (.iconst 1, 1) := by decide +kernel
theorem d_Of_append_88 : decode c_Of_append 88 = .ok (.iadd, 1) := by decide +kernel
theorem d_Of_append_89 : decode c_Of_append 89 = .ok (.putfield 33, 3) := by decide +kernel
theorem d_Of_append_92 : decode c_Of_append 92 = .ok (.iconst 1, 1) := by decide +kernel
theorem d_Of_append_93 : decode c_Of_append 93 = .ok (.ireturn, 1) := by decide +kernel
theorem d_Of_removeAt_0 : decode c_Of_removeAt 0 = .ok (.iload_n 1, 1) := by decide +kernel
theorem d_Of_removeAt_1 : decode c_Of_removeAt 1 = .ok (.ifCond .lt 11, 3) := by decide +kernel
theorem d_Of_removeAt_4 : decode c_Of_removeAt 4 = .ok (.iload_n 1, 1) := by decide +kernel
theorem d_Of_removeAt_5 : decode c_Of_removeAt 5 = .ok (.aload_n 0, 1) := by decide +kernel
theorem d_Of_removeAt_6 : decode c_Of_removeAt 6 = .ok (.getfield 29, 3) := by decide +kernel
theorem d_Of_removeAt_9 : decode c_Of_removeAt 9 = .ok (.if_icmp .lt 4, 3) := by decide +kernel
theorem d_Of_removeAt_12 : decode c_Of_removeAt 12 = .ok (.return_, 1) := by decide +kernel
theorem d_Of_removeAt_13 : decode c_Of_removeAt 13 = .ok (.aload_n 0, 1) := by decide +kernel
theorem d_Of_removeAt_14 : decode c_Of_removeAt 14 = .ok (.getfield 14, 3) := by decide +kernel
theorem d_Of_removeAt_17 : decode c_Of_removeAt 17 = .ok (.iload_n 1, 1) := by decide +kernel
theorem d_Of_removeAt_18 : decode c_Of_removeAt 18 = .ok (.invokevirtual 40, 3) := by decide +kernel
theorem d_Of_removeAt_21 : decode c_Of_removeAt 21 = .ok (.aload_n 0, 1) := by decide +kernel
theorem d_Of_removeAt_22 : decode c_Of_removeAt 22 = .ok (.getfield 20, 3) := by decide +kernel
theorem d_Of_removeAt_25 : decode c_Of_removeAt 25 = .ok (.iload_n 1, 1) := by decide +kernel
theorem d_Of_removeAt_26 : decode c_Of_removeAt 26 = .ok (.invokevirtual 40, 3) := by decide +kernel
theorem d_Of_removeAt_29 : decode c_Of_removeAt 29 = .ok (.aload_n 0, 1) := by decide +kernel
theorem d_Of_removeAt_30 : decode c_Of_removeAt 30 = .ok (.getfield 23, 3) := by decide +kernel
theorem d_Of_removeAt_33 : decode c_Of_removeAt 33 = .ok (.iload_n 1, 1) := by decide +kernel
theorem d_Of_removeAt_34 : decode c_Of_removeAt 34 = .ok (.invokevirtual 40, 3) := by decide +kernel
theorem d_Of_removeAt_37 : decode c_Of_removeAt 37 = .ok (.aload_n 0, 1) := by decide +kernel
theorem d_Of_removeAt_38 : decode c_Of_removeAt 38 = .ok (.getfield 26, 3) := by decide +kernel
theorem d_Of_removeAt_41 : decode c_Of_removeAt 41 = .ok (.iload_n 1, 1) := by decide +kernel
theorem d_Of_removeAt_42 : decode c_Of_removeAt 42 = .ok (.invokevirtual 40, 3) := by decide +kernel
theorem d_Of_removeAt_45 : decode c_Of_removeAt 45 = .ok (.aload_n 0, 1) := by decide +kernel
theorem d_Of_removeAt_46 : decode c_Of_removeAt 46 = .ok (.dup, 1) := by decide +kernel
theorem d_Of_removeAt_47 : decode c_Of_removeAt 47 = .ok (.getfield 29, 3) := by decide +kernel
theorem d_Of_removeAt_50 : decode c_Of_removeAt 50 = .ok (.iconst 1, 1) := by decide +kernel
theorem d_Of_removeAt_51 : decode c_Of_removeAt 51 = .ok (.isub, 1) := by decide +kernel
theorem d_Of_removeAt_52 : decode c_Of_removeAt 52 = .ok (.putfield 29, 3) := by decide +kernel
theorem d_Of_removeAt_55 : decode c_Of_removeAt 55 = .ok (.return_, 1) := by decide +kernel
theorem d_Of_placeOf_0 : decode c_Of_placeOf 0 = .ok (.iconst 0, 1) := by decide +kernel
theorem d_Of_placeOf_1 : decode c_Of_placeOf 1 = .ok (.istore_n 2, 1) := by decide +kernel
theorem d_Of_placeOf_2 : decode c_Of_placeOf 2 = .ok (.iload_n 2, 1) := by decide +kernel
theorem d_Of_placeOf_3 : decode c_Of_placeOf 3 = .ok (.aload_n 0, 1) := by decide +kernel
theorem d_Of_placeOf_4 : decode c_Of_placeOf 4 = .ok (.getfield 29, 3) := by decide +kernel
theorem d_Of_placeOf_7 : decode c_Of_placeOf 7 = .ok (.if_icmp .ge 23, 3) := by decide +kernel
theorem d_Of_placeOf_10 : decode c_Of_placeOf 10 = .ok (.aload_n 0, 1) := by decide +kernel
theorem d_Of_placeOf_11 : decode c_Of_placeOf 11 = .ok (.getfield 14, 3) := by decide +kernel
theorem d_Of_placeOf_14 : decode c_Of_placeOf 14 = .ok (.iload_n 2, 1) := by decide +kernel
theorem d_Of_placeOf_15 : decode c_Of_placeOf 15 = .ok (.invokevirtual 43, 3) := by decide +kernel
theorem d_Of_placeOf_18 : decode c_Of_placeOf 18 = .ok (.iload_n 1, 1) := by decide +kernel
theorem d_Of_placeOf_19 : decode c_Of_placeOf 19 = .ok (.if_icmp .ne 5, 3) := by decide +kernel
theorem d_Of_placeOf_22 : decode c_Of_placeOf 22 = .ok (.iload_n 2, 1) := by decide +kernel
theorem d_Of_placeOf_23 : decode c_Of_placeOf 23 = .ok (.ireturn, 1) := by decide +kernel
theorem d_Of_placeOf_24 : decode c_Of_placeOf 24 = .ok (.iinc 2 1, 3) := by decide +kernel
theorem d_Of_placeOf_27 : decode c_Of_placeOf 27 = .ok (.goto (-25), 3) := by decide +kernel
theorem d_Of_placeOf_30 : decode c_Of_placeOf 30 = .ok (.bipush (-5), 2) := by decide +kernel
theorem d_Of_placeOf_32 : decode c_Of_placeOf 32 = .ok (.ireturn, 1) := by decide +kernel
theorem d_Of_area_0 : decode c_Of_area 0 = .ok (.aload_n 0, 1) := by decide +kernel
theorem d_Of_area_1 : decode c_Of_area 1 = .ok (.getfield 23, 3) := by decide +kernel
theorem d_Of_area_4 : decode c_Of_area 4 = .ok (.iload_n 1, 1) := by decide +kernel
theorem d_Of_area_5 : decode c_Of_area 5 = .ok (.invokevirtual 43, 3) := by decide +kernel
theorem d_Of_area_8 : decode c_Of_area 8 = .ok (.aload_n 0, 1) := by decide +kernel
theorem d_Of_area_9 : decode c_Of_area 9 = .ok (.getfield 26, 3) := by decide +kernel
theorem d_Of_area_12 : decode c_Of_area 12 = .ok (.iload_n 1, 1) := by decide +kernel
theorem d_Of_area_13 : decode c_Of_area 13 = .ok (.invokevirtual 43, 3) := by decide +kernel
theorem d_Of_area_16 : decode c_Of_area 16 = .ok (.imul, 1) := by decide +kernel
theorem d_Of_area_17 : decode c_Of_area 17 = .ok (.ireturn, 1) := by decide +kernel
theorem d_Of_keptOf_0 : decode c_Of_keptOf 0 = .ok (.iconst 0, 1) := by decide +kernel
theorem d_Of_keptOf_1 : decode c_Of_keptOf 1 = .ok (.istore_n 2, 1) := by decide +kernel
theorem d_Of_keptOf_2 : decode c_Of_keptOf 2 = .ok (.iconst 0, 1) := by decide +kernel
theorem d_Of_keptOf_3 : decode c_Of_keptOf 3 = .ok (.istore_n 3, 1) := by decide +kernel
theorem d_Of_keptOf_4 : decode c_Of_keptOf 4 = .ok (.iload_n 3, 1) := by decide +kernel
theorem d_Of_keptOf_5 : decode c_Of_keptOf 5 = .ok (.aload_n 0, 1) := by decide +kernel
theorem d_Of_keptOf_6 : decode c_Of_keptOf 6 = .ok (.getfield 29, 3) := by decide +kernel
theorem d_Of_keptOf_9 : decode c_Of_keptOf 9 = .ok (.if_icmp .ge 24, 3) := by decide +kernel
theorem d_Of_keptOf_12 : decode c_Of_keptOf 12 = .ok (.aload_n 0, 1) := by decide +kernel
theorem d_Of_keptOf_13 : decode c_Of_keptOf 13 = .ok (.getfield 20, 3) := by decide +kernel
theorem d_Of_keptOf_16 : decode c_Of_keptOf 16 = .ok (.iload_n 3, 1) := by decide +kernel
theorem d_Of_keptOf_17 : decode c_Of_keptOf 17 = .ok (.invokevirtual 43, 3) := by decide +kernel
theorem d_Of_keptOf_20 : decode c_Of_keptOf 20 = .ok (.iload_n 1, 1) := by decide +kernel
theorem d_Of_keptOf_21 : decode c_Of_keptOf 21 = .ok (.if_icmp .ne 6, 3) := by decide +kernel
theorem d_Of_keptOf_24 : decode c_Of_keptOf 24 = .ok (.iinc 2 1, 3) := by decide +kernel
theorem d_Of_keptOf_27 : decode c_Of_keptOf 27 = .ok (.iinc 3 1, 3) := by decide +kernel
theorem d_Of_keptOf_30 : decode c_Of_keptOf 30 = .ok (.goto (-26), 3) := by decide +kernel
theorem d_Of_keptOf_33 : decode c_Of_keptOf 33 = .ok (.iload_n 2, 1) := by decide +kernel
theorem d_Of_keptOf_34 : decode c_Of_keptOf 34 = .ok (.ireturn, 1) := by decide +kernel
theorem d_Of_areaOf_0 : decode c_Of_areaOf 0 = .ok (.iconst 0, 1) := by decide +kernel
theorem d_Of_areaOf_1 : decode c_Of_areaOf 1 = .ok (.istore_n 2, 1) := by decide +kernel
theorem d_Of_areaOf_2 : decode c_Of_areaOf 2 = .ok (.iconst 0, 1) := by decide +kernel
theorem d_Of_areaOf_3 : decode c_Of_areaOf 3 = .ok (.istore_n 3, 1) := by decide +kernel
theorem d_Of_areaOf_4 : decode c_Of_areaOf 4 = .ok (.iload_n 3, 1) := by decide +kernel
theorem d_Of_areaOf_5 : decode c_Of_areaOf 5 = .ok (.aload_n 0, 1) := by decide +kernel
theorem d_Of_areaOf_6 : decode c_Of_areaOf 6 = .ok (.getfield 29, 3) := by decide +kernel
theorem d_Of_areaOf_9 : decode c_Of_areaOf 9 = .ok (.if_icmp .ge 29, 3) := by decide +kernel
theorem d_Of_areaOf_12 : decode c_Of_areaOf 12 = .ok (.aload_n 0, 1) := by decide +kernel
theorem d_Of_areaOf_13 : decode c_Of_areaOf 13 = .ok (.getfield 20, 3) := by decide +kernel
theorem d_Of_areaOf_16 : decode c_Of_areaOf 16 = .ok (.iload_n 3, 1) := by decide +kernel
theorem d_Of_areaOf_17 : decode c_Of_areaOf 17 = .ok (.invokevirtual 43, 3) := by decide +kernel
theorem d_Of_areaOf_20 : decode c_Of_areaOf 20 = .ok (.iload_n 1, 1) := by decide +kernel
theorem d_Of_areaOf_21 : decode c_Of_areaOf 21 = .ok (.if_icmp .ne 11, 3) := by decide +kernel
theorem d_Of_areaOf_24 : decode c_Of_areaOf 24 = .ok (.iload_n 2, 1) := by decide +kernel
theorem d_Of_areaOf_25 : decode c_Of_areaOf 25 = .ok (.aload_n 0, 1) := by decide +kernel
theorem d_Of_areaOf_26 : decode c_Of_areaOf 26 = .ok (.iload_n 3, 1) := by decide +kernel
theorem d_Of_areaOf_27 : decode c_Of_areaOf 27 = .ok (.invokevirtual 47, 3) := by decide +kernel
theorem d_Of_areaOf_30 : decode c_Of_areaOf 30 = .ok (.iadd, 1) := by decide +kernel
theorem d_Of_areaOf_31 : decode c_Of_areaOf 31 = .ok (.istore_n 2, 1) := by decide +kernel
theorem d_Of_areaOf_32 : decode c_Of_areaOf 32 = .ok (.iinc 3 1, 3) := by decide +kernel
theorem d_Of_areaOf_35 : decode c_Of_areaOf 35 = .ok (.goto (-31), 3) := by decide +kernel
theorem d_Of_areaOf_38 : decode c_Of_areaOf 38 = .ok (.iload_n 2, 1) := by decide +kernel
theorem d_Of_areaOf_39 : decode c_Of_areaOf 39 = .ok (.ireturn, 1) := by decide +kernel
theorem d_Of_isSmall_0 : decode c_Of_isSmall 0 = .ok (.aload_n 0, 1) := by decide +kernel
theorem d_Of_isSmall_1 : decode c_Of_isSmall 1 = .ok (.getfield 20, 3) := by decide +kernel
theorem d_Of_isSmall_4 : decode c_Of_isSmall 4 = .ok (.iload_n 1, 1) := by decide +kernel
theorem d_Of_isSmall_5 : decode c_Of_isSmall 5 = .ok (.invokevirtual 43, 3) := by decide +kernel
theorem d_Of_isSmall_8 : decode c_Of_isSmall 8 = .ok (.iload_n 2, 1) := by decide +kernel
theorem d_Of_isSmall_9 : decode c_Of_isSmall 9 = .ok (.if_icmp .ne 16, 3) := by decide +kernel
theorem d_Of_isSmall_12 : decode c_Of_isSmall 12 = .ok (.aload_n 0, 1) := by decide +kernel
theorem d_Of_isSmall_13 : decode c_Of_isSmall 13 = .ok (.iload_n 1, 1) := by decide +kernel
theorem d_Of_isSmall_14 : decode c_Of_isSmall 14 = .ok (.invokevirtual 47, 3) := by decide +kernel
theorem d_Of_isSmall_17 : decode c_Of_isSmall 17 = .ok (.iload_n 3, 1) := by decide +kernel
theorem d_Of_isSmall_18 : decode c_Of_isSmall 18 = .ok (.if_icmp .ge 7, 3) := by decide +kernel
theorem d_Of_isSmall_21 : decode c_Of_isSmall 21 = .ok (.iconst 1, 1) := by decide +kernel
theorem d_Of_isSmall_22 : decode c_Of_isSmall 22 = .ok (.goto 4, 3) := by decide +kernel
theorem d_Of_isSmall_25 : decode c_Of_isSmall 25 = .ok (.iconst 0, 1) := by decide +kernel
theorem d_Of_isSmall_26 : decode c_Of_isSmall 26 = .ok (.ireturn, 1) := by decide +kernel
theorem d_Of_smallOnes_0 : decode c_Of_smallOnes 0 = .ok (.iconst 0, 1) := by decide +kernel
theorem d_Of_smallOnes_1 : decode c_Of_smallOnes 1 = .ok (.istore_n 3, 1) := by decide +kernel
theorem d_Of_smallOnes_2 : decode c_Of_smallOnes 2 = .ok (.iconst 0, 1) := by decide +kernel
theorem d_Of_smallOnes_3 : decode c_Of_smallOnes 3 = .ok (.istore 4, 2) := by decide +kernel
theorem d_Of_smallOnes_5 : decode c_Of_smallOnes 5 = .ok (.iload 4, 2) := by decide +kernel
theorem d_Of_smallOnes_7 : decode c_Of_smallOnes 7 = .ok (.aload_n 0, 1) := by decide +kernel
theorem d_Of_smallOnes_8 : decode c_Of_smallOnes 8 = .ok (.getfield 29, 3) := by decide +kernel
theorem d_Of_smallOnes_11 : decode c_Of_smallOnes 11 = .ok (.if_icmp .ge 23, 3) := by decide +kernel
theorem d_Of_smallOnes_14 : decode c_Of_smallOnes 14 = .ok (.aload_n 0, 1) := by decide +kernel
theorem d_Of_smallOnes_15 : decode c_Of_smallOnes 15 = .ok (.iload 4, 2) := by decide +kernel
theorem d_Of_smallOnes_17 : decode c_Of_smallOnes 17 = .ok (.iload_n 1, 1) := by decide +kernel
theorem d_Of_smallOnes_18 : decode c_Of_smallOnes 18 = .ok (.iload_n 2, 1) := by decide +kernel
theorem d_Of_smallOnes_19 : decode c_Of_smallOnes 19 = .ok (.invokevirtual 50, 3) := by decide +kernel
theorem d_Of_smallOnes_22 : decode c_Of_smallOnes 22 = .ok (.ifCond .eq 6, 3) := by decide +kernel
theorem d_Of_smallOnes_25 : decode c_Of_smallOnes 25 = .ok (.iinc 3 1, 3) := by decide +kernel
theorem d_Of_smallOnes_28 : decode c_Of_smallOnes 28 = .ok (.iinc 4 1, 3) := by decide +kernel
theorem d_Of_smallOnes_31 : decode c_Of_smallOnes 31 = .ok (.goto (-26), 3) := by decide +kernel
theorem d_Of_smallOnes_34 : decode c_Of_smallOnes 34 = .ok (.iload_n 3, 1) := by decide +kernel
theorem d_Of_smallOnes_35 : decode c_Of_smallOnes 35 = .ok (.ireturn, 1) := by decide +kernel
theorem d_Of_holds_0 : decode c_Of_holds 0 = .ok (.aload_n 0, 1) := by decide +kernel
theorem d_Of_holds_1 : decode c_Of_holds 1 = .ok (.getfield 23, 3) := by decide +kernel
theorem d_Of_holds_4 : decode c_Of_holds 4 = .ok (.iload_n 1, 1) := by decide +kernel
theorem d_Of_holds_5 : decode c_Of_holds 5 = .ok (.invokevirtual 43, 3) := by decide +kernel
theorem d_Of_holds_8 : decode c_Of_holds 8 = .ok (.iload_n 2, 1) := by decide +kernel
theorem d_Of_holds_9 : decode c_Of_holds 9 = .ok (.if_icmp .lt 19, 3) := by decide +kernel
theorem d_Of_holds_12 : decode c_Of_holds 12 = .ok (.aload_n 0, 1) := by decide +kernel
theorem d_Of_holds_13 : decode c_Of_holds 13 = .ok (.getfield 26, 3) := by decide +kernel
theorem d_Of_holds_16 : decode c_Of_holds 16 = .ok (.iload_n 1, 1) := by decide +kernel
theorem d_Of_holds_17 : decode c_Of_holds 17 = .ok (.invokevirtual 43, 3) := by decide +kernel
theorem d_Of_holds_20 : decode c_Of_holds 20 = .ok (.iload_n 3, 1) := by decide +kernel
theorem d_Of_holds_21 : decode c_Of_holds 21 = .ok (.if_icmp .lt 7, 3) := by decide +kernel
theorem d_Of_holds_24 : decode c_Of_holds 24 = .ok (.iconst 1, 1) := by decide +kernel
theorem d_Of_holds_25 : decode c_Of_holds 25 = .ok (.goto 4, 3) := by decide +kernel
theorem d_Of_holds_28 : decode c_Of_holds 28 = .ok (.iconst 0, 1) := by decide +kernel
theorem d_Of_holds_29 : decode c_Of_holds 29 = .ok (.ireturn, 1) := by decide +kernel
theorem d_Of_placeFor_0 : decode c_Of_placeFor 0 = .ok (.bipush (-5), 2) := by decide +kernel
theorem d_Of_placeFor_2 : decode c_Of_placeFor 2 = .ok (.istore 4, 2) := by decide +kernel
theorem d_Of_placeFor_4 : decode c_Of_placeFor 4 = .ok (.iconst 0, 1) := by decide +kernel
theorem d_Of_placeFor_5 : decode c_Of_placeFor 5 = .ok (.istore 5, 2) := by decide +kernel
theorem d_Of_placeFor_7 : decode c_Of_placeFor 7 = .ok (.iload 5, 2) := by decide +kernel
theorem d_Of_placeFor_9 : decode c_Of_placeFor 9 = .ok (.aload_n 0, 1) := by decide +kernel
theorem d_Of_placeFor_10 : decode c_Of_placeFor 10 = .ok (.getfield 29, 3) := by decide +kernel
theorem d_Of_placeFor_13 : decode c_Of_placeFor 13 = .ok (.if_icmp .ge 57, 3) := by decide +kernel
theorem d_Of_placeFor_16 : decode c_Of_placeFor 16 = .ok (.aload_n 0, 1) := by decide +kernel
theorem d_Of_placeFor_17 : decode c_Of_placeFor 17 = .ok (.getfield 20, 3) := by decide +kernel
theorem d_Of_placeFor_20 : decode c_Of_placeFor 20 = .ok (.iload 5, 2) := by decide +kernel
theorem d_Of_placeFor_22 : decode c_Of_placeFor 22 = .ok (.invokevirtual 43, 3) := by decide +kernel
theorem d_Of_placeFor_25 : decode c_Of_placeFor 25 = .ok (.iload_n 1, 1) := by decide +kernel
theorem d_Of_placeFor_26 : decode c_Of_placeFor 26 = .ok (.if_icmp .ne 38, 3) := by decide +kernel
theorem d_Of_placeFor_29 : decode c_Of_placeFor 29 = .ok (.aload_n 0, 1) := by decide +kernel
theorem d_Of_placeFor_30 : decode c_Of_placeFor 30 = .ok (.iload 5, 2) := by decide +kernel
theorem d_Of_placeFor_32 : decode c_Of_placeFor 32 = .ok (.iload_n 2, 1) := by decide +kernel
theorem d_Of_placeFor_33 : decode c_Of_placeFor 33 = .ok (.iload_n 3, 1) := by decide +kernel
theorem d_Of_placeFor_34 : decode c_Of_placeFor 34 = .ok (.invokevirtual 54, 3) := by decide +kernel
theorem d_Of_placeFor_37 : decode c_Of_placeFor 37 = .ok (.ifCond .eq 27, 3) := by decide +kernel
theorem d_Of_placeFor_40 : decode c_Of_placeFor 40 = .ok (.iload 4, 2) := by decide +kernel
theorem d_Of_placeFor_42 : decode c_Of_placeFor 42 = .ok (.ifCond .lt 18, 3) := by decide +kernel
theorem d_Of_placeFor_45 : decode c_Of_placeFor 45 = .ok (.aload_n 0, 1) := by decide +kernel
theorem d_Of_placeFor_46 : decode c_Of_placeFor 46 = .ok (.iload 5, 2) := by decide +kernel
theorem d_Of_placeFor_48 : decode c_Of_placeFor 48 = .ok (.invokevirtual 47, 3) := by decide +kernel
theorem d_Of_placeFor_51 : decode c_Of_placeFor 51 = .ok (.aload_n 0, 1) := by decide +kernel
theorem d_Of_placeFor_52 : decode c_Of_placeFor 52 = .ok (.iload 4, 2) := by decide +kernel
theorem d_Of_placeFor_54 : decode c_Of_placeFor 54 = .ok (.invokevirtual 47, 3) := by decide +kernel
theorem d_Of_placeFor_57 : decode c_Of_placeFor 57 = .ok (.if_icmp .ge 7, 3) := by decide +kernel
theorem d_Of_placeFor_60 : decode c_Of_placeFor 60 = .ok (.iload 5, 2) := by decide +kernel
theorem d_Of_placeFor_62 : decode c_Of_placeFor 62 = .ok (.istore 4, 2) := by decide +kernel
theorem d_Of_placeFor_64 : decode c_Of_placeFor 64 = .ok (.iinc 5 1, 3) := by decide +kernel
theorem d_Of_placeFor_67 : decode c_Of_placeFor 67 = .ok (.goto (-60), 3) := by decide +kernel
theorem d_Of_placeFor_70 : decode c_Of_placeFor 70 = .ok (.iload 4, 2) := by decide +kernel
theorem d_Of_placeFor_72 : decode c_Of_placeFor 72 = .ok (.ireturn, 1) := by decide +kernel
theorem d_Of_copyFrom_0 : decode c_Of_copyFrom 0 = .ok (.aload_n 0, 1) := by decide +kernel
theorem d_Of_copyFrom_1 : decode c_Of_copyFrom 1 = .ok (.aload_n 1, 1) := by decide +kernel
theorem d_Of_copyFrom_2 : decode c_Of_copyFrom 2 = .ok (.getfield 29, 3) := by decide +kernel
theorem d_Of_copyFrom_5 : decode c_Of_copyFrom 5 = .ok (.putfield 29, 3) := by decide +kernel
theorem d_Of_copyFrom_8 : decode c_Of_copyFrom 8 = .ok (.aload_n 0, 1) := by decide +kernel
theorem d_Of_copyFrom_9 : decode c_Of_copyFrom 9 = .ok (.aload_n 1, 1) := by decide +kernel
theorem d_Of_copyFrom_10 : decode c_Of_copyFrom 10 = .ok (.getfield 33, 3) := by decide +kernel
theorem d_Of_copyFrom_13 : decode c_Of_copyFrom 13 = .ok (.putfield 33, 3) := by decide +kernel
theorem d_Of_copyFrom_16 : decode c_Of_copyFrom 16 = .ok (.aload_n 0, 1) := by decide +kernel
theorem d_Of_copyFrom_17 : decode c_Of_copyFrom 17 = .ok (.getfield 14, 3) := by decide +kernel
theorem d_Of_copyFrom_20 : decode c_Of_copyFrom 20 = .ok (.aload_n 1, 1) := by decide +kernel
theorem d_Of_copyFrom_21 : decode c_Of_copyFrom 21 = .ok (.getfield 14, 3) := by decide +kernel
theorem d_Of_copyFrom_24 : decode c_Of_copyFrom 24 = .ok (.invokevirtual 60, 3) := by decide +kernel
theorem d_Of_copyFrom_27 : decode c_Of_copyFrom 27 = .ok (.aload_n 0, 1) := by decide +kernel
theorem d_Of_copyFrom_28 : decode c_Of_copyFrom 28 = .ok (.getfield 20, 3) := by decide +kernel
theorem d_Of_copyFrom_31 : decode c_Of_copyFrom 31 = .ok (.aload_n 1, 1) := by decide +kernel
theorem d_Of_copyFrom_32 : decode c_Of_copyFrom 32 = .ok (.getfield 20, 3) := by decide +kernel
theorem d_Of_copyFrom_35 : decode c_Of_copyFrom 35 = .ok (.invokevirtual 60, 3) := by decide +kernel
theorem d_Of_copyFrom_38 : decode c_Of_copyFrom 38 = .ok (.aload_n 0, 1) := by decide +kernel
theorem d_Of_copyFrom_39 : decode c_Of_copyFrom 39 = .ok (.getfield 23, 3) := by decide +kernel
theorem d_Of_copyFrom_42 : decode c_Of_copyFrom 42 = .ok (.aload_n 1, 1) := by decide +kernel
theorem d_Of_copyFrom_43 : decode c_Of_copyFrom 43 = .ok (.getfield 23, 3) := by decide +kernel
theorem d_Of_copyFrom_46 : decode c_Of_copyFrom 46 = .ok (.invokevirtual 60, 3) := by decide +kernel
theorem d_Of_copyFrom_49 : decode c_Of_copyFrom 49 = .ok (.aload_n 0, 1) := by decide +kernel
theorem d_Of_copyFrom_50 : decode c_Of_copyFrom 50 = .ok (.getfield 26, 3) := by decide +kernel
theorem d_Of_copyFrom_53 : decode c_Of_copyFrom 53 = .ok (.aload_n 1, 1) := by decide +kernel
theorem d_Of_copyFrom_54 : decode c_Of_copyFrom 54 = .ok (.getfield 26, 3) := by decide +kernel
theorem d_Of_copyFrom_57 : decode c_Of_copyFrom 57 = .ok (.invokevirtual 60, 3) := by decide +kernel
theorem d_Of_copyFrom_60 : decode c_Of_copyFrom 60 = .ok (.return_, 1) := by decide +kernel
theorem d_Ro_init_0 : decode c_Ro_init 0 = .ok (.aload_n 0, 1) := by decide +kernel
theorem d_Ro_init_1 : decode c_Ro_init 1 = .ok (.invokespecial 3, 3) := by decide +kernel
theorem d_Ro_init_4 : decode c_Ro_init 4 = .ok (.aload_n 0, 1) := by decide +kernel
theorem d_Ro_init_5 : decode c_Ro_init 5 = .ok (.new 9, 3) := by decide +kernel
theorem d_Ro_init_8 : decode c_Ro_init 8 = .ok (.dup, 1) := by decide +kernel
theorem d_Ro_init_9 : decode c_Ro_init 9 = .ok (.bipush 12, 2) := by decide +kernel
theorem d_Ro_init_11 : decode c_Ro_init 11 = .ok (.invokespecial 11, 3) := by decide +kernel
theorem d_Ro_init_14 : decode c_Ro_init 14 = .ok (.putfield 14, 3) := by decide +kernel
theorem d_Ro_init_17 : decode c_Ro_init 17 = .ok (.aload_n 0, 1) := by decide +kernel
theorem d_Ro_init_18 : decode c_Ro_init 18 = .ok (.new 9, 3) := by decide +kernel
theorem d_Ro_init_21 : decode c_Ro_init 21 = .ok (.dup, 1) := by decide +kernel
theorem d_Ro_init_22 : decode c_Ro_init 22 = .ok (.bipush 12, 2) := by decide +kernel
theorem d_Ro_init_24 : decode c_Ro_init 24 = .ok (.invokespecial 11, 3) := by decide +kernel
theorem d_Ro_init_27 : decode c_Ro_init 27 = .ok (.putfield 20, 3) := by decide +kernel
theorem d_Ro_init_30 : decode c_Ro_init 30 = .ok (.aload_n 0, 1) := by decide +kernel
theorem d_Ro_init_31 : decode c_Ro_init 31 = .ok (.new 9, 3) := by decide +kernel
theorem d_Ro_init_34 : decode c_Ro_init 34 = .ok (.dup, 1) := by decide +kernel
theorem d_Ro_init_35 : decode c_Ro_init 35 = .ok (.bipush 12, 2) := by decide +kernel
theorem d_Ro_init_37 : decode c_Ro_init 37 = .ok (.invokespecial 11, 3) := by decide +kernel
theorem d_Ro_init_40 : decode c_Ro_init 40 = .ok (.putfield 23, 3) := by decide +kernel
theorem d_Ro_init_43 : decode c_Ro_init 43 = .ok (.aload_n 0, 1) := by decide +kernel
theorem d_Ro_init_44 : decode c_Ro_init 44 = .ok (.new 9, 3) := by decide +kernel
theorem d_Ro_init_47 : decode c_Ro_init 47 = .ok (.dup, 1) := by decide +kernel
theorem d_Ro_init_48 : decode c_Ro_init 48 = .ok (.bipush 12, 2) := by decide +kernel
theorem d_Ro_init_50 : decode c_Ro_init 50 = .ok (.invokespecial 11, 3) := by decide +kernel
theorem d_Ro_init_53 : decode c_Ro_init 53 = .ok (.putfield 26, 3) := by decide +kernel
theorem d_Ro_init_56 : decode c_Ro_init 56 = .ok (.aload_n 0, 1) := by decide +kernel
theorem d_Ro_init_57 : decode c_Ro_init 57 = .ok (.new 9, 3) := by decide +kernel
theorem d_Ro_init_60 : decode c_Ro_init 60 = .ok (.dup, 1) := by decide +kernel
theorem d_Ro_init_61 : decode c_Ro_init 61 = .ok (.bipush 12, 2) := by decide +kernel
theorem d_Ro_init_63 : decode c_Ro_init 63 = .ok (.invokespecial 11, 3) := by decide +kernel
theorem d_Ro_init_66 : decode c_Ro_init 66 = .ok (.putfield 29, 3) := by decide +kernel
theorem d_Ro_init_69 : decode c_Ro_init 69 = .ok (.aload_n 0, 1) := by decide +kernel
theorem d_Ro_init_70 : decode c_Ro_init 70 = .ok (.new 9, 3) := by decide +kernel
theorem d_Ro_init_73 : decode c_Ro_init 73 = .ok (.dup, 1) := by decide +kernel
theorem d_Ro_init_74 : decode c_Ro_init 74 = .ok (.bipush 12, 2) := by decide +kernel
theorem d_Ro_init_76 : decode c_Ro_init 76 = .ok (.invokespecial 11, 3) := by decide +kernel
theorem d_Ro_init_79 : decode c_Ro_init 79 = .ok (.putfield 32, 3) := by decide +kernel
theorem d_Ro_init_82 : decode c_Ro_init 82 = .ok (.aload_n 0, 1) := by decide +kernel
theorem d_Ro_init_83 : decode c_Ro_init 83 = .ok (.new 9, 3) := by decide +kernel
theorem d_Ro_init_86 : decode c_Ro_init 86 = .ok (.dup, 1) := by decide +kernel
theorem d_Ro_init_87 : decode c_Ro_init 87 = .ok (.bipush 12, 2) := by decide +kernel
theorem d_Ro_init_89 : decode c_Ro_init 89 = .ok (.invokespecial 11, 3) := by decide +kernel
theorem d_Ro_init_92 : decode c_Ro_init 92 = .ok (.putfield 35, 3) := by decide +kernel
theorem d_Ro_init_95 : decode c_Ro_init 95 = .ok (.aload_n 0, 1) := by decide +kernel
theorem d_Ro_init_96 : decode c_Ro_init 96 = .ok (.new 9, 3) := by decide +kernel
theorem d_Ro_init_99 : decode c_Ro_init 99 = .ok (.dup, 1) := by decide +kernel
theorem d_Ro_init_100 : decode c_Ro_init 100 = .ok (.bipush 12, 2) := by decide +kernel
theorem d_Ro_init_102 : decode c_Ro_init 102 = .ok (.invokespecial 11, 3) := by decide +kernel
theorem d_Ro_init_105 : decode c_Ro_init 105 = .ok (.putfield 38, 3) := by decide +kernel
theorem d_Ro_init_108 : decode c_Ro_init 108 = .ok (.return_, 1) := by decide +kernel
theorem d_Ro_has_0 : decode c_Ro_has 0 = .ok (.iload_n 1, 1) := by decide +kernel
theorem d_Ro_has_1 : decode c_Ro_has 1 = .ok (.ifCond .lt 15, 3) := by decide +kernel
theorem d_Ro_has_4 : decode c_Ro_has 4 = .ok (.iload_n 1, 1) := by decide +kernel
theorem d_Ro_has_5 : decode c_Ro_has 5 = .ok (.aload_n 0, 1) := by decide +kernel
theorem d_Ro_has_6 : decode c_Ro_has 6 = .ok (.getfield 41, 3) := by decide +kernel
theorem d_Ro_has_9 : decode c_Ro_has 9 = .ok (.if_icmp .ge 7, 3) := by decide +kernel
theorem d_Ro_has_12 : decode c_Ro_has 12 = .ok (.iconst 1, 1) := by decide +kernel
theorem d_Ro_has_13 : decode c_Ro_has 13 = .ok (.goto 4, 3) := by decide +kernel
theorem d_Ro_has_16 : decode c_Ro_has 16 = .ok (.iconst 0, 1) := by decide +kernel
theorem d_Ro_has_17 : decode c_Ro_has 17 = .ok (.ireturn, 1) := by decide +kernel
theorem d_Ro_append_0 : decode c_Ro_append 0 = .ok (.aload_n 0, 1) := by decide +kernel
theorem d_Ro_append_1 : decode c_Ro_append 1 = .ok (.getfield 41, 3) := by decide +kernel
theorem d_Ro_append_4 : decode c_Ro_append 4 = .ok (.istore 5, 2) := by decide +kernel
theorem d_Ro_append_6 : decode c_Ro_append 6 = .ok (.aload_n 0, 1) := by decide +kernel
theorem d_Ro_append_7 : decode c_Ro_append 7 = .ok (.getfield 14, 3) := by decide +kernel
theorem d_Ro_append_10 : decode c_Ro_append 10 = .ok (.iload 5, 2) := by decide +kernel
theorem d_Ro_append_12 : decode c_Ro_append 12 = .ok (.iload_n 1, 1) := by decide +kernel
theorem d_Ro_append_13 : decode c_Ro_append 13 = .ok (.invokevirtual 45, 3) := by decide +kernel
theorem d_Ro_append_16 : decode c_Ro_append 16 = .ok (.aload_n 0, 1) := by decide +kernel
theorem d_Ro_append_17 : decode c_Ro_append 17 = .ok (.getfield 20, 3) := by decide +kernel
theorem d_Ro_append_20 : decode c_Ro_append 20 = .ok (.iload 5, 2) := by decide +kernel
theorem d_Ro_append_22 : decode c_Ro_append 22 = .ok (.iload_n 2, 1) := by decide +kernel
theorem d_Ro_append_23 : decode c_Ro_append 23 = .ok (.invokevirtual 45, 3) := by decide +kernel
theorem d_Ro_append_26 : decode c_Ro_append 26 = .ok (.aload_n 0, 1) := by decide +kernel
theorem d_Ro_append_27 : decode c_Ro_append 27 = .ok (.getfield 23, 3) := by decide +kernel
theorem d_Ro_append_30 : decode c_Ro_append 30 = .ok (.iload 5, 2) := by decide +kernel
theorem d_Ro_append_32 : decode c_Ro_append 32 = .ok (.iload_n 3, 1) := by decide +kernel
theorem d_Ro_append_33 : decode c_Ro_append 33 = .ok (.invokevirtual 45, 3) := by decide +kernel
theorem d_Ro_append_36 : decode c_Ro_append 36 = .ok (.aload_n 0, 1) := by decide +kernel
theorem d_Ro_append_37 : decode c_Ro_append 37 = .ok (.getfield 26, 3) := by decide +kernel
theorem d_Ro_append_40 : decode c_Ro_append 40 = .ok (.iload 5, 2) := by decide +kernel
theorem d_Ro_append_42 : decode c_Ro_append 42 = .ok (.iload 4, 2) := by decide +kernel
theorem d_Ro_append_44 : decode c_Ro_append 44 = .ok (.invokevirtual 45, 3) := by decide +kernel
theorem d_Ro_append_47 : decode c_Ro_append 47 = .ok (.aload_n 0, 1) := by decide +kernel
theorem d_Ro_append_48 : decode c_Ro_append 48 = .ok (.getfield 29, 3) := by decide +kernel
theorem d_Ro_append_51 : decode c_Ro_append 51 = .ok (.iload 5, 2) := by decide +kernel
theorem d_Ro_append_53 : decode c_Ro_append 53 = .ok (.iload_n 2, 1) := by decide +kernel
theorem d_Ro_append_54 : decode c_Ro_append 54 = .ok (.iload_n 3, 1) := by decide +kernel
theorem d_Ro_append_55 : decode c_Ro_append 55 = .ok (.imul, 1) := by decide +kernel
theorem d_Ro_append_56 : decode c_Ro_append 56 = .ok (.invokevirtual 45, 3) := by decide +kernel
theorem d_Ro_append_59 : decode c_Ro_append 59 = .ok (.aload_n 0, 1) := by decide +kernel
theorem d_Ro_append_60 : decode c_Ro_append 60 = .ok (.dup, 1) := by decide +kernel
theorem d_Ro_append_61 : decode c_Ro_append 61 = .ok (.getfield 41, 3) := by decide +kernel
theorem d_Ro_append_64 : decode c_Ro_append 64 = .ok (.iconst 1, 1) := by decide +kernel
theorem d_Ro_append_65 : decode c_Ro_append 65 = .ok (.iadd, 1) := by decide +kernel
theorem d_Ro_append_66 : decode c_Ro_append 66 = .ok (.putfield 41, 3) := by decide +kernel
theorem d_Ro_append_69 : decode c_Ro_append 69 = .ok (.iload 5, 2) := by decide +kernel
theorem d_Ro_append_71 : decode c_Ro_append 71 = .ok (.ireturn, 1) := by decide +kernel
theorem d_Ro_copyFrom_0 : decode c_Ro_copyFrom 0 = .ok (.aload_n 0, 1) := by decide +kernel
theorem d_Ro_copyFrom_1 : decode c_Ro_copyFrom 1 = .ok (.aload_n 1, 1) := by decide +kernel
theorem d_Ro_copyFrom_2 : decode c_Ro_copyFrom 2 = .ok (.getfield 41, 3) := by decide +kernel
theorem d_Ro_copyFrom_5 : decode c_Ro_copyFrom 5 = .ok (.putfield 41, 3) := by decide +kernel
theorem d_Ro_copyFrom_8 : decode c_Ro_copyFrom 8 = .ok (.aload_n 0, 1) := by decide +kernel
theorem d_Ro_copyFrom_9 : decode c_Ro_copyFrom 9 = .ok (.getfield 14, 3) := by decide +kernel
theorem d_Ro_copyFrom_12 : decode c_Ro_copyFrom 12 = .ok (.aload_n 1, 1) := by decide +kernel
theorem d_Ro_copyFrom_13 : decode c_Ro_copyFrom 13 = .ok (.getfield 14, 3) := by decide +kernel
theorem d_Ro_copyFrom_16 : decode c_Ro_copyFrom 16 = .ok (.invokevirtual 49, 3) := by decide +kernel
theorem d_Ro_copyFrom_19 : decode c_Ro_copyFrom 19 = .ok (.aload_n 0, 1) := by decide +kernel
theorem d_Ro_copyFrom_20 : decode c_Ro_copyFrom 20 = .ok (.getfield 20, 3) := by decide +kernel
theorem d_Ro_copyFrom_23 : decode c_Ro_copyFrom 23 = .ok (.aload_n 1, 1) := by decide +kernel
theorem d_Ro_copyFrom_24 : decode c_Ro_copyFrom 24 = .ok (.getfield 20, 3) := by decide +kernel
theorem d_Ro_copyFrom_27 : decode c_Ro_copyFrom 27 = .ok (.invokevirtual 49, 3) := by decide +kernel
theorem d_Ro_copyFrom_30 : decode c_Ro_copyFrom 30 = .ok (.aload_n 0, 1) := by decide +kernel
theorem d_Ro_copyFrom_31 : decode c_Ro_copyFrom 31 = .ok (.getfield 23, 3) := by decide +kernel
theorem d_Ro_copyFrom_34 : decode c_Ro_copyFrom 34 = .ok (.aload_n 1, 1) := by decide +kernel
theorem d_Ro_copyFrom_35 : decode c_Ro_copyFrom 35 = .ok (.getfield 23, 3) := by decide +kernel
theorem d_Ro_copyFrom_38 : decode c_Ro_copyFrom 38 = .ok (.invokevirtual 49, 3) := by decide +kernel
theorem d_Ro_copyFrom_41 : decode c_Ro_copyFrom 41 = .ok (.aload_n 0, 1) := by decide +kernel
theorem d_Ro_copyFrom_42 : decode c_Ro_copyFrom 42 = .ok (.getfield 26, 3) := by decide +kernel
theorem d_Ro_copyFrom_45 : decode c_Ro_copyFrom 45 = .ok (.aload_n 1, 1) := by decide +kernel
theorem d_Ro_copyFrom_46 : decode c_Ro_copyFrom 46 = .ok (.getfield 26, 3) := by decide +kernel
theorem d_Ro_copyFrom_49 : decode c_Ro_copyFrom 49 = .ok (.invokevirtual 49, 3) := by decide +kernel
theorem d_Ro_copyFrom_52 : decode c_Ro_copyFrom 52 = .ok (.aload_n 0, 1) := by decide +kernel
theorem d_Ro_copyFrom_53 : decode c_Ro_copyFrom 53 = .ok (.getfield 29, 3) := by decide +kernel
theorem d_Ro_copyFrom_56 : decode c_Ro_copyFrom 56 = .ok (.aload_n 1, 1) := by decide +kernel
theorem d_Ro_copyFrom_57 : decode c_Ro_copyFrom 57 = .ok (.getfield 29, 3) := by decide +kernel
theorem d_Ro_copyFrom_60 : decode c_Ro_copyFrom 60 = .ok (.invokevirtual 49, 3) := by decide +kernel
theorem d_Ro_copyFrom_63 : decode c_Ro_copyFrom 63 = .ok (.aload_n 0, 1) := by decide +kernel
theorem d_Ro_copyFrom_64 : decode c_Ro_copyFrom 64 = .ok (.getfield 32, 3) := by decide +kernel
theorem d_Ro_copyFrom_67 : decode c_Ro_copyFrom 67 = .ok (.aload_n 1, 1) := by decide +kernel
theorem d_Ro_copyFrom_68 : decode c_Ro_copyFrom 68 = .ok (.getfield 32, 3) := by decide +kernel
theorem d_Ro_copyFrom_71 : decode c_Ro_copyFrom 71 = .ok (.invokevirtual 49, 3) := by decide +kernel
theorem d_Ro_copyFrom_74 : decode c_Ro_copyFrom 74 = .ok (.aload_n 0, 1) := by decide +kernel
theorem d_Ro_copyFrom_75 : decode c_Ro_copyFrom 75 = .ok (.getfield 35, 3) := by decide +kernel
theorem d_Ro_copyFrom_78 : decode c_Ro_copyFrom 78 = .ok (.aload_n 1, 1) := by decide +kernel
theorem d_Ro_copyFrom_79 : decode c_Ro_copyFrom 79 = .ok (.getfield 35, 3) := by decide +kernel
theorem d_Ro_copyFrom_82 : decode c_Ro_copyFrom 82 = .ok (.invokevirtual 49, 3) := by decide +kernel
theorem d_Ro_copyFrom_85 : decode c_Ro_copyFrom 85 = .ok (.aload_n 0, 1) := by decide +kernel
theorem d_Ro_copyFrom_86 : decode c_Ro_copyFrom 86 = .ok (.getfield 38, 3) := by decide +kernel
theorem d_Ro_copyFrom_89 : decode c_Ro_copyFrom 89 = .ok (.aload_n 1, 1) := by decide +kernel
theorem d_Ro_copyFrom_90 : decode c_Ro_copyFrom 90 = .ok (.getfield 38, 3) := by decide +kernel
theorem d_Ro_copyFrom_93 : decode c_Ro_copyFrom 93 = .ok (.invokevirtual 49, 3) := by decide +kernel
theorem d_Ro_copyFrom_96 : decode c_Ro_copyFrom 96 = .ok (.return_, 1) := by decide +kernel
theorem d_Te_init_0 : decode c_Te_init 0 = .ok (.aload_n 0, 1) := by decide +kernel
theorem d_Te_init_1 : decode c_Te_init 1 = .ok (.invokespecial 3, 3) := by decide +kernel
theorem d_Te_init_4 : decode c_Te_init 4 = .ok (.aload_n 0, 1) := by decide +kernel
theorem d_Te_init_5 : decode c_Te_init 5 = .ok (.new 9, 3) := by decide +kernel
theorem d_Te_init_8 : decode c_Te_init 8 = .ok (.dup, 1) := by decide +kernel
theorem d_Te_init_9 : decode c_Te_init 9 = .ok (.bipush 60, 2) := by decide +kernel
theorem d_Te_init_11 : decode c_Te_init 11 = .ok (.invokespecial 11, 3) := by decide +kernel
theorem d_Te_init_14 : decode c_Te_init 14 = .ok (.putfield 14, 3) := by decide +kernel
theorem d_Te_init_17 : decode c_Te_init 17 = .ok (.aload_n 0, 1) := by decide +kernel
theorem d_Te_init_18 : decode c_Te_init 18 = .ok (.new 20, 3) := by decide +kernel
theorem d_Te_init_21 : decode c_Te_init 21 = .ok (.dup, 1) := by decide +kernel
theorem d_Te_init_22 : decode c_Te_init 22 = .ok (.invokespecial 22, 3) := by decide +kernel
theorem d_Te_init_25 : decode c_Te_init 25 = .ok (.putfield 23, 3) := by decide +kernel
theorem d_Te_init_28 : decode c_Te_init 28 = .ok (.return_, 1) := by decide +kernel
theorem d_Te_append_0 : decode c_Te_append 0 = .ok (.aload_n 0, 1) := by decide +kernel
theorem d_Te_append_1 : decode c_Te_append 1 = .ok (.getfield 27, 3) := by decide +kernel
theorem d_Te_append_4 : decode c_Te_append 4 = .ok (.bipush 60, 2) := by decide +kernel
theorem d_Te_append_6 : decode c_Te_append 6 = .ok (.if_icmp .lt 5, 3) := by decide +kernel
theorem d_Te_append_9 : decode c_Te_append 9 = .ok (.iconst 0, 1) := by decide +kernel
theorem d_Te_append_10 : decode c_Te_append 10 = .ok (.ireturn, 1) := by decide +kernel
theorem d_Te_append_11 : decode c_Te_append 11 = .ok (.aload_n 0, 1) := by decide +kernel
theorem d_Te_append_12 : decode c_Te_append 12 = .ok (.getfield 14, 3) := by decide +kernel
theorem d_Te_append_15 : decode c_Te_append 15 = .ok (.aload_n 0, 1) := by decide +kernel
theorem d_Te_append_16 : decode c_Te_append 16 = .ok (.getfield 27, 3) := by decide +kernel
theorem d_Te_append_19 : decode c_Te_append 19 = .ok (.iload_n 1, 1) := by decide +kernel
theorem d_Te_append_20 : decode c_Te_append 20 = .ok (.invokevirtual 31, 3) := by decide +kernel
theorem d_Te_append_23 : decode c_Te_append 23 = .ok (.aload_n 0, 1) := by decide +kernel
theorem d_Te_append_24 : decode c_Te_append 24 = .ok (.dup, 1) := by decide +kernel
theorem d_Te_append_25 : decode c_Te_append 25 = .ok (.getfield 27, 3) := by decide +kernel
theorem d_Te_append_28 : decode c_Te_append 28 = .ok (.iconst 1, 1) := by decide +kernel
theorem d_Te_append_29 : decode c_Te_append 29 = .ok (.iadd, 1) := by decide +kernel
theorem d_Te_append_30 : decode c_Te_append 30 = .ok (.putfield 27, 3) := by decide +kernel
theorem d_Te_append_33 : decode c_Te_append 33 = .ok (.iconst 1, 1) := by decide +kernel
theorem d_Te_append_34 : decode c_Te_append 34 = .ok (.ireturn, 1) := by decide +kernel
theorem d_Te_read_0 : decode c_Te_read 0 = .ok (.aload_n 0, 1) := by decide +kernel
theorem d_Te_read_1 : decode c_Te_read 1 = .ok (.getfield 23, 3) := by decide +kernel
theorem d_Te_read_4 : decode c_Te_read 4 = .ok (.iconst 0, 1) := by decide +kernel
theorem d_Te_read_5 : decode c_Te_read 5 = .ok (.putfield 35, 3) := by decide +kernel
theorem d_Te_read_8 : decode c_Te_read 8 = .ok (.aload_n 0, 1) := by decide +kernel
theorem d_Te_read_9 : decode c_Te_read 9 = .ok (.invokevirtual 38, 3) := by decide +kernel
theorem d_Te_read_12 : decode c_Te_read 12 = .ok (.iconst 0, 1) := by decide +kernel
theorem d_Te_read_13 : decode c_Te_read 13 = .ok (.istore_n 1, 1) := by decide +kernel
theorem d_Te_read_14 : decode c_Te_read 14 = .ok (.iload_n 1, 1) := by decide +kernel
theorem d_Te_read_15 : decode c_Te_read 15 = .ok (.aload_n 0, 1) := by decide +kernel
theorem d_Te_read_16 : decode c_Te_read 16 = .ok (.getfield 27, 3) := by decide +kernel
theorem d_Te_read_19 : decode c_Te_read 19 = .ok (.if_icmp .ge 26, 3) := by decide +kernel
theorem d_Te_read_22 : decode c_Te_read 22 = .ok (.aload_n 0, 1) := by decide +kernel
theorem d_Te_read_23 : decode c_Te_read 23 = .ok (.aload_n 0, 1) := by decide +kernel
theorem d_Te_read_24 : decode c_Te_read 24 = .ok (.getfield 14, 3) := by decide +kernel
theorem d_Te_read_27 : decode c_Te_read 27 = .ok (.iload_n 1, 1) := by decide +kernel
theorem d_Te_read_28 : decode c_Te_read 28 = .ok (.invokevirtual 41, 3) := by decide +kernel
theorem d_Te_read_31 : decode c_Te_read 31 = .ok (.invokevirtual 45, 3) := by decide +kernel
theorem d_Te_read_34 : decode c_Te_read 34 = .ok (.ifCond .ne 5, 3) := by decide +kernel
theorem d_Te_read_37 : decode c_Te_read 37 = .ok (.iload_n 1, 1) := by decide +kernel
theorem d_Te_read_38 : decode c_Te_read 38 = .ok (.ireturn, 1) := by decide +kernel
theorem d_Te_read_39 : decode c_Te_read 39 = .ok (.iinc 1 1, 3) := by decide +kernel
theorem d_Te_read_42 : decode c_Te_read 42 = .ok (.goto (-28), 3) := by decide +kernel
theorem d_Te_read_45 : decode c_Te_read 45 = .ok (.aload_n 0, 1) := by decide +kernel
theorem d_Te_read_46 : decode c_Te_read 46 = .ok (.getfield 49, 3) := by decide +kernel
theorem d_Te_read_49 : decode c_Te_read 49 = .ok (.iconst 3, 1) := by decide +kernel
theorem d_Te_read_50 : decode c_Te_read 50 = .ok (.if_icmp .ne 8, 3) := by decide +kernel
theorem d_Te_read_53 : decode c_Te_read 53 = .ok (.bipush (-5), 2) := by decide +kernel
theorem d_Te_read_55 : decode c_Te_read 55 = .ok (.goto 7, 3) := by decide +kernel
theorem d_Te_read_58 : decode c_Te_read 58 = .ok (.aload_n 0, 1) := by decide +kernel
theorem d_Te_read_59 : decode c_Te_read 59 = .ok (.getfield 27, 3) := by decide +kernel
theorem d_Te_read_62 : decode c_Te_read 62 = .ok (.ireturn, 1) := by decide +kernel
theorem d_Te_beginRoom_0 : decode c_Te_beginRoom 0 = .ok (.aload_n 0, 1) := by decide +kernel
theorem d_Te_beginRoom_1 : decode c_Te_beginRoom 1 = .ok (.getfield 23, 3) := by decide +kernel
theorem d_Te_beginRoom_4 : decode c_Te_beginRoom 4 = .ok (.invokevirtual 52, 3) := by decide +kernel
theorem d_Te_beginRoom_7 : decode c_Te_beginRoom 7 = .ok (.aload_n 0, 1) := by decide +kernel
theorem d_Te_beginRoom_8 : decode c_Te_beginRoom 8 = .ok (.iconst 0, 1) := by decide +kernel
theorem d_Te_beginRoom_9 : decode c_Te_beginRoom 9 = .ok (.putfield 49, 3) := by decide +kernel
theorem d_Te_beginRoom_12 : decode c_Te_beginRoom 12 = .ok (.aload_n 0, 1) := by decide +kernel
theorem d_Te_beginRoom_13 : decode c_Te_beginRoom 13 = .ok (.iconst 0, 1) := by decide +kernel
theorem d_Te_beginRoom_14 : decode c_Te_beginRoom 14 = .ok (.putfield 55, 3) := by decide +kernel
theorem d_Te_beginRoom_17 : decode c_Te_beginRoom 17 = .ok (.return_, 1) := by decide +kernel
theorem d_Te_takes_0 : decode c_Te_takes 0 = .ok (.aload_n 0, 1) := by decide +kernel
theorem d_Te_takes_1 : decode c_Te_takes 1 = .ok (.getfield 49, 3) := by decide +kernel
theorem d_Te_takes_4 : decode c_Te_takes 4 = .ok (.tableswitch 78 0 2 #[28, 50, 72], 28) := by decide +kernel
theorem d_Te_takes_32 : decode c_Te_takes 32 = .ok (.aload_n 0, 1) := by decide +kernel
theorem d_Te_takes_33 : decode c_Te_takes 33 = .ok (.iload_n 1, 1) := by decide +kernel
theorem d_Te_takes_34 : decode c_Te_takes 34 = .ok (.invokevirtual 58, 3) := by decide +kernel
theorem d_Te_takes_37 : decode c_Te_takes 37 = .ok (.ifCond .ne 11, 3) := by decide +kernel
theorem d_Te_takes_40 : decode c_Te_takes 40 = .ok (.aload_n 0, 1) := by decide +kernel
theorem d_Te_takes_41 : decode c_Te_takes 41 = .ok (.iload_n 1, 1) := by decide +kernel
theorem d_Te_takes_42 : decode c_Te_takes 42 = .ok (.invokevirtual 61, 3) := by decide +kernel
theorem d_Te_takes_45 : decode c_Te_takes 45 = .ok (.ifCond .eq 7, 3) := by decide +kernel
theorem d_Te_takes_48 : decode c_Te_takes 48 = .ok (.iconst 1, 1) := by decide +kernel
theorem d_Te_takes_49 : decode c_Te_takes 49 = .ok (.goto 4, 3) := by decide +kernel
theorem d_Te_takes_52 : decode c_Te_takes 52 = .ok (.iconst 0, 1) := by decide +kernel
theorem d_Te_takes_53 : decode c_Te_takes 53 = .ok (.ireturn, 1) := by decide +kernel
theorem d_Te_takes_54 : decode c_Te_takes 54 = .ok (.aload_n 0, 1) := by decide +kernel
theorem d_Te_takes_55 : decode c_Te_takes 55 = .ok (.iload_n 1, 1) := by decide +kernel
theorem d_Te_takes_56 : decode c_Te_takes 56 = .ok (.invokevirtual 58, 3) := by decide +kernel
theorem d_Te_takes_59 : decode c_Te_takes 59 = .ok (.ifCond .ne 11, 3) := by decide +kernel
theorem d_Te_takes_62 : decode c_Te_takes 62 = .ok (.aload_n 0, 1) := by decide +kernel
theorem d_Te_takes_63 : decode c_Te_takes 63 = .ok (.iload_n 1, 1) := by decide +kernel
theorem d_Te_takes_64 : decode c_Te_takes 64 = .ok (.invokevirtual 64, 3) := by decide +kernel
theorem d_Te_takes_67 : decode c_Te_takes 67 = .ok (.ifCond .eq 7, 3) := by decide +kernel
theorem d_Te_takes_70 : decode c_Te_takes 70 = .ok (.iconst 1, 1) := by decide +kernel
theorem d_Te_takes_71 : decode c_Te_takes 71 = .ok (.goto 4, 3) := by decide +kernel
theorem d_Te_takes_74 : decode c_Te_takes 74 = .ok (.iconst 0, 1) := by decide +kernel
theorem d_Te_takes_75 : decode c_Te_takes 75 = .ok (.ireturn, 1) := by decide +kernel
theorem d_Te_takes_76 : decode c_Te_takes 76 = .ok (.aload_n 0, 1) := by decide +kernel
theorem d_Te_takes_77 : decode c_Te_takes 77 = .ok (.iload_n 1, 1) := by decide +kernel
theorem d_Te_takes_78 : decode c_Te_takes 78 = .ok (.invokevirtual 67, 3) := by decide +kernel
theorem d_Te_takes_81 : decode c_Te_takes 81 = .ok (.ireturn, 1) := by decide +kernel
theorem d_Te_takes_82 : decode c_Te_takes 82 = .ok (.aload_n 0, 1) := by decide +kernel
theorem d_Te_takes_83 : decode c_Te_takes 83 = .ok (.iload_n 1, 1) := by decide +kernel
theorem d_Te_takes_84 : decode c_Te_takes 84 = .ok (.invokevirtual 70, 3) := by decide +kernel
theorem d_Te_takes_87 : decode c_Te_takes 87 = .ok (.ireturn, 1) := by decide +kernel
theorem d_Te_takesDigit_0 : decode c_Te_takesDigit 0 = .ok (.iload_n 1, 1) := by decide +kernel
theorem d_Te_takesDigit_1 : decode c_Te_takesDigit 1 = .ok (.bipush 48, 2) := by decide +kernel
theorem d_Te_takesDigit_3 : decode c_Te_takesDigit 3 = .ok (.if_icmp .lt 9, 3) := by decide +kernel
theorem d_Te_takesDigit_6 : decode c_Te_takesDigit 6 = .ok (.iload_n 1, 1) := by decide +kernel
theorem d_Te_takesDigit_7 : decode c_Te_takesDigit 7 = .ok (.bipush 57, 2) := by decide +kernel
theorem d_Te_takesDigit_9 : decode c_Te_takesDigit 9 = .ok (.if_icmp .le 5, 3) := by decide +kernel
theorem d_Te_takesDigit_12 : decode c_Te_takesDigit 12 = .ok (.iconst 0, 1) := by decide +kernel
theorem d_Te_takesDigit_13 : decode c_Te_takesDigit 13 = .ok (.ireturn, 1) := by decide +kernel
theorem d_Te_takesDigit_14 : decode c_Te_takesDigit 14 = .ok (.aload_n 0, 1) := by decide +kernel
theorem d_Te_takesDigit_15 : decode c_Te_takesDigit 15 = .ok (.getfield 55, 3) := by decide +kernel
theorem d_Te_takesDigit_18 : decode c_Te_takesDigit 18 = .ok (.bipush 10, 2) := by decide +kernel
theorem d_Te_takesDigit_20 : decode c_Te_takesDigit 20 = .ok (.imul, 1) := by decide +kernel
theorem d_Te_takesDigit_21 : decode c_Te_takesDigit 21 = .ok (.iload_n 1, 1) := by decide +kernel
theorem d_Te_takesDigit_22 : decode c_Te_takesDigit 22 = .ok (.iadd, 1) := by decide +kernel
theorem d_Te_takesDigit_23 : decode c_Te_takesDigit 23 = .ok (.bipush 48, 2) := by decide +kernel
theorem d_Te_takesDigit_25 : decode c_Te_takesDigit 25 = .ok (.isub, 1) := by decide +kernel
theorem d_Te_takesDigit_26 : decode c_Te_takesDigit 26 = .ok (.istore_n 2, 1) := by decide +kernel
theorem d_Te_takesDigit_27 : decode c_Te_takesDigit 27 = .ok (.iload_n 2, 1) := by decide +kernel
theorem d_Te_takesDigit_28 : decode c_Te_takesDigit 28 = .ok (.iconst 1, 1) := by decide +kernel
theorem d_Te_takesDigit_29 : decode c_Te_takesDigit 29 = .ok (.if_icmp .lt 9, 3) := by decide +kernel
theorem d_Te_takesDigit_32 : decode c_Te_takesDigit 32 = .ok (.iload_n 2, 1) := by decide +kernel
theorem d_Te_takesDigit_33 : decode c_Te_takesDigit 33 = .ok (.bipush 60, 2) := by decide +kernel
theorem d_Te_takesDigit_35 : decode c_Te_takesDigit 35 = .ok (.if_icmp .le 5, 3) := by decide +kernel
theorem d_Te_takesDigit_38 : decode c_Te_takesDigit 38 = .ok (.iconst 0, 1) := by decide +kernel
theorem d_Te_takesDigit_39 : decode c_Te_takesDigit 39 = .ok (.ireturn, 1) := by decide +kernel
theorem d_Te_takesDigit_40 : decode c_Te_takesDigit 40 = .ok (.aload_n 0, 1) := by decide +kernel
theorem d_Te_takesDigit_41 : decode c_Te_takesDigit 41 = .ok (.iload_n 2, 1) := by decide +kernel
theorem d_Te_takesDigit_42 : decode c_Te_takesDigit 42 = .ok (.putfield 55, 3) := by decide +kernel
theorem d_Te_takesDigit_45 : decode c_Te_takesDigit 45 = .ok (.iconst 1, 1) := by decide +kernel
theorem d_Te_takesDigit_46 : decode c_Te_takesDigit 46 = .ok (.ireturn, 1) := by decide +kernel
theorem d_Te_takesBetweenSizes_0 : decode c_Te_takesBetweenSizes 0 = .ok (.iload_n 1, 1) := by decide +kernel
theorem d_Te_takesBetweenSizes_1 : decode c_Te_takesBetweenSizes 1 = .ok (.bipush 120, 2) := by decide +kernel
theorem d_Te_takesBetweenSizes_3 : decode c_Te_takesBetweenSizes 3 = .ok (.if_icmp .ne 10, 3) := by decide +kernel
theorem d_Te_takesBetweenSizes_6 : decode c_Te_takesBetweenSizes 6 = .ok (.aload_n 0, 1) := by decide +kernel
theorem d_Te_takesBetweenSizes_7 : decode c_Te_takesBetweenSizes 7 = .ok (.getfield 55, 3) := by decide +kernel
theorem d_Te_takesBetweenSizes_10 : decode c_Te_takesBetweenSizes 10 = .ok (.ifCond .ne 5, 3) := by decide +kernel
theorem d_Te_takesBetweenSizes_13 : decode c_Te_takesBetweenSizes 13 = .ok (.iconst 0, 1) := by decide +kernel
theorem d_Te_takesBetweenSizes_14 : decode c_Te_takesBetweenSizes 14 = .ok (.ireturn, 1) := by decide +kernel
theorem d_Te_takesBetweenSizes_15 : decode c_Te_takesBetweenSizes 15 = .ok (.aload_n 0, 1) := by decide +kernel
theorem d_Te_takesBetweenSizes_16 : decode c_Te_takesBetweenSizes 16 = .ok (.aload_n 0, 1) := by decide +kernel
theorem d_Te_takesBetweenSizes_17 : decode c_Te_takesBetweenSizes 17 = .ok (.getfield 55, 3) := by decide +kernel
theorem d_Te_takesBetweenSizes_20 : decode c_Te_takesBetweenSizes 20 = .ok (.putfield 73, 3) := by decide +kernel
theorem d_Te_takesBetweenSizes_23 : decode c_Te_takesBetweenSizes 23 = .ok (.aload_n 0, 1) := by decide +kernel
theorem d_Te_takesBetweenSizes_24 : decode c_Te_takesBetweenSizes 24 = .ok (.iconst 0, 1) := by decide +kernel
theorem d_Te_takesBetweenSizes_25 : decode c_Te_takesBetweenSizes 25 = .ok (.putfield 55, 3) := by decide +kernel
theorem d_Te_takesBetweenSizes_28 : decode c_Te_takesBetweenSizes 28 = .ok (.aload_n 0, 1) := by decide +kernel
theorem d_Te_takesBetweenSizes_29 : decode c_Te_takesBetweenSizes 29 = .ok (.iconst 1, 1) := by decide +kernel
theorem d_Te_takesBetweenSizes_30 : decode c_Te_takesBetweenSizes 30 = .ok (.putfield 49, 3) := by decide +kernel
theorem d_Te_takesBetweenSizes_33 : decode c_Te_takesBetweenSizes 33 = .ok (.iconst 1, 1) := by decide +kernel
theorem d_Te_takesBetweenSizes_34 : decode c_Te_takesBetweenSizes 34 = .ok (.ireturn, 1) := by decide +kernel
theorem d_Te_takesBehindSizes_0 : decode c_Te_takesBehindSizes 0 = .ok (.aload_n 0, 1) := by decide +kernel
