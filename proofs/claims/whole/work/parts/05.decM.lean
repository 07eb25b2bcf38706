theorem dX9_init_0 : decode cX9_init 0 = .ok (.aload_n 0, 1) := by decide +kernel
theorem dX9_init_1 : decode cX9_init 1 = .ok (.invokespecial 1, 3) := by decide +kernel
theorem dX9_init_4 : decode cX9_init 4 = .ok (.aload_n 0, 1) := by decide +kernel
theorem dX9_init_5 : decode cX9_init 5 = .ok (.bipush 64, 2) := by decide +kernel
theorem dX9_init_7 : decode cX9_init 7 = .ok (.newarray .boolean, 2) := by decide +kernel
theorem dX9_init_9 : decode cX9_init 9 = .ok (.putfield 7, 3) := by decide +kernel
theorem dX9_init_12 : decode cX9_init 12 = .ok (.aload_n 0, 1) := by decide +kernel
theorem dX9_init_13 : decode cX9_init 13 = .ok (.bipush 64, 2) := by decide +kernel
theorem dX9_init_15 : decode cX9_init 15 = .ok (.newarray .boolean, 2) := by decide +kernel
theorem dX9_init_17 : decode cX9_init 17 = .ok (.putfield 13, 3) := by decide +kernel
theorem dX9_init_20 : decode cX9_init 20 = .ok (.aload_n 0, 1) := by decide +kernel
theorem dX9_init_21 : decode cX9_init 21 = .ok (.iconst 3, 1) := by decide +kernel
theorem dX9_init_22 : decode cX9_init 22 = .ok (.newarray .int, 2) := by decide +kernel
theorem dX9_init_24 : decode cX9_init 24 = .ok (.putfield 16, 3) := by decide +kernel
theorem dX9_init_27 : decode cX9_init 27 = .ok (.aload_n 0, 1) := by decide +kernel
theorem dX9_init_28 : decode cX9_init 28 = .ok (.bipush 16, 2) := by decide +kernel
theorem dX9_init_30 : decode cX9_init 30 = .ok (.newarray .int, 2) := by decide +kernel
theorem dX9_init_32 : decode cX9_init 32 = .ok (.putfield 20, 3) := by decide +kernel
theorem dX9_init_35 : decode cX9_init 35 = .ok (.aload_n 0, 1) := by decide +kernel
theorem dX9_init_36 : decode cX9_init 36 = .ok (.bipush 16, 2) := by decide +kernel
theorem dX9_init_38 : decode cX9_init 38 = .ok (.newarray .int, 2) := by decide +kernel
theorem dX9_init_40 : decode cX9_init 40 = .ok (.putfield 23, 3) := by decide +kernel
theorem dX9_init_43 : decode cX9_init 43 = .ok (.aload_n 0, 1) := by decide +kernel
theorem dX9_init_44 : decode cX9_init 44 = .ok (.bipush 16, 2) := by decide +kernel
theorem dX9_init_46 : decode cX9_init 46 = .ok (.newarray .int, 2) := by decide +kernel
theorem dX9_init_48 : decode cX9_init 48 = .ok (.putfield 26, 3) := by decide +kernel
theorem dX9_init_51 : decode cX9_init 51 = .ok (.aload_n 0, 1) := by decide +kernel
theorem dX9_init_52 : decode cX9_init 52 = .ok (.bipush 10, 2) := by decide +kernel
theorem dX9_init_54 : decode cX9_init 54 = .ok (.newarray .int, 2) := by decide +kernel
theorem dX9_init_56 : decode cX9_init 56 = .ok (.putfield 29, 3) := by decide +kernel
theorem dX9_init_59 : decode cX9_init 59 = .ok (.aload_n 0, 1) := by decide +kernel
theorem dX9_init_60 : decode cX9_init 60 = .ok (.bipush 30, 2) := by decide +kernel
theorem dX9_init_62 : decode cX9_init 62 = .ok (.newarray .int, 2) := by decide +kernel
theorem dX9_init_64 : decode cX9_init 64 = .ok (.putfield 32, 3) := by decide +kernel
theorem dX9_init_67 : decode cX9_init 67 = .ok (.aload_n 0, 1) := by decide +kernel
theorem dX9_init_68 : decode cX9_init 68 = .ok (.bipush 30, 2) := by decide +kernel
theorem dX9_init_70 : decode cX9_init 70 = .ok (.newarray .int, 2) := by decide +kernel
theorem dX9_init_72 : decode cX9_init 72 = .ok (.putfield 35, 3) := by decide +kernel
theorem dX9_init_75 : decode cX9_init 75 = .ok (.aload_n 0, 1) := by decide +kernel
theorem dX9_init_76 : decode cX9_init 76 = .ok (.bipush 30, 2) := by decide +kernel
theorem dX9_init_78 : decode cX9_init 78 = .ok (.newarray .int, 2) := by decide +kernel
theorem dX9_init_80 : decode cX9_init 80 = .ok (.putfield 38, 3) := by decide +kernel
theorem dX9_init_83 : decode cX9_init 83 = .ok (.aload_n 0, 1) := by decide +kernel
theorem dX9_init_84 : decode cX9_init 84 = .ok (.bipush 30, 2) := by decide +kernel
theorem dX9_init_86 : decode cX9_init 86 = .ok (.newarray .int, 2) := by decide +kernel
theorem dX9_init_88 : decode cX9_init 88 = .ok (.putfield 41, 3) := by decide +kernel
theorem dX9_init_91 : decode cX9_init 91 = .ok (.aload_n 0, 1) := by decide +kernel
theorem dX9_init_92 : decode cX9_init 92 = .ok (.bipush 6, 2) := by decide +kernel
theorem dX9_init_94 : decode cX9_init 94 = .ok (.newarray .int, 2) := by decide +kernel
theorem dX9_init_96 : decode cX9_init 96 = .ok (.putfield 44, 3) := by decide +kernel
theorem dX9_init_99 : decode cX9_init 99 = .ok (.aload_n 0, 1) := by decide +kernel
theorem dX9_init_100 : decode cX9_init 100 = .ok (.bipush 6, 2) := by decide +kernel
theorem dX9_init_102 : decode cX9_init 102 = .ok (.newarray .int, 2) := by decide +kernel
theorem dX9_init_104 : decode cX9_init 104 = .ok (.putfield 47, 3) := by decide +kernel
theorem dX9_init_107 : decode cX9_init 107 = .ok (.aload_n 0, 1) := by decide +kernel
theorem dX9_init_108 : decode cX9_init 108 = .ok (.bipush 6, 2) := by decide +kernel
theorem dX9_init_110 : decode cX9_init 110 = .ok (.newarray .int, 2) := by decide +kernel
theorem dX9_init_112 : decode cX9_init 112 = .ok (.putfield 50, 3) := by decide +kernel
theorem dX9_init_115 : decode cX9_init 115 = .ok (.aload_n 0, 1) := by decide +kernel
theorem dX9_init_116 : decode cX9_init 116 = .ok (.bipush 6, 2) := by decide +kernel
theorem dX9_init_118 : decode cX9_init 118 = .ok (.newarray .int, 2) := by decide +kernel
theorem dX9_init_120 : decode cX9_init 120 = .ok (.putfield 53, 3) := by decide +kernel
theorem dX9_init_123 : decode cX9_init 123 = .ok (.aload_n 0, 1) := by decide +kernel
theorem dX9_init_124 : decode cX9_init 124 = .ok (.bipush 6, 2) := by decide +kernel
theorem dX9_init_126 : decode cX9_init 126 = .ok (.newarray .int, 2) := by decide +kernel
theorem dX9_init_128 : decode cX9_init 128 = .ok (.putfield 56, 3) := by decide +kernel
theorem dX9_init_131 : decode cX9_init 131 = .ok (.aload_n 0, 1) := by decide +kernel
theorem dX9_init_132 : decode cX9_init 132 = .ok (.bipush 6, 2) := by decide +kernel
theorem dX9_init_134 : decode cX9_init 134 = .ok (.newarray .int, 2) := by decide +kernel
theorem dX9_init_136 : decode cX9_init 136 = .ok (.putfield 59, 3) := by decide +kernel
theorem dX9_init_139 : decode cX9_init 139 = .ok (.aload_n 0, 1) := by decide +kernel
theorem dX9_init_140 : decode cX9_init 140 = .ok (.bipush 6, 2) := by decide +kernel
theorem dX9_init_142 : decode cX9_init 142 = .ok (.newarray .int, 2) := by decide +kernel
theorem dX9_init_144 : decode cX9_init 144 = .ok (.putfield 62, 3) := by decide +kernel
theorem dX9_init_147 : decode cX9_init 147 = .ok (.aload_n 0, 1) := by decide +kernel
theorem dX9_init_148 : decode cX9_init 148 = .ok (.bipush 6, 2) := by decide +kernel
theorem dX9_init_150 : decode cX9_init 150 = .ok (.newarray .int, 2) := by decide +kernel
theorem dX9_init_152 : decode cX9_init 152 = .ok (.putfield 65, 3) := by decide +kernel
theorem dX9_init_155 : decode cX9_init 155 = .ok (.aload_n 0, 1) := by decide +kernel
theorem dX9_init_156 : decode cX9_init 156 = .ok (.bipush 6, 2) := by decide +kernel
theorem dX9_init_158 : decode cX9_init 158 = .ok (.newarray .boolean, 2) := by decide +kernel
theorem dX9_init_160 : decode cX9_init 160 = .ok (.putfield 68, 3) := by decide +kernel
theorem dX9_init_163 : decode cX9_init 163 = .ok (.aload_n 0, 1) := by decide +kernel
theorem dX9_init_164 : decode cX9_init 164 = .ok (.bipush 6, 2) := by decide +kernel
theorem dX9_init_166 : decode cX9_init 166 = .ok (.newarray .int, 2) := by decide +kernel
theorem dX9_init_168 : decode cX9_init 168 = .ok (.putfield 71, 3) := by decide +kernel
theorem dX9_init_171 : decode cX9_init 171 = .ok (.aload_n 0, 1) := by decide +kernel
theorem dX9_init_172 : decode cX9_init 172 = .ok (.bipush 6, 2) := by decide +kernel
theorem dX9_init_174 : decode cX9_init 174 = .ok (.newarray .int, 2) := by decide +kernel
theorem dX9_init_176 : decode cX9_init 176 = .ok (.putfield 74, 3) := by decide +kernel
theorem dX9_init_179 : decode cX9_init 179 = .ok (.aload_n 0, 1) := by decide +kernel
theorem dX9_init_180 : decode cX9_init 180 = .ok (.bipush 6, 2) := by decide +kernel
theorem dX9_init_182 : decode cX9_init 182 = .ok (.newarray .int, 2) := by decide +kernel
theorem dX9_init_184 : decode cX9_init 184 = .ok (.putfield 77, 3) := by decide +kernel
theorem dX9_init_187 : decode cX9_init 187 = .ok (.aload_n 0, 1) := by decide +kernel
theorem dX9_init_188 : decode cX9_init 188 = .ok (.sipush 1500, 3) := by decide +kernel
theorem dX9_init_191 : decode cX9_init 191 = .ok (.newarray .int, 2) := by decide +kernel
theorem dX9_init_193 : decode cX9_init 193 = .ok (.putfield 80, 3) := by decide +kernel
theorem dX9_init_196 : decode cX9_init 196 = .ok (.aload_n 0, 1) := by decide +kernel
theorem dX9_init_197 : decode cX9_init 197 = .ok (.sipush 1500, 3) := by decide +kernel
theorem dX9_init_200 : decode cX9_init 200 = .ok (.newarray .int, 2) := by decide +kernel
theorem dX9_init_202 : decode cX9_init 202 = .ok (.putfield 83, 3) := by decide +kernel
theorem dX9_init_205 : decode cX9_init 205 = .ok (.aload_n 0, 1) := by decide +kernel
theorem dX9_init_206 : decode cX9_init 206 = .ok (.sipush 1500, 3) := by decide +kernel
theorem dX9_init_209 : decode cX9_init 209 = .ok (.newarray .int, 2) := by decide +kernel
theorem dX9_init_211 : decode cX9_init 211 = .ok (.putfield 86, 3) := by decide +kernel
theorem dX9_init_214 : decode cX9_init 214 = .ok (.aload_n 0, 1) := by decide +kernel
theorem dX9_init_215 : decode cX9_init 215 = .ok (.bipush 64, 2) := by decide +kernel
theorem dX9_init_217 : decode cX9_init 217 = .ok (.newarray .int, 2) := by decide +kernel
theorem dX9_init_219 : decode cX9_init 219 = .ok (.putfield 89, 3) := by decide +kernel
theorem dX9_init_222 : decode cX9_init 222 = .ok (.aload_n 0, 1) := by decide +kernel
theorem dX9_init_223 : decode cX9_init 223 = .ok (.bipush 64, 2) := by decide +kernel
theorem dX9_init_225 : decode cX9_init 225 = .ok (.newarray .int, 2) := by decide +kernel
theorem dX9_init_227 : decode cX9_init 227 = .ok (.putfield 92, 3) := by decide +kernel
theorem dX9_init_230 : decode cX9_init 230 = .ok (.return_, 1) := by decide +kernel
theorem dX9_thrown_0 : decode cX9_thrown 0 = .ok (.aload_n 0, 1) := by decide +kernel
theorem dX9_thrown_1 : decode cX9_thrown 1 = .ok (.getfield 95, 3) := by decide +kernel
theorem dX9_thrown_4 : decode cX9_thrown 4 = .ok (.ireturn, 1) := by decide +kernel
theorem dX9_holds_0 : decode cX9_holds 0 = .ok (.aload_n 0, 1) := by decide +kernel
theorem dX9_holds_1 : decode cX9_holds 1 = .ok (.iload_n 1, 1) := by decide +kernel
theorem dX9_holds_2 : decode cX9_holds 2 = .ok (.putfield 95, 3) := by decide +kernel
theorem dX9_holds_5 : decode cX9_holds 5 = .ok (.iload_n 1, 1) := by decide +kernel
theorem dX9_holds_6 : decode cX9_holds 6 = .ok (.ifCond .ne 7, 3) := by decide +kernel
theorem dX9_holds_9 : decode cX9_holds 9 = .ok (.iconst 1, 1) := by decide +kernel
theorem dX9_holds_10 : decode cX9_holds 10 = .ok (.goto 4, 3) := by decide +kernel
theorem dX9_holds_13 : decode cX9_holds 13 = .ok (.iconst 0, 1) := by decide +kernel
theorem dX9_holds_14 : decode cX9_holds 14 = .ok (.ireturn, 1) := by decide +kernel
theorem dX9_isIn_0 : decode cX9_isIn 0 = .ok (.iload_n 0, 1) := by decide +kernel
theorem dX9_isIn_1 : decode cX9_isIn 1 = .ok (.ifCond .lt 12, 3) := by decide +kernel
theorem dX9_isIn_4 : decode cX9_isIn 4 = .ok (.iload_n 0, 1) := by decide +kernel
theorem dX9_isIn_5 : decode cX9_isIn 5 = .ok (.iload_n 1, 1) := by decide +kernel
theorem dX9_isIn_6 : decode cX9_isIn 6 = .ok (.if_icmp .ge 7, 3) := by decide +kernel
theorem dX9_isIn_9 : decode cX9_isIn 9 = .ok (.iconst 1, 1) := by decide +kernel
theorem dX9_isIn_10 : decode cX9_isIn 10 = .ok (.goto 4, 3) := by decide +kernel
theorem dX9_isIn_13 : decode cX9_isIn 13 = .ok (.iconst 0, 1) := by decide +kernel
theorem dX9_isIn_14 : decode cX9_isIn 14 = .ok (.ireturn, 1) := by decide +kernel
theorem dX9_isCell_0 : decode cX9_isCell 0 = .ok (.iload_n 0, 1) := by decide +kernel
theorem dX9_isCell_1 : decode cX9_isCell 1 = .ok (.bipush 64, 2) := by decide +kernel
theorem dX9_isCell_3 : decode cX9_isCell 3 = .ok (.invokestatic 99, 3) := by decide +kernel
theorem dX9_isCell_6 : decode cX9_isCell 6 = .ok (.ireturn, 1) := by decide +kernel
theorem dX9_robotAt_0 : decode cX9_robotAt 0 = .ok (.iconst (-1), 1) := by decide +kernel
theorem dX9_robotAt_1 : decode cX9_robotAt 1 = .ok (.istore_n 2, 1) := by decide +kernel
theorem dX9_robotAt_2 : decode cX9_robotAt 2 = .ok (.iconst 0, 1) := by decide +kernel
theorem dX9_robotAt_3 : decode cX9_robotAt 3 = .ok (.istore_n 3, 1) := by decide +kernel
theorem dX9_robotAt_4 : decode cX9_robotAt 4 = .ok (.iload_n 3, 1) := by decide +kernel
theorem dX9_robotAt_5 : decode cX9_robotAt 5 = .ok (.aload_n 0, 1) := by decide +kernel
theorem dX9_robotAt_6 : decode cX9_robotAt 6 = .ok (.getfield 103, 3) := by decide +kernel
theorem dX9_robotAt_9 : decode cX9_robotAt 9 = .ok (.if_icmp .ge 25, 3) := by decide +kernel
theorem dX9_robotAt_12 : decode cX9_robotAt 12 = .ok (.aload_n 0, 1) := by decide +kernel
theorem dX9_robotAt_13 : decode cX9_robotAt 13 = .ok (.getfield 44, 3) := by decide +kernel
theorem dX9_robotAt_16 : decode cX9_robotAt 16 = .ok (.iload_n 3, 1) := by decide +kernel
theorem dX9_robotAt_17 : decode cX9_robotAt 17 = .ok (.iaload, 1) := by decide +kernel
theorem dX9_robotAt_18 : decode cX9_robotAt 18 = .ok (.iload_n 1, 1) := by decide +kernel
theorem dX9_robotAt_19 : decode cX9_robotAt 19 = .ok (.if_icmp .ne 7, 3) := by decide +kernel
theorem dX9_robotAt_22 : decode cX9_robotAt 22 = .ok (.iload_n 3, 1) := by decide +kernel
theorem dX9_robotAt_23 : decode cX9_robotAt 23 = .ok (.goto 4, 3) := by decide +kernel
theorem dX9_robotAt_26 : decode cX9_robotAt 26 = .ok (.iload_n 2, 1) := by decide +kernel
theorem dX9_robotAt_27 : decode cX9_robotAt 27 = .ok (.istore_n 2, 1) := by decide +kernel
theorem dX9_robotAt_28 : decode cX9_robotAt 28 = .ok (.iinc 3 1, 3) := by decide +kernel
theorem dX9_robotAt_31 : decode cX9_robotAt 31 = .ok (.goto (-27), 3) := by decide +kernel
theorem dX9_robotAt_34 : decode cX9_robotAt 34 = .ok (.iload_n 2, 1) := by decide +kernel
theorem dX9_robotAt_35 : decode cX9_robotAt 35 = .ok (.ireturn, 1) := by decide +kernel
theorem dX9_stationAt_0 : decode cX9_stationAt 0 = .ok (.iconst (-1), 1) := by decide +kernel
theorem dX9_stationAt_1 : decode cX9_stationAt 1 = .ok (.istore_n 2, 1) := by decide +kernel
theorem dX9_stationAt_2 : decode cX9_stationAt 2 = .ok (.iconst 0, 1) := by decide +kernel
theorem dX9_stationAt_3 : decode cX9_stationAt 3 = .ok (.istore_n 3, 1) := by decide +kernel
theorem dX9_stationAt_4 : decode cX9_stationAt 4 = .ok (.iload_n 3, 1) := by decide +kernel
theorem dX9_stationAt_5 : decode cX9_stationAt 5 = .ok (.aload_n 0, 1) := by decide +kernel
theorem dX9_stationAt_6 : decode cX9_stationAt 6 = .ok (.getfield 106, 3) := by decide +kernel
theorem dX9_stationAt_9 : decode cX9_stationAt 9 = .ok (.if_icmp .ge 25, 3) := by decide +kernel
theorem dX9_stationAt_12 : decode cX9_stationAt 12 = .ok (.aload_n 0, 1) := by decide +kernel
theorem dX9_stationAt_13 : decode cX9_stationAt 13 = .ok (.getfield 16, 3) := by decide +kernel
theorem dX9_stationAt_16 : decode cX9_stationAt 16 = .ok (.iload_n 3, 1) := by decide +kernel
theorem dX9_stationAt_17 : decode cX9_stationAt 17 = .ok (.iaload, 1) := by decide +kernel
theorem dX9_stationAt_18 : decode cX9_stationAt 18 = .ok (.iload_n 1, 1) := by decide +kernel
theorem dX9_stationAt_19 : decode cX9_stationAt 19 = .ok (.if_icmp .ne 7, 3) := by decide +kernel
theorem dX9_stationAt_22 : decode cX9_stationAt 22 = .ok (.iload_n 3, 1) := by decide +kernel
theorem dX9_stationAt_23 : decode cX9_stationAt 23 = .ok (.goto 4, 3) := by decide +kernel
theorem dX9_stationAt_26 : decode cX9_stationAt 26 = .ok (.iload_n 2, 1) := by decide +kernel
theorem dX9_stationAt_27 : decode cX9_stationAt 27 = .ok (.istore_n 2, 1) := by decide +kernel
theorem dX9_stationAt_28 : decode cX9_stationAt 28 = .ok (.iinc 3 1, 3) := by decide +kernel
theorem dX9_stationAt_31 : decode cX9_stationAt 31 = .ok (.goto (-27), 3) := by decide +kernel
theorem dX9_stationAt_34 : decode cX9_stationAt 34 = .ok (.iload_n 2, 1) := by decide +kernel
theorem dX9_stationAt_35 : decode cX9_stationAt 35 = .ok (.ireturn, 1) := by decide +kernel
theorem dX9_homeOf_0 : decode cX9_homeOf 0 = .ok (.iconst (-1), 1) := by decide +kernel
theorem dX9_homeOf_1 : decode cX9_homeOf 1 = .ok (.istore_n 2, 1) := by decide +kernel
theorem dX9_homeOf_2 : decode cX9_homeOf 2 = .ok (.iconst 0, 1) := by decide +kernel
theorem dX9_homeOf_3 : decode cX9_homeOf 3 = .ok (.istore_n 3, 1) := by decide +kernel
theorem dX9_homeOf_4 : decode cX9_homeOf 4 = .ok (.iload_n 3, 1) := by decide +kernel
theorem dX9_homeOf_5 : decode cX9_homeOf 5 = .ok (.aload_n 0, 1) := by decide +kernel
theorem dX9_homeOf_6 : decode cX9_homeOf 6 = .ok (.getfield 109, 3) := by decide +kernel
theorem dX9_homeOf_9 : decode cX9_homeOf 9 = .ok (.if_icmp .ge 25, 3) := by decide +kernel
theorem dX9_homeOf_12 : decode cX9_homeOf 12 = .ok (.aload_n 0, 1) := by decide +kernel
theorem dX9_homeOf_13 : decode cX9_homeOf 13 = .ok (.getfield 20, 3) := by decide +kernel
theorem dX9_homeOf_16 : decode cX9_homeOf 16 = .ok (.iload_n 3, 1) := by decide +kernel
theorem dX9_homeOf_17 : decode cX9_homeOf 17 = .ok (.iaload, 1) := by decide +kernel
theorem dX9_homeOf_18 : decode cX9_homeOf 18 = .ok (.iload_n 1, 1) := by decide +kernel
theorem dX9_homeOf_19 : decode cX9_homeOf 19 = .ok (.if_icmp .ne 7, 3) := by decide +kernel
theorem dX9_homeOf_22 : decode cX9_homeOf 22 = .ok (.iload_n 3, 1) := by decide +kernel
theorem dX9_homeOf_23 : decode cX9_homeOf 23 = .ok (.goto 4, 3) := by decide +kernel
theorem dX9_homeOf_26 : decode cX9_homeOf 26 = .ok (.iload_n 2, 1) := by decide +kernel
theorem dX9_homeOf_27 : decode cX9_homeOf 27 = .ok (.istore_n 2, 1) := by decide +kernel
theorem dX9_homeOf_28 : decode cX9_homeOf 28 = .ok (.iinc 3 1, 3) := by decide +kernel
theorem dX9_homeOf_31 : decode cX9_homeOf 31 = .ok (.goto (-27), 3) := by decide +kernel
theorem dX9_homeOf_34 : decode cX9_homeOf 34 = .ok (.iload_n 2, 1) := by decide +kernel
theorem dX9_homeOf_35 : decode cX9_homeOf 35 = .ok (.ireturn, 1) := by decide +kernel
theorem dX9_isOpen_0 : decode cX9_isOpen 0 = .ok (.aload_n 0, 1) := by decide +kernel
theorem dX9_isOpen_1 : decode cX9_isOpen 1 = .ok (.iload_n 1, 1) := by decide +kernel
theorem dX9_isOpen_2 : decode cX9_isOpen 2 = .ok (.invokevirtual 112, 3) := by decide +kernel
theorem dX9_isOpen_5 : decode cX9_isOpen 5 = .ok (.istore_n 2, 1) := by decide +kernel
theorem dX9_isOpen_6 : decode cX9_isOpen 6 = .ok (.aload_n 0, 1) := by decide +kernel
theorem dX9_isOpen_7 : decode cX9_isOpen 7 = .ok (.getfield 7, 3) := by decide +kernel
theorem dX9_isOpen_10 : decode cX9_isOpen 10 = .ok (.iload_n 1, 1) := by decide +kernel
theorem dX9_isOpen_11 : decode cX9_isOpen 11 = .ok (.baload, 1) := by decide +kernel
theorem dX9_isOpen_12 : decode cX9_isOpen 12 = .ok (.ifCond .ne 31, 3) := by decide +kernel
theorem dX9_isOpen_15 : decode cX9_isOpen 15 = .ok (.aload_n 0, 1) := by decide +kernel
theorem dX9_isOpen_16 : decode cX9_isOpen 16 = .ok (.getfield 13, 3) := by decide +kernel
theorem dX9_isOpen_19 : decode cX9_isOpen 19 = .ok (.iload_n 1, 1) := by decide +kernel
theorem dX9_isOpen_20 : decode cX9_isOpen 20 = .ok (.baload, 1) := by decide +kernel
theorem dX9_isOpen_21 : decode cX9_isOpen 21 = .ok (.ifCond .ne 22, 3) := by decide +kernel
theorem dX9_isOpen_24 : decode cX9_isOpen 24 = .ok (.iload_n 2, 1) := by decide +kernel
theorem dX9_isOpen_25 : decode cX9_isOpen 25 = .ok (.iconst (-1), 1) := by decide +kernel
theorem dX9_isOpen_26 : decode cX9_isOpen 26 = .ok (.if_icmp .eq 13, 3) := by decide +kernel
theorem dX9_isOpen_29 : decode cX9_isOpen 29 = .ok (.aload_n 0, 1) := by decide +kernel
theorem dX9_isOpen_30 : decode cX9_isOpen 30 = .ok (.getfield 50, 3) := by decide +kernel
theorem dX9_isOpen_33 : decode cX9_isOpen 33 = .ok (.iload_n 2, 1) := by decide +kernel
theorem dX9_isOpen_34 : decode cX9_isOpen 34 = .ok (.iaload, 1) := by decide +kernel
theorem dX9_isOpen_35 : decode cX9_isOpen 35 = .ok (.iconst 5, 1) := by decide +kernel
theorem dX9_isOpen_36 : decode cX9_isOpen 36 = .ok (.if_icmp .eq 7, 3) := by decide +kernel
theorem dX9_isOpen_39 : decode cX9_isOpen 39 = .ok (.iconst 1, 1) := by decide +kernel
theorem dX9_isOpen_40 : decode cX9_isOpen 40 = .ok (.goto 4, 3) := by decide +kernel
theorem dX9_isOpen_43 : decode cX9_isOpen 43 = .ok (.iconst 0, 1) := by decide +kernel
theorem dX9_isOpen_44 : decode cX9_isOpen 44 = .ok (.ireturn, 1) := by decide +kernel
theorem dX9_neighbour_0 : decode cX9_neighbour 0 = .ok (.iload_n 0, 1) := by decide +kernel
theorem dX9_neighbour_1 : decode cX9_neighbour 1 = .ok (.bipush 8, 2) := by decide +kernel
theorem dX9_neighbour_3 : decode cX9_neighbour 3 = .ok (.irem, 1) := by decide +kernel
theorem dX9_neighbour_4 : decode cX9_neighbour 4 = .ok (.iload_n 1, 1) := by decide +kernel
theorem dX9_neighbour_5 : decode cX9_neighbour 5 = .ok (.iconst 1, 1) := by decide +kernel
theorem dX9_neighbour_6 : decode cX9_neighbour 6 = .ok (.if_icmp .ne 7, 3) := by decide +kernel
theorem dX9_neighbour_9 : decode cX9_neighbour 9 = .ok (.iconst (-1), 1) := by decide +kernel
theorem dX9_neighbour_10 : decode cX9_neighbour 10 = .ok (.goto 13, 3) := by decide +kernel
theorem dX9_neighbour_13 : decode cX9_neighbour 13 = .ok (.iload_n 1, 1) := by decide +kernel
theorem dX9_neighbour_14 : decode cX9_neighbour 14 = .ok (.iconst 2, 1) := by decide +kernel
theorem dX9_neighbour_15 : decode cX9_neighbour 15 = .ok (.if_icmp .ne 7, 3) := by decide +kernel
theorem dX9_neighbour_18 : decode cX9_neighbour 18 = .ok (.iconst 1, 1) := by decide +kernel
theorem dX9_neighbour_19 : decode cX9_neighbour 19 = .ok (.goto 4, 3) := by decide +kernel
theorem dX9_neighbour_22 : decode cX9_neighbour 22 = .ok (.iconst 0, 1) := by decide +kernel
theorem dX9_neighbour_23 : decode cX9_neighbour 23 = .ok (.iadd, 1) := by decide +kernel
theorem dX9_neighbour_24 : decode cX9_neighbour 24 = .ok (.istore_n 2, 1) := by decide +kernel
theorem dX9_neighbour_25 : decode cX9_neighbour 25 = .ok (.iload_n 0, 1) := by decide +kernel
theorem dX9_neighbour_26 : decode cX9_neighbour 26 = .ok (.bipush 8, 2) := by decide +kernel
theorem dX9_neighbour_28 : decode cX9_neighbour 28 = .ok (.idiv, 1) := by decide +kernel
theorem dX9_neighbour_29 : decode cX9_neighbour 29 = .ok (.iload_n 1, 1) := by decide +kernel
theorem dX9_neighbour_30 : decode cX9_neighbour 30 = .ok (.ifCond .ne 7, 3) := by decide +kernel
theorem dX9_neighbour_33 : decode cX9_neighbour 33 = .ok (.iconst (-1), 1) := by decide +kernel
theorem dX9_neighbour_34 : decode cX9_neighbour 34 = .ok (.goto 13, 3) := by decide +kernel
theorem dX9_neighbour_37 : decode cX9_neighbour 37 = .ok (.iload_n 1, 1) := by decide +kernel
theorem dX9_neighbour_38 : decode cX9_neighbour 38 = .ok (.iconst 3, 1) := by decide +kernel
theorem dX9_neighbour_39 : decode cX9_neighbour 39 = .ok (.if_icmp .ne 7, 3) := by decide +kernel
theorem dX9_neighbour_42 : decode cX9_neighbour 42 = .ok (.iconst 1, 1) := by decide +kernel
theorem dX9_neighbour_43 : decode cX9_neighbour 43 = .ok (.goto 4, 3) := by decide +kernel
theorem dX9_neighbour_46 : decode cX9_neighbour 46 = .ok (.iconst 0, 1) := by decide +kernel
theorem dX9_neighbour_47 : decode cX9_neighbour 47 = .ok (.iadd, 1) := by decide +kernel
theorem dX9_neighbour_48 : decode cX9_neighbour 48 = .ok (.istore_n 3, 1) := by decide +kernel
theorem dX9_neighbour_49 : decode cX9_neighbour 49 = .ok (.iload_n 2, 1) := by decide +kernel
theorem dX9_neighbour_50 : decode cX9_neighbour 50 = .ok (.bipush 8, 2) := by decide +kernel
theorem dX9_neighbour_52 : decode cX9_neighbour 52 = .ok (.invokestatic 99, 3) := by decide +kernel
theorem dX9_neighbour_55 : decode cX9_neighbour 55 = .ok (.ifCond .eq 21, 3) := by decide +kernel
theorem dX9_neighbour_58 : decode cX9_neighbour 58 = .ok (.iload_n 3, 1) := by decide +kernel
theorem dX9_neighbour_59 : decode cX9_neighbour 59 = .ok (.bipush 8, 2) := by decide +kernel
theorem dX9_neighbour_61 : decode cX9_neighbour 61 = .ok (.invokestatic 99, 3) := by decide +kernel
theorem dX9_neighbour_64 : decode cX9_neighbour 64 = .ok (.ifCond .eq 12, 3) := by decide +kernel
theorem dX9_neighbour_67 : decode cX9_neighbour 67 = .ok (.bipush 8, 2) := by decide +kernel
theorem dX9_neighbour_69 : decode cX9_neighbour 69 = .ok (.iload_n 3, 1) := by decide +kernel
theorem dX9_neighbour_70 : decode cX9_neighbour 70 = .ok (.imul, 1) := by decide +kernel
theorem dX9_neighbour_71 : decode cX9_neighbour 71 = .ok (.iload_n 2, 1) := by decide +kernel
theorem dX9_neighbour_72 : decode cX9_neighbour 72 = .ok (.iadd, 1) := by decide +kernel
theorem dX9_neighbour_73 : decode cX9_neighbour 73 = .ok (.goto 4, 3) := by decide +kernel
theorem dX9_neighbour_76 : decode cX9_neighbour 76 = .ok (.iconst (-1), 1) := by decide +kernel
theorem dX9_neighbour_77 : decode cX9_neighbour 77 = .ok (.ireturn, 1) := by decide +kernel
theorem dX9_lays_0 : decode cX9_lays 0 = .ok (.iconst 0, 1) := by decide +kernel
theorem dX9_lays_1 : decode cX9_lays 1 = .ok (.istore_n 3, 1) := by decide +kernel
theorem dX9_lays_2 : decode cX9_lays 2 = .ok (.iload_n 3, 1) := by decide +kernel
theorem dX9_lays_3 : decode cX9_lays 3 = .ok (.bipush 64, 2) := by decide +kernel
theorem dX9_lays_5 : decode cX9_lays 5 = .ok (.if_icmp .ge 16, 3) := by decide +kernel
theorem dX9_lays_8 : decode cX9_lays 8 = .ok (.aload_n 0, 1) := by decide +kernel
theorem dX9_lays_9 : decode cX9_lays 9 = .ok (.getfield 89, 3) := by decide +kernel
theorem dX9_lays_12 : decode cX9_lays 12 = .ok (.iload_n 3, 1) := by decide +kernel
theorem dX9_lays_13 : decode cX9_lays 13 = .ok (.iconst (-1), 1) := by decide +kernel
theorem dX9_lays_14 : decode cX9_lays 14 = .ok (.iastore, 1) := by decide +kernel
theorem dX9_lays_15 : decode cX9_lays 15 = .ok (.iinc 3 1, 3) := by decide +kernel
theorem dX9_lays_18 : decode cX9_lays 18 = .ok (.goto (-16), 3) := by decide +kernel
theorem dX9_lays_21 : decode cX9_lays 21 = .ok (.iconst 0, 1) := by decide +kernel
theorem dX9_lays_22 : decode cX9_lays 22 = .ok (.istore_n 3, 1) := by decide +kernel
theorem dX9_lays_23 : decode cX9_lays 23 = .ok (.aload_n 0, 1) := by decide +kernel
theorem dX9_lays_24 : decode cX9_lays 24 = .ok (.iload_n 1, 1) := by decide +kernel
theorem dX9_lays_25 : decode cX9_lays 25 = .ok (.invokevirtual 116, 3) := by decide +kernel
theorem dX9_lays_28 : decode cX9_lays 28 = .ok (.ifCond .eq 24, 3) := by decide +kernel
theorem dX9_lays_31 : decode cX9_lays 31 = .ok (.iload_n 1, 1) := by decide +kernel
theorem dX9_lays_32 : decode cX9_lays 32 = .ok (.iload_n 2, 1) := by decide +kernel
theorem dX9_lays_33 : decode cX9_lays 33 = .ok (.if_icmp .eq 19, 3) := by decide +kernel
theorem dX9_lays_36 : decode cX9_lays 36 = .ok (.aload_n 0, 1) := by decide +kernel
theorem dX9_lays_37 : decode cX9_lays 37 = .ok (.getfield 89, 3) := by decide +kernel
theorem dX9_lays_40 : decode cX9_lays 40 = .ok (.iload_n 1, 1) := by decide +kernel
theorem dX9_lays_41 : decode cX9_lays 41 = .ok (.iconst 0, 1) := by decide +kernel
theorem dX9_lays_42 : decode cX9_lays 42 = .ok (.iastore, 1) := by decide +kernel
theorem dX9_lays_43 : decode cX9_lays 43 = .ok (.aload_n 0, 1) := by decide +kernel
theorem dX9_lays_44 : decode cX9_lays 44 = .ok (.getfield 92, 3) := by decide +kernel
theorem dX9_lays_47 : decode cX9_lays 47 = .ok (.iconst 0, 1) := by decide +kernel
theorem dX9_lays_48 : decode cX9_lays 48 = .ok (.iload_n 1, 1) := by decide +kernel
theorem dX9_lays_49 : decode cX9_lays 49 = .ok (.iastore, 1) := by decide +kernel
theorem dX9_lays_50 : decode cX9_lays 50 = .ok (.iconst 1, 1) := by decide +kernel
theorem dX9_lays_51 : decode cX9_lays 51 = .ok (.istore_n 3, 1) := by decide +kernel
theorem dX9_lays_52 : decode cX9_lays 52 = .ok (.iconst 0, 1) := by decide +kernel
theorem dX9_lays_53 : decode cX9_lays 53 = .ok (.istore 4, 2) := by decide +kernel
theorem dX9_lays_55 : decode cX9_lays 55 = .ok (.iload 4, 2) := by decide +kernel
theorem dX9_lays_57 : decode cX9_lays 57 = .ok (.iload_n 3, 1) := by decide +kernel
theorem dX9_lays_58 : decode cX9_lays 58 = .ok (.if_icmp .ge 102, 3) := by decide +kernel
theorem dX9_lays_61 : decode cX9_lays 61 = .ok (.iconst 0, 1) := by decide +kernel
theorem dX9_lays_62 : decode cX9_lays 62 = .ok (.istore 5, 2) := by decide +kernel
theorem dX9_lays_64 : decode cX9_lays 64 = .ok (.iload 5, 2) := by decide +kernel
theorem dX9_lays_66 : decode cX9_lays 66 = .ok (.iconst 4, 1) := by decide +kernel
theorem dX9_lays_67 : decode cX9_lays 67 = .ok (.if_icmp .ge 87, 3) := by decide +kernel
theorem dX9_lays_70 : decode cX9_lays 70 = .ok (.aload_n 0, 1) := by decide +kernel
theorem dX9_lays_71 : decode cX9_lays 71 = .ok (.getfield 92, 3) := by decide +kernel
theorem dX9_lays_74 : decode cX9_lays 74 = .ok (.iload 4, 2) := by decide +kernel
theorem dX9_lays_76 : decode cX9_lays 76 = .ok (.iaload, 1) := by decide +kernel
theorem dX9_lays_77 : decode cX9_lays 77 = .ok (.iload 5, 2) := by decide +kernel
theorem dX9_lays_79 : decode cX9_lays 79 = .ok (.invokestatic 120, 3) := by decide +kernel
theorem dX9_lays_82 : decode cX9_lays 82 = .ok (.istore 6, 2) := by decide +kernel
theorem dX9_lays_84 : decode cX9_lays 84 = .ok (.iload 6, 2) := by decide +kernel
theorem dX9_lays_86 : decode cX9_lays 86 = .ok (.iconst (-1), 1) := by decide +kernel
theorem dX9_lays_87 : decode cX9_lays 87 = .ok (.if_icmp .eq 61, 3) := by decide +kernel
theorem dX9_lays_90 : decode cX9_lays 90 = .ok (.aload_n 0, 1) := by decide +kernel
theorem dX9_lays_91 : decode cX9_lays 91 = .ok (.getfield 89, 3) := by decide +kernel
theorem dX9_lays_94 : decode cX9_lays 94 = .ok (.iload 6, 2) := by decide +kernel
theorem dX9_lays_96 : decode cX9_lays 96 = .ok (.iaload, 1) := by decide +kernel
theorem dX9_lays_97 : decode cX9_lays 97 = .ok (.iconst (-1), 1) := by decide +kernel
theorem dX9_lays_98 : decode cX9_lays 98 = .ok (.if_icmp .ne 50, 3) := by decide +kernel
theorem dX9_lays_101 : decode cX9_lays 101 = .ok (.iload 6, 2) := by decide +kernel
theorem dX9_lays_103 : decode cX9_lays 103 = .ok (.iload_n 2, 1) := by decide +kernel
theorem dX9_lays_104 : decode cX9_lays 104 = .ok (.if_icmp .eq 44, 3) := by decide +kernel
theorem dX9_lays_107 : decode cX9_lays 107 = .ok (.aload_n 0, 1) := by decide +kernel
theorem dX9_lays_108 : decode cX9_lays 108 = .ok (.iload 6, 2) := by decide +kernel
theorem dX9_lays_110 : decode cX9_lays 110 = .ok (.invokevirtual 116, 3) := by decide +kernel
theorem dX9_lays_113 : decode cX9_lays 113 = .ok (.ifCond .eq 35, 3) := by decide +kernel
theorem dX9_lays_116 : decode cX9_lays 116 = .ok (.aload_n 0, 1) := by decide +kernel
theorem dX9_lays_117 : decode cX9_lays 117 = .ok (.getfield 89, 3) := by decide +kernel
theorem dX9_lays_120 : decode cX9_lays 120 = .ok (.iload 6, 2) := by decide +kernel
theorem dX9_lays_122 : decode cX9_lays 122 = .ok (.aload_n 0, 1) := by decide +kernel
theorem dX9_lays_123 : decode cX9_lays 123 = .ok (.getfield 89, 3) := by decide +kernel
theorem dX9_lays_126 : decode cX9_lays 126 = .ok (.aload_n 0, 1) := by decide +kernel
theorem dX9_lays_127 : decode cX9_lays 127 = .ok (.getfield 92, 3) := by decide +kernel
theorem dX9_lays_130 : decode cX9_lays 130 = .ok (.iload 4, 2) := by decide +kernel
theorem dX9_lays_132 : decode cX9_lays 132 = .ok (.iaload, 1) := by decide +kernel
theorem dX9_lays_133 : decode cX9_lays 133 = .ok (.iaload, 1) := by decide +kernel
theorem dX9_lays_134 : decode cX9_lays 134 = .ok (.iconst 1, 1) := by decide +kernel
theorem dX9_lays_135 : decode cX9_lays 135 = .ok (.iadd, 1) := by decide +kernel
theorem dX9_lays_136 : decode cX9_lays 136 = .ok (.iastore, 1) := by decide +kernel
theorem dX9_lays_137 : decode cX9_lays 137 = .ok (.aload_n 0, 1) := by decide +kernel
theorem dX9_lays_138 : decode cX9_lays 138 = .ok (.getfield 92, 3) := by decide +kernel
theorem dX9_lays_141 : decode cX9_lays 141 = .ok (.iload_n 3, 1) := by decide +kernel
theorem dX9_lays_142 : decode cX9_lays 142 = .ok (.iload 6, 2) := by decide +kernel
theorem dX9_lays_144 : decode cX9_lays 144 = .ok (.iastore, 1) := by decide +kernel
theorem dX9_lays_145 : decode cX9_lays 145 = .ok (.iinc 3 1, 3) := by decide +kernel
theorem dX9_lays_148 : decode cX9_lays 148 = .ok (.iinc 5 1, 3) := by decide +kernel
theorem dX9_lays_151 : decode cX9_lays 151 = .ok (.goto (-87), 3) := by decide +kernel
theorem dX9_lays_154 : decode cX9_lays 154 = .ok (.iinc 4 1, 3) := by decide +kernel
theorem dX9_lays_157 : decode cX9_lays 157 = .ok (.goto (-102), 3) := by decide +kernel
theorem dX9_lays_160 : decode cX9_lays 160 = .ok (.return_, 1) := by decide +kernel
theorem dX9_nearest_0 : decode cX9_nearest 0 = .ok (.iconst (-1), 1) := by decide +kernel
theorem dX9_nearest_1 : decode cX9_nearest 1 = .ok (.istore_n 2, 1) := by decide +kernel
theorem dX9_nearest_2 : decode cX9_nearest 2 = .ok (.iconst 0, 1) := by decide +kernel
theorem dX9_nearest_3 : decode cX9_nearest 3 = .ok (.istore_n 3, 1) := by decide +kernel
theorem dX9_nearest_4 : decode cX9_nearest 4 = .ok (.iload_n 3, 1) := by decide +kernel
theorem dX9_nearest_5 : decode cX9_nearest 5 = .ok (.iconst 4, 1) := by decide +kernel
theorem dX9_nearest_6 : decode cX9_nearest 6 = .ok (.if_icmp .ge 73, 3) := by decide +kernel
theorem dX9_nearest_9 : decode cX9_nearest 9 = .ok (.iload_n 1, 1) := by decide +kernel
theorem dX9_nearest_10 : decode cX9_nearest 10 = .ok (.iload_n 3, 1) := by decide +kernel
theorem dX9_nearest_11 : decode cX9_nearest 11 = .ok (.invokestatic 120, 3) := by decide +kernel
theorem dX9_nearest_14 : decode cX9_nearest 14 = .ok (.istore 4, 2) := by decide +kernel
theorem dX9_nearest_16 : decode cX9_nearest 16 = .ok (.iload 4, 2) := by decide +kernel
theorem dX9_nearest_18 : decode cX9_nearest 18 = .ok (.iconst (-1), 1) := by decide +kernel
theorem dX9_nearest_19 : decode cX9_nearest 19 = .ok (.if_icmp .eq 18, 3) := by decide +kernel
theorem dX9_nearest_22 : decode cX9_nearest 22 = .ok (.aload_n 0, 1) := by decide +kernel
theorem dX9_nearest_23 : decode cX9_nearest 23 = .ok (.getfield 89, 3) := by decide +kernel
theorem dX9_nearest_26 : decode cX9_nearest 26 = .ok (.iload 4, 2) := by decide +kernel
theorem dX9_nearest_28 : decode cX9_nearest 28 = .ok (.iaload, 1) := by decide +kernel
theorem dX9_nearest_29 : decode cX9_nearest 29 = .ok (.iconst (-1), 1) := by decide +kernel
theorem dX9_nearest_30 : decode cX9_nearest 30 = .ok (.if_icmp .eq 7, 3) := by decide +kernel
theorem dX9_nearest_33 : decode cX9_nearest 33 = .ok (.iconst 1, 1) := by decide +kernel
theorem dX9_nearest_34 : decode cX9_nearest 34 = .ok (.goto 4, 3) := by decide +kernel
theorem dX9_nearest_37 : decode cX9_nearest 37 = .ok (.iconst 0, 1) := by decide +kernel
theorem dX9_nearest_38 : decode cX9_nearest 38 = .ok (.istore 5, 2) := by decide +kernel
theorem dX9_nearest_40 : decode cX9_nearest 40 = .ok (.iload 5, 2) := by decide +kernel
theorem dX9_nearest_42 : decode cX9_nearest 42 = .ok (.ifCond .eq 29, 3) := by decide +kernel
theorem dX9_nearest_45 : decode cX9_nearest 45 = .ok (.iload_n 2, 1) := by decide +kernel
theorem dX9_nearest_46 : decode cX9_nearest 46 = .ok (.iconst (-1), 1) := by decide +kernel
theorem dX9_nearest_47 : decode cX9_nearest 47 = .ok (.if_icmp .eq 19, 3) := by decide +kernel
theorem dX9_nearest_50 : decode cX9_nearest 50 = .ok (.aload_n 0, 1) := by decide +kernel
theorem dX9_nearest_51 : decode cX9_nearest 51 = .ok (.getfield 89, 3) := by decide +kernel
theorem dX9_nearest_54 : decode cX9_nearest 54 = .ok (.iload 4, 2) := by decide +kernel
theorem dX9_nearest_56 : decode cX9_nearest 56 = .ok (.iaload, 1) := by decide +kernel
theorem dX9_nearest_57 : decode cX9_nearest 57 = .ok (.aload_n 0, 1) := by decide +kernel
theorem dX9_nearest_58 : decode cX9_nearest 58 = .ok (.getfield 89, 3) := by decide +kernel
theorem dX9_nearest_61 : decode cX9_nearest 61 = .ok (.iload_n 2, 1) := by decide +kernel
theorem dX9_nearest_62 : decode cX9_nearest 62 = .ok (.iaload, 1) := by decide +kernel
theorem dX9_nearest_63 : decode cX9_nearest 63 = .ok (.if_icmp .ge 8, 3) := by decide +kernel
theorem dX9_nearest_66 : decode cX9_nearest 66 = .ok (.iload 4, 2) := by decide +kernel
theorem dX9_nearest_68 : decode cX9_nearest 68 = .ok (.goto 4, 3) := by decide +kernel
theorem dX9_nearest_71 : decode cX9_nearest 71 = .ok (.iload_n 2, 1) := by decide +kernel
theorem dX9_nearest_72 : decode cX9_nearest 72 = .ok (.istore_n 2, 1) := by decide +kernel
theorem dX9_nearest_73 : decode cX9_nearest 73 = .ok (.iinc 3 1, 3) := by decide +kernel
theorem dX9_nearest_76 : decode cX9_nearest 76 = .ok (.goto (-72), 3) := by decide +kernel
theorem dX9_nearest_79 : decode cX9_nearest 79 = .ok (.iload_n 2, 1) := by decide +kernel
theorem dX9_nearest_80 : decode cX9_nearest 80 = .ok (.ireturn, 1) := by decide +kernel
theorem dX9_distanceOf_0 : decode cX9_distanceOf 0 = .ok (.iload_n 1, 1) := by decide +kernel
theorem dX9_distanceOf_1 : decode cX9_distanceOf 1 = .ok (.iload_n 2, 1) := by decide +kernel
theorem dX9_distanceOf_2 : decode cX9_distanceOf 2 = .ok (.if_icmp .ne 5, 3) := by decide +kernel
theorem dX9_distanceOf_5 : decode cX9_distanceOf 5 = .ok (.iconst 0, 1) := by decide +kernel
theorem dX9_distanceOf_6 : decode cX9_distanceOf 6 = .ok (.ireturn, 1) := by decide +kernel
theorem dX9_distanceOf_7 : decode cX9_distanceOf 7 = .ok (.aload_n 0, 1) := by decide +kernel
theorem dX9_distanceOf_8 : decode cX9_distanceOf 8 = .ok (.iload_n 2, 1) := by decide +kernel
theorem dX9_distanceOf_9 : decode cX9_distanceOf 9 = .ok (.iconst (-1), 1) := by decide +kernel
theorem dX9_distanceOf_10 : decode cX9_distanceOf 10 = .ok (.invokevirtual 124, 3) := by decide +kernel
theorem dX9_distanceOf_13 : decode cX9_distanceOf 13 = .ok (.aload_n 0, 1) := by decide +kernel
theorem dX9_distanceOf_14 : decode cX9_distanceOf 14 = .ok (.iload_n 1, 1) := by decide +kernel
theorem dX9_distanceOf_15 : decode cX9_distanceOf 15 = .ok (.invokevirtual 128, 3) := by decide +kernel
theorem dX9_distanceOf_18 : decode cX9_distanceOf 18 = .ok (.istore_n 3, 1) := by decide +kernel
theorem dX9_distanceOf_19 : decode cX9_distanceOf 19 = .ok (.iload_n 3, 1) := by decide +kernel
theorem dX9_distanceOf_20 : decode cX9_distanceOf 20 = .ok (.iconst (-1), 1) := by decide +kernel
theorem dX9_distanceOf_21 : decode cX9_distanceOf 21 = .ok (.if_icmp .ne 7, 3) := by decide +kernel
theorem dX9_distanceOf_24 : decode cX9_distanceOf 24 = .ok (.iconst (-1), 1) := by decide +kernel
theorem dX9_distanceOf_25 : decode cX9_distanceOf 25 = .ok (.goto 11, 3) := by decide +kernel
theorem dX9_distanceOf_28 : decode cX9_distanceOf 28 = .ok (.aload_n 0, 1) := by decide +kernel
theorem dX9_distanceOf_29 : decode cX9_distanceOf 29 = .ok (.getfield 89, 3) := by decide +kernel
theorem dX9_distanceOf_32 : decode cX9_distanceOf 32 = .ok (.iload_n 3, 1) := by decide +kernel
theorem dX9_distanceOf_33 : decode cX9_distanceOf 33 = .ok (.iaload, 1) := by decide +kernel
theorem dX9_distanceOf_34 : decode cX9_distanceOf 34 = .ok (.iconst 1, 1) := by decide +kernel
theorem dX9_distanceOf_35 : decode cX9_distanceOf 35 = .ok (.iadd, 1) := by decide +kernel
theorem dX9_distanceOf_36 : decode cX9_distanceOf 36 = .ok (.ireturn, 1) := by decide +kernel
theorem dX9_wall_0 : decode cX9_wall 0 = .ok (.iload_n 1, 1) := by decide +kernel
theorem dX9_wall_1 : decode cX9_wall 1 = .ok (.invokestatic 131, 3) := by decide +kernel
theorem dX9_wall_4 : decode cX9_wall 4 = .ok (.istore_n 2, 1) := by decide +kernel
theorem dX9_wall_5 : decode cX9_wall 5 = .ok (.iload_n 2, 1) := by decide +kernel
theorem dX9_wall_6 : decode cX9_wall 6 = .ok (.ifCond .eq 43, 3) := by decide +kernel
theorem dX9_wall_9 : decode cX9_wall 9 = .ok (.aload_n 0, 1) := by decide +kernel
theorem dX9_wall_10 : decode cX9_wall 10 = .ok (.getfield 7, 3) := by decide +kernel
theorem dX9_wall_13 : decode cX9_wall 13 = .ok (.iload_n 1, 1) := by decide +kernel
theorem dX9_wall_14 : decode cX9_wall 14 = .ok (.baload, 1) := by decide +kernel
theorem dX9_wall_15 : decode cX9_wall 15 = .ok (.ifCond .ne 30, 3) := by decide +kernel
theorem dX9_wall_18 : decode cX9_wall 18 = .ok (.aload_n 0, 1) := by decide +kernel
theorem dX9_wall_19 : decode cX9_wall 19 = .ok (.iload_n 1, 1) := by decide +kernel
theorem dX9_wall_20 : decode cX9_wall 20 = .ok (.invokevirtual 134, 3) := by decide +kernel
theorem dX9_wall_23 : decode cX9_wall 23 = .ok (.iconst (-1), 1) := by decide +kernel
theorem dX9_wall_24 : decode cX9_wall 24 = .ok (.if_icmp .ne 21, 3) := by decide +kernel
theorem dX9_wall_27 : decode cX9_wall 27 = .ok (.aload_n 0, 1) := by decide +kernel
theorem dX9_wall_28 : decode cX9_wall 28 = .ok (.iload_n 1, 1) := by decide +kernel
theorem dX9_wall_29 : decode cX9_wall 29 = .ok (.invokevirtual 137, 3) := by decide +kernel
theorem dX9_wall_32 : decode cX9_wall 32 = .ok (.iconst (-1), 1) := by decide +kernel
theorem dX9_wall_33 : decode cX9_wall 33 = .ok (.if_icmp .ne 12, 3) := by decide +kernel
theorem dX9_wall_36 : decode cX9_wall 36 = .ok (.aload_n 0, 1) := by decide +kernel
theorem dX9_wall_37 : decode cX9_wall 37 = .ok (.iload_n 1, 1) := by decide +kernel
theorem dX9_wall_38 : decode cX9_wall 38 = .ok (.invokevirtual 112, 3) := by decide +kernel
theorem dX9_wall_41 : decode cX9_wall 41 = .ok (.iconst (-1), 1) := by decide +kernel
theorem dX9_wall_42 : decode cX9_wall 42 = .ok (.if_icmp .eq 7, 3) := by decide +kernel
theorem dX9_wall_45 : decode cX9_wall 45 = .ok (.iconst 1, 1) := by decide +kernel
theorem dX9_wall_46 : decode cX9_wall 46 = .ok (.goto 4, 3) := by decide +kernel
theorem dX9_wall_49 : decode cX9_wall 49 = .ok (.iconst 0, 1) := by decide +kernel
theorem dX9_wall_50 : decode cX9_wall 50 = .ok (.istore_n 3, 1) := by decide +kernel
theorem dX9_wall_51 : decode cX9_wall 51 = .ok (.aload_n 0, 1) := by decide +kernel
theorem dX9_wall_52 : decode cX9_wall 52 = .ok (.iload_n 2, 1) := by decide +kernel
theorem dX9_wall_53 : decode cX9_wall 53 = .ok (.ifCond .ne 7, 3) := by decide +kernel
theorem dX9_wall_56 : decode cX9_wall 56 = .ok (.iconst 1, 1) := by decide +kernel
theorem dX9_wall_57 : decode cX9_wall 57 = .ok (.goto 12, 3) := by decide +kernel
theorem dX9_wall_60 : decode cX9_wall 60 = .ok (.iload_n 3, 1) := by decide +kernel
theorem dX9_wall_61 : decode cX9_wall 61 = .ok (.ifCond .eq 7, 3) := by decide +kernel
theorem dX9_wall_64 : decode cX9_wall 64 = .ok (.iconst 2, 1) := by decide +kernel
theorem dX9_wall_65 : decode cX9_wall 65 = .ok (.goto 4, 3) := by decide +kernel
theorem dX9_wall_68 : decode cX9_wall 68 = .ok (.iconst 0, 1) := by decide +kernel
theorem dX9_wall_69 : decode cX9_wall 69 = .ok (.invokevirtual 140, 3) := by decide +kernel
theorem dX9_wall_72 : decode cX9_wall 72 = .ok (.ifCond .eq 10, 3) := by decide +kernel
theorem dX9_wall_75 : decode cX9_wall 75 = .ok (.aload_n 0, 1) := by decide +kernel
theorem dX9_wall_76 : decode cX9_wall 76 = .ok (.getfield 7, 3) := by decide +kernel
theorem dX9_wall_79 : decode cX9_wall 79 = .ok (.iload_n 1, 1) := by decide +kernel
theorem dX9_wall_80 : decode cX9_wall 80 = .ok (.iconst 1, 1) := by decide +kernel
theorem dX9_wall_81 : decode cX9_wall 81 = .ok (.bastore, 1) := by decide +kernel
theorem dX9_wall_82 : decode cX9_wall 82 = .ok (.return_, 1) := by decide +kernel
theorem dX9_setClosed_0 : decode cX9_setClosed 0 = .ok (.aload_n 0, 1) := by decide +kernel
theorem dX9_setClosed_1 : decode cX9_setClosed 1 = .ok (.iload_n 1, 1) := by decide +kernel
theorem dX9_setClosed_2 : decode cX9_setClosed 2 = .ok (.invokestatic 131, 3) := by decide +kernel
theorem dX9_setClosed_5 : decode cX9_setClosed 5 = .ok (.ifCond .eq 7, 3) := by decide +kernel
theorem dX9_setClosed_8 : decode cX9_setClosed 8 = .ok (.iconst 0, 1) := by decide +kernel
theorem dX9_setClosed_9 : decode cX9_setClosed 9 = .ok (.goto 4, 3) := by decide +kernel
theorem dX9_setClosed_12 : decode cX9_setClosed 12 = .ok (.iconst 1, 1) := by decide +kernel
theorem dX9_setClosed_13 : decode cX9_setClosed 13 = .ok (.invokevirtual 140, 3) := by decide +kernel
theorem dX9_setClosed_16 : decode cX9_setClosed 16 = .ok (.ifCond .ne 5, 3) := by decide +kernel
theorem dX9_setClosed_19 : decode cX9_setClosed 19 = .ok (.iconst 0, 1) := by decide +kernel
theorem dX9_setClosed_20 : decode cX9_setClosed 20 = .ok (.ireturn, 1) := by decide +kernel
theorem dX9_setClosed_21 : decode cX9_setClosed 21 = .ok (.aload_n 0, 1) := by decide +kernel
theorem dX9_setClosed_22 : decode cX9_setClosed 22 = .ok (.getfield 13, 3) := by decide +kernel
theorem dX9_setClosed_25 : decode cX9_setClosed 25 = .ok (.iload_n 1, 1) := by decide +kernel
theorem dX9_setClosed_26 : decode cX9_setClosed 26 = .ok (.baload, 1) := by decide +kernel
theorem dX9_setClosed_27 : decode cX9_setClosed 27 = .ok (.istore_n 3, 1) := by decide +kernel
theorem dX9_setClosed_28 : decode cX9_setClosed 28 = .ok (.aload_n 0, 1) := by decide +kernel
theorem dX9_setClosed_29 : decode cX9_setClosed 29 = .ok (.getfield 13, 3) := by decide +kernel
theorem dX9_setClosed_32 : decode cX9_setClosed 32 = .ok (.iload_n 1, 1) := by decide +kernel
theorem dX9_setClosed_33 : decode cX9_setClosed 33 = .ok (.iload_n 2, 1) := by decide +kernel
theorem dX9_setClosed_34 : decode cX9_setClosed 34 = .ok (.bastore, 1) := by decide +kernel
theorem dX9_setClosed_35 : decode cX9_setClosed 35 = .ok (.iload_n 3, 1) := by decide +kernel
theorem dX9_setClosed_36 : decode cX9_setClosed 36 = .ok (.ireturn, 1) := by decide +kernel
theorem dX9_distance_0 : decode cX9_distance 0 = .ok (.aload_n 0, 1) := by decide +kernel
theorem dX9_distance_1 : decode cX9_distance 1 = .ok (.iload_n 1, 1) := by decide +kernel
theorem dX9_distance_2 : decode cX9_distance 2 = .ok (.invokestatic 131, 3) := by decide +kernel
theorem dX9_distance_5 : decode cX9_distance 5 = .ok (.ifCond .eq 14, 3) := by decide +kernel
theorem dX9_distance_8 : decode cX9_distance 8 = .ok (.iload_n 2, 1) := by decide +kernel
theorem dX9_distance_9 : decode cX9_distance 9 = .ok (.invokestatic 131, 3) := by decide +kernel
theorem dX9_distance_12 : decode cX9_distance 12 = .ok (.ifCond .eq 7, 3) := by decide +kernel
theorem dX9_distance_15 : decode cX9_distance 15 = .ok (.iconst 0, 1) := by decide +kernel
theorem dX9_distance_16 : decode cX9_distance 16 = .ok (.goto 4, 3) := by decide +kernel
theorem dX9_distance_19 : decode cX9_distance 19 = .ok (.iconst 1, 1) := by decide +kernel
theorem dX9_distance_20 : decode cX9_distance 20 = .ok (.invokevirtual 140, 3) := by decide +kernel
theorem dX9_distance_23 : decode cX9_distance 23 = .ok (.ifCond .eq 12, 3) := by decide +kernel
theorem dX9_distance_26 : decode cX9_distance 26 = .ok (.aload_n 0, 1) := by decide +kernel
theorem dX9_distance_27 : decode cX9_distance 27 = .ok (.iload_n 1, 1) := by decide +kernel
theorem dX9_distance_28 : decode cX9_distance 28 = .ok (.iload_n 2, 1) := by decide +kernel
theorem dX9_distance_29 : decode cX9_distance 29 = .ok (.invokevirtual 143, 3) := by decide +kernel
theorem dX9_distance_32 : decode cX9_distance 32 = .ok (.goto 4, 3) := by decide +kernel
theorem dX9_distance_35 : decode cX9_distance 35 = .ok (.iconst 0, 1) := by decide +kernel
theorem dX9_distance_36 : decode cX9_distance 36 = .ok (.ireturn, 1) := by decide +kernel
theorem dX9_addStation_0 : decode cX9_addStation 0 = .ok (.iload_n 1, 1) := by decide +kernel
theorem dX9_addStation_1 : decode cX9_addStation 1 = .ok (.invokestatic 131, 3) := by decide +kernel
theorem dX9_addStation_4 : decode cX9_addStation 4 = .ok (.istore_n 2, 1) := by decide +kernel
theorem dX9_addStation_5 : decode cX9_addStation 5 = .ok (.aload_n 0, 1) := by decide +kernel
theorem dX9_addStation_6 : decode cX9_addStation 6 = .ok (.iload_n 2, 1) := by decide +kernel
theorem dX9_addStation_7 : decode cX9_addStation 7 = .ok (.ifCond .ne 7, 3) := by decide +kernel
theorem dX9_addStation_10 : decode cX9_addStation 10 = .ok (.iconst 1, 1) := by decide +kernel
theorem dX9_addStation_11 : decode cX9_addStation 11 = .ok (.goto 34, 3) := by decide +kernel
theorem dX9_addStation_14 : decode cX9_addStation 14 = .ok (.aload_n 0, 1) := by decide +kernel
theorem dX9_addStation_15 : decode cX9_addStation 15 = .ok (.getfield 7, 3) := by decide +kernel
theorem dX9_addStation_18 : decode cX9_addStation 18 = .ok (.iload_n 1, 1) := by decide +kernel
theorem dX9_addStation_19 : decode cX9_addStation 19 = .ok (.baload, 1) := by decide +kernel
theorem dX9_addStation_20 : decode cX9_addStation 20 = .ok (.ifCond .ne 20, 3) := by decide +kernel
theorem dX9_addStation_23 : decode cX9_addStation 23 = .ok (.aload_n 0, 1) := by decide +kernel
theorem dX9_addStation_24 : decode cX9_addStation 24 = .ok (.iload_n 1, 1) := by decide +kernel
theorem dX9_addStation_25 : decode cX9_addStation 25 = .ok (.invokevirtual 137, 3) := by decide +kernel
theorem dX9_addStation_28 : decode cX9_addStation 28 = .ok (.iconst (-1), 1) := by decide +kernel
theorem dX9_addStation_29 : decode cX9_addStation 29 = .ok (.if_icmp .ne 11, 3) := by decide +kernel
theorem dX9_addStation_32 : decode cX9_addStation 32 = .ok (.aload_n 0, 1) := by decide +kernel
theorem dX9_addStation_33 : decode cX9_addStation 33 = .ok (.getfield 106, 3) := by decide +kernel
theorem dX9_addStation_36 : decode cX9_addStation 36 = .ok (.iconst 3, 1) := by decide +kernel
theorem dX9_addStation_37 : decode cX9_addStation 37 = .ok (.if_icmp .ne 7, 3) := by decide +kernel
theorem dX9_addStation_40 : decode cX9_addStation 40 = .ok (.iconst 2, 1) := by decide +kernel
theorem dX9_addStation_41 : decode cX9_addStation 41 = .ok (.goto 4, 3) := by decide +kernel
theorem dX9_addStation_44 : decode cX9_addStation 44 = .ok (.iconst 0, 1) := by decide +kernel
theorem dX9_addStation_45 : decode cX9_addStation 45 = .ok (.invokevirtual 140, 3) := by decide +kernel
theorem dX9_addStation_48 : decode cX9_addStation 48 = .ok (.ifCond .ne 5, 3) := by decide +kernel
theorem dX9_addStation_51 : decode cX9_addStation 51 = .ok (.iconst 0, 1) := by decide +kernel
theorem dX9_addStation_52 : decode cX9_addStation 52 = .ok (.ireturn, 1) := by decide +kernel
theorem dX9_addStation_53 : decode cX9_addStation 53 = .ok (.aload_n 0, 1) := by decide +kernel
theorem dX9_addStation_54 : decode cX9_addStation 54 = .ok (.getfield 16, 3) := by decide +kernel
theorem dX9_addStation_57 : decode cX9_addStation 57 = .ok (.aload_n 0, 1) := by decide +kernel
theorem dX9_addStation_58 : decode cX9_addStation 58 = .ok (.getfield 106, 3) := by decide +kernel
theorem dX9_addStation_61 : decode cX9_addStation 61 = .ok (.iload_n 1, 1) := by decide +kernel
theorem dX9_addStation_62 : decode cX9_addStation 62 = .ok (.iastore, 1) := by decide +kernel
theorem dX9_addStation_63 : decode cX9_addStation 63 = .ok (.aload_n 0, 1) := by decide +kernel
theorem dX9_addStation_64 : decode cX9_addStation 64 = .ok (.dup, 1) := by decide +kernel
theorem dX9_addStation_65 : decode cX9_addStation 65 = .ok (.getfield 106, 3) := by decide +kernel
theorem dX9_addStation_68 : decode cX9_addStation 68 = .ok (.iconst 1, 1) := by decide +kernel
theorem dX9_addStation_69 : decode cX9_addStation 69 = .ok (.iadd, 1) := by decide +kernel
theorem dX9_addStation_70 : decode cX9_addStation 70 = .ok (.putfield 106, 3) := by decide +kernel
theorem dX9_addStation_73 : decode cX9_addStation 73 = .ok (.aload_n 0, 1) := by decide +kernel
theorem dX9_addStation_74 : decode cX9_addStation 74 = .ok (.getfield 106, 3) := by decide +kernel
theorem dX9_addStation_77 : decode cX9_addStation 77 = .ok (.iconst 1, 1) := by decide +kernel
theorem dX9_addStation_78 : decode cX9_addStation 78 = .ok (.isub, 1) := by decide +kernel
theorem dX9_addStation_79 : decode cX9_addStation 79 = .ok (.ireturn, 1) := by decide +kernel
theorem dX9_addTray_0 : decode cX9_addTray 0 = .ok (.iload_n 1, 1) := by decide +kernel
theorem dX9_addTray_1 : decode cX9_addTray 1 = .ok (.invokestatic 131, 3) := by decide +kernel
theorem dX9_addTray_4 : decode cX9_addTray 4 = .ok (.ifCond .eq 25, 3) := by decide +kernel
theorem dX9_addTray_7 : decode cX9_addTray 7 = .ok (.iload_n 2, 1) := by decide +kernel
theorem dX9_addTray_8 : decode cX9_addTray 8 = .ok (.bipush 6, 2) := by decide +kernel
theorem dX9_addTray_10 : decode cX9_addTray 10 = .ok (.invokestatic 99, 3) := by decide +kernel
theorem dX9_addTray_13 : decode cX9_addTray 13 = .ok (.ifCond .eq 16, 3) := by decide +kernel
theorem dX9_addTray_16 : decode cX9_addTray 16 = .ok (.iload_n 3, 1) := by decide +kernel
theorem dX9_addTray_17 : decode cX9_addTray 17 = .ok (.bipush 101, 2) := by decide +kernel
theorem dX9_addTray_19 : decode cX9_addTray 19 = .ok (.invokestatic 99, 3) := by decide +kernel
theorem dX9_addTray_22 : decode cX9_addTray 22 = .ok (.ifCond .eq 7, 3) := by decide +kernel
theorem dX9_addTray_25 : decode cX9_addTray 25 = .ok (.iconst 1, 1) := by decide +kernel
theorem dX9_addTray_26 : decode cX9_addTray 26 = .ok (.goto 4, 3) := by decide +kernel
theorem dX9_addTray_29 : decode cX9_addTray 29 = .ok (.iconst 0, 1) := by decide +kernel
theorem dX9_addTray_30 : decode cX9_addTray 30 = .ok (.istore 4, 2) := by decide +kernel
theorem dX9_addTray_32 : decode cX9_addTray 32 = .ok (.aload_n 0, 1) := by decide +kernel
theorem dX9_addTray_33 : decode cX9_addTray 33 = .ok (.iload 4, 2) := by decide +kernel
theorem dX9_addTray_35 : decode cX9_addTray 35 = .ok (.ifCond .ne 7, 3) := by decide +kernel
theorem dX9_addTray_38 : decode cX9_addTray 38 = .ok (.iconst 1, 1) := by decide +kernel
theorem dX9_addTray_39 : decode cX9_addTray 39 = .ok (.goto 35, 3) := by decide +kernel
theorem dX9_addTray_42 : decode cX9_addTray 42 = .ok (.aload_n 0, 1) := by decide +kernel
theorem dX9_addTray_43 : decode cX9_addTray 43 = .ok (.getfield 7, 3) := by decide +kernel
theorem dX9_addTray_46 : decode cX9_addTray 46 = .ok (.iload_n 1, 1) := by decide +kernel
theorem dX9_addTray_47 : decode cX9_addTray 47 = .ok (.baload, 1) := by decide +kernel
theorem dX9_addTray_48 : decode cX9_addTray 48 = .ok (.ifCond .ne 21, 3) := by decide +kernel
theorem dX9_addTray_51 : decode cX9_addTray 51 = .ok (.aload_n 0, 1) := by decide +kernel
theorem dX9_addTray_52 : decode cX9_addTray 52 = .ok (.iload_n 1, 1) := by decide +kernel
theorem dX9_addTray_53 : decode cX9_addTray 53 = .ok (.invokevirtual 134, 3) := by decide +kernel
theorem dX9_addTray_56 : decode cX9_addTray 56 = .ok (.iconst (-1), 1) := by decide +kernel
theorem dX9_addTray_57 : decode cX9_addTray 57 = .ok (.if_icmp .ne 12, 3) := by decide +kernel
theorem dX9_addTray_60 : decode cX9_addTray 60 = .ok (.aload_n 0, 1) := by decide +kernel
theorem dX9_addTray_61 : decode cX9_addTray 61 = .ok (.getfield 109, 3) := by decide +kernel
theorem dX9_addTray_64 : decode cX9_addTray 64 = .ok (.bipush 16, 2) := by decide +kernel
theorem dX9_addTray_66 : decode cX9_addTray 66 = .ok (.if_icmp .ne 7, 3) := by decide +kernel
theorem dX9_addTray_69 : decode cX9_addTray 69 = .ok (.iconst 2, 1) := by decide +kernel
theorem dX9_addTray_70 : decode cX9_addTray 70 = .ok (.goto 4, 3) := by decide +kernel
theorem dX9_addTray_73 : decode cX9_addTray 73 = .ok (.iconst 0, 1) := by decide +kernel
theorem dX9_addTray_74 : decode cX9_addTray 74 = .ok (.invokevirtual 140, 3) := by decide +kernel
theorem dX9_addTray_77 : decode cX9_addTray 77 = .ok (.ifCond .ne 5, 3) := by decide +kernel
theorem dX9_addTray_80 : decode cX9_addTray 80 = .ok (.iconst 0, 1) := by decide +kernel
theorem dX9_addTray_81 : decode cX9_addTray 81 = .ok (.ireturn, 1) := by decide +kernel
theorem dX9_addTray_82 : decode cX9_addTray 82 = .ok (.aload_n 0, 1) := by decide +kernel
theorem dX9_addTray_83 : decode cX9_addTray 83 = .ok (.getfield 20, 3) := by decide +kernel
theorem dX9_addTray_86 : decode cX9_addTray 86 = .ok (.aload_n 0, 1) := by decide +kernel
theorem dX9_addTray_87 : decode cX9_addTray 87 = .ok (.getfield 109, 3) := by decide +kernel
theorem dX9_addTray_90 : decode cX9_addTray 90 = .ok (.iload_n 1, 1) := by decide +kernel
theorem dX9_addTray_91 : decode cX9_addTray 91 = .ok (.iastore, 1) := by decide +kernel
theorem dX9_addTray_92 : decode cX9_addTray 92 = .ok (.aload_n 0, 1) := by decide +kernel
theorem dX9_addTray_93 : decode cX9_addTray 93 = .ok (.getfield 23, 3) := by decide +kernel
theorem dX9_addTray_96 : decode cX9_addTray 96 = .ok (.aload_n 0, 1) := by decide +kernel
theorem dX9_addTray_97 : decode cX9_addTray 97 = .ok (.getfield 109, 3) := by decide +kernel
theorem dX9_addTray_100 : decode cX9_addTray 100 = .ok (.iload_n 2, 1) := by decide +kernel
theorem dX9_addTray_101 : decode cX9_addTray 101 = .ok (.iastore, 1) := by decide +kernel
theorem dX9_addTray_102 : decode cX9_addTray 102 = .ok (.aload_n 0, 1) := by decide +kernel
theorem dX9_addTray_103 : decode cX9_addTray 103 = .ok (.getfield 26, 3) := by decide +kernel
theorem dX9_addTray_106 : decode cX9_addTray 106 = .ok (.aload_n 0, 1) := by decide +kernel
theorem dX9_addTray_107 : decode cX9_addTray 107 = .ok (.getfield 109, 3) := by decide +kernel
theorem dX9_addTray_110 : decode cX9_addTray 110 = .ok (.iload_n 3, 1) := by decide +kernel
theorem dX9_addTray_111 : decode cX9_addTray 111 = .ok (.iastore, 1) := by decide +kernel
theorem dX9_addTray_112 : decode cX9_addTray 112 = .ok (.aload_n 0, 1) := by decide +kernel
theorem dX9_addTray_113 : decode cX9_addTray 113 = .ok (.getfield 74, 3) := by decide +kernel
theorem dX9_addTray_116 : decode cX9_addTray 116 = .ok (.iload_n 2, 1) := by decide +kernel
theorem dX9_addTray_117 : decode cX9_addTray 117 = .ok (.dup2, 1) := by decide +kernel
theorem dX9_addTray_118 : decode cX9_addTray 118 = .ok (.iaload, 1) := by decide +kernel
theorem dX9_addTray_119 : decode cX9_addTray 119 = .ok (.iload_n 3, 1) := by decide +kernel
theorem dX9_addTray_120 : decode cX9_addTray 120 = .ok (.iadd, 1) := by decide +kernel
theorem dX9_addTray_121 : decode cX9_addTray 121 = .ok (.iastore, 1) := by decide +kernel
theorem dX9_addTray_122 : decode cX9_addTray 122 = .ok (.aload_n 0, 1) := by decide +kernel
theorem dX9_addTray_123 : decode cX9_addTray 123 = .ok (.dup, 1) := by decide +kernel
theorem dX9_addTray_124 : decode cX9_addTray 124 = .ok (.getfield 109, 3) := by decide +kernel
theorem dX9_addTray_127 : decode cX9_addTray 127 = .ok (.iconst 1, 1) := by decide +kernel
theorem dX9_addTray_128 : decode cX9_addTray 128 = .ok (.iadd, 1) := by decide +kernel
theorem dX9_addTray_129 : decode cX9_addTray 129 = .ok (.putfield 109, 3) := by decide +kernel
theorem dX9_addTray_132 : decode cX9_addTray 132 = .ok (.aload_n 0, 1) := by decide +kernel
theorem dX9_addTray_133 : decode cX9_addTray 133 = .ok (.getfield 109, 3) := by decide +kernel
theorem dX9_addTray_136 : decode cX9_addTray 136 = .ok (.iconst 1, 1) := by decide +kernel
theorem dX9_addTray_137 : decode cX9_addTray 137 = .ok (.isub, 1) := by decide +kernel
theorem dX9_addTray_138 : decode cX9_addTray 138 = .ok (.ireturn, 1) := by decide +kernel
theorem dX9_isTray_0 : decode cX9_isTray 0 = .ok (.iload_n 1, 1) := by decide +kernel
theorem dX9_isTray_1 : decode cX9_isTray 1 = .ok (.aload_n 0, 1) := by decide +kernel
theorem dX9_isTray_2 : decode cX9_isTray 2 = .ok (.getfield 109, 3) := by decide +kernel
theorem dX9_isTray_5 : decode cX9_isTray 5 = .ok (.invokestatic 99, 3) := by decide +kernel
theorem dX9_isTray_8 : decode cX9_isTray 8 = .ok (.ireturn, 1) := by decide +kernel
theorem dX9_robotWith_0 : decode cX9_robotWith 0 = .ok (.iconst (-1), 1) := by decide +kernel
theorem dX9_robotWith_1 : decode cX9_robotWith 1 = .ok (.istore_n 3, 1) := by decide +kernel
theorem dX9_robotWith_2 : decode cX9_robotWith 2 = .ok (.iconst 0, 1) := by decide +kernel
theorem dX9_robotWith_3 : decode cX9_robotWith 3 = .ok (.istore 4, 2) := by decide +kernel
theorem dX9_robotWith_5 : decode cX9_robotWith 5 = .ok (.iload 4, 2) := by decide +kernel
theorem dX9_robotWith_7 : decode cX9_robotWith 7 = .ok (.aload_n 0, 1) := by decide +kernel
theorem dX9_robotWith_8 : decode cX9_robotWith 8 = .ok (.getfield 103, 3) := by decide +kernel
theorem dX9_robotWith_11 : decode cX9_robotWith 11 = .ok (.if_icmp .ge 47, 3) := by decide +kernel
theorem dX9_robotWith_14 : decode cX9_robotWith 14 = .ok (.aload_n 0, 1) := by decide +kernel
theorem dX9_robotWith_15 : decode cX9_robotWith 15 = .ok (.getfield 53, 3) := by decide +kernel
theorem dX9_robotWith_18 : decode cX9_robotWith 18 = .ok (.iload 4, 2) := by decide +kernel
theorem dX9_robotWith_20 : decode cX9_robotWith 20 = .ok (.iaload, 1) := by decide +kernel
theorem dX9_robotWith_21 : decode cX9_robotWith 21 = .ok (.iload_n 1, 1) := by decide +kernel
theorem dX9_robotWith_22 : decode cX9_robotWith 22 = .ok (.if_icmp .ne 28, 3) := by decide +kernel
theorem dX9_robotWith_25 : decode cX9_robotWith 25 = .ok (.aload_n 0, 1) := by decide +kernel
theorem dX9_robotWith_26 : decode cX9_robotWith 26 = .ok (.getfield 50, 3) := by decide +kernel
theorem dX9_robotWith_29 : decode cX9_robotWith 29 = .ok (.iload 4, 2) := by decide +kernel
theorem dX9_robotWith_31 : decode cX9_robotWith 31 = .ok (.iaload, 1) := by decide +kernel
theorem dX9_robotWith_32 : decode cX9_robotWith 32 = .ok (.iconst 1, 1) := by decide +kernel
theorem dX9_robotWith_33 : decode cX9_robotWith 33 = .ok (.if_icmp .ne 7, 3) := by decide +kernel
theorem dX9_robotWith_36 : decode cX9_robotWith 36 = .ok (.iconst 1, 1) := by decide +kernel
theorem dX9_robotWith_37 : decode cX9_robotWith 37 = .ok (.goto 4, 3) := by decide +kernel
theorem dX9_robotWith_40 : decode cX9_robotWith 40 = .ok (.iconst 0, 1) := by decide +kernel
theorem dX9_robotWith_41 : decode cX9_robotWith 41 = .ok (.iload_n 2, 1) := by decide +kernel
theorem dX9_robotWith_42 : decode cX9_robotWith 42 = .ok (.if_icmp .ne 8, 3) := by decide +kernel
theorem dX9_robotWith_45 : decode cX9_robotWith 45 = .ok (.iload 4, 2) := by decide +kernel
theorem dX9_robotWith_47 : decode cX9_robotWith 47 = .ok (.goto 4, 3) := by decide +kernel
theorem dX9_robotWith_50 : decode cX9_robotWith 50 = .ok (.iload_n 3, 1) := by decide +kernel
theorem dX9_robotWith_51 : decode cX9_robotWith 51 = .ok (.istore_n 3, 1) := by decide +kernel
theorem dX9_robotWith_52 : decode cX9_robotWith 52 = .ok (.iinc 4 1, 3) := by decide +kernel
theorem dX9_robotWith_55 : decode cX9_robotWith 55 = .ok (.goto (-50), 3) := by decide +kernel
theorem dX9_robotWith_58 : decode cX9_robotWith 58 = .ok (.iload_n 3, 1) := by decide +kernel
theorem dX9_robotWith_59 : decode cX9_robotWith 59 = .ok (.ireturn, 1) := by decide +kernel
theorem dX9_fill_0 : decode cX9_fill 0 = .ok (.aload_n 0, 1) := by decide +kernel
theorem dX9_fill_1 : decode cX9_fill 1 = .ok (.iload_n 1, 1) := by decide +kernel
theorem dX9_fill_2 : decode cX9_fill 2 = .ok (.invokevirtual 146, 3) := by decide +kernel
theorem dX9_fill_5 : decode cX9_fill 5 = .ok (.istore_n 3, 1) := by decide +kernel
theorem dX9_fill_6 : decode cX9_fill 6 = .ok (.aload_n 0, 1) := by decide +kernel
theorem dX9_fill_7 : decode cX9_fill 7 = .ok (.iload_n 3, 1) := by decide +kernel
theorem dX9_fill_8 : decode cX9_fill 8 = .ok (.ifCond .ne 7, 3) := by decide +kernel
theorem dX9_fill_11 : decode cX9_fill 11 = .ok (.iconst 1, 1) := by decide +kernel
theorem dX9_fill_12 : decode cX9_fill 12 = .ok (.goto 33, 3) := by decide +kernel
theorem dX9_fill_15 : decode cX9_fill 15 = .ok (.iload_n 2, 1) := by decide +kernel
theorem dX9_fill_16 : decode cX9_fill 16 = .ok (.iconst 1, 1) := by decide +kernel
theorem dX9_fill_17 : decode cX9_fill 17 = .ok (.if_icmp .lt 9, 3) := by decide +kernel
theorem dX9_fill_20 : decode cX9_fill 20 = .ok (.iload_n 2, 1) := by decide +kernel
theorem dX9_fill_21 : decode cX9_fill 21 = .ok (.bipush 100, 2) := by decide +kernel
theorem dX9_fill_23 : decode cX9_fill 23 = .ok (.if_icmp .le 7, 3) := by decide +kernel
theorem dX9_fill_26 : decode cX9_fill 26 = .ok (.iconst 2, 1) := by decide +kernel
theorem dX9_fill_27 : decode cX9_fill 27 = .ok (.goto 18, 3) := by decide +kernel
theorem dX9_fill_30 : decode cX9_fill 30 = .ok (.aload_n 0, 1) := by decide +kernel
theorem dX9_fill_31 : decode cX9_fill 31 = .ok (.iload_n 1, 1) := by decide +kernel
theorem dX9_fill_32 : decode cX9_fill 32 = .ok (.iconst 0, 1) := by decide +kernel
theorem dX9_fill_33 : decode cX9_fill 33 = .ok (.invokevirtual 149, 3) := by decide +kernel
theorem dX9_fill_36 : decode cX9_fill 36 = .ok (.iconst (-1), 1) := by decide +kernel
theorem dX9_fill_37 : decode cX9_fill 37 = .ok (.if_icmp .eq 7, 3) := by decide +kernel
theorem dX9_fill_40 : decode cX9_fill 40 = .ok (.iconst 3, 1) := by decide +kernel
theorem dX9_fill_41 : decode cX9_fill 41 = .ok (.goto 4, 3) := by decide +kernel
theorem dX9_fill_44 : decode cX9_fill 44 = .ok (.iconst 0, 1) := by decide +kernel
theorem dX9_fill_45 : decode cX9_fill 45 = .ok (.invokevirtual 140, 3) := by decide +kernel
theorem dX9_fill_48 : decode cX9_fill 48 = .ok (.ifCond .ne 5, 3) := by decide +kernel
theorem dX9_fill_51 : decode cX9_fill 51 = .ok (.iconst 0, 1) := by decide +kernel
theorem dX9_fill_52 : decode cX9_fill 52 = .ok (.ireturn, 1) := by decide +kernel
theorem dX9_fill_53 : decode cX9_fill 53 = .ok (.aload_n 0, 1) := by decide +kernel
theorem dX9_fill_54 : decode cX9_fill 54 = .ok (.getfield 26, 3) := by decide +kernel
theorem dX9_fill_57 : decode cX9_fill 57 = .ok (.iload_n 1, 1) := by decide +kernel
theorem dX9_fill_58 : decode cX9_fill 58 = .ok (.dup2, 1) := by decide +kernel
theorem dX9_fill_59 : decode cX9_fill 59 = .ok (.iaload, 1) := by decide +kernel
theorem dX9_fill_60 : decode cX9_fill 60 = .ok (.iload_n 2, 1) := by decide +kernel
theorem dX9_fill_61 : decode cX9_fill 61 = .ok (.iadd, 1) := by decide +kernel
theorem dX9_fill_62 : decode cX9_fill 62 = .ok (.iastore, 1) := by decide +kernel
theorem dX9_fill_63 : decode cX9_fill 63 = .ok (.aload_n 0, 1) := by decide +kernel
theorem dX9_fill_64 : decode cX9_fill 64 = .ok (.getfield 74, 3) := by decide +kernel
theorem dX9_fill_67 : decode cX9_fill 67 = .ok (.aload_n 0, 1) := by decide +kernel
theorem dX9_fill_68 : decode cX9_fill 68 = .ok (.getfield 23, 3) := by decide +kernel
theorem dX9_fill_71 : decode cX9_fill 71 = .ok (.iload_n 1, 1) := by decide +kernel
theorem dX9_fill_72 : decode cX9_fill 72 = .ok (.iaload, 1) := by decide +kernel
theorem dX9_fill_73 : decode cX9_fill 73 = .ok (.dup2, 1) := by decide +kernel
theorem dX9_fill_74 : decode cX9_fill 74 = .ok (.iaload, 1) := by decide +kernel
theorem dX9_fill_75 : decode cX9_fill 75 = .ok (.iload_n 2, 1) := by decide +kernel
theorem dX9_fill_76 : decode cX9_fill 76 = .ok (.iadd, 1) := by decide +kernel
theorem dX9_fill_77 : decode cX9_fill 77 = .ok (.iastore, 1) := by decide +kernel
theorem dX9_fill_78 : decode cX9_fill 78 = .ok (.aload_n 0, 1) := by decide +kernel
theorem dX9_fill_79 : decode cX9_fill 79 = .ok (.getfield 26, 3) := by decide +kernel
theorem dX9_fill_82 : decode cX9_fill 82 = .ok (.iload_n 1, 1) := by decide +kernel
theorem dX9_fill_83 : decode cX9_fill 83 = .ok (.iaload, 1) := by decide +kernel
theorem dX9_fill_84 : decode cX9_fill 84 = .ok (.ireturn, 1) := by decide +kernel
theorem dX9_addOrder_0 : decode cX9_addOrder 0 = .ok (.aload_n 0, 1) := by decide +kernel
theorem dX9_addOrder_1 : decode cX9_addOrder 1 = .ok (.aload_n 0, 1) := by decide +kernel
theorem dX9_addOrder_2 : decode cX9_addOrder 2 = .ok (.getfield 153, 3) := by decide +kernel
theorem dX9_addOrder_5 : decode cX9_addOrder 5 = .ok (.bipush 10, 2) := by decide +kernel
theorem dX9_addOrder_7 : decode cX9_addOrder 7 = .ok (.if_icmp .ne 7, 3) := by decide +kernel
theorem dX9_addOrder_10 : decode cX9_addOrder 10 = .ok (.iconst 1, 1) := by decide +kernel
theorem dX9_addOrder_11 : decode cX9_addOrder 11 = .ok (.goto 4, 3) := by decide +kernel
theorem dX9_addOrder_14 : decode cX9_addOrder 14 = .ok (.iconst 0, 1) := by decide +kernel
theorem dX9_addOrder_15 : decode cX9_addOrder 15 = .ok (.invokevirtual 140, 3) := by decide +kernel
theorem dX9_addOrder_18 : decode cX9_addOrder 18 = .ok (.ifCond .ne 5, 3) := by decide +kernel
theorem dX9_addOrder_21 : decode cX9_addOrder 21 = .ok (.iconst 0, 1) := by decide +kernel
theorem dX9_addOrder_22 : decode cX9_addOrder 22 = .ok (.ireturn, 1) := by decide +kernel
theorem dX9_addOrder_23 : decode cX9_addOrder 23 = .ok (.aload_n 0, 1) := by decide +kernel
theorem dX9_addOrder_24 : decode cX9_addOrder 24 = .ok (.dup, 1) := by decide +kernel
theorem dX9_addOrder_25 : decode cX9_addOrder 25 = .ok (.getfield 153, 3) := by decide +kernel
theorem dX9_addOrder_28 : decode cX9_addOrder 28 = .ok (.iconst 1, 1) := by decide +kernel
theorem dX9_addOrder_29 : decode cX9_addOrder 29 = .ok (.iadd, 1) := by decide +kernel
theorem dX9_addOrder_30 : decode cX9_addOrder 30 = .ok (.putfield 153, 3) := by decide +kernel
theorem dX9_addOrder_33 : decode cX9_addOrder 33 = .ok (.aload_n 0, 1) := by decide +kernel
theorem dX9_addOrder_34 : decode cX9_addOrder 34 = .ok (.getfield 153, 3) := by decide +kernel
theorem dX9_addOrder_37 : decode cX9_addOrder 37 = .ok (.iconst 1, 1) := by decide +kernel
theorem dX9_addOrder_38 : decode cX9_addOrder 38 = .ok (.isub, 1) := by decide +kernel
theorem dX9_addOrder_39 : decode cX9_addOrder 39 = .ok (.ireturn, 1) := by decide +kernel
theorem dX9_addLine_0 : decode cX9_addLine 0 = .ok (.iload_n 1, 1) := by decide +kernel
theorem dX9_addLine_1 : decode cX9_addLine 1 = .ok (.aload_n 0, 1) := by decide +kernel
theorem dX9_addLine_2 : decode cX9_addLine 2 = .ok (.getfield 153, 3) := by decide +kernel
theorem dX9_addLine_5 : decode cX9_addLine 5 = .ok (.invokestatic 99, 3) := by decide +kernel
theorem dX9_addLine_8 : decode cX9_addLine 8 = .ok (.istore 4, 2) := by decide +kernel
theorem dX9_addLine_10 : decode cX9_addLine 10 = .ok (.aload_n 0, 1) := by decide +kernel
theorem dX9_addLine_11 : decode cX9_addLine 11 = .ok (.iload 4, 2) := by decide +kernel
theorem dX9_addLine_13 : decode cX9_addLine 13 = .ok (.ifCond .ne 7, 3) := by decide +kernel
theorem dX9_addLine_16 : decode cX9_addLine 16 = .ok (.iconst 1, 1) := by decide +kernel
theorem dX9_addLine_17 : decode cX9_addLine 17 = .ok (.goto 42, 3) := by decide +kernel
theorem dX9_addLine_20 : decode cX9_addLine 20 = .ok (.iload_n 2, 1) := by decide +kernel
theorem dX9_addLine_21 : decode cX9_addLine 21 = .ok (.bipush 6, 2) := by decide +kernel
theorem dX9_addLine_23 : decode cX9_addLine 23 = .ok (.invokestatic 99, 3) := by decide +kernel
theorem dX9_addLine_26 : decode cX9_addLine 26 = .ok (.ifCond .eq 14, 3) := by decide +kernel
theorem dX9_addLine_29 : decode cX9_addLine 29 = .ok (.iload_n 3, 1) := by decide +kernel
theorem dX9_addLine_30 : decode cX9_addLine 30 = .ok (.iconst 1, 1) := by decide +kernel
theorem dX9_addLine_31 : decode cX9_addLine 31 = .ok (.if_icmp .lt 9, 3) := by decide +kernel
theorem dX9_addLine_34 : decode cX9_addLine 34 = .ok (.iload_n 3, 1) := by decide +kernel
theorem dX9_addLine_35 : decode cX9_addLine 35 = .ok (.bipush 50, 2) := by decide +kernel
theorem dX9_addLine_37 : decode cX9_addLine 37 = .ok (.if_icmp .le 7, 3) := by decide +kernel
theorem dX9_addLine_40 : decode cX9_addLine 40 = .ok (.iconst 2, 1) := by decide +kernel
theorem dX9_addLine_41 : decode cX9_addLine 41 = .ok (.goto 18, 3) := by decide +kernel
theorem dX9_addLine_44 : decode cX9_addLine 44 = .ok (.aload_n 0, 1) := by decide +kernel
theorem dX9_addLine_45 : decode cX9_addLine 45 = .ok (.getfield 29, 3) := by decide +kernel
theorem dX9_addLine_48 : decode cX9_addLine 48 = .ok (.iload_n 1, 1) := by decide +kernel
theorem dX9_addLine_49 : decode cX9_addLine 49 = .ok (.iaload, 1) := by decide +kernel
theorem dX9_addLine_50 : decode cX9_addLine 50 = .ok (.iconst 3, 1) := by decide +kernel
theorem dX9_addLine_51 : decode cX9_addLine 51 = .ok (.if_icmp .ne 7, 3) := by decide +kernel
theorem dX9_addLine_54 : decode cX9_addLine 54 = .ok (.iconst 3, 1) := by decide +kernel
theorem dX9_addLine_55 : decode cX9_addLine 55 = .ok (.goto 4, 3) := by decide +kernel
theorem dX9_addLine_58 : decode cX9_addLine 58 = .ok (.iconst 0, 1) := by decide +kernel
theorem dX9_addLine_59 : decode cX9_addLine 59 = .ok (.invokevirtual 140, 3) := by decide +kernel
theorem dX9_addLine_62 : decode cX9_addLine 62 = .ok (.ifCond .ne 5, 3) := by decide +kernel
theorem dX9_addLine_65 : decode cX9_addLine 65 = .ok (.iconst 0, 1) := by decide +kernel
theorem dX9_addLine_66 : decode cX9_addLine 66 = .ok (.ireturn, 1) := by decide +kernel
theorem dX9_addLine_67 : decode cX9_addLine 67 = .ok (.iconst 3, 1) := by decide +kernel
theorem dX9_addLine_68 : decode cX9_addLine 68 = .ok (.iload_n 1, 1) := by decide +kernel
theorem dX9_addLine_69 : decode cX9_addLine 69 = .ok (.imul, 1) := by decide +kernel
theorem dX9_addLine_70 : decode cX9_addLine 70 = .ok (.aload_n 0, 1) := by decide +kernel
theorem dX9_addLine_71 : decode cX9_addLine 71 = .ok (.getfield 29, 3) := by decide +kernel
theorem dX9_addLine_74 : decode cX9_addLine 74 = .ok (.iload_n 1, 1) := by decide +kernel
theorem dX9_addLine_75 : decode cX9_addLine 75 = .ok (.iaload, 1) := by decide +kernel
theorem dX9_addLine_76 : decode cX9_addLine 76 = .ok (.iadd, 1) := by decide +kernel
theorem dX9_addLine_77 : decode cX9_addLine 77 = .ok (.istore 5, 2) := by decide +kernel
theorem dX9_addLine_79 : decode cX9_addLine 79 = .ok (.aload_n 0, 1) := by decide +kernel
theorem dX9_addLine_80 : decode cX9_addLine 80 = .ok (.getfield 32, 3) := by decide +kernel
theorem dX9_addLine_83 : decode cX9_addLine 83 = .ok (.iload 5, 2) := by decide +kernel
theorem dX9_addLine_85 : decode cX9_addLine 85 = .ok (.iload_n 2, 1) := by decide +kernel
theorem dX9_addLine_86 : decode cX9_addLine 86 = .ok (.iastore, 1) := by decide +kernel
theorem dX9_addLine_87 : decode cX9_addLine 87 = .ok (.aload_n 0, 1) := by decide +kernel
theorem dX9_addLine_88 : decode cX9_addLine 88 = .ok (.getfield 35, 3) := by decide +kernel
theorem dX9_addLine_91 : decode cX9_addLine 91 = .ok (.iload 5, 2) := by decide +kernel
theorem dX9_addLine_93 : decode cX9_addLine 93 = .ok (.iload_n 3, 1) := by decide +kernel
theorem dX9_addLine_94 : decode cX9_addLine 94 = .ok (.iastore, 1) := by decide +kernel
theorem dX9_addLine_95 : decode cX9_addLine 95 = .ok (.aload_n 0, 1) := by decide +kernel
theorem dX9_addLine_96 : decode cX9_addLine 96 = .ok (.getfield 38, 3) := by decide +kernel
theorem dX9_addLine_99 : decode cX9_addLine 99 = .ok (.iload 5, 2) := by decide +kernel
theorem dX9_addLine_101 : decode cX9_addLine 101 = .ok (.iconst (-1), 1) := by decide +kernel
theorem dX9_addLine_102 : decode cX9_addLine 102 = .ok (.iastore, 1) := by decide +kernel
theorem dX9_addLine_103 : decode cX9_addLine 103 = .ok (.aload_n 0, 1) := by decide +kernel
theorem dX9_addLine_104 : decode cX9_addLine 104 = .ok (.getfield 29, 3) := by decide +kernel
theorem dX9_addLine_107 : decode cX9_addLine 107 = .ok (.iload_n 1, 1) := by decide +kernel
theorem dX9_addLine_108 : decode cX9_addLine 108 = .ok (.dup2, 1) := by decide +kernel
theorem dX9_addLine_109 : decode cX9_addLine 109 = .ok (.iaload, 1) := by decide +kernel
theorem dX9_addLine_110 : decode cX9_addLine 110 = .ok (.iconst 1, 1) := by decide +kernel
theorem dX9_addLine_111 : decode cX9_addLine 111 = .ok (.iadd, 1) := by decide +kernel
theorem dX9_addLine_112 : decode cX9_addLine 112 = .ok (.iastore, 1) := by decide +kernel
theorem dX9_addLine_113 : decode cX9_addLine 113 = .ok (.aload_n 0, 1) := by decide +kernel
theorem dX9_addLine_114 : decode cX9_addLine 114 = .ok (.getfield 29, 3) := by decide +kernel
theorem dX9_addLine_117 : decode cX9_addLine 117 = .ok (.iload_n 1, 1) := by decide +kernel
theorem dX9_addLine_118 : decode cX9_addLine 118 = .ok (.iaload, 1) := by decide +kernel
theorem dX9_addLine_119 : decode cX9_addLine 119 = .ok (.iconst 1, 1) := by decide +kernel
theorem dX9_addLine_120 : decode cX9_addLine 120 = .ok (.isub, 1) := by decide +kernel
theorem dX9_addLine_121 : decode cX9_addLine 121 = .ok (.ireturn, 1) := by decide +kernel
theorem dX9_isLine_0 : decode cX9_isLine 0 = .ok (.iload_n 1, 1) := by decide +kernel
theorem dX9_isLine_1 : decode cX9_isLine 1 = .ok (.aload_n 0, 1) := by decide +kernel
theorem dX9_isLine_2 : decode cX9_isLine 2 = .ok (.getfield 153, 3) := by decide +kernel
theorem dX9_isLine_5 : decode cX9_isLine 5 = .ok (.invokestatic 99, 3) := by decide +kernel
theorem dX9_isLine_8 : decode cX9_isLine 8 = .ok (.ifCond .eq 20, 3) := by decide +kernel
theorem dX9_isLine_11 : decode cX9_isLine 11 = .ok (.iload_n 2, 1) := by decide +kernel
theorem dX9_isLine_12 : decode cX9_isLine 12 = .ok (.aload_n 0, 1) := by decide +kernel
theorem dX9_isLine_13 : decode cX9_isLine 13 = .ok (.getfield 29, 3) := by decide +kernel
theorem dX9_isLine_16 : decode cX9_isLine 16 = .ok (.iload_n 1, 1) := by decide +kernel
theorem dX9_isLine_17 : decode cX9_isLine 17 = .ok (.iaload, 1) := by decide +kernel
theorem dX9_isLine_18 : decode cX9_isLine 18 = .ok (.invokestatic 99, 3) := by decide +kernel
theorem dX9_isLine_21 : decode cX9_isLine 21 = .ok (.ifCond .eq 7, 3) := by decide +kernel
theorem dX9_isLine_24 : decode cX9_isLine 24 = .ok (.iconst 1, 1) := by decide +kernel
theorem dX9_isLine_25 : decode cX9_isLine 25 = .ok (.goto 4, 3) := by decide +kernel
theorem dX9_isLine_28 : decode cX9_isLine 28 = .ok (.iconst 0, 1) := by decide +kernel
theorem dX9_isLine_29 : decode cX9_isLine 29 = .ok (.ireturn, 1) := by decide +kernel
theorem dX9_claim_0 : decode cX9_claim 0 = .ok (.iload_n 1, 1) := by decide +kernel
theorem dX9_claim_1 : decode cX9_claim 1 = .ok (.aload_n 0, 1) := by decide +kernel
theorem dX9_claim_2 : decode cX9_claim 2 = .ok (.getfield 106, 3) := by decide +kernel
theorem dX9_claim_5 : decode cX9_claim 5 = .ok (.invokestatic 99, 3) := by decide +kernel
theorem dX9_claim_8 : decode cX9_claim 8 = .ok (.ifCond .eq 16, 3) := by decide +kernel
theorem dX9_claim_11 : decode cX9_claim 11 = .ok (.aload_n 0, 1) := by decide +kernel
theorem dX9_claim_12 : decode cX9_claim 12 = .ok (.iload_n 2, 1) := by decide +kernel
theorem dX9_claim_13 : decode cX9_claim 13 = .ok (.iload_n 3, 1) := by decide +kernel
theorem dX9_claim_14 : decode cX9_claim 14 = .ok (.invokevirtual 156, 3) := by decide +kernel
theorem dX9_claim_17 : decode cX9_claim 17 = .ok (.ifCond .eq 7, 3) := by decide +kernel
theorem dX9_claim_20 : decode cX9_claim 20 = .ok (.iconst 1, 1) := by decide +kernel
theorem dX9_claim_21 : decode cX9_claim 21 = .ok (.goto 4, 3) := by decide +kernel
theorem dX9_claim_24 : decode cX9_claim 24 = .ok (.iconst 0, 1) := by decide +kernel
theorem dX9_claim_25 : decode cX9_claim 25 = .ok (.istore 4, 2) := by decide +kernel
theorem dX9_claim_27 : decode cX9_claim 27 = .ok (.aload_n 0, 1) := by decide +kernel
theorem dX9_claim_28 : decode cX9_claim 28 = .ok (.iload 4, 2) := by decide +kernel
theorem dX9_claim_30 : decode cX9_claim 30 = .ok (.ifCond .ne 7, 3) := by decide +kernel
theorem dX9_claim_33 : decode cX9_claim 33 = .ok (.iconst 1, 1) := by decide +kernel
theorem dX9_claim_34 : decode cX9_claim 34 = .ok (.goto 22, 3) := by decide +kernel
theorem dX9_claim_37 : decode cX9_claim 37 = .ok (.aload_n 0, 1) := by decide +kernel
theorem dX9_claim_38 : decode cX9_claim 38 = .ok (.getfield 38, 3) := by decide +kernel
theorem dX9_claim_41 : decode cX9_claim 41 = .ok (.iconst 3, 1) := by decide +kernel
theorem dX9_claim_42 : decode cX9_claim 42 = .ok (.iload_n 2, 1) := by decide +kernel
theorem dX9_claim_43 : decode cX9_claim 43 = .ok (.imul, 1) := by decide +kernel
theorem dX9_claim_44 : decode cX9_claim 44 = .ok (.iload_n 3, 1) := by decide +kernel
theorem dX9_claim_45 : decode cX9_claim 45 = .ok (.iadd, 1) := by decide +kernel
theorem dX9_claim_46 : decode cX9_claim 46 = .ok (.iaload, 1) := by decide +kernel
theorem dX9_claim_47 : decode cX9_claim 47 = .ok (.iconst (-1), 1) := by decide +kernel
theorem dX9_claim_48 : decode cX9_claim 48 = .ok (.if_icmp .eq 7, 3) := by decide +kernel
theorem dX9_claim_51 : decode cX9_claim 51 = .ok (.iconst 2, 1) := by decide +kernel
theorem dX9_claim_52 : decode cX9_claim 52 = .ok (.goto 4, 3) := by decide +kernel
theorem dX9_claim_55 : decode cX9_claim 55 = .ok (.iconst 0, 1) := by decide +kernel
theorem dX9_claim_56 : decode cX9_claim 56 = .ok (.invokevirtual 140, 3) := by decide +kernel
theorem dX9_claim_59 : decode cX9_claim 59 = .ok (.ifCond .ne 5, 3) := by decide +kernel
theorem dX9_claim_62 : decode cX9_claim 62 = .ok (.iconst 0, 1) := by decide +kernel
theorem dX9_claim_63 : decode cX9_claim 63 = .ok (.ireturn, 1) := by decide +kernel
theorem dX9_claim_64 : decode cX9_claim 64 = .ok (.aload_n 0, 1) := by decide +kernel
theorem dX9_claim_65 : decode cX9_claim 65 = .ok (.dup, 1) := by decide +kernel
theorem dX9_claim_66 : decode cX9_claim 66 = .ok (.getfield 159, 3) := by decide +kernel
theorem dX9_claim_69 : decode cX9_claim 69 = .ok (.iconst 1, 1) := by decide +kernel
theorem dX9_claim_70 : decode cX9_claim 70 = .ok (.iadd, 1) := by decide +kernel
theorem dX9_claim_71 : decode cX9_claim 71 = .ok (.putfield 159, 3) := by decide +kernel
theorem dX9_claim_74 : decode cX9_claim 74 = .ok (.aload_n 0, 1) := by decide +kernel
theorem dX9_claim_75 : decode cX9_claim 75 = .ok (.getfield 38, 3) := by decide +kernel
theorem dX9_claim_78 : decode cX9_claim 78 = .ok (.iconst 3, 1) := by decide +kernel
theorem dX9_claim_79 : decode cX9_claim 79 = .ok (.iload_n 2, 1) := by decide +kernel
theorem dX9_claim_80 : decode cX9_claim 80 = .ok (.imul, 1) := by decide +kernel
theorem dX9_claim_81 : decode cX9_claim 81 = .ok (.iload_n 3, 1) := by decide +kernel
theorem dX9_claim_82 : decode cX9_claim 82 = .ok (.iadd, 1) := by decide +kernel
theorem dX9_claim_83 : decode cX9_claim 83 = .ok (.iload_n 1, 1) := by decide +kernel
theorem dX9_claim_84 : decode cX9_claim 84 = .ok (.iastore, 1) := by decide +kernel
theorem dX9_claim_85 : decode cX9_claim 85 = .ok (.aload_n 0, 1) := by decide +kernel
theorem dX9_claim_86 : decode cX9_claim 86 = .ok (.getfield 41, 3) := by decide +kernel
theorem dX9_claim_89 : decode cX9_claim 89 = .ok (.iconst 3, 1) := by decide +kernel
theorem dX9_claim_90 : decode cX9_claim 90 = .ok (.iload_n 2, 1) := by decide +kernel
theorem dX9_claim_91 : decode cX9_claim 91 = .ok (.imul, 1) := by decide +kernel
theorem dX9_claim_92 : decode cX9_claim 92 = .ok (.iload_n 3, 1) := by decide +kernel
theorem dX9_claim_93 : decode cX9_claim 93 = .ok (.iadd, 1) := by decide +kernel
theorem dX9_claim_94 : decode cX9_claim 94 = .ok (.aload_n 0, 1) := by decide +kernel
theorem dX9_claim_95 : decode cX9_claim 95 = .ok (.getfield 159, 3) := by decide +kernel
theorem dX9_claim_98 : decode cX9_claim 98 = .ok (.iastore, 1) := by decide +kernel
theorem dX9_claim_99 : decode cX9_claim 99 = .ok (.iconst 0, 1) := by decide +kernel
theorem dX9_claim_100 : decode cX9_claim 100 = .ok (.istore 5, 2) := by decide +kernel
theorem dX9_claim_102 : decode cX9_claim 102 = .ok (.iconst 0, 1) := by decide +kernel
theorem dX9_claim_103 : decode cX9_claim 103 = .ok (.istore 6, 2) := by decide +kernel
theorem dX9_claim_105 : decode cX9_claim 105 = .ok (.iload 6, 2) := by decide +kernel
theorem dX9_claim_107 : decode cX9_claim 107 = .ok (.bipush 30, 2) := by decide +kernel
theorem dX9_claim_109 : decode cX9_claim 109 = .ok (.if_icmp .ge 45, 3) := by decide +kernel
theorem dX9_claim_112 : decode cX9_claim 112 = .ok (.iload 5, 2) := by decide +kernel
theorem dX9_claim_114 : decode cX9_claim 114 = .ok (.aload_n 0, 1) := by decide +kernel
theorem dX9_claim_115 : decode cX9_claim 115 = .ok (.iload 6, 2) := by decide +kernel
theorem dX9_claim_117 : decode cX9_claim 117 = .ok (.iconst 3, 1) := by decide +kernel
theorem dX9_claim_118 : decode cX9_claim 118 = .ok (.idiv, 1) := by decide +kernel
theorem dX9_claim_119 : decode cX9_claim 119 = .ok (.iload 6, 2) := by decide +kernel
theorem dX9_claim_121 : decode cX9_claim 121 = .ok (.iconst 3, 1) := by decide +kernel
theorem dX9_claim_122 : decode cX9_claim 122 = .ok (.irem, 1) := by decide +kernel
theorem dX9_claim_123 : decode cX9_claim 123 = .ok (.invokevirtual 156, 3) := by decide +kernel
theorem dX9_claim_126 : decode cX9_claim 126 = .ok (.ifCond .eq 18, 3) := by decide +kernel
theorem dX9_claim_129 : decode cX9_claim 129 = .ok (.aload_n 0, 1) := by decide +kernel
theorem dX9_claim_130 : decode cX9_claim 130 = .ok (.getfield 38, 3) := by decide +kernel
theorem dX9_claim_133 : decode cX9_claim 133 = .ok (.iload 6, 2) := by decide +kernel
theorem dX9_claim_135 : decode cX9_claim 135 = .ok (.iaload, 1) := by decide +kernel
theorem dX9_claim_136 : decode cX9_claim 136 = .ok (.iload_n 1, 1) := by decide +kernel
theorem dX9_claim_137 : decode cX9_claim 137 = .ok (.if_icmp .ne 7, 3) := by decide +kernel
theorem dX9_claim_140 : decode cX9_claim 140 = .ok (.iconst 1, 1) := by decide +kernel
theorem dX9_claim_141 : decode cX9_claim 141 = .ok (.goto 4, 3) := by decide +kernel
theorem dX9_claim_144 : decode cX9_claim 144 = .ok (.iconst 0, 1) := by decide +kernel
theorem dX9_claim_145 : decode cX9_claim 145 = .ok (.iadd, 1) := by decide +kernel
theorem dX9_claim_146 : decode cX9_claim 146 = .ok (.istore 5, 2) := by decide +kernel
theorem dX9_claim_148 : decode cX9_claim 148 = .ok (.iinc 6 1, 3) := by decide +kernel
theorem dX9_claim_151 : decode cX9_claim 151 = .ok (.goto (-46), 3) := by decide +kernel
theorem dX9_claim_154 : decode cX9_claim 154 = .ok (.iload 5, 2) := by decide +kernel
theorem dX9_claim_156 : decode cX9_claim 156 = .ok (.ireturn, 1) := by decide +kernel
theorem dX9_becomes_0 : decode cX9_becomes 0 = .ok (.aload_n 0, 1) := by decide +kernel
theorem dX9_becomes_1 : decode cX9_becomes 1 = .ok (.getfield 50, 3) := by decide +kernel
theorem dX9_becomes_4 : decode cX9_becomes 4 = .ok (.iload_n 1, 1) := by decide +kernel
theorem dX9_becomes_5 : decode cX9_becomes 5 = .ok (.iload_n 2, 1) := by decide +kernel
theorem dX9_becomes_6 : decode cX9_becomes 6 = .ok (.iastore, 1) := by decide +kernel
theorem dX9_becomes_7 : decode cX9_becomes 7 = .ok (.aload_n 0, 1) := by decide +kernel
theorem dX9_becomes_8 : decode cX9_becomes 8 = .ok (.getfield 59, 3) := by decide +kernel
theorem dX9_becomes_11 : decode cX9_becomes 11 = .ok (.iload_n 1, 1) := by decide +kernel
theorem dX9_becomes_12 : decode cX9_becomes 12 = .ok (.iconst (-1), 1) := by decide +kernel
theorem dX9_becomes_13 : decode cX9_becomes 13 = .ok (.iastore, 1) := by decide +kernel
theorem dX9_becomes_14 : decode cX9_becomes 14 = .ok (.aload_n 0, 1) := by decide +kernel
theorem dX9_becomes_15 : decode cX9_becomes 15 = .ok (.getfield 62, 3) := by decide +kernel
theorem dX9_becomes_18 : decode cX9_becomes 18 = .ok (.iload_n 1, 1) := by decide +kernel
theorem dX9_becomes_19 : decode cX9_becomes 19 = .ok (.iconst (-1), 1) := by decide +kernel
theorem dX9_becomes_20 : decode cX9_becomes 20 = .ok (.iastore, 1) := by decide +kernel
theorem dX9_becomes_21 : decode cX9_becomes 21 = .ok (.aload_n 0, 1) := by decide +kernel
theorem dX9_becomes_22 : decode cX9_becomes 22 = .ok (.getfield 56, 3) := by decide +kernel
theorem dX9_becomes_25 : decode cX9_becomes 25 = .ok (.iload_n 1, 1) := by decide +kernel
theorem dX9_becomes_26 : decode cX9_becomes 26 = .ok (.iload_n 2, 1) := by decide +kernel
theorem dX9_becomes_27 : decode cX9_becomes 27 = .ok (.iconst 1, 1) := by decide +kernel
theorem dX9_becomes_28 : decode cX9_becomes 28 = .ok (.if_icmp .eq 13, 3) := by decide +kernel
theorem dX9_becomes_31 : decode cX9_becomes 31 = .ok (.iload_n 2, 1) := by decide +kernel
theorem dX9_becomes_32 : decode cX9_becomes 32 = .ok (.iconst 2, 1) := by decide +kernel
theorem dX9_becomes_33 : decode cX9_becomes 33 = .ok (.if_icmp .eq 8, 3) := by decide +kernel
theorem dX9_becomes_36 : decode cX9_becomes 36 = .ok (.iload_n 2, 1) := by decide +kernel
theorem dX9_becomes_37 : decode cX9_becomes 37 = .ok (.iconst 3, 1) := by decide +kernel
theorem dX9_becomes_38 : decode cX9_becomes 38 = .ok (.if_icmp .ne 12, 3) := by decide +kernel
theorem dX9_becomes_41 : decode cX9_becomes 41 = .ok (.aload_n 0, 1) := by decide +kernel
theorem dX9_becomes_42 : decode cX9_becomes 42 = .ok (.getfield 56, 3) := by decide +kernel
theorem dX9_becomes_45 : decode cX9_becomes 45 = .ok (.iload_n 1, 1) := by decide +kernel
theorem dX9_becomes_46 : decode cX9_becomes 46 = .ok (.iaload, 1) := by decide +kernel
theorem dX9_becomes_47 : decode cX9_becomes 47 = .ok (.goto 4, 3) := by decide +kernel
theorem dX9_becomes_50 : decode cX9_becomes 50 = .ok (.iconst (-1), 1) := by decide +kernel
theorem dX9_becomes_51 : decode cX9_becomes 51 = .ok (.iastore, 1) := by decide +kernel
theorem dX9_becomes_52 : decode cX9_becomes 52 = .ok (.aload_n 0, 1) := by decide +kernel
theorem dX9_becomes_53 : decode cX9_becomes 53 = .ok (.getfield 53, 3) := by decide +kernel
theorem dX9_becomes_56 : decode cX9_becomes 56 = .ok (.iload_n 1, 1) := by decide +kernel
theorem dX9_becomes_57 : decode cX9_becomes 57 = .ok (.iload_n 2, 1) := by decide +kernel
theorem dX9_becomes_58 : decode cX9_becomes 58 = .ok (.ifCond .ne 7, 3) := by decide +kernel
theorem dX9_becomes_61 : decode cX9_becomes 61 = .ok (.iconst (-1), 1) := by decide +kernel
theorem dX9_becomes_62 : decode cX9_becomes 62 = .ok (.goto 9, 3) := by decide +kernel
theorem dX9_becomes_65 : decode cX9_becomes 65 = .ok (.aload_n 0, 1) := by decide +kernel
theorem dX9_becomes_66 : decode cX9_becomes 66 = .ok (.getfield 53, 3) := by decide +kernel
theorem dX9_becomes_69 : decode cX9_becomes 69 = .ok (.iload_n 1, 1) := by decide +kernel
theorem dX9_becomes_70 : decode cX9_becomes 70 = .ok (.iaload, 1) := by decide +kernel
theorem dX9_becomes_71 : decode cX9_becomes 71 = .ok (.iastore, 1) := by decide +kernel
theorem dX9_becomes_72 : decode cX9_becomes 72 = .ok (.return_, 1) := by decide +kernel
theorem dX9_giveUp_0 : decode cX9_giveUp 0 = .ok (.aload_n 0, 1) := by decide +kernel
theorem dX9_giveUp_1 : decode cX9_giveUp 1 = .ok (.iload_n 1, 1) := by decide +kernel
theorem dX9_giveUp_2 : decode cX9_giveUp 2 = .ok (.iload_n 2, 1) := by decide +kernel
theorem dX9_giveUp_3 : decode cX9_giveUp 3 = .ok (.invokevirtual 156, 3) := by decide +kernel
theorem dX9_giveUp_6 : decode cX9_giveUp 6 = .ok (.istore_n 3, 1) := by decide +kernel
theorem dX9_giveUp_7 : decode cX9_giveUp 7 = .ok (.iload_n 3, 1) := by decide +kernel
theorem dX9_giveUp_8 : decode cX9_giveUp 8 = .ok (.ifCond .eq 11, 3) := by decide +kernel
theorem dX9_giveUp_11 : decode cX9_giveUp 11 = .ok (.iconst 3, 1) := by decide +kernel
theorem dX9_giveUp_12 : decode cX9_giveUp 12 = .ok (.iload_n 1, 1) := by decide +kernel
theorem dX9_giveUp_13 : decode cX9_giveUp 13 = .ok (.imul, 1) := by decide +kernel
theorem dX9_giveUp_14 : decode cX9_giveUp 14 = .ok (.iload_n 2, 1) := by decide +kernel
theorem dX9_giveUp_15 : decode cX9_giveUp 15 = .ok (.iadd, 1) := by decide +kernel
theorem dX9_giveUp_16 : decode cX9_giveUp 16 = .ok (.goto 4, 3) := by decide +kernel
theorem dX9_giveUp_19 : decode cX9_giveUp 19 = .ok (.iconst 0, 1) := by decide +kernel
theorem dX9_giveUp_20 : decode cX9_giveUp 20 = .ok (.istore 4, 2) := by decide +kernel
theorem dX9_giveUp_22 : decode cX9_giveUp 22 = .ok (.aload_n 0, 1) := by decide +kernel
theorem dX9_giveUp_23 : decode cX9_giveUp 23 = .ok (.iload_n 3, 1) := by decide +kernel
theorem dX9_giveUp_24 : decode cX9_giveUp 24 = .ok (.ifCond .ne 7, 3) := by decide +kernel
theorem dX9_giveUp_27 : decode cX9_giveUp 27 = .ok (.iconst 1, 1) := by decide +kernel
theorem dX9_giveUp_28 : decode cX9_giveUp 28 = .ok (.goto 19, 3) := by decide +kernel
theorem dX9_giveUp_31 : decode cX9_giveUp 31 = .ok (.aload_n 0, 1) := by decide +kernel
theorem dX9_giveUp_32 : decode cX9_giveUp 32 = .ok (.getfield 38, 3) := by decide +kernel
theorem dX9_giveUp_35 : decode cX9_giveUp 35 = .ok (.iload 4, 2) := by decide +kernel
theorem dX9_giveUp_37 : decode cX9_giveUp 37 = .ok (.iaload, 1) := by decide +kernel
theorem dX9_giveUp_38 : decode cX9_giveUp 38 = .ok (.iconst (-1), 1) := by decide +kernel
theorem dX9_giveUp_39 : decode cX9_giveUp 39 = .ok (.if_icmp .ne 7, 3) := by decide +kernel
theorem dX9_giveUp_42 : decode cX9_giveUp 42 = .ok (.iconst 2, 1) := by decide +kernel
theorem dX9_giveUp_43 : decode cX9_giveUp 43 = .ok (.goto 4, 3) := by decide +kernel
theorem dX9_giveUp_46 : decode cX9_giveUp 46 = .ok (.iconst 0, 1) := by decide +kernel
theorem dX9_giveUp_47 : decode cX9_giveUp 47 = .ok (.invokevirtual 140, 3) := by decide +kernel
theorem dX9_giveUp_50 : decode cX9_giveUp 50 = .ok (.ifCond .ne 5, 3) := by decide +kernel
theorem dX9_giveUp_53 : decode cX9_giveUp 53 = .ok (.iconst 0, 1) := by decide +kernel
theorem dX9_giveUp_54 : decode cX9_giveUp 54 = .ok (.ireturn, 1) := by decide +kernel
theorem dX9_giveUp_55 : decode cX9_giveUp 55 = .ok (.aload_n 0, 1) := by decide +kernel
theorem dX9_giveUp_56 : decode cX9_giveUp 56 = .ok (.getfield 38, 3) := by decide +kernel
theorem dX9_giveUp_59 : decode cX9_giveUp 59 = .ok (.iload 4, 2) := by decide +kernel
theorem dX9_giveUp_61 : decode cX9_giveUp 61 = .ok (.iaload, 1) := by decide +kernel
theorem dX9_giveUp_62 : decode cX9_giveUp 62 = .ok (.istore 5, 2) := by decide +kernel
theorem dX9_giveUp_64 : decode cX9_giveUp 64 = .ok (.aload_n 0, 1) := by decide +kernel
theorem dX9_giveUp_65 : decode cX9_giveUp 65 = .ok (.getfield 38, 3) := by decide +kernel
theorem dX9_giveUp_68 : decode cX9_giveUp 68 = .ok (.iload 4, 2) := by decide +kernel
theorem dX9_giveUp_70 : decode cX9_giveUp 70 = .ok (.iconst (-1), 1) := by decide +kernel
theorem dX9_giveUp_71 : decode cX9_giveUp 71 = .ok (.iastore, 1) := by decide +kernel
theorem dX9_giveUp_72 : decode cX9_giveUp 72 = .ok (.iconst 0, 1) := by decide +kernel
theorem dX9_giveUp_73 : decode cX9_giveUp 73 = .ok (.istore 6, 2) := by decide +kernel
theorem dX9_giveUp_75 : decode cX9_giveUp 75 = .ok (.iload 6, 2) := by decide +kernel
theorem dX9_giveUp_77 : decode cX9_giveUp 77 = .ok (.aload_n 0, 1) := by decide +kernel
theorem dX9_giveUp_78 : decode cX9_giveUp 78 = .ok (.getfield 103, 3) := by decide +kernel
theorem dX9_giveUp_81 : decode cX9_giveUp 81 = .ok (.if_icmp .ge 43, 3) := by decide +kernel
theorem dX9_giveUp_84 : decode cX9_giveUp 84 = .ok (.aload_n 0, 1) := by decide +kernel
theorem dX9_giveUp_85 : decode cX9_giveUp 85 = .ok (.getfield 56, 3) := by decide +kernel
theorem dX9_giveUp_88 : decode cX9_giveUp 88 = .ok (.iload 6, 2) := by decide +kernel
theorem dX9_giveUp_90 : decode cX9_giveUp 90 = .ok (.iaload, 1) := by decide +kernel
theorem dX9_giveUp_91 : decode cX9_giveUp 91 = .ok (.iload 4, 2) := by decide +kernel
theorem dX9_giveUp_93 : decode cX9_giveUp 93 = .ok (.if_icmp .ne 25, 3) := by decide +kernel
theorem dX9_giveUp_96 : decode cX9_giveUp 96 = .ok (.aload_n 0, 1) := by decide +kernel
theorem dX9_giveUp_97 : decode cX9_giveUp 97 = .ok (.iload 6, 2) := by decide +kernel
theorem dX9_giveUp_99 : decode cX9_giveUp 99 = .ok (.aload_n 0, 1) := by decide +kernel
theorem dX9_giveUp_100 : decode cX9_giveUp 100 = .ok (.getfield 50, 3) := by decide +kernel
theorem dX9_giveUp_103 : decode cX9_giveUp 103 = .ok (.iload 6, 2) := by decide +kernel
theorem dX9_giveUp_105 : decode cX9_giveUp 105 = .ok (.iaload, 1) := by decide +kernel
theorem dX9_giveUp_106 : decode cX9_giveUp 106 = .ok (.iconst 1, 1) := by decide +kernel
theorem dX9_giveUp_107 : decode cX9_giveUp 107 = .ok (.if_icmp .ne 7, 3) := by decide +kernel
theorem dX9_giveUp_110 : decode cX9_giveUp 110 = .ok (.iconst 0, 1) := by decide +kernel
theorem dX9_giveUp_111 : decode cX9_giveUp 111 = .ok (.goto 4, 3) := by decide +kernel
theorem dX9_giveUp_114 : decode cX9_giveUp 114 = .ok (.iconst 4, 1) := by decide +kernel
theorem dX9_giveUp_115 : decode cX9_giveUp 115 = .ok (.invokevirtual 162, 3) := by decide +kernel
theorem dX9_giveUp_118 : decode cX9_giveUp 118 = .ok (.iinc 6 1, 3) := by decide +kernel
theorem dX9_giveUp_121 : decode cX9_giveUp 121 = .ok (.goto (-46), 3) := by decide +kernel
theorem dX9_giveUp_124 : decode cX9_giveUp 124 = .ok (.iload 5, 2) := by decide +kernel
theorem dX9_giveUp_126 : decode cX9_giveUp 126 = .ok (.ireturn, 1) := by decide +kernel
theorem dX9_left_0 : decode cX9_left 0 = .ok (.aload_n 0, 1) := by decide +kernel
theorem dX9_left_1 : decode cX9_left 1 = .ok (.aload_n 0, 1) := by decide +kernel
theorem dX9_left_2 : decode cX9_left 2 = .ok (.iload_n 1, 1) := by decide +kernel
theorem dX9_left_3 : decode cX9_left 3 = .ok (.iload_n 2, 1) := by decide +kernel
theorem dX9_left_4 : decode cX9_left 4 = .ok (.invokevirtual 156, 3) := by decide +kernel
theorem dX9_left_7 : decode cX9_left 7 = .ok (.ifCond .eq 7, 3) := by decide +kernel
theorem dX9_left_10 : decode cX9_left 10 = .ok (.iconst 0, 1) := by decide +kernel
theorem dX9_left_11 : decode cX9_left 11 = .ok (.goto 4, 3) := by decide +kernel
theorem dX9_left_14 : decode cX9_left 14 = .ok (.iconst 1, 1) := by decide +kernel
theorem dX9_left_15 : decode cX9_left 15 = .ok (.invokevirtual 140, 3) := by decide +kernel
theorem dX9_left_18 : decode cX9_left 18 = .ok (.ifCond .eq 16, 3) := by decide +kernel
theorem dX9_left_21 : decode cX9_left 21 = .ok (.aload_n 0, 1) := by decide +kernel
theorem dX9_left_22 : decode cX9_left 22 = .ok (.getfield 35, 3) := by decide +kernel
theorem dX9_left_25 : decode cX9_left 25 = .ok (.iconst 3, 1) := by decide +kernel
theorem dX9_left_26 : decode cX9_left 26 = .ok (.iload_n 1, 1) := by decide +kernel
theorem dX9_left_27 : decode cX9_left 27 = .ok (.imul, 1) := by decide +kernel
theorem dX9_left_28 : decode cX9_left 28 = .ok (.iload_n 2, 1) := by decide +kernel
theorem dX9_left_29 : decode cX9_left 29 = .ok (.iadd, 1) := by decide +kernel
theorem dX9_left_30 : decode cX9_left 30 = .ok (.iaload, 1) := by decide +kernel
theorem dX9_left_31 : decode cX9_left 31 = .ok (.goto 4, 3) := by decide +kernel
theorem dX9_left_34 : decode cX9_left 34 = .ok (.iconst 0, 1) := by decide +kernel
theorem dX9_left_35 : decode cX9_left 35 = .ok (.ireturn, 1) := by decide +kernel
theorem dX9_claimant_0 : decode cX9_claimant 0 = .ok (.aload_n 0, 1) := by decide +kernel
theorem dX9_claimant_1 : decode cX9_claimant 1 = .ok (.aload_n 0, 1) := by decide +kernel
theorem dX9_claimant_2 : decode cX9_claimant 2 = .ok (.iload_n 1, 1) := by decide +kernel
theorem dX9_claimant_3 : decode cX9_claimant 3 = .ok (.iload_n 2, 1) := by decide +kernel
theorem dX9_claimant_4 : decode cX9_claimant 4 = .ok (.invokevirtual 156, 3) := by decide +kernel
theorem dX9_claimant_7 : decode cX9_claimant 7 = .ok (.ifCond .eq 7, 3) := by decide +kernel
theorem dX9_claimant_10 : decode cX9_claimant 10 = .ok (.iconst 0, 1) := by decide +kernel
theorem dX9_claimant_11 : decode cX9_claimant 11 = .ok (.goto 4, 3) := by decide +kernel
theorem dX9_claimant_14 : decode cX9_claimant 14 = .ok (.iconst 1, 1) := by decide +kernel
theorem dX9_claimant_15 : decode cX9_claimant 15 = .ok (.invokevirtual 140, 3) := by decide +kernel
theorem dX9_claimant_18 : decode cX9_claimant 18 = .ok (.ifCond .eq 16, 3) := by decide +kernel
theorem dX9_claimant_21 : decode cX9_claimant 21 = .ok (.aload_n 0, 1) := by decide +kernel
theorem dX9_claimant_22 : decode cX9_claimant 22 = .ok (.getfield 38, 3) := by decide +kernel
theorem dX9_claimant_25 : decode cX9_claimant 25 = .ok (.iconst 3, 1) := by decide +kernel
theorem dX9_claimant_26 : decode cX9_claimant 26 = .ok (.iload_n 1, 1) := by decide +kernel
theorem dX9_claimant_27 : decode cX9_claimant 27 = .ok (.imul, 1) := by decide +kernel
theorem dX9_claimant_28 : decode cX9_claimant 28 = .ok (.iload_n 2, 1) := by decide +kernel
theorem dX9_claimant_29 : decode cX9_claimant 29 = .ok (.iadd, 1) := by decide +kernel
theorem dX9_claimant_30 : decode cX9_claimant 30 = .ok (.iaload, 1) := by decide +kernel
theorem dX9_claimant_31 : decode cX9_claimant 31 = .ok (.goto 4, 3) := by decide +kernel
theorem dX9_claimant_34 : decode cX9_claimant 34 = .ok (.iconst 0, 1) := by decide +kernel
theorem dX9_claimant_35 : decode cX9_claimant 35 = .ok (.ireturn, 1) := by decide +kernel
theorem dX9_amount_0 : decode cX9_amount 0 = .ok (.aload_n 0, 1) := by decide +kernel
theorem dX9_amount_1 : decode cX9_amount 1 = .ok (.aload_n 0, 1) := by decide +kernel
theorem dX9_amount_2 : decode cX9_amount 2 = .ok (.iload_n 1, 1) := by decide +kernel
theorem dX9_amount_3 : decode cX9_amount 3 = .ok (.invokevirtual 146, 3) := by decide +kernel
theorem dX9_amount_6 : decode cX9_amount 6 = .ok (.ifCond .eq 7, 3) := by decide +kernel
theorem dX9_amount_9 : decode cX9_amount 9 = .ok (.iconst 0, 1) := by decide +kernel
theorem dX9_amount_10 : decode cX9_amount 10 = .ok (.goto 4, 3) := by decide +kernel
theorem dX9_amount_13 : decode cX9_amount 13 = .ok (.iconst 1, 1) := by decide +kernel
theorem dX9_amount_14 : decode cX9_amount 14 = .ok (.invokevirtual 140, 3) := by decide +kernel
theorem dX9_amount_17 : decode cX9_amount 17 = .ok (.ifCond .eq 12, 3) := by decide +kernel
theorem dX9_amount_20 : decode cX9_amount 20 = .ok (.aload_n 0, 1) := by decide +kernel
theorem dX9_amount_21 : decode cX9_amount 21 = .ok (.getfield 26, 3) := by decide +kernel
theorem dX9_amount_24 : decode cX9_amount 24 = .ok (.iload_n 1, 1) := by decide +kernel
theorem dX9_amount_25 : decode cX9_amount 25 = .ok (.iaload, 1) := by decide +kernel
theorem dX9_amount_26 : decode cX9_amount 26 = .ok (.goto 4, 3) := by decide +kernel
theorem dX9_amount_29 : decode cX9_amount 29 = .ok (.iconst 0, 1) := by decide +kernel
theorem dX9_amount_30 : decode cX9_amount 30 = .ok (.ireturn, 1) := by decide +kernel
theorem dX9_trayCell_0 : decode cX9_trayCell 0 = .ok (.aload_n 0, 1) := by decide +kernel
theorem dX9_trayCell_1 : decode cX9_trayCell 1 = .ok (.aload_n 0, 1) := by decide +kernel
theorem dX9_trayCell_2 : decode cX9_trayCell 2 = .ok (.iload_n 1, 1) := by decide +kernel
theorem dX9_trayCell_3 : decode cX9_trayCell 3 = .ok (.invokevirtual 146, 3) := by decide +kernel
theorem dX9_trayCell_6 : decode cX9_trayCell 6 = .ok (.ifCond .eq 7, 3) := by decide +kernel
theorem dX9_trayCell_9 : decode cX9_trayCell 9 = .ok (.iconst 0, 1) := by decide +kernel
theorem dX9_trayCell_10 : decode cX9_trayCell 10 = .ok (.goto 4, 3) := by decide +kernel
theorem dX9_trayCell_13 : decode cX9_trayCell 13 = .ok (.iconst 1, 1) := by decide +kernel
theorem dX9_trayCell_14 : decode cX9_trayCell 14 = .ok (.invokevirtual 140, 3) := by decide +kernel
theorem dX9_trayCell_17 : decode cX9_trayCell 17 = .ok (.ifCond .ne 5, 3) := by decide +kernel
theorem dX9_trayCell_20 : decode cX9_trayCell 20 = .ok (.iconst 0, 1) := by decide +kernel
theorem dX9_trayCell_21 : decode cX9_trayCell 21 = .ok (.ireturn, 1) := by decide +kernel
theorem dX9_trayCell_22 : decode cX9_trayCell 22 = .ok (.aload_n 0, 1) := by decide +kernel
theorem dX9_trayCell_23 : decode cX9_trayCell 23 = .ok (.iload_n 1, 1) := by decide +kernel
theorem dX9_trayCell_24 : decode cX9_trayCell 24 = .ok (.iconst 0, 1) := by decide +kernel
theorem dX9_trayCell_25 : decode cX9_trayCell 25 = .ok (.invokevirtual 149, 3) := by decide +kernel
theorem dX9_trayCell_28 : decode cX9_trayCell 28 = .ok (.istore_n 2, 1) := by decide +kernel
theorem dX9_trayCell_29 : decode cX9_trayCell 29 = .ok (.iload_n 2, 1) := by decide +kernel
theorem dX9_trayCell_30 : decode cX9_trayCell 30 = .ok (.iconst (-1), 1) := by decide +kernel
theorem dX9_trayCell_31 : decode cX9_trayCell 31 = .ok (.if_icmp .ne 12, 3) := by decide +kernel
theorem dX9_trayCell_34 : decode cX9_trayCell 34 = .ok (.aload_n 0, 1) := by decide +kernel
theorem dX9_trayCell_35 : decode cX9_trayCell 35 = .ok (.getfield 20, 3) := by decide +kernel
theorem dX9_trayCell_38 : decode cX9_trayCell 38 = .ok (.iload_n 1, 1) := by decide +kernel
theorem dX9_trayCell_39 : decode cX9_trayCell 39 = .ok (.iaload, 1) := by decide +kernel
theorem dX9_trayCell_40 : decode cX9_trayCell 40 = .ok (.goto 9, 3) := by decide +kernel
theorem dX9_trayCell_43 : decode cX9_trayCell 43 = .ok (.aload_n 0, 1) := by decide +kernel
theorem dX9_trayCell_44 : decode cX9_trayCell 44 = .ok (.getfield 44, 3) := by decide +kernel
theorem dX9_trayCell_47 : decode cX9_trayCell 47 = .ok (.iload_n 2, 1) := by decide +kernel
theorem dX9_trayCell_48 : decode cX9_trayCell 48 = .ok (.iaload, 1) := by decide +kernel
theorem dX9_trayCell_49 : decode cX9_trayCell 49 = .ok (.ireturn, 1) := by decide +kernel
theorem dX9_addRobot_0 : decode cX9_addRobot 0 = .ok (.iload_n 1, 1) := by decide +kernel
theorem dX9_addRobot_1 : decode cX9_addRobot 1 = .ok (.invokestatic 131, 3) := by decide +kernel
theorem dX9_addRobot_4 : decode cX9_addRobot 4 = .ok (.ifCond .eq 16, 3) := by decide +kernel
theorem dX9_addRobot_7 : decode cX9_addRobot 7 = .ok (.iload_n 2, 1) := by decide +kernel
theorem dX9_addRobot_8 : decode cX9_addRobot 8 = .ok (.bipush 10, 2) := by decide +kernel
theorem dX9_addRobot_10 : decode cX9_addRobot 10 = .ok (.invokestatic 99, 3) := by decide +kernel
theorem dX9_addRobot_13 : decode cX9_addRobot 13 = .ok (.ifCond .eq 7, 3) := by decide +kernel
theorem dX9_addRobot_16 : decode cX9_addRobot 16 = .ok (.iconst 1, 1) := by decide +kernel
theorem dX9_addRobot_17 : decode cX9_addRobot 17 = .ok (.goto 4, 3) := by decide +kernel
theorem dX9_addRobot_20 : decode cX9_addRobot 20 = .ok (.iconst 0, 1) := by decide +kernel
theorem dX9_addRobot_21 : decode cX9_addRobot 21 = .ok (.istore_n 3, 1) := by decide +kernel
theorem dX9_addRobot_22 : decode cX9_addRobot 22 = .ok (.aload_n 0, 1) := by decide +kernel
theorem dX9_addRobot_23 : decode cX9_addRobot 23 = .ok (.iload_n 3, 1) := by decide +kernel
theorem dX9_addRobot_24 : decode cX9_addRobot 24 = .ok (.ifCond .ne 7, 3) := by decide +kernel
theorem dX9_addRobot_27 : decode cX9_addRobot 27 = .ok (.iconst 1, 1) := by decide +kernel
theorem dX9_addRobot_28 : decode cX9_addRobot 28 = .ok (.goto 35, 3) := by decide +kernel
theorem dX9_addRobot_31 : decode cX9_addRobot 31 = .ok (.aload_n 0, 1) := by decide +kernel
theorem dX9_addRobot_32 : decode cX9_addRobot 32 = .ok (.getfield 7, 3) := by decide +kernel
theorem dX9_addRobot_35 : decode cX9_addRobot 35 = .ok (.iload_n 1, 1) := by decide +kernel
theorem dX9_addRobot_36 : decode cX9_addRobot 36 = .ok (.baload, 1) := by decide +kernel
theorem dX9_addRobot_37 : decode cX9_addRobot 37 = .ok (.ifCond .ne 21, 3) := by decide +kernel
theorem dX9_addRobot_40 : decode cX9_addRobot 40 = .ok (.aload_n 0, 1) := by decide +kernel
theorem dX9_addRobot_41 : decode cX9_addRobot 41 = .ok (.iload_n 1, 1) := by decide +kernel
theorem dX9_addRobot_42 : decode cX9_addRobot 42 = .ok (.invokevirtual 112, 3) := by decide +kernel
theorem dX9_addRobot_45 : decode cX9_addRobot 45 = .ok (.iconst (-1), 1) := by decide +kernel
theorem dX9_addRobot_46 : decode cX9_addRobot 46 = .ok (.if_icmp .ne 12, 3) := by decide +kernel
theorem dX9_addRobot_49 : decode cX9_addRobot 49 = .ok (.aload_n 0, 1) := by decide +kernel
theorem dX9_addRobot_50 : decode cX9_addRobot 50 = .ok (.getfield 103, 3) := by decide +kernel
theorem dX9_addRobot_53 : decode cX9_addRobot 53 = .ok (.bipush 6, 2) := by decide +kernel
theorem dX9_addRobot_55 : decode cX9_addRobot 55 = .ok (.if_icmp .ne 7, 3) := by decide +kernel
theorem dX9_addRobot_58 : decode cX9_addRobot 58 = .ok (.iconst 2, 1) := by decide +kernel
theorem dX9_addRobot_59 : decode cX9_addRobot 59 = .ok (.goto 4, 3) := by decide +kernel
theorem dX9_addRobot_62 : decode cX9_addRobot 62 = .ok (.iconst 0, 1) := by decide +kernel
theorem dX9_addRobot_63 : decode cX9_addRobot 63 = .ok (.invokevirtual 140, 3) := by decide +kernel
theorem dX9_addRobot_66 : decode cX9_addRobot 66 = .ok (.ifCond .ne 5, 3) := by decide +kernel
theorem dX9_addRobot_69 : decode cX9_addRobot 69 = .ok (.iconst 0, 1) := by decide +kernel
theorem dX9_addRobot_70 : decode cX9_addRobot 70 = .ok (.ireturn, 1) := by decide +kernel
theorem dX9_addRobot_71 : decode cX9_addRobot 71 = .ok (.aload_n 0, 1) := by decide +kernel
theorem dX9_addRobot_72 : decode cX9_addRobot 72 = .ok (.getfield 103, 3) := by decide +kernel
theorem dX9_addRobot_75 : decode cX9_addRobot 75 = .ok (.istore 4, 2) := by decide +kernel
theorem dX9_addRobot_77 : decode cX9_addRobot 77 = .ok (.aload_n 0, 1) := by decide +kernel
theorem dX9_addRobot_78 : decode cX9_addRobot 78 = .ok (.getfield 44, 3) := by decide +kernel
theorem dX9_addRobot_81 : decode cX9_addRobot 81 = .ok (.iload 4, 2) := by decide +kernel
theorem dX9_addRobot_83 : decode cX9_addRobot 83 = .ok (.iload_n 1, 1) := by decide +kernel
theorem dX9_addRobot_84 : decode cX9_addRobot 84 = .ok (.iastore, 1) := by decide +kernel
theorem dX9_addRobot_85 : decode cX9_addRobot 85 = .ok (.aload_n 0, 1) := by decide +kernel
theorem dX9_addRobot_86 : decode cX9_addRobot 86 = .ok (.getfield 47, 3) := by decide +kernel
theorem dX9_addRobot_89 : decode cX9_addRobot 89 = .ok (.iload 4, 2) := by decide +kernel
theorem dX9_addRobot_91 : decode cX9_addRobot 91 = .ok (.iload_n 2, 1) := by decide +kernel
theorem dX9_addRobot_92 : decode cX9_addRobot 92 = .ok (.iastore, 1) := by decide +kernel
theorem dX9_addRobot_93 : decode cX9_addRobot 93 = .ok (.aload_n 0, 1) := by decide +kernel
theorem dX9_addRobot_94 : decode cX9_addRobot 94 = .ok (.dup, 1) := by decide +kernel
theorem dX9_addRobot_95 : decode cX9_addRobot 95 = .ok (.getfield 103, 3) := by decide +kernel
theorem dX9_addRobot_98 : decode cX9_addRobot 98 = .ok (.iconst 1, 1) := by decide +kernel
theorem dX9_addRobot_99 : decode cX9_addRobot 99 = .ok (.iadd, 1) := by decide +kernel
theorem dX9_addRobot_100 : decode cX9_addRobot 100 = .ok (.putfield 103, 3) := by decide +kernel
theorem dX9_addRobot_103 : decode cX9_addRobot 103 = .ok (.aload_n 0, 1) := by decide +kernel
theorem dX9_addRobot_104 : decode cX9_addRobot 104 = .ok (.iload 4, 2) := by decide +kernel
theorem dX9_addRobot_106 : decode cX9_addRobot 106 = .ok (.iconst 0, 1) := by decide +kernel
theorem dX9_addRobot_107 : decode cX9_addRobot 107 = .ok (.invokevirtual 162, 3) := by decide +kernel
theorem dX9_addRobot_110 : decode cX9_addRobot 110 = .ok (.iload 4, 2) := by decide +kernel
theorem dX9_addRobot_112 : decode cX9_addRobot 112 = .ok (.ireturn, 1) := by decide +kernel
theorem dX9_isRobot_0 : decode cX9_isRobot 0 = .ok (.iload_n 1, 1) := by decide +kernel
theorem dX9_isRobot_1 : decode cX9_isRobot 1 = .ok (.aload_n 0, 1) := by decide +kernel
theorem dX9_isRobot_2 : decode cX9_isRobot 2 = .ok (.getfield 103, 3) := by decide +kernel
theorem dX9_isRobot_5 : decode cX9_isRobot 5 = .ok (.invokestatic 99, 3) := by decide +kernel
theorem dX9_isRobot_8 : decode cX9_isRobot 8 = .ok (.ireturn, 1) := by decide +kernel
theorem dX9_die_0 : decode cX9_die 0 = .ok (.aload_n 0, 1) := by decide +kernel
theorem dX9_die_1 : decode cX9_die 1 = .ok (.iload_n 1, 1) := by decide +kernel
theorem dX9_die_2 : decode cX9_die 2 = .ok (.invokevirtual 165, 3) := by decide +kernel
theorem dX9_die_5 : decode cX9_die 5 = .ok (.istore_n 2, 1) := by decide +kernel
theorem dX9_die_6 : decode cX9_die 6 = .ok (.aload_n 0, 1) := by decide +kernel
theorem dX9_die_7 : decode cX9_die 7 = .ok (.iload_n 2, 1) := by decide +kernel
theorem dX9_die_8 : decode cX9_die 8 = .ok (.ifCond .ne 7, 3) := by decide +kernel
theorem dX9_die_11 : decode cX9_die 11 = .ok (.iconst 1, 1) := by decide +kernel
theorem dX9_die_12 : decode cX9_die 12 = .ok (.goto 18, 3) := by decide +kernel
theorem dX9_die_15 : decode cX9_die 15 = .ok (.aload_n 0, 1) := by decide +kernel
theorem dX9_die_16 : decode cX9_die 16 = .ok (.getfield 50, 3) := by decide +kernel
theorem dX9_die_19 : decode cX9_die 19 = .ok (.iload_n 1, 1) := by decide +kernel
theorem dX9_die_20 : decode cX9_die 20 = .ok (.iaload, 1) := by decide +kernel
theorem dX9_die_21 : decode cX9_die 21 = .ok (.iconst 5, 1) := by decide +kernel
theorem dX9_die_22 : decode cX9_die 22 = .ok (.if_icmp .ne 7, 3) := by decide +kernel
theorem dX9_die_25 : decode cX9_die 25 = .ok (.iconst 2, 1) := by decide +kernel
theorem dX9_die_26 : decode cX9_die 26 = .ok (.goto 4, 3) := by decide +kernel
theorem dX9_die_29 : decode cX9_die 29 = .ok (.iconst 0, 1) := by decide +kernel
theorem dX9_die_30 : decode cX9_die 30 = .ok (.invokevirtual 140, 3) := by decide +kernel
theorem dX9_die_33 : decode cX9_die 33 = .ok (.ifCond .ne 5, 3) := by decide +kernel
theorem dX9_die_36 : decode cX9_die 36 = .ok (.iconst 0, 1) := by decide +kernel
theorem dX9_die_37 : decode cX9_die 37 = .ok (.ireturn, 1) := by decide +kernel
theorem dX9_die_38 : decode cX9_die 38 = .ok (.aload_n 0, 1) := by decide +kernel
theorem dX9_die_39 : decode cX9_die 39 = .ok (.getfield 53, 3) := by decide +kernel
theorem dX9_die_42 : decode cX9_die 42 = .ok (.iload_n 1, 1) := by decide +kernel
theorem dX9_die_43 : decode cX9_die 43 = .ok (.aload_n 0, 1) := by decide +kernel
theorem dX9_die_44 : decode cX9_die 44 = .ok (.getfield 50, 3) := by decide +kernel
theorem dX9_die_47 : decode cX9_die 47 = .ok (.iload_n 1, 1) := by decide +kernel
theorem dX9_die_48 : decode cX9_die 48 = .ok (.iaload, 1) := by decide +kernel
theorem dX9_die_49 : decode cX9_die 49 = .ok (.iconst 1, 1) := by decide +kernel
theorem dX9_die_50 : decode cX9_die 50 = .ok (.if_icmp .ne 7, 3) := by decide +kernel
theorem dX9_die_53 : decode cX9_die 53 = .ok (.iconst (-1), 1) := by decide +kernel
theorem dX9_die_54 : decode cX9_die 54 = .ok (.goto 9, 3) := by decide +kernel
theorem dX9_die_57 : decode cX9_die 57 = .ok (.aload_n 0, 1) := by decide +kernel
theorem dX9_die_58 : decode cX9_die 58 = .ok (.getfield 53, 3) := by decide +kernel
theorem dX9_die_61 : decode cX9_die 61 = .ok (.iload_n 1, 1) := by decide +kernel
theorem dX9_die_62 : decode cX9_die 62 = .ok (.iaload, 1) := by decide +kernel
theorem dX9_die_63 : decode cX9_die 63 = .ok (.iastore, 1) := by decide +kernel
theorem dX9_die_64 : decode cX9_die 64 = .ok (.aload_n 0, 1) := by decide +kernel
theorem dX9_die_65 : decode cX9_die 65 = .ok (.iload_n 1, 1) := by decide +kernel
theorem dX9_die_66 : decode cX9_die 66 = .ok (.iconst 5, 1) := by decide +kernel
theorem dX9_die_67 : decode cX9_die 67 = .ok (.invokevirtual 162, 3) := by decide +kernel
theorem dX9_die_70 : decode cX9_die 70 = .ok (.aload_n 0, 1) := by decide +kernel
theorem dX9_die_71 : decode cX9_die 71 = .ok (.getfield 53, 3) := by decide +kernel
theorem dX9_die_74 : decode cX9_die 74 = .ok (.iload_n 1, 1) := by decide +kernel
theorem dX9_die_75 : decode cX9_die 75 = .ok (.iaload, 1) := by decide +kernel
theorem dX9_die_76 : decode cX9_die 76 = .ok (.ireturn, 1) := by decide +kernel
theorem dX9_repair_0 : decode cX9_repair 0 = .ok (.aload_n 0, 1) := by decide +kernel
theorem dX9_repair_1 : decode cX9_repair 1 = .ok (.iload_n 1, 1) := by decide +kernel
theorem dX9_repair_2 : decode cX9_repair 2 = .ok (.invokevirtual 165, 3) := by decide +kernel
theorem dX9_repair_5 : decode cX9_repair 5 = .ok (.istore_n 2, 1) := by decide +kernel
theorem dX9_repair_6 : decode cX9_repair 6 = .ok (.aload_n 0, 1) := by decide +kernel
theorem dX9_repair_7 : decode cX9_repair 7 = .ok (.iload_n 2, 1) := by decide +kernel
theorem dX9_repair_8 : decode cX9_repair 8 = .ok (.ifCond .ne 7, 3) := by decide +kernel
theorem dX9_repair_11 : decode cX9_repair 11 = .ok (.iconst 1, 1) := by decide +kernel
theorem dX9_repair_12 : decode cX9_repair 12 = .ok (.goto 18, 3) := by decide +kernel
theorem dX9_repair_15 : decode cX9_repair 15 = .ok (.aload_n 0, 1) := by decide +kernel
theorem dX9_repair_16 : decode cX9_repair 16 = .ok (.getfield 50, 3) := by decide +kernel
theorem dX9_repair_19 : decode cX9_repair 19 = .ok (.iload_n 1, 1) := by decide +kernel
theorem dX9_repair_20 : decode cX9_repair 20 = .ok (.iaload, 1) := by decide +kernel
theorem dX9_repair_21 : decode cX9_repair 21 = .ok (.iconst 5, 1) := by decide +kernel
theorem dX9_repair_22 : decode cX9_repair 22 = .ok (.if_icmp .ne 7, 3) := by decide +kernel
theorem dX9_repair_25 : decode cX9_repair 25 = .ok (.iconst 0, 1) := by decide +kernel
theorem dX9_repair_26 : decode cX9_repair 26 = .ok (.goto 4, 3) := by decide +kernel
theorem dX9_repair_29 : decode cX9_repair 29 = .ok (.iconst 2, 1) := by decide +kernel
theorem dX9_repair_30 : decode cX9_repair 30 = .ok (.invokevirtual 140, 3) := by decide +kernel
theorem dX9_repair_33 : decode cX9_repair 33 = .ok (.ifCond .ne 5, 3) := by decide +kernel
theorem dX9_repair_36 : decode cX9_repair 36 = .ok (.iconst 0, 1) := by decide +kernel
theorem dX9_repair_37 : decode cX9_repair 37 = .ok (.ireturn, 1) := by decide +kernel
theorem dX9_repair_38 : decode cX9_repair 38 = .ok (.aload_n 0, 1) := by decide +kernel
theorem dX9_repair_39 : decode cX9_repair 39 = .ok (.iload_n 1, 1) := by decide +kernel
theorem dX9_repair_40 : decode cX9_repair 40 = .ok (.aload_n 0, 1) := by decide +kernel
theorem dX9_repair_41 : decode cX9_repair 41 = .ok (.getfield 53, 3) := by decide +kernel
theorem dX9_repair_44 : decode cX9_repair 44 = .ok (.iload_n 1, 1) := by decide +kernel
theorem dX9_repair_45 : decode cX9_repair 45 = .ok (.iaload, 1) := by decide +kernel
theorem dX9_repair_46 : decode cX9_repair 46 = .ok (.iconst (-1), 1) := by decide +kernel
theorem dX9_repair_47 : decode cX9_repair 47 = .ok (.if_icmp .ne 7, 3) := by decide +kernel
theorem dX9_repair_50 : decode cX9_repair 50 = .ok (.iconst 0, 1) := by decide +kernel
theorem dX9_repair_51 : decode cX9_repair 51 = .ok (.goto 4, 3) := by decide +kernel
theorem dX9_repair_54 : decode cX9_repair 54 = .ok (.iconst 4, 1) := by decide +kernel
theorem dX9_repair_55 : decode cX9_repair 55 = .ok (.invokevirtual 162, 3) := by decide +kernel
theorem dX9_repair_58 : decode cX9_repair 58 = .ok (.aload_n 0, 1) := by decide +kernel
theorem dX9_repair_59 : decode cX9_repair 59 = .ok (.getfield 50, 3) := by decide +kernel
theorem dX9_repair_62 : decode cX9_repair 62 = .ok (.iload_n 1, 1) := by decide +kernel
theorem dX9_repair_63 : decode cX9_repair 63 = .ok (.iaload, 1) := by decide +kernel
theorem dX9_repair_64 : decode cX9_repair 64 = .ok (.ireturn, 1) := by decide +kernel
theorem dX9_robotIn_0 : decode cX9_robotIn 0 = .ok (.aload_n 0, 1) := by decide +kernel
theorem dX9_robotIn_1 : decode cX9_robotIn 1 = .ok (.iload_n 1, 1) := by decide +kernel
theorem dX9_robotIn_2 : decode cX9_robotIn 2 = .ok (.invokestatic 131, 3) := by decide +kernel
theorem dX9_robotIn_5 : decode cX9_robotIn 5 = .ok (.ifCond .eq 7, 3) := by decide +kernel
theorem dX9_robotIn_8 : decode cX9_robotIn 8 = .ok (.iconst 0, 1) := by decide +kernel
theorem dX9_robotIn_9 : decode cX9_robotIn 9 = .ok (.goto 4, 3) := by decide +kernel
theorem dX9_robotIn_12 : decode cX9_robotIn 12 = .ok (.iconst 1, 1) := by decide +kernel
theorem dX9_robotIn_13 : decode cX9_robotIn 13 = .ok (.invokevirtual 140, 3) := by decide +kernel
theorem dX9_robotIn_16 : decode cX9_robotIn 16 = .ok (.ifCond .eq 11, 3) := by decide +kernel
theorem dX9_robotIn_19 : decode cX9_robotIn 19 = .ok (.aload_n 0, 1) := by decide +kernel
theorem dX9_robotIn_20 : decode cX9_robotIn 20 = .ok (.iload_n 1, 1) := by decide +kernel
theorem dX9_robotIn_21 : decode cX9_robotIn 21 = .ok (.invokevirtual 112, 3) := by decide +kernel
theorem dX9_robotIn_24 : decode cX9_robotIn 24 = .ok (.goto 4, 3) := by decide +kernel
theorem dX9_robotIn_27 : decode cX9_robotIn 27 = .ok (.iconst 0, 1) := by decide +kernel
theorem dX9_robotIn_28 : decode cX9_robotIn 28 = .ok (.ireturn, 1) := by decide +kernel
theorem dX9_cellOf_0 : decode cX9_cellOf 0 = .ok (.aload_n 0, 1) := by decide +kernel
theorem dX9_cellOf_1 : decode cX9_cellOf 1 = .ok (.aload_n 0, 1) := by decide +kernel
theorem dX9_cellOf_2 : decode cX9_cellOf 2 = .ok (.iload_n 1, 1) := by decide +kernel
theorem dX9_cellOf_3 : decode cX9_cellOf 3 = .ok (.invokevirtual 165, 3) := by decide +kernel
theorem dX9_cellOf_6 : decode cX9_cellOf 6 = .ok (.ifCond .eq 7, 3) := by decide +kernel
theorem dX9_cellOf_9 : decode cX9_cellOf 9 = .ok (.iconst 0, 1) := by decide +kernel
theorem dX9_cellOf_10 : decode cX9_cellOf 10 = .ok (.goto 4, 3) := by decide +kernel
theorem dX9_cellOf_13 : decode cX9_cellOf 13 = .ok (.iconst 1, 1) := by decide +kernel
theorem dX9_cellOf_14 : decode cX9_cellOf 14 = .ok (.invokevirtual 140, 3) := by decide +kernel
theorem dX9_cellOf_17 : decode cX9_cellOf 17 = .ok (.ifCond .eq 12, 3) := by decide +kernel
theorem dX9_cellOf_20 : decode cX9_cellOf 20 = .ok (.aload_n 0, 1) := by decide +kernel
theorem dX9_cellOf_21 : decode cX9_cellOf 21 = .ok (.getfield 44, 3) := by decide +kernel
theorem dX9_cellOf_24 : decode cX9_cellOf 24 = .ok (.iload_n 1, 1) := by decide +kernel
theorem dX9_cellOf_25 : decode cX9_cellOf 25 = .ok (.iaload, 1) := by decide +kernel
theorem dX9_cellOf_26 : decode cX9_cellOf 26 = .ok (.goto 4, 3) := by decide +kernel
theorem dX9_cellOf_29 : decode cX9_cellOf 29 = .ok (.iconst 0, 1) := by decide +kernel
theorem dX9_cellOf_30 : decode cX9_cellOf 30 = .ok (.ireturn, 1) := by decide +kernel
theorem dX9_state_0 : decode cX9_state 0 = .ok (.aload_n 0, 1) := by decide +kernel
theorem dX9_state_1 : decode cX9_state 1 = .ok (.aload_n 0, 1) := by decide +kernel
theorem dX9_state_2 : decode cX9_state 2 = .ok (.iload_n 1, 1) := by decide +kernel
theorem dX9_state_3 : decode cX9_state 3 = .ok (.invokevirtual 165, 3) := by decide +kernel
theorem dX9_state_6 : decode cX9_state 6 = .ok (.ifCond .eq 7, 3) := by decide +kernel
theorem dX9_state_9 : decode cX9_state 9 = .ok (.iconst 0, 1) := by decide +kernel
theorem dX9_state_10 : decode cX9_state 10 = .ok (.goto 4, 3) := by decide +kernel
theorem dX9_state_13 : decode cX9_state 13 = .ok (.iconst 1, 1) := by decide +kernel
theorem dX9_state_14 : decode cX9_state 14 = .ok (.invokevirtual 140, 3) := by decide +kernel
theorem dX9_state_17 : decode cX9_state 17 = .ok (.ifCond .eq 12, 3) := by decide +kernel
theorem dX9_state_20 : decode cX9_state 20 = .ok (.aload_n 0, 1) := by decide +kernel
theorem dX9_state_21 : decode cX9_state 21 = .ok (.getfield 50, 3) := by decide +kernel
theorem dX9_state_24 : decode cX9_state 24 = .ok (.iload_n 1, 1) := by decide +kernel
theorem dX9_state_25 : decode cX9_state 25 = .ok (.iaload, 1) := by decide +kernel
theorem dX9_state_26 : decode cX9_state 26 = .ok (.goto 4, 3) := by decide +kernel
theorem dX9_state_29 : decode cX9_state 29 = .ok (.iconst 0, 1) := by decide +kernel
theorem dX9_state_30 : decode cX9_state 30 = .ok (.ireturn, 1) := by decide +kernel
theorem dX9_trayOf_0 : decode cX9_trayOf 0 = .ok (.aload_n 0, 1) := by decide +kernel
theorem dX9_trayOf_1 : decode cX9_trayOf 1 = .ok (.aload_n 0, 1) := by decide +kernel
theorem dX9_trayOf_2 : decode cX9_trayOf 2 = .ok (.iload_n 1, 1) := by decide +kernel
theorem dX9_trayOf_3 : decode cX9_trayOf 3 = .ok (.invokevirtual 165, 3) := by decide +kernel
theorem dX9_trayOf_6 : decode cX9_trayOf 6 = .ok (.ifCond .eq 7, 3) := by decide +kernel
theorem dX9_trayOf_9 : decode cX9_trayOf 9 = .ok (.iconst 0, 1) := by decide +kernel
theorem dX9_trayOf_10 : decode cX9_trayOf 10 = .ok (.goto 4, 3) := by decide +kernel
theorem dX9_trayOf_13 : decode cX9_trayOf 13 = .ok (.iconst 1, 1) := by decide +kernel
theorem dX9_trayOf_14 : decode cX9_trayOf 14 = .ok (.invokevirtual 140, 3) := by decide +kernel
theorem dX9_trayOf_17 : decode cX9_trayOf 17 = .ok (.ifCond .eq 12, 3) := by decide +kernel
theorem dX9_trayOf_20 : decode cX9_trayOf 20 = .ok (.aload_n 0, 1) := by decide +kernel
theorem dX9_trayOf_21 : decode cX9_trayOf 21 = .ok (.getfield 53, 3) := by decide +kernel
theorem dX9_trayOf_24 : decode cX9_trayOf 24 = .ok (.iload_n 1, 1) := by decide +kernel
theorem dX9_trayOf_25 : decode cX9_trayOf 25 = .ok (.iaload, 1) := by decide +kernel
theorem dX9_trayOf_26 : decode cX9_trayOf 26 = .ok (.goto 4, 3) := by decide +kernel
theorem dX9_trayOf_29 : decode cX9_trayOf 29 = .ok (.iconst 0, 1) := by decide +kernel
theorem dX9_trayOf_30 : decode cX9_trayOf 30 = .ok (.ireturn, 1) := by decide +kernel
theorem dX9_asked_0 : decode cX9_asked 0 = .ok (.aload_n 0, 1) := by decide +kernel
theorem dX9_asked_1 : decode cX9_asked 1 = .ok (.aload_n 0, 1) := by decide +kernel
theorem dX9_asked_2 : decode cX9_asked 2 = .ok (.iload_n 1, 1) := by decide +kernel
theorem dX9_asked_3 : decode cX9_asked 3 = .ok (.invokevirtual 165, 3) := by decide +kernel
theorem dX9_asked_6 : decode cX9_asked 6 = .ok (.ifCond .eq 7, 3) := by decide +kernel
theorem dX9_asked_9 : decode cX9_asked 9 = .ok (.iconst 0, 1) := by decide +kernel
theorem dX9_asked_10 : decode cX9_asked 10 = .ok (.goto 4, 3) := by decide +kernel
theorem dX9_asked_13 : decode cX9_asked 13 = .ok (.iconst 1, 1) := by decide +kernel
theorem dX9_asked_14 : decode cX9_asked 14 = .ok (.invokevirtual 140, 3) := by decide +kernel
theorem dX9_asked_17 : decode cX9_asked 17 = .ok (.ifCond .eq 12, 3) := by decide +kernel
theorem dX9_asked_20 : decode cX9_asked 20 = .ok (.aload_n 0, 1) := by decide +kernel
theorem dX9_asked_21 : decode cX9_asked 21 = .ok (.getfield 62, 3) := by decide +kernel
theorem dX9_asked_24 : decode cX9_asked 24 = .ok (.iload_n 1, 1) := by decide +kernel
theorem dX9_asked_25 : decode cX9_asked 25 = .ok (.iaload, 1) := by decide +kernel
theorem dX9_asked_26 : decode cX9_asked 26 = .ok (.goto 4, 3) := by decide +kernel
theorem dX9_asked_29 : decode cX9_asked 29 = .ok (.iconst 0, 1) := by decide +kernel
theorem dX9_asked_30 : decode cX9_asked 30 = .ok (.ireturn, 1) := by decide +kernel
theorem dX9_picksFrom_0 : decode cX9_picksFrom 0 = .ok (.aload_n 0, 1) := by decide +kernel
theorem dX9_picksFrom_1 : decode cX9_picksFrom 1 = .ok (.getfield 56, 3) := by decide +kernel
theorem dX9_picksFrom_4 : decode cX9_picksFrom 4 = .ok (.iload_n 1, 1) := by decide +kernel
theorem dX9_picksFrom_5 : decode cX9_picksFrom 5 = .ok (.iaload, 1) := by decide +kernel
theorem dX9_picksFrom_6 : decode cX9_picksFrom 6 = .ok (.istore_n 2, 1) := by decide +kernel
theorem dX9_picksFrom_7 : decode cX9_picksFrom 7 = .ok (.aload_n 0, 1) := by decide +kernel
theorem dX9_picksFrom_8 : decode cX9_picksFrom 8 = .ok (.getfield 53, 3) := by decide +kernel
theorem dX9_picksFrom_11 : decode cX9_picksFrom 11 = .ok (.iload_n 1, 1) := by decide +kernel
theorem dX9_picksFrom_12 : decode cX9_picksFrom 12 = .ok (.iaload, 1) := by decide +kernel
theorem dX9_picksFrom_13 : decode cX9_picksFrom 13 = .ok (.istore_n 3, 1) := by decide +kernel
theorem dX9_picksFrom_14 : decode cX9_picksFrom 14 = .ok (.aload_n 0, 1) := by decide +kernel
theorem dX9_picksFrom_15 : decode cX9_picksFrom 15 = .ok (.getfield 26, 3) := by decide +kernel
theorem dX9_picksFrom_18 : decode cX9_picksFrom 18 = .ok (.iload_n 3, 1) := by decide +kernel
theorem dX9_picksFrom_19 : decode cX9_picksFrom 19 = .ok (.dup2, 1) := by decide +kernel
theorem dX9_picksFrom_20 : decode cX9_picksFrom 20 = .ok (.iaload, 1) := by decide +kernel
theorem dX9_picksFrom_21 : decode cX9_picksFrom 21 = .ok (.iconst 1, 1) := by decide +kernel
theorem dX9_picksFrom_22 : decode cX9_picksFrom 22 = .ok (.isub, 1) := by decide +kernel
theorem dX9_picksFrom_23 : decode cX9_picksFrom 23 = .ok (.iastore, 1) := by decide +kernel
theorem dX9_picksFrom_24 : decode cX9_picksFrom 24 = .ok (.aload_n 0, 1) := by decide +kernel
theorem dX9_picksFrom_25 : decode cX9_picksFrom 25 = .ok (.getfield 35, 3) := by decide +kernel
theorem dX9_picksFrom_28 : decode cX9_picksFrom 28 = .ok (.iload_n 2, 1) := by decide +kernel
theorem dX9_picksFrom_29 : decode cX9_picksFrom 29 = .ok (.dup2, 1) := by decide +kernel
theorem dX9_picksFrom_30 : decode cX9_picksFrom 30 = .ok (.iaload, 1) := by decide +kernel
theorem dX9_picksFrom_31 : decode cX9_picksFrom 31 = .ok (.iconst 1, 1) := by decide +kernel
theorem dX9_picksFrom_32 : decode cX9_picksFrom 32 = .ok (.isub, 1) := by decide +kernel
theorem dX9_picksFrom_33 : decode cX9_picksFrom 33 = .ok (.iastore, 1) := by decide +kernel
theorem dX9_picksFrom_34 : decode cX9_picksFrom 34 = .ok (.aload_n 0, 1) := by decide +kernel
theorem dX9_picksFrom_35 : decode cX9_picksFrom 35 = .ok (.getfield 77, 3) := by decide +kernel
theorem dX9_picksFrom_38 : decode cX9_picksFrom 38 = .ok (.aload_n 0, 1) := by decide +kernel
theorem dX9_picksFrom_39 : decode cX9_picksFrom 39 = .ok (.getfield 23, 3) := by decide +kernel
theorem dX9_picksFrom_42 : decode cX9_picksFrom 42 = .ok (.iload_n 3, 1) := by decide +kernel
theorem dX9_picksFrom_43 : decode cX9_picksFrom 43 = .ok (.iaload, 1) := by decide +kernel
theorem dX9_picksFrom_44 : decode cX9_picksFrom 44 = .ok (.dup2, 1) := by decide +kernel
theorem dX9_picksFrom_45 : decode cX9_picksFrom 45 = .ok (.iaload, 1) := by decide +kernel
theorem dX9_picksFrom_46 : decode cX9_picksFrom 46 = .ok (.iconst 1, 1) := by decide +kernel
theorem dX9_picksFrom_47 : decode cX9_picksFrom 47 = .ok (.iadd, 1) := by decide +kernel
theorem dX9_picksFrom_48 : decode cX9_picksFrom 48 = .ok (.iastore, 1) := by decide +kernel
theorem dX9_picksFrom_49 : decode cX9_picksFrom 49 = .ok (.aload_n 0, 1) := by decide +kernel
theorem dX9_picksFrom_50 : decode cX9_picksFrom 50 = .ok (.getfield 80, 3) := by decide +kernel
theorem dX9_picksFrom_53 : decode cX9_picksFrom 53 = .ok (.aload_n 0, 1) := by decide +kernel
theorem dX9_picksFrom_54 : decode cX9_picksFrom 54 = .ok (.getfield 168, 3) := by decide +kernel
theorem dX9_picksFrom_57 : decode cX9_picksFrom 57 = .ok (.iload_n 3, 1) := by decide +kernel
theorem dX9_picksFrom_58 : decode cX9_picksFrom 58 = .ok (.iastore, 1) := by decide +kernel
theorem dX9_picksFrom_59 : decode cX9_picksFrom 59 = .ok (.aload_n 0, 1) := by decide +kernel
theorem dX9_picksFrom_60 : decode cX9_picksFrom 60 = .ok (.getfield 83, 3) := by decide +kernel
theorem dX9_picksFrom_63 : decode cX9_picksFrom 63 = .ok (.aload_n 0, 1) := by decide +kernel
theorem dX9_picksFrom_64 : decode cX9_picksFrom 64 = .ok (.getfield 168, 3) := by decide +kernel
theorem dX9_picksFrom_67 : decode cX9_picksFrom 67 = .ok (.iload_n 2, 1) := by decide +kernel
theorem dX9_picksFrom_68 : decode cX9_picksFrom 68 = .ok (.iconst 3, 1) := by decide +kernel
theorem dX9_picksFrom_69 : decode cX9_picksFrom 69 = .ok (.idiv, 1) := by decide +kernel
theorem dX9_picksFrom_70 : decode cX9_picksFrom 70 = .ok (.iastore, 1) := by decide +kernel
theorem dX9_picksFrom_71 : decode cX9_picksFrom 71 = .ok (.aload_n 0, 1) := by decide +kernel
theorem dX9_picksFrom_72 : decode cX9_picksFrom 72 = .ok (.getfield 86, 3) := by decide +kernel
theorem dX9_picksFrom_75 : decode cX9_picksFrom 75 = .ok (.aload_n 0, 1) := by decide +kernel
theorem dX9_picksFrom_76 : decode cX9_picksFrom 76 = .ok (.getfield 168, 3) := by decide +kernel
theorem dX9_picksFrom_79 : decode cX9_picksFrom 79 = .ok (.aload_n 0, 1) := by decide +kernel
theorem dX9_picksFrom_80 : decode cX9_picksFrom 80 = .ok (.getfield 171, 3) := by decide +kernel
theorem dX9_picksFrom_83 : decode cX9_picksFrom 83 = .ok (.iastore, 1) := by decide +kernel
theorem dX9_picksFrom_84 : decode cX9_picksFrom 84 = .ok (.aload_n 0, 1) := by decide +kernel
theorem dX9_picksFrom_85 : decode cX9_picksFrom 85 = .ok (.dup, 1) := by decide +kernel
theorem dX9_picksFrom_86 : decode cX9_picksFrom 86 = .ok (.getfield 168, 3) := by decide +kernel
theorem dX9_picksFrom_89 : decode cX9_picksFrom 89 = .ok (.iconst 1, 1) := by decide +kernel
theorem dX9_picksFrom_90 : decode cX9_picksFrom 90 = .ok (.iadd, 1) := by decide +kernel
theorem dX9_picksFrom_91 : decode cX9_picksFrom 91 = .ok (.putfield 168, 3) := by decide +kernel
theorem dX9_picksFrom_94 : decode cX9_picksFrom 94 = .ok (.aload_n 0, 1) := by decide +kernel
theorem dX9_picksFrom_95 : decode cX9_picksFrom 95 = .ok (.getfield 35, 3) := by decide +kernel
theorem dX9_picksFrom_98 : decode cX9_picksFrom 98 = .ok (.iload_n 2, 1) := by decide +kernel
theorem dX9_picksFrom_99 : decode cX9_picksFrom 99 = .ok (.iaload, 1) := by decide +kernel
theorem dX9_picksFrom_100 : decode cX9_picksFrom 100 = .ok (.ifCond .eq 12, 3) := by decide +kernel
theorem dX9_picksFrom_103 : decode cX9_picksFrom 103 = .ok (.aload_n 0, 1) := by decide +kernel
theorem dX9_picksFrom_104 : decode cX9_picksFrom 104 = .ok (.getfield 26, 3) := by decide +kernel
theorem dX9_picksFrom_107 : decode cX9_picksFrom 107 = .ok (.iload_n 3, 1) := by decide +kernel
theorem dX9_picksFrom_108 : decode cX9_picksFrom 108 = .ok (.iaload, 1) := by decide +kernel
theorem dX9_picksFrom_109 : decode cX9_picksFrom 109 = .ok (.ifCond .ne 9, 3) := by decide +kernel
theorem dX9_picksFrom_112 : decode cX9_picksFrom 112 = .ok (.aload_n 0, 1) := by decide +kernel
theorem dX9_picksFrom_113 : decode cX9_picksFrom 113 = .ok (.iload_n 1, 1) := by decide +kernel
theorem dX9_picksFrom_114 : decode cX9_picksFrom 114 = .ok (.iconst 4, 1) := by decide +kernel
theorem dX9_picksFrom_115 : decode cX9_picksFrom 115 = .ok (.invokevirtual 162, 3) := by decide +kernel
theorem dX9_picksFrom_118 : decode cX9_picksFrom 118 = .ok (.return_, 1) := by decide +kernel
theorem dX9_hasRobot_0 : decode cX9_hasRobot 0 = .ok (.iconst 0, 1) := by decide +kernel
theorem dX9_hasRobot_1 : decode cX9_hasRobot 1 = .ok (.istore_n 2, 1) := by decide +kernel
theorem dX9_hasRobot_2 : decode cX9_hasRobot 2 = .ok (.iconst 0, 1) := by decide +kernel
theorem dX9_hasRobot_3 : decode cX9_hasRobot 3 = .ok (.istore_n 3, 1) := by decide +kernel
theorem dX9_hasRobot_4 : decode cX9_hasRobot 4 = .ok (.iload_n 3, 1) := by decide +kernel
theorem dX9_hasRobot_5 : decode cX9_hasRobot 5 = .ok (.aload_n 0, 1) := by decide +kernel
theorem dX9_hasRobot_6 : decode cX9_hasRobot 6 = .ok (.getfield 103, 3) := by decide +kernel
theorem dX9_hasRobot_9 : decode cX9_hasRobot 9 = .ok (.if_icmp .ge 44, 3) := by decide +kernel
theorem dX9_hasRobot_12 : decode cX9_hasRobot 12 = .ok (.iload_n 2, 1) := by decide +kernel
theorem dX9_hasRobot_13 : decode cX9_hasRobot 13 = .ok (.ifCond .ne 28, 3) := by decide +kernel
theorem dX9_hasRobot_16 : decode cX9_hasRobot 16 = .ok (.aload_n 0, 1) := by decide +kernel
theorem dX9_hasRobot_17 : decode cX9_hasRobot 17 = .ok (.getfield 56, 3) := by decide +kernel
theorem dX9_hasRobot_20 : decode cX9_hasRobot 20 = .ok (.iload_n 3, 1) := by decide +kernel
theorem dX9_hasRobot_21 : decode cX9_hasRobot 21 = .ok (.iaload, 1) := by decide +kernel
theorem dX9_hasRobot_22 : decode cX9_hasRobot 22 = .ok (.iconst (-1), 1) := by decide +kernel
theorem dX9_hasRobot_23 : decode cX9_hasRobot 23 = .ok (.if_icmp .eq 22, 3) := by decide +kernel
theorem dX9_hasRobot_26 : decode cX9_hasRobot 26 = .ok (.aload_n 0, 1) := by decide +kernel
theorem dX9_hasRobot_27 : decode cX9_hasRobot 27 = .ok (.getfield 38, 3) := by decide +kernel
theorem dX9_hasRobot_30 : decode cX9_hasRobot 30 = .ok (.aload_n 0, 1) := by decide +kernel
theorem dX9_hasRobot_31 : decode cX9_hasRobot 31 = .ok (.getfield 56, 3) := by decide +kernel
theorem dX9_hasRobot_34 : decode cX9_hasRobot 34 = .ok (.iload_n 3, 1) := by decide +kernel
theorem dX9_hasRobot_35 : decode cX9_hasRobot 35 = .ok (.iaload, 1) := by decide +kernel
theorem dX9_hasRobot_36 : decode cX9_hasRobot 36 = .ok (.iaload, 1) := by decide +kernel
theorem dX9_hasRobot_37 : decode cX9_hasRobot 37 = .ok (.iload_n 1, 1) := by decide +kernel
theorem dX9_hasRobot_38 : decode cX9_hasRobot 38 = .ok (.if_icmp .ne 7, 3) := by decide +kernel
theorem dX9_hasRobot_41 : decode cX9_hasRobot 41 = .ok (.iconst 1, 1) := by decide +kernel
theorem dX9_hasRobot_42 : decode cX9_hasRobot 42 = .ok (.goto 4, 3) := by decide +kernel
theorem dX9_hasRobot_45 : decode cX9_hasRobot 45 = .ok (.iconst 0, 1) := by decide +kernel
theorem dX9_hasRobot_46 : decode cX9_hasRobot 46 = .ok (.istore_n 2, 1) := by decide +kernel
theorem dX9_hasRobot_47 : decode cX9_hasRobot 47 = .ok (.iinc 3 1, 3) := by decide +kernel
theorem dX9_hasRobot_50 : decode cX9_hasRobot 50 = .ok (.goto (-46), 3) := by decide +kernel
theorem dX9_hasRobot_53 : decode cX9_hasRobot 53 = .ok (.iload_n 2, 1) := by decide +kernel
theorem dX9_hasRobot_54 : decode cX9_hasRobot 54 = .ok (.ireturn, 1) := by decide +kernel
theorem dX9_trayFor_0 : decode cX9_trayFor 0 = .ok (.iconst (-1), 1) := by decide +kernel
theorem dX9_trayFor_1 : decode cX9_trayFor 1 = .ok (.istore_n 3, 1) := by decide +kernel
theorem dX9_trayFor_2 : decode cX9_trayFor 2 = .ok (.iconst 0, 1) := by decide +kernel
theorem dX9_trayFor_3 : decode cX9_trayFor 3 = .ok (.istore 4, 2) := by decide +kernel
theorem dX9_trayFor_5 : decode cX9_trayFor 5 = .ok (.iconst 0, 1) := by decide +kernel
theorem dX9_trayFor_6 : decode cX9_trayFor 6 = .ok (.istore 5, 2) := by decide +kernel
theorem dX9_trayFor_8 : decode cX9_trayFor 8 = .ok (.iload 5, 2) := by decide +kernel
theorem dX9_trayFor_10 : decode cX9_trayFor 10 = .ok (.aload_n 0, 1) := by decide +kernel
theorem dX9_trayFor_11 : decode cX9_trayFor 11 = .ok (.getfield 109, 3) := by decide +kernel
theorem dX9_trayFor_14 : decode cX9_trayFor 14 = .ok (.if_icmp .ge 143, 3) := by decide +kernel
theorem dX9_trayFor_17 : decode cX9_trayFor 17 = .ok (.aload_n 0, 1) := by decide +kernel
theorem dX9_trayFor_18 : decode cX9_trayFor 18 = .ok (.getfield 23, 3) := by decide +kernel
theorem dX9_trayFor_21 : decode cX9_trayFor 21 = .ok (.iload 5, 2) := by decide +kernel
theorem dX9_trayFor_23 : decode cX9_trayFor 23 = .ok (.iaload, 1) := by decide +kernel
theorem dX9_trayFor_24 : decode cX9_trayFor 24 = .ok (.aload_n 0, 1) := by decide +kernel
theorem dX9_trayFor_25 : decode cX9_trayFor 25 = .ok (.getfield 32, 3) := by decide +kernel
theorem dX9_trayFor_28 : decode cX9_trayFor 28 = .ok (.iload_n 2, 1) := by decide +kernel
theorem dX9_trayFor_29 : decode cX9_trayFor 29 = .ok (.iaload, 1) := by decide +kernel
theorem dX9_trayFor_30 : decode cX9_trayFor 30 = .ok (.if_icmp .ne 39, 3) := by decide +kernel
theorem dX9_trayFor_33 : decode cX9_trayFor 33 = .ok (.aload_n 0, 1) := by decide +kernel
theorem dX9_trayFor_34 : decode cX9_trayFor 34 = .ok (.getfield 26, 3) := by decide +kernel
theorem dX9_trayFor_37 : decode cX9_trayFor 37 = .ok (.iload 5, 2) := by decide +kernel
theorem dX9_trayFor_39 : decode cX9_trayFor 39 = .ok (.iaload, 1) := by decide +kernel
theorem dX9_trayFor_40 : decode cX9_trayFor 40 = .ok (.ifCond .le 29, 3) := by decide +kernel
theorem dX9_trayFor_43 : decode cX9_trayFor 43 = .ok (.aload_n 0, 1) := by decide +kernel
theorem dX9_trayFor_44 : decode cX9_trayFor 44 = .ok (.iload 5, 2) := by decide +kernel
theorem dX9_trayFor_46 : decode cX9_trayFor 46 = .ok (.iconst 0, 1) := by decide +kernel
theorem dX9_trayFor_47 : decode cX9_trayFor 47 = .ok (.invokevirtual 149, 3) := by decide +kernel
theorem dX9_trayFor_50 : decode cX9_trayFor 50 = .ok (.iconst (-1), 1) := by decide +kernel
theorem dX9_trayFor_51 : decode cX9_trayFor 51 = .ok (.if_icmp .ne 18, 3) := by decide +kernel
theorem dX9_trayFor_54 : decode cX9_trayFor 54 = .ok (.aload_n 0, 1) := by decide +kernel
theorem dX9_trayFor_55 : decode cX9_trayFor 55 = .ok (.iload 5, 2) := by decide +kernel
theorem dX9_trayFor_57 : decode cX9_trayFor 57 = .ok (.iconst 1, 1) := by decide +kernel
theorem dX9_trayFor_58 : decode cX9_trayFor 58 = .ok (.invokevirtual 149, 3) := by decide +kernel
theorem dX9_trayFor_61 : decode cX9_trayFor 61 = .ok (.iconst (-1), 1) := by decide +kernel
theorem dX9_trayFor_62 : decode cX9_trayFor 62 = .ok (.if_icmp .ne 7, 3) := by decide +kernel
theorem dX9_trayFor_65 : decode cX9_trayFor 65 = .ok (.iconst 1, 1) := by decide +kernel
theorem dX9_trayFor_66 : decode cX9_trayFor 66 = .ok (.goto 4, 3) := by decide +kernel
theorem dX9_trayFor_69 : decode cX9_trayFor 69 = .ok (.iconst 0, 1) := by decide +kernel
theorem dX9_trayFor_70 : decode cX9_trayFor 70 = .ok (.istore 6, 2) := by decide +kernel
theorem dX9_trayFor_72 : decode cX9_trayFor 72 = .ok (.iload 6, 2) := by decide +kernel
theorem dX9_trayFor_74 : decode cX9_trayFor 74 = .ok (.ifCond .eq 23, 3) := by decide +kernel
theorem dX9_trayFor_77 : decode cX9_trayFor 77 = .ok (.aload_n 0, 1) := by decide +kernel
theorem dX9_trayFor_78 : decode cX9_trayFor 78 = .ok (.aload_n 0, 1) := by decide +kernel
theorem dX9_trayFor_79 : decode cX9_trayFor 79 = .ok (.getfield 16, 3) := by decide +kernel
theorem dX9_trayFor_82 : decode cX9_trayFor 82 = .ok (.iload_n 1, 1) := by decide +kernel
theorem dX9_trayFor_83 : decode cX9_trayFor 83 = .ok (.iaload, 1) := by decide +kernel
theorem dX9_trayFor_84 : decode cX9_trayFor 84 = .ok (.aload_n 0, 1) := by decide +kernel
theorem dX9_trayFor_85 : decode cX9_trayFor 85 = .ok (.getfield 20, 3) := by decide +kernel
theorem dX9_trayFor_88 : decode cX9_trayFor 88 = .ok (.iload 5, 2) := by decide +kernel
theorem dX9_trayFor_90 : decode cX9_trayFor 90 = .ok (.iaload, 1) := by decide +kernel
theorem dX9_trayFor_91 : decode cX9_trayFor 91 = .ok (.invokevirtual 143, 3) := by decide +kernel
theorem dX9_trayFor_94 : decode cX9_trayFor 94 = .ok (.goto 4, 3) := by decide +kernel
theorem dX9_trayFor_97 : decode cX9_trayFor 97 = .ok (.iconst (-1), 1) := by decide +kernel
theorem dX9_trayFor_98 : decode cX9_trayFor 98 = .ok (.istore 7, 2) := by decide +kernel
theorem dX9_trayFor_100 : decode cX9_trayFor 100 = .ok (.iload 7, 2) := by decide +kernel
theorem dX9_trayFor_102 : decode cX9_trayFor 102 = .ok (.iconst (-1), 1) := by decide +kernel
theorem dX9_trayFor_103 : decode cX9_trayFor 103 = .ok (.if_icmp .eq 19, 3) := by decide +kernel
theorem dX9_trayFor_106 : decode cX9_trayFor 106 = .ok (.iload_n 3, 1) := by decide +kernel
theorem dX9_trayFor_107 : decode cX9_trayFor 107 = .ok (.iconst (-1), 1) := by decide +kernel
theorem dX9_trayFor_108 : decode cX9_trayFor 108 = .ok (.if_icmp .eq 10, 3) := by decide +kernel
theorem dX9_trayFor_111 : decode cX9_trayFor 111 = .ok (.iload 7, 2) := by decide +kernel
theorem dX9_trayFor_113 : decode cX9_trayFor 113 = .ok (.iload 4, 2) := by decide +kernel
theorem dX9_trayFor_115 : decode cX9_trayFor 115 = .ok (.if_icmp .ge 7, 3) := by decide +kernel
theorem dX9_trayFor_118 : decode cX9_trayFor 118 = .ok (.iconst 1, 1) := by decide +kernel
theorem dX9_trayFor_119 : decode cX9_trayFor 119 = .ok (.goto 4, 3) := by decide +kernel
theorem dX9_trayFor_122 : decode cX9_trayFor 122 = .ok (.iconst 0, 1) := by decide +kernel
theorem dX9_trayFor_123 : decode cX9_trayFor 123 = .ok (.istore 8, 2) := by decide +kernel
theorem dX9_trayFor_125 : decode cX9_trayFor 125 = .ok (.iload 8, 2) := by decide +kernel
theorem dX9_trayFor_127 : decode cX9_trayFor 127 = .ok (.ifCond .eq 8, 3) := by decide +kernel
theorem dX9_trayFor_130 : decode cX9_trayFor 130 = .ok (.iload 5, 2) := by decide +kernel
theorem dX9_trayFor_132 : decode cX9_trayFor 132 = .ok (.goto 4, 3) := by decide +kernel
theorem dX9_trayFor_135 : decode cX9_trayFor 135 = .ok (.iload_n 3, 1) := by decide +kernel
theorem dX9_trayFor_136 : decode cX9_trayFor 136 = .ok (.istore_n 3, 1) := by decide +kernel
theorem dX9_trayFor_137 : decode cX9_trayFor 137 = .ok (.iload 8, 2) := by decide +kernel
theorem dX9_trayFor_139 : decode cX9_trayFor 139 = .ok (.ifCond .eq 8, 3) := by decide +kernel
theorem dX9_trayFor_142 : decode cX9_trayFor 142 = .ok (.iload 7, 2) := by decide +kernel
theorem dX9_trayFor_144 : decode cX9_trayFor 144 = .ok (.goto 5, 3) := by decide +kernel
theorem dX9_trayFor_147 : decode cX9_trayFor 147 = .ok (.iload 4, 2) := by decide +kernel
theorem dX9_trayFor_149 : decode cX9_trayFor 149 = .ok (.istore 4, 2) := by decide +kernel
theorem dX9_trayFor_151 : decode cX9_trayFor 151 = .ok (.iinc 5 1, 3) := by decide +kernel
theorem dX9_trayFor_154 : decode cX9_trayFor 154 = .ok (.goto (-146), 3) := by decide +kernel
theorem dX9_trayFor_157 : decode cX9_trayFor 157 = .ok (.iload_n 3, 1) := by decide +kernel
theorem dX9_trayFor_158 : decode cX9_trayFor 158 = .ok (.ireturn, 1) := by decide +kernel
theorem dX9_robotFor_0 : decode cX9_robotFor 0 = .ok (.iconst (-1), 1) := by decide +kernel
theorem dX9_robotFor_1 : decode cX9_robotFor 1 = .ok (.istore_n 2, 1) := by decide +kernel
theorem dX9_robotFor_2 : decode cX9_robotFor 2 = .ok (.iconst 0, 1) := by decide +kernel
theorem dX9_robotFor_3 : decode cX9_robotFor 3 = .ok (.istore_n 3, 1) := by decide +kernel
theorem dX9_robotFor_4 : decode cX9_robotFor 4 = .ok (.iconst 0, 1) := by decide +kernel
theorem dX9_robotFor_5 : decode cX9_robotFor 5 = .ok (.istore 4, 2) := by decide +kernel
theorem dX9_robotFor_7 : decode cX9_robotFor 7 = .ok (.iload 4, 2) := by decide +kernel
theorem dX9_robotFor_9 : decode cX9_robotFor 9 = .ok (.aload_n 0, 1) := by decide +kernel
theorem dX9_robotFor_10 : decode cX9_robotFor 10 = .ok (.getfield 103, 3) := by decide +kernel
theorem dX9_robotFor_13 : decode cX9_robotFor 13 = .ok (.if_icmp .ge 85, 3) := by decide +kernel
theorem dX9_robotFor_16 : decode cX9_robotFor 16 = .ok (.aload_n 0, 1) := by decide +kernel
theorem dX9_robotFor_17 : decode cX9_robotFor 17 = .ok (.getfield 50, 3) := by decide +kernel
theorem dX9_robotFor_20 : decode cX9_robotFor 20 = .ok (.iload 4, 2) := by decide +kernel
theorem dX9_robotFor_22 : decode cX9_robotFor 22 = .ok (.iaload, 1) := by decide +kernel
theorem dX9_robotFor_23 : decode cX9_robotFor 23 = .ok (.ifCond .ne 18, 3) := by decide +kernel
theorem dX9_robotFor_26 : decode cX9_robotFor 26 = .ok (.aload_n 0, 1) := by decide +kernel
theorem dX9_robotFor_27 : decode cX9_robotFor 27 = .ok (.aload_n 0, 1) := by decide +kernel
theorem dX9_robotFor_28 : decode cX9_robotFor 28 = .ok (.getfield 44, 3) := by decide +kernel
theorem dX9_robotFor_31 : decode cX9_robotFor 31 = .ok (.iload 4, 2) := by decide +kernel
theorem dX9_robotFor_33 : decode cX9_robotFor 33 = .ok (.iaload, 1) := by decide +kernel
theorem dX9_robotFor_34 : decode cX9_robotFor 34 = .ok (.iload_n 1, 1) := by decide +kernel
theorem dX9_robotFor_35 : decode cX9_robotFor 35 = .ok (.invokevirtual 143, 3) := by decide +kernel
theorem dX9_robotFor_38 : decode cX9_robotFor 38 = .ok (.goto 4, 3) := by decide +kernel
theorem dX9_robotFor_41 : decode cX9_robotFor 41 = .ok (.iconst (-1), 1) := by decide +kernel
theorem dX9_robotFor_42 : decode cX9_robotFor 42 = .ok (.istore 5, 2) := by decide +kernel
theorem dX9_robotFor_44 : decode cX9_robotFor 44 = .ok (.iload 5, 2) := by decide +kernel
theorem dX9_robotFor_46 : decode cX9_robotFor 46 = .ok (.iconst (-1), 1) := by decide +kernel
theorem dX9_robotFor_47 : decode cX9_robotFor 47 = .ok (.if_icmp .eq 18, 3) := by decide +kernel
theorem dX9_robotFor_50 : decode cX9_robotFor 50 = .ok (.iload_n 2, 1) := by decide +kernel
theorem dX9_robotFor_51 : decode cX9_robotFor 51 = .ok (.iconst (-1), 1) := by decide +kernel
theorem dX9_robotFor_52 : decode cX9_robotFor 52 = .ok (.if_icmp .eq 9, 3) := by decide +kernel
theorem dX9_robotFor_55 : decode cX9_robotFor 55 = .ok (.iload 5, 2) := by decide +kernel
theorem dX9_robotFor_57 : decode cX9_robotFor 57 = .ok (.iload_n 3, 1) := by decide +kernel
theorem dX9_robotFor_58 : decode cX9_robotFor 58 = .ok (.if_icmp .ge 7, 3) := by decide +kernel
theorem dX9_robotFor_61 : decode cX9_robotFor 61 = .ok (.iconst 1, 1) := by decide +kernel
theorem dX9_robotFor_62 : decode cX9_robotFor 62 = .ok (.goto 4, 3) := by decide +kernel
theorem dX9_robotFor_65 : decode cX9_robotFor 65 = .ok (.iconst 0, 1) := by decide +kernel
theorem dX9_robotFor_66 : decode cX9_robotFor 66 = .ok (.istore 6, 2) := by decide +kernel
theorem dX9_robotFor_68 : decode cX9_robotFor 68 = .ok (.iload 6, 2) := by decide +kernel
theorem dX9_robotFor_70 : decode cX9_robotFor 70 = .ok (.ifCond .eq 8, 3) := by decide +kernel
theorem dX9_robotFor_73 : decode cX9_robotFor 73 = .ok (.iload 4, 2) := by decide +kernel
theorem dX9_robotFor_75 : decode cX9_robotFor 75 = .ok (.goto 4, 3) := by decide +kernel
theorem dX9_robotFor_78 : decode cX9_robotFor 78 = .ok (.iload_n 2, 1) := by decide +kernel
theorem dX9_robotFor_79 : decode cX9_robotFor 79 = .ok (.istore_n 2, 1) := by decide +kernel
theorem dX9_robotFor_80 : decode cX9_robotFor 80 = .ok (.iload 6, 2) := by decide +kernel
theorem dX9_robotFor_82 : decode cX9_robotFor 82 = .ok (.ifCond .eq 8, 3) := by decide +kernel
theorem dX9_robotFor_85 : decode cX9_robotFor 85 = .ok (.iload 5, 2) := by decide +kernel
theorem dX9_robotFor_87 : decode cX9_robotFor 87 = .ok (.goto 4, 3) := by decide +kernel
theorem dX9_robotFor_90 : decode cX9_robotFor 90 = .ok (.iload_n 3, 1) := by decide +kernel
theorem dX9_robotFor_91 : decode cX9_robotFor 91 = .ok (.istore_n 3, 1) := by decide +kernel
theorem dX9_robotFor_92 : decode cX9_robotFor 92 = .ok (.iinc 4 1, 3) := by decide +kernel
theorem dX9_robotFor_95 : decode cX9_robotFor 95 = .ok (.goto (-88), 3) := by decide +kernel
theorem dX9_robotFor_98 : decode cX9_robotFor 98 = .ok (.iload_n 2, 1) := by decide +kernel
theorem dX9_robotFor_99 : decode cX9_robotFor 99 = .ok (.ireturn, 1) := by decide +kernel
theorem dX9_sends_0 : decode cX9_sends 0 = .ok (.aload_n 0, 1) := by decide +kernel
theorem dX9_sends_1 : decode cX9_sends 1 = .ok (.iload_n 1, 1) := by decide +kernel
theorem dX9_sends_2 : decode cX9_sends 2 = .ok (.iload_n 2, 1) := by decide +kernel
theorem dX9_sends_3 : decode cX9_sends 3 = .ok (.invokevirtual 174, 3) := by decide +kernel
theorem dX9_sends_6 : decode cX9_sends 6 = .ok (.istore_n 3, 1) := by decide +kernel
theorem dX9_sends_7 : decode cX9_sends 7 = .ok (.iload_n 3, 1) := by decide +kernel
theorem dX9_sends_8 : decode cX9_sends 8 = .ok (.iconst (-1), 1) := by decide +kernel
theorem dX9_sends_9 : decode cX9_sends 9 = .ok (.if_icmp .ne 7, 3) := by decide +kernel
theorem dX9_sends_12 : decode cX9_sends 12 = .ok (.iconst (-1), 1) := by decide +kernel
theorem dX9_sends_13 : decode cX9_sends 13 = .ok (.goto 13, 3) := by decide +kernel
theorem dX9_sends_16 : decode cX9_sends 16 = .ok (.aload_n 0, 1) := by decide +kernel
theorem dX9_sends_17 : decode cX9_sends 17 = .ok (.aload_n 0, 1) := by decide +kernel
theorem dX9_sends_18 : decode cX9_sends 18 = .ok (.getfield 20, 3) := by decide +kernel
theorem dX9_sends_21 : decode cX9_sends 21 = .ok (.iload_n 3, 1) := by decide +kernel
theorem dX9_sends_22 : decode cX9_sends 22 = .ok (.iaload, 1) := by decide +kernel
theorem dX9_sends_23 : decode cX9_sends 23 = .ok (.invokevirtual 177, 3) := by decide +kernel
theorem dX9_sends_26 : decode cX9_sends 26 = .ok (.istore 4, 2) := by decide +kernel
theorem dX9_sends_28 : decode cX9_sends 28 = .ok (.iload 4, 2) := by decide +kernel
theorem dX9_sends_30 : decode cX9_sends 30 = .ok (.iconst (-1), 1) := by decide +kernel
theorem dX9_sends_31 : decode cX9_sends 31 = .ok (.if_icmp .eq 26, 3) := by decide +kernel
theorem dX9_sends_34 : decode cX9_sends 34 = .ok (.aload_n 0, 1) := by decide +kernel
theorem dX9_sends_35 : decode cX9_sends 35 = .ok (.getfield 56, 3) := by decide +kernel
theorem dX9_sends_38 : decode cX9_sends 38 = .ok (.iload 4, 2) := by decide +kernel
theorem dX9_sends_40 : decode cX9_sends 40 = .ok (.iload_n 2, 1) := by decide +kernel
theorem dX9_sends_41 : decode cX9_sends 41 = .ok (.iastore, 1) := by decide +kernel
theorem dX9_sends_42 : decode cX9_sends 42 = .ok (.aload_n 0, 1) := by decide +kernel
theorem dX9_sends_43 : decode cX9_sends 43 = .ok (.getfield 53, 3) := by decide +kernel
theorem dX9_sends_46 : decode cX9_sends 46 = .ok (.iload 4, 2) := by decide +kernel
theorem dX9_sends_48 : decode cX9_sends 48 = .ok (.iload_n 3, 1) := by decide +kernel
theorem dX9_sends_49 : decode cX9_sends 49 = .ok (.iastore, 1) := by decide +kernel
theorem dX9_sends_50 : decode cX9_sends 50 = .ok (.aload_n 0, 1) := by decide +kernel
theorem dX9_sends_51 : decode cX9_sends 51 = .ok (.iload 4, 2) := by decide +kernel
theorem dX9_sends_53 : decode cX9_sends 53 = .ok (.iconst 1, 1) := by decide +kernel
theorem dX9_sends_54 : decode cX9_sends 54 = .ok (.invokevirtual 162, 3) := by decide +kernel
theorem dX9_sends_57 : decode cX9_sends 57 = .ok (.iload 4, 2) := by decide +kernel
theorem dX9_sends_59 : decode cX9_sends 59 = .ok (.iconst (-1), 1) := by decide +kernel
theorem dX9_sends_60 : decode cX9_sends 60 = .ok (.if_icmp .eq 7, 3) := by decide +kernel
theorem dX9_sends_63 : decode cX9_sends 63 = .ok (.iconst 1, 1) := by decide +kernel
theorem dX9_sends_64 : decode cX9_sends 64 = .ok (.goto 4, 3) := by decide +kernel
theorem dX9_sends_67 : decode cX9_sends 67 = .ok (.iconst 0, 1) := by decide +kernel
theorem dX9_sends_68 : decode cX9_sends 68 = .ok (.ireturn, 1) := by decide +kernel
theorem dX9_serves_0 : decode cX9_serves 0 = .ok (.aload_n 0, 1) := by decide +kernel
theorem dX9_serves_1 : decode cX9_serves 1 = .ok (.iload_n 1, 1) := by decide +kernel
theorem dX9_serves_2 : decode cX9_serves 2 = .ok (.invokevirtual 180, 3) := by decide +kernel
theorem dX9_serves_5 : decode cX9_serves 5 = .ok (.istore_n 2, 1) := by decide +kernel
theorem dX9_serves_6 : decode cX9_serves 6 = .ok (.iconst 0, 1) := by decide +kernel
theorem dX9_serves_7 : decode cX9_serves 7 = .ok (.istore_n 3, 1) := by decide +kernel
theorem dX9_serves_8 : decode cX9_serves 8 = .ok (.iconst 0, 1) := by decide +kernel
theorem dX9_serves_9 : decode cX9_serves 9 = .ok (.istore 4, 2) := by decide +kernel
theorem dX9_serves_11 : decode cX9_serves 11 = .ok (.iload_n 2, 1) := by decide +kernel
theorem dX9_serves_12 : decode cX9_serves 12 = .ok (.ifCond .ne 162, 3) := by decide +kernel
theorem dX9_serves_15 : decode cX9_serves 15 = .ok (.iload 4, 2) := by decide +kernel
theorem dX9_serves_17 : decode cX9_serves 17 = .ok (.iconst (-1), 1) := by decide +kernel
theorem dX9_serves_18 : decode cX9_serves 18 = .ok (.if_icmp .eq 156, 3) := by decide +kernel
theorem dX9_serves_21 : decode cX9_serves 21 = .ok (.iconst (-1), 1) := by decide +kernel
theorem dX9_serves_22 : decode cX9_serves 22 = .ok (.istore 4, 2) := by decide +kernel
theorem dX9_serves_24 : decode cX9_serves 24 = .ok (.iconst 0, 1) := by decide +kernel
theorem dX9_serves_25 : decode cX9_serves 25 = .ok (.istore 5, 2) := by decide +kernel
theorem dX9_serves_27 : decode cX9_serves 27 = .ok (.iload 5, 2) := by decide +kernel
theorem dX9_serves_29 : decode cX9_serves 29 = .ok (.bipush 30, 2) := by decide +kernel
theorem dX9_serves_31 : decode cX9_serves 31 = .ok (.if_icmp .ge 90, 3) := by decide +kernel
theorem dX9_serves_34 : decode cX9_serves 34 = .ok (.aload_n 0, 1) := by decide +kernel
theorem dX9_serves_35 : decode cX9_serves 35 = .ok (.iload 5, 2) := by decide +kernel
theorem dX9_serves_37 : decode cX9_serves 37 = .ok (.iconst 3, 1) := by decide +kernel
theorem dX9_serves_38 : decode cX9_serves 38 = .ok (.idiv, 1) := by decide +kernel
theorem dX9_serves_39 : decode cX9_serves 39 = .ok (.iload 5, 2) := by decide +kernel
theorem dX9_serves_41 : decode cX9_serves 41 = .ok (.iconst 3, 1) := by decide +kernel
theorem dX9_serves_42 : decode cX9_serves 42 = .ok (.irem, 1) := by decide +kernel
theorem dX9_serves_43 : decode cX9_serves 43 = .ok (.invokevirtual 156, 3) := by decide +kernel
theorem dX9_serves_46 : decode cX9_serves 46 = .ok (.ifCond .eq 29, 3) := by decide +kernel
theorem dX9_serves_49 : decode cX9_serves 49 = .ok (.aload_n 0, 1) := by decide +kernel
theorem dX9_serves_50 : decode cX9_serves 50 = .ok (.getfield 38, 3) := by decide +kernel
theorem dX9_serves_53 : decode cX9_serves 53 = .ok (.iload 5, 2) := by decide +kernel
theorem dX9_serves_55 : decode cX9_serves 55 = .ok (.iaload, 1) := by decide +kernel
theorem dX9_serves_56 : decode cX9_serves 56 = .ok (.iload_n 1, 1) := by decide +kernel
theorem dX9_serves_57 : decode cX9_serves 57 = .ok (.if_icmp .ne 18, 3) := by decide +kernel
theorem dX9_serves_60 : decode cX9_serves 60 = .ok (.aload_n 0, 1) := by decide +kernel
theorem dX9_serves_61 : decode cX9_serves 61 = .ok (.getfield 41, 3) := by decide +kernel
theorem dX9_serves_64 : decode cX9_serves 64 = .ok (.iload 5, 2) := by decide +kernel
theorem dX9_serves_66 : decode cX9_serves 66 = .ok (.iaload, 1) := by decide +kernel
theorem dX9_serves_67 : decode cX9_serves 67 = .ok (.iload_n 3, 1) := by decide +kernel
theorem dX9_serves_68 : decode cX9_serves 68 = .ok (.if_icmp .le 7, 3) := by decide +kernel
theorem dX9_serves_71 : decode cX9_serves 71 = .ok (.iconst 1, 1) := by decide +kernel
theorem dX9_serves_72 : decode cX9_serves 72 = .ok (.goto 4, 3) := by decide +kernel
theorem dX9_serves_75 : decode cX9_serves 75 = .ok (.iconst 0, 1) := by decide +kernel
theorem dX9_serves_76 : decode cX9_serves 76 = .ok (.istore 6, 2) := by decide +kernel
theorem dX9_serves_78 : decode cX9_serves 78 = .ok (.iload 6, 2) := by decide +kernel
theorem dX9_serves_80 : decode cX9_serves 80 = .ok (.ifCond .eq 31, 3) := by decide +kernel
theorem dX9_serves_83 : decode cX9_serves 83 = .ok (.iload 4, 2) := by decide +kernel
theorem dX9_serves_85 : decode cX9_serves 85 = .ok (.iconst (-1), 1) := by decide +kernel
theorem dX9_serves_86 : decode cX9_serves 86 = .ok (.if_icmp .eq 20, 3) := by decide +kernel
theorem dX9_serves_89 : decode cX9_serves 89 = .ok (.aload_n 0, 1) := by decide +kernel
theorem dX9_serves_90 : decode cX9_serves 90 = .ok (.getfield 41, 3) := by decide +kernel
theorem dX9_serves_93 : decode cX9_serves 93 = .ok (.iload 5, 2) := by decide +kernel
theorem dX9_serves_95 : decode cX9_serves 95 = .ok (.iaload, 1) := by decide +kernel
theorem dX9_serves_96 : decode cX9_serves 96 = .ok (.aload_n 0, 1) := by decide +kernel
theorem dX9_serves_97 : decode cX9_serves 97 = .ok (.getfield 41, 3) := by decide +kernel
theorem dX9_serves_100 : decode cX9_serves 100 = .ok (.iload 4, 2) := by decide +kernel
theorem dX9_serves_102 : decode cX9_serves 102 = .ok (.iaload, 1) := by decide +kernel
theorem dX9_serves_103 : decode cX9_serves 103 = .ok (.if_icmp .ge 8, 3) := by decide +kernel
theorem dX9_serves_106 : decode cX9_serves 106 = .ok (.iload 5, 2) := by decide +kernel
theorem dX9_serves_108 : decode cX9_serves 108 = .ok (.goto 5, 3) := by decide +kernel
theorem dX9_serves_111 : decode cX9_serves 111 = .ok (.iload 4, 2) := by decide +kernel
theorem dX9_serves_113 : decode cX9_serves 113 = .ok (.istore 4, 2) := by decide +kernel
theorem dX9_serves_115 : decode cX9_serves 115 = .ok (.iinc 5 1, 3) := by decide +kernel
theorem dX9_serves_118 : decode cX9_serves 118 = .ok (.goto (-91), 3) := by decide +kernel
theorem dX9_serves_121 : decode cX9_serves 121 = .ok (.iload 4, 2) := by decide +kernel
theorem dX9_serves_123 : decode cX9_serves 123 = .ok (.iconst (-1), 1) := by decide +kernel
theorem dX9_serves_124 : decode cX9_serves 124 = .ok (.if_icmp .ne 7, 3) := by decide +kernel
theorem dX9_serves_127 : decode cX9_serves 127 = .ok (.iload_n 3, 1) := by decide +kernel
theorem dX9_serves_128 : decode cX9_serves 128 = .ok (.goto 10, 3) := by decide +kernel
theorem dX9_serves_131 : decode cX9_serves 131 = .ok (.aload_n 0, 1) := by decide +kernel
theorem dX9_serves_132 : decode cX9_serves 132 = .ok (.getfield 41, 3) := by decide +kernel
theorem dX9_serves_135 : decode cX9_serves 135 = .ok (.iload 4, 2) := by decide +kernel
theorem dX9_serves_137 : decode cX9_serves 137 = .ok (.iaload, 1) := by decide +kernel
theorem dX9_serves_138 : decode cX9_serves 138 = .ok (.istore_n 3, 1) := by decide +kernel
theorem dX9_serves_139 : decode cX9_serves 139 = .ok (.iload 4, 2) := by decide +kernel
theorem dX9_serves_141 : decode cX9_serves 141 = .ok (.iconst (-1), 1) := by decide +kernel
theorem dX9_serves_142 : decode cX9_serves 142 = .ok (.if_icmp .eq 27, 3) := by decide +kernel
theorem dX9_serves_145 : decode cX9_serves 145 = .ok (.aload_n 0, 1) := by decide +kernel
theorem dX9_serves_146 : decode cX9_serves 146 = .ok (.getfield 35, 3) := by decide +kernel
theorem dX9_serves_149 : decode cX9_serves 149 = .ok (.iload 4, 2) := by decide +kernel
theorem dX9_serves_151 : decode cX9_serves 151 = .ok (.iaload, 1) := by decide +kernel
theorem dX9_serves_152 : decode cX9_serves 152 = .ok (.ifCond .le 17, 3) := by decide +kernel
theorem dX9_serves_155 : decode cX9_serves 155 = .ok (.aload_n 0, 1) := by decide +kernel
theorem dX9_serves_156 : decode cX9_serves 156 = .ok (.iload_n 1, 1) := by decide +kernel
theorem dX9_serves_157 : decode cX9_serves 157 = .ok (.iload 4, 2) := by decide +kernel
theorem dX9_serves_159 : decode cX9_serves 159 = .ok (.invokevirtual 183, 3) := by decide +kernel
theorem dX9_serves_162 : decode cX9_serves 162 = .ok (.ifCond .eq 7, 3) := by decide +kernel
theorem dX9_serves_165 : decode cX9_serves 165 = .ok (.iconst 1, 1) := by decide +kernel
theorem dX9_serves_166 : decode cX9_serves 166 = .ok (.goto 4, 3) := by decide +kernel
theorem dX9_serves_169 : decode cX9_serves 169 = .ok (.iconst 0, 1) := by decide +kernel
theorem dX9_serves_170 : decode cX9_serves 170 = .ok (.istore_n 2, 1) := by decide +kernel
theorem dX9_serves_171 : decode cX9_serves 171 = .ok (.goto (-160), 3) := by decide +kernel
theorem dX9_serves_174 : decode cX9_serves 174 = .ok (.return_, 1) := by decide +kernel
theorem dX9_goalOf_0 : decode cX9_goalOf 0 = .ok (.aload_n 0, 1) := by decide +kernel
theorem dX9_goalOf_1 : decode cX9_goalOf 1 = .ok (.getfield 50, 3) := by decide +kernel
theorem dX9_goalOf_4 : decode cX9_goalOf 4 = .ok (.iload_n 1, 1) := by decide +kernel
theorem dX9_goalOf_5 : decode cX9_goalOf 5 = .ok (.iaload, 1) := by decide +kernel
theorem dX9_goalOf_6 : decode cX9_goalOf 6 = .ok (.istore_n 2, 1) := by decide +kernel
theorem dX9_goalOf_7 : decode cX9_goalOf 7 = .ok (.iload_n 2, 1) := by decide +kernel
theorem dX9_goalOf_8 : decode cX9_goalOf 8 = .ok (.iconst 2, 1) := by decide +kernel
theorem dX9_goalOf_9 : decode cX9_goalOf 9 = .ok (.if_icmp .ne 22, 3) := by decide +kernel
theorem dX9_goalOf_12 : decode cX9_goalOf 12 = .ok (.aload_n 0, 1) := by decide +kernel
theorem dX9_goalOf_13 : decode cX9_goalOf 13 = .ok (.getfield 16, 3) := by decide +kernel
theorem dX9_goalOf_16 : decode cX9_goalOf 16 = .ok (.aload_n 0, 1) := by decide +kernel
theorem dX9_goalOf_17 : decode cX9_goalOf 17 = .ok (.getfield 38, 3) := by decide +kernel
theorem dX9_goalOf_20 : decode cX9_goalOf 20 = .ok (.aload_n 0, 1) := by decide +kernel
theorem dX9_goalOf_21 : decode cX9_goalOf 21 = .ok (.getfield 56, 3) := by decide +kernel
theorem dX9_goalOf_24 : decode cX9_goalOf 24 = .ok (.iload_n 1, 1) := by decide +kernel
theorem dX9_goalOf_25 : decode cX9_goalOf 25 = .ok (.iaload, 1) := by decide +kernel
theorem dX9_goalOf_26 : decode cX9_goalOf 26 = .ok (.iaload, 1) := by decide +kernel
theorem dX9_goalOf_27 : decode cX9_goalOf 27 = .ok (.iaload, 1) := by decide +kernel
theorem dX9_goalOf_28 : decode cX9_goalOf 28 = .ok (.goto 28, 3) := by decide +kernel
theorem dX9_goalOf_31 : decode cX9_goalOf 31 = .ok (.iload_n 2, 1) := by decide +kernel
theorem dX9_goalOf_32 : decode cX9_goalOf 32 = .ok (.iconst 1, 1) := by decide +kernel
theorem dX9_goalOf_33 : decode cX9_goalOf 33 = .ok (.if_icmp .eq 8, 3) := by decide +kernel
theorem dX9_goalOf_36 : decode cX9_goalOf 36 = .ok (.iload_n 2, 1) := by decide +kernel
theorem dX9_goalOf_37 : decode cX9_goalOf 37 = .ok (.iconst 4, 1) := by decide +kernel
theorem dX9_goalOf_38 : decode cX9_goalOf 38 = .ok (.if_icmp .ne 17, 3) := by decide +kernel
theorem dX9_goalOf_41 : decode cX9_goalOf 41 = .ok (.aload_n 0, 1) := by decide +kernel
theorem dX9_goalOf_42 : decode cX9_goalOf 42 = .ok (.getfield 20, 3) := by decide +kernel
theorem dX9_goalOf_45 : decode cX9_goalOf 45 = .ok (.aload_n 0, 1) := by decide +kernel
theorem dX9_goalOf_46 : decode cX9_goalOf 46 = .ok (.getfield 53, 3) := by decide +kernel
theorem dX9_goalOf_49 : decode cX9_goalOf 49 = .ok (.iload_n 1, 1) := by decide +kernel
theorem dX9_goalOf_50 : decode cX9_goalOf 50 = .ok (.iaload, 1) := by decide +kernel
theorem dX9_goalOf_51 : decode cX9_goalOf 51 = .ok (.iaload, 1) := by decide +kernel
theorem dX9_goalOf_52 : decode cX9_goalOf 52 = .ok (.goto 4, 3) := by decide +kernel
theorem dX9_goalOf_55 : decode cX9_goalOf 55 = .ok (.iconst (-1), 1) := by decide +kernel
theorem dX9_goalOf_56 : decode cX9_goalOf 56 = .ok (.ireturn, 1) := by decide +kernel
theorem dX9_asksFor_0 : decode cX9_asksFor 0 = .ok (.aload_n 0, 1) := by decide +kernel
theorem dX9_asksFor_1 : decode cX9_asksFor 1 = .ok (.iload_n 1, 1) := by decide +kernel
theorem dX9_asksFor_2 : decode cX9_asksFor 2 = .ok (.invokevirtual 186, 3) := by decide +kernel
theorem dX9_asksFor_5 : decode cX9_asksFor 5 = .ok (.istore_n 2, 1) := by decide +kernel
theorem dX9_asksFor_6 : decode cX9_asksFor 6 = .ok (.aload_n 0, 1) := by decide +kernel
theorem dX9_asksFor_7 : decode cX9_asksFor 7 = .ok (.getfield 62, 3) := by decide +kernel
theorem dX9_asksFor_10 : decode cX9_asksFor 10 = .ok (.iload_n 1, 1) := by decide +kernel
theorem dX9_asksFor_11 : decode cX9_asksFor 11 = .ok (.iaload, 1) := by decide +kernel
theorem dX9_asksFor_12 : decode cX9_asksFor 12 = .ok (.istore_n 3, 1) := by decide +kernel
theorem dX9_asksFor_13 : decode cX9_asksFor 13 = .ok (.aload_n 0, 1) := by decide +kernel
theorem dX9_asksFor_14 : decode cX9_asksFor 14 = .ok (.getfield 62, 3) := by decide +kernel
theorem dX9_asksFor_17 : decode cX9_asksFor 17 = .ok (.iload_n 1, 1) := by decide +kernel
theorem dX9_asksFor_18 : decode cX9_asksFor 18 = .ok (.iconst (-1), 1) := by decide +kernel
theorem dX9_asksFor_19 : decode cX9_asksFor 19 = .ok (.iastore, 1) := by decide +kernel
theorem dX9_asksFor_20 : decode cX9_asksFor 20 = .ok (.iload_n 2, 1) := by decide +kernel
theorem dX9_asksFor_21 : decode cX9_asksFor 21 = .ok (.iconst (-1), 1) := by decide +kernel
theorem dX9_asksFor_22 : decode cX9_asksFor 22 = .ok (.if_icmp .eq 128, 3) := by decide +kernel
theorem dX9_asksFor_25 : decode cX9_asksFor 25 = .ok (.iload_n 2, 1) := by decide +kernel
theorem dX9_asksFor_26 : decode cX9_asksFor 26 = .ok (.aload_n 0, 1) := by decide +kernel
theorem dX9_asksFor_27 : decode cX9_asksFor 27 = .ok (.getfield 44, 3) := by decide +kernel
theorem dX9_asksFor_30 : decode cX9_asksFor 30 = .ok (.iload_n 1, 1) := by decide +kernel
theorem dX9_asksFor_31 : decode cX9_asksFor 31 = .ok (.iaload, 1) := by decide +kernel
theorem dX9_asksFor_32 : decode cX9_asksFor 32 = .ok (.if_icmp .eq 118, 3) := by decide +kernel
theorem dX9_asksFor_35 : decode cX9_asksFor 35 = .ok (.aload_n 0, 1) := by decide +kernel
theorem dX9_asksFor_36 : decode cX9_asksFor 36 = .ok (.iload_n 2, 1) := by decide +kernel
theorem dX9_asksFor_37 : decode cX9_asksFor 37 = .ok (.aload_n 0, 1) := by decide +kernel
theorem dX9_asksFor_38 : decode cX9_asksFor 38 = .ok (.getfield 59, 3) := by decide +kernel
theorem dX9_asksFor_41 : decode cX9_asksFor 41 = .ok (.iload_n 1, 1) := by decide +kernel
theorem dX9_asksFor_42 : decode cX9_asksFor 42 = .ok (.iaload, 1) := by decide +kernel
theorem dX9_asksFor_43 : decode cX9_asksFor 43 = .ok (.invokevirtual 124, 3) := by decide +kernel
theorem dX9_asksFor_46 : decode cX9_asksFor 46 = .ok (.aload_n 0, 1) := by decide +kernel
theorem dX9_asksFor_47 : decode cX9_asksFor 47 = .ok (.getfield 62, 3) := by decide +kernel
theorem dX9_asksFor_50 : decode cX9_asksFor 50 = .ok (.iload_n 1, 1) := by decide +kernel
theorem dX9_asksFor_51 : decode cX9_asksFor 51 = .ok (.aload_n 0, 1) := by decide +kernel
theorem dX9_asksFor_52 : decode cX9_asksFor 52 = .ok (.aload_n 0, 1) := by decide +kernel
theorem dX9_asksFor_53 : decode cX9_asksFor 53 = .ok (.getfield 44, 3) := by decide +kernel
theorem dX9_asksFor_56 : decode cX9_asksFor 56 = .ok (.iload_n 1, 1) := by decide +kernel
theorem dX9_asksFor_57 : decode cX9_asksFor 57 = .ok (.iaload, 1) := by decide +kernel
theorem dX9_asksFor_58 : decode cX9_asksFor 58 = .ok (.invokevirtual 128, 3) := by decide +kernel
theorem dX9_asksFor_61 : decode cX9_asksFor 61 = .ok (.iastore, 1) := by decide +kernel
theorem dX9_asksFor_62 : decode cX9_asksFor 62 = .ok (.aload_n 0, 1) := by decide +kernel
theorem dX9_asksFor_63 : decode cX9_asksFor 63 = .ok (.getfield 62, 3) := by decide +kernel
theorem dX9_asksFor_66 : decode cX9_asksFor 66 = .ok (.iload_n 1, 1) := by decide +kernel
theorem dX9_asksFor_67 : decode cX9_asksFor 67 = .ok (.iaload, 1) := by decide +kernel
theorem dX9_asksFor_68 : decode cX9_asksFor 68 = .ok (.iconst (-1), 1) := by decide +kernel
theorem dX9_asksFor_69 : decode cX9_asksFor 69 = .ok (.if_icmp .ne 42, 3) := by decide +kernel
theorem dX9_asksFor_72 : decode cX9_asksFor 72 = .ok (.aload_n 0, 1) := by decide +kernel
theorem dX9_asksFor_73 : decode cX9_asksFor 73 = .ok (.getfield 59, 3) := by decide +kernel
theorem dX9_asksFor_76 : decode cX9_asksFor 76 = .ok (.iload_n 1, 1) := by decide +kernel
theorem dX9_asksFor_77 : decode cX9_asksFor 77 = .ok (.iaload, 1) := by decide +kernel
theorem dX9_asksFor_78 : decode cX9_asksFor 78 = .ok (.iconst (-1), 1) := by decide +kernel
theorem dX9_asksFor_79 : decode cX9_asksFor 79 = .ok (.if_icmp .eq 32, 3) := by decide +kernel
theorem dX9_asksFor_82 : decode cX9_asksFor 82 = .ok (.aload_n 0, 1) := by decide +kernel
theorem dX9_asksFor_83 : decode cX9_asksFor 83 = .ok (.getfield 59, 3) := by decide +kernel
theorem dX9_asksFor_86 : decode cX9_asksFor 86 = .ok (.iload_n 1, 1) := by decide +kernel
theorem dX9_asksFor_87 : decode cX9_asksFor 87 = .ok (.iconst (-1), 1) := by decide +kernel
theorem dX9_asksFor_88 : decode cX9_asksFor 88 = .ok (.iastore, 1) := by decide +kernel
theorem dX9_asksFor_89 : decode cX9_asksFor 89 = .ok (.aload_n 0, 1) := by decide +kernel
theorem dX9_asksFor_90 : decode cX9_asksFor 90 = .ok (.iload_n 2, 1) := by decide +kernel
theorem dX9_asksFor_91 : decode cX9_asksFor 91 = .ok (.iconst (-1), 1) := by decide +kernel
theorem dX9_asksFor_92 : decode cX9_asksFor 92 = .ok (.invokevirtual 124, 3) := by decide +kernel
theorem dX9_asksFor_95 : decode cX9_asksFor 95 = .ok (.aload_n 0, 1) := by decide +kernel
theorem dX9_asksFor_96 : decode cX9_asksFor 96 = .ok (.getfield 62, 3) := by decide +kernel
theorem dX9_asksFor_99 : decode cX9_asksFor 99 = .ok (.iload_n 1, 1) := by decide +kernel
theorem dX9_asksFor_100 : decode cX9_asksFor 100 = .ok (.aload_n 0, 1) := by decide +kernel
theorem dX9_asksFor_101 : decode cX9_asksFor 101 = .ok (.aload_n 0, 1) := by decide +kernel
theorem dX9_asksFor_102 : decode cX9_asksFor 102 = .ok (.getfield 44, 3) := by decide +kernel
theorem dX9_asksFor_105 : decode cX9_asksFor 105 = .ok (.iload_n 1, 1) := by decide +kernel
theorem dX9_asksFor_106 : decode cX9_asksFor 106 = .ok (.iaload, 1) := by decide +kernel
theorem dX9_asksFor_107 : decode cX9_asksFor 107 = .ok (.invokevirtual 128, 3) := by decide +kernel
theorem dX9_asksFor_110 : decode cX9_asksFor 110 = .ok (.iastore, 1) := by decide +kernel
theorem dX9_asksFor_111 : decode cX9_asksFor 111 = .ok (.aload_n 0, 1) := by decide +kernel
theorem dX9_asksFor_112 : decode cX9_asksFor 112 = .ok (.getfield 65, 3) := by decide +kernel
theorem dX9_asksFor_115 : decode cX9_asksFor 115 = .ok (.iload_n 1, 1) := by decide +kernel
theorem dX9_asksFor_116 : decode cX9_asksFor 116 = .ok (.aload_n 0, 1) := by decide +kernel
theorem dX9_asksFor_117 : decode cX9_asksFor 117 = .ok (.getfield 62, 3) := by decide +kernel
theorem dX9_asksFor_120 : decode cX9_asksFor 120 = .ok (.iload_n 1, 1) := by decide +kernel
theorem dX9_asksFor_121 : decode cX9_asksFor 121 = .ok (.iaload, 1) := by decide +kernel
theorem dX9_asksFor_122 : decode cX9_asksFor 122 = .ok (.iconst (-1), 1) := by decide +kernel
theorem dX9_asksFor_123 : decode cX9_asksFor 123 = .ok (.if_icmp .eq 22, 3) := by decide +kernel
theorem dX9_asksFor_126 : decode cX9_asksFor 126 = .ok (.aload_n 0, 1) := by decide +kernel
theorem dX9_asksFor_127 : decode cX9_asksFor 127 = .ok (.getfield 62, 3) := by decide +kernel
theorem dX9_asksFor_130 : decode cX9_asksFor 130 = .ok (.iload_n 1, 1) := by decide +kernel
theorem dX9_asksFor_131 : decode cX9_asksFor 131 = .ok (.iaload, 1) := by decide +kernel
theorem dX9_asksFor_132 : decode cX9_asksFor 132 = .ok (.iload_n 3, 1) := by decide +kernel
theorem dX9_asksFor_133 : decode cX9_asksFor 133 = .ok (.if_icmp .ne 12, 3) := by decide +kernel
theorem dX9_asksFor_136 : decode cX9_asksFor 136 = .ok (.aload_n 0, 1) := by decide +kernel
theorem dX9_asksFor_137 : decode cX9_asksFor 137 = .ok (.getfield 65, 3) := by decide +kernel
theorem dX9_asksFor_140 : decode cX9_asksFor 140 = .ok (.iload_n 1, 1) := by decide +kernel
theorem dX9_asksFor_141 : decode cX9_asksFor 141 = .ok (.iaload, 1) := by decide +kernel
theorem dX9_asksFor_142 : decode cX9_asksFor 142 = .ok (.goto 7, 3) := by decide +kernel
theorem dX9_asksFor_145 : decode cX9_asksFor 145 = .ok (.aload_n 0, 1) := by decide +kernel
theorem dX9_asksFor_146 : decode cX9_asksFor 146 = .ok (.getfield 171, 3) := by decide +kernel
theorem dX9_asksFor_149 : decode cX9_asksFor 149 = .ok (.iastore, 1) := by decide +kernel
theorem dX9_asksFor_150 : decode cX9_asksFor 150 = .ok (.return_, 1) := by decide +kernel
theorem dX9_moves_0 : decode cX9_moves 0 = .ok (.aload_n 0, 1) := by decide +kernel
theorem dX9_moves_1 : decode cX9_moves 1 = .ok (.getfield 44, 3) := by decide +kernel
theorem dX9_moves_4 : decode cX9_moves 4 = .ok (.iload_n 1, 1) := by decide +kernel
theorem dX9_moves_5 : decode cX9_moves 5 = .ok (.iload_n 2, 1) := by decide +kernel
theorem dX9_moves_6 : decode cX9_moves 6 = .ok (.iastore, 1) := by decide +kernel
theorem dX9_moves_7 : decode cX9_moves 7 = .ok (.aload_n 0, 1) := by decide +kernel
theorem dX9_moves_8 : decode cX9_moves 8 = .ok (.getfield 62, 3) := by decide +kernel
theorem dX9_moves_11 : decode cX9_moves 11 = .ok (.iload_n 1, 1) := by decide +kernel
theorem dX9_moves_12 : decode cX9_moves 12 = .ok (.iconst (-1), 1) := by decide +kernel
theorem dX9_moves_13 : decode cX9_moves 13 = .ok (.iastore, 1) := by decide +kernel
theorem dX9_moves_14 : decode cX9_moves 14 = .ok (.aload_n 0, 1) := by decide +kernel
theorem dX9_moves_15 : decode cX9_moves 15 = .ok (.getfield 59, 3) := by decide +kernel
theorem dX9_moves_18 : decode cX9_moves 18 = .ok (.iload_n 1, 1) := by decide +kernel
theorem dX9_moves_19 : decode cX9_moves 19 = .ok (.iconst (-1), 1) := by decide +kernel
theorem dX9_moves_20 : decode cX9_moves 20 = .ok (.iastore, 1) := by decide +kernel
theorem dX9_moves_21 : decode cX9_moves 21 = .ok (.aload_n 0, 1) := by decide +kernel
theorem dX9_moves_22 : decode cX9_moves 22 = .ok (.dup, 1) := by decide +kernel
theorem dX9_moves_23 : decode cX9_moves 23 = .ok (.getfield 189, 3) := by decide +kernel
theorem dX9_moves_26 : decode cX9_moves 26 = .ok (.iconst 1, 1) := by decide +kernel
theorem dX9_moves_27 : decode cX9_moves 27 = .ok (.iadd, 1) := by decide +kernel
theorem dX9_moves_28 : decode cX9_moves 28 = .ok (.putfield 189, 3) := by decide +kernel
theorem dX9_moves_31 : decode cX9_moves 31 = .ok (.return_, 1) := by decide +kernel
theorem dX9_nextOf_0 : decode cX9_nextOf 0 = .ok (.aload_n 0, 1) := by decide +kernel
theorem dX9_nextOf_1 : decode cX9_nextOf 1 = .ok (.getfield 62, 3) := by decide +kernel
theorem dX9_nextOf_4 : decode cX9_nextOf 4 = .ok (.iload_n 1, 1) := by decide +kernel
theorem dX9_nextOf_5 : decode cX9_nextOf 5 = .ok (.iaload, 1) := by decide +kernel
theorem dX9_nextOf_6 : decode cX9_nextOf 6 = .ok (.iconst (-1), 1) := by decide +kernel
theorem dX9_nextOf_7 : decode cX9_nextOf 7 = .ok (.if_icmp .ne 7, 3) := by decide +kernel
theorem dX9_nextOf_10 : decode cX9_nextOf 10 = .ok (.iconst (-1), 1) := by decide +kernel
theorem dX9_nextOf_11 : decode cX9_nextOf 11 = .ok (.goto 13, 3) := by decide +kernel
theorem dX9_nextOf_14 : decode cX9_nextOf 14 = .ok (.aload_n 0, 1) := by decide +kernel
theorem dX9_nextOf_15 : decode cX9_nextOf 15 = .ok (.aload_n 0, 1) := by decide +kernel
theorem dX9_nextOf_16 : decode cX9_nextOf 16 = .ok (.getfield 62, 3) := by decide +kernel
theorem dX9_nextOf_19 : decode cX9_nextOf 19 = .ok (.iload_n 1, 1) := by decide +kernel
theorem dX9_nextOf_20 : decode cX9_nextOf 20 = .ok (.iaload, 1) := by decide +kernel
theorem dX9_nextOf_21 : decode cX9_nextOf 21 = .ok (.invokevirtual 112, 3) := by decide +kernel
theorem dX9_nextOf_24 : decode cX9_nextOf 24 = .ok (.ireturn, 1) := by decide +kernel
theorem dX9_ringOf_0 : decode cX9_ringOf 0 = .ok (.iconst 1, 1) := by decide +kernel
theorem dX9_ringOf_1 : decode cX9_ringOf 1 = .ok (.istore_n 2, 1) := by decide +kernel
theorem dX9_ringOf_2 : decode cX9_ringOf 2 = .ok (.aload_n 0, 1) := by decide +kernel
theorem dX9_ringOf_3 : decode cX9_ringOf 3 = .ok (.iload_n 1, 1) := by decide +kernel
theorem dX9_ringOf_4 : decode cX9_ringOf 4 = .ok (.invokevirtual 192, 3) := by decide +kernel
theorem dX9_ringOf_7 : decode cX9_ringOf 7 = .ok (.istore_n 3, 1) := by decide +kernel
theorem dX9_ringOf_8 : decode cX9_ringOf 8 = .ok (.iload_n 3, 1) := by decide +kernel
theorem dX9_ringOf_9 : decode cX9_ringOf 9 = .ok (.iload_n 1, 1) := by decide +kernel
theorem dX9_ringOf_10 : decode cX9_ringOf 10 = .ok (.if_icmp .le 21, 3) := by decide +kernel
theorem dX9_ringOf_13 : decode cX9_ringOf 13 = .ok (.iload_n 2, 1) := by decide +kernel
theorem dX9_ringOf_14 : decode cX9_ringOf 14 = .ok (.bipush 6, 2) := by decide +kernel
theorem dX9_ringOf_16 : decode cX9_ringOf 16 = .ok (.if_icmp .ge 15, 3) := by decide +kernel
theorem dX9_ringOf_19 : decode cX9_ringOf 19 = .ok (.aload_n 0, 1) := by decide +kernel
theorem dX9_ringOf_20 : decode cX9_ringOf 20 = .ok (.iload_n 3, 1) := by decide +kernel
theorem dX9_ringOf_21 : decode cX9_ringOf 21 = .ok (.invokevirtual 192, 3) := by decide +kernel
theorem dX9_ringOf_24 : decode cX9_ringOf 24 = .ok (.istore_n 3, 1) := by decide +kernel
theorem dX9_ringOf_25 : decode cX9_ringOf 25 = .ok (.iinc 2 1, 3) := by decide +kernel
theorem dX9_ringOf_28 : decode cX9_ringOf 28 = .ok (.goto (-20), 3) := by decide +kernel
theorem dX9_ringOf_31 : decode cX9_ringOf 31 = .ok (.iload_n 3, 1) := by decide +kernel
theorem dX9_ringOf_32 : decode cX9_ringOf 32 = .ok (.iload_n 1, 1) := by decide +kernel
theorem dX9_ringOf_33 : decode cX9_ringOf 33 = .ok (.if_icmp .ne 7, 3) := by decide +kernel
theorem dX9_ringOf_36 : decode cX9_ringOf 36 = .ok (.iload_n 2, 1) := by decide +kernel
theorem dX9_ringOf_37 : decode cX9_ringOf 37 = .ok (.goto 4, 3) := by decide +kernel
theorem dX9_ringOf_40 : decode cX9_ringOf 40 = .ok (.iconst 0, 1) := by decide +kernel
theorem dX9_ringOf_41 : decode cX9_ringOf 41 = .ok (.ireturn, 1) := by decide +kernel
theorem dX9_isAbove_0 : decode cX9_isAbove 0 = .ok (.aload_n 0, 1) := by decide +kernel
theorem dX9_isAbove_1 : decode cX9_isAbove 1 = .ok (.getfield 47, 3) := by decide +kernel
theorem dX9_isAbove_4 : decode cX9_isAbove 4 = .ok (.iload_n 1, 1) := by decide +kernel
theorem dX9_isAbove_5 : decode cX9_isAbove 5 = .ok (.iaload, 1) := by decide +kernel
theorem dX9_isAbove_6 : decode cX9_isAbove 6 = .ok (.aload_n 0, 1) := by decide +kernel
theorem dX9_isAbove_7 : decode cX9_isAbove 7 = .ok (.getfield 47, 3) := by decide +kernel
theorem dX9_isAbove_10 : decode cX9_isAbove 10 = .ok (.iload_n 2, 1) := by decide +kernel
theorem dX9_isAbove_11 : decode cX9_isAbove 11 = .ok (.iaload, 1) := by decide +kernel
theorem dX9_isAbove_12 : decode cX9_isAbove 12 = .ok (.if_icmp .gt 23, 3) := by decide +kernel
theorem dX9_isAbove_15 : decode cX9_isAbove 15 = .ok (.aload_n 0, 1) := by decide +kernel
theorem dX9_isAbove_16 : decode cX9_isAbove 16 = .ok (.getfield 47, 3) := by decide +kernel
theorem dX9_isAbove_19 : decode cX9_isAbove 19 = .ok (.iload_n 1, 1) := by decide +kernel
theorem dX9_isAbove_20 : decode cX9_isAbove 20 = .ok (.iaload, 1) := by decide +kernel
theorem dX9_isAbove_21 : decode cX9_isAbove 21 = .ok (.aload_n 0, 1) := by decide +kernel
theorem dX9_isAbove_22 : decode cX9_isAbove 22 = .ok (.getfield 47, 3) := by decide +kernel
theorem dX9_isAbove_25 : decode cX9_isAbove 25 = .ok (.iload_n 2, 1) := by decide +kernel
theorem dX9_isAbove_26 : decode cX9_isAbove 26 = .ok (.iaload, 1) := by decide +kernel
theorem dX9_isAbove_27 : decode cX9_isAbove 27 = .ok (.if_icmp .ne 12, 3) := by decide +kernel
theorem dX9_isAbove_30 : decode cX9_isAbove 30 = .ok (.iload_n 1, 1) := by decide +kernel
theorem dX9_isAbove_31 : decode cX9_isAbove 31 = .ok (.iload_n 2, 1) := by decide +kernel
theorem dX9_isAbove_32 : decode cX9_isAbove 32 = .ok (.if_icmp .ge 7, 3) := by decide +kernel
theorem dX9_isAbove_35 : decode cX9_isAbove 35 = .ok (.iconst 1, 1) := by decide +kernel
theorem dX9_isAbove_36 : decode cX9_isAbove 36 = .ok (.goto 4, 3) := by decide +kernel
theorem dX9_isAbove_39 : decode cX9_isAbove 39 = .ok (.iconst 0, 1) := by decide +kernel
theorem dX9_isAbove_40 : decode cX9_isAbove 40 = .ok (.ireturn, 1) := by decide +kernel
theorem dX9_yieldsTo_0 : decode cX9_yieldsTo 0 = .ok (.aload_n 0, 1) := by decide +kernel
theorem dX9_yieldsTo_1 : decode cX9_yieldsTo 1 = .ok (.aload_n 0, 1) := by decide +kernel
theorem dX9_yieldsTo_2 : decode cX9_yieldsTo 2 = .ok (.iload_n 1, 1) := by decide +kernel
theorem dX9_yieldsTo_3 : decode cX9_yieldsTo 3 = .ok (.invokevirtual 186, 3) := by decide +kernel
theorem dX9_yieldsTo_6 : decode cX9_yieldsTo 6 = .ok (.aload_n 0, 1) := by decide +kernel
theorem dX9_yieldsTo_7 : decode cX9_yieldsTo 7 = .ok (.getfield 44, 3) := by decide +kernel
theorem dX9_yieldsTo_10 : decode cX9_yieldsTo 10 = .ok (.iload_n 2, 1) := by decide +kernel
theorem dX9_yieldsTo_11 : decode cX9_yieldsTo 11 = .ok (.iaload, 1) := by decide +kernel
theorem dX9_yieldsTo_12 : decode cX9_yieldsTo 12 = .ok (.invokevirtual 124, 3) := by decide +kernel
theorem dX9_yieldsTo_15 : decode cX9_yieldsTo 15 = .ok (.aload_n 0, 1) := by decide +kernel
theorem dX9_yieldsTo_16 : decode cX9_yieldsTo 16 = .ok (.aload_n 0, 1) := by decide +kernel
theorem dX9_yieldsTo_17 : decode cX9_yieldsTo 17 = .ok (.getfield 44, 3) := by decide +kernel
theorem dX9_yieldsTo_20 : decode cX9_yieldsTo 20 = .ok (.iload_n 1, 1) := by decide +kernel
theorem dX9_yieldsTo_21 : decode cX9_yieldsTo 21 = .ok (.iaload, 1) := by decide +kernel
theorem dX9_yieldsTo_22 : decode cX9_yieldsTo 22 = .ok (.invokevirtual 128, 3) := by decide +kernel
theorem dX9_yieldsTo_25 : decode cX9_yieldsTo 25 = .ok (.iconst (-1), 1) := by decide +kernel
theorem dX9_yieldsTo_26 : decode cX9_yieldsTo 26 = .ok (.if_icmp .eq 7, 3) := by decide +kernel
theorem dX9_yieldsTo_29 : decode cX9_yieldsTo 29 = .ok (.iconst 1, 1) := by decide +kernel
theorem dX9_yieldsTo_30 : decode cX9_yieldsTo 30 = .ok (.goto 4, 3) := by decide +kernel
theorem dX9_yieldsTo_33 : decode cX9_yieldsTo 33 = .ok (.iconst 0, 1) := by decide +kernel
theorem dX9_yieldsTo_34 : decode cX9_yieldsTo 34 = .ok (.istore_n 3, 1) := by decide +kernel
theorem dX9_yieldsTo_35 : decode cX9_yieldsTo 35 = .ok (.iload_n 3, 1) := by decide +kernel
theorem dX9_yieldsTo_36 : decode cX9_yieldsTo 36 = .ok (.ifCond .eq 32, 3) := by decide +kernel
theorem dX9_yieldsTo_39 : decode cX9_yieldsTo 39 = .ok (.aload_n 0, 1) := by decide +kernel
theorem dX9_yieldsTo_40 : decode cX9_yieldsTo 40 = .ok (.getfield 59, 3) := by decide +kernel
theorem dX9_yieldsTo_43 : decode cX9_yieldsTo 43 = .ok (.iload_n 1, 1) := by decide +kernel
theorem dX9_yieldsTo_44 : decode cX9_yieldsTo 44 = .ok (.aload_n 0, 1) := by decide +kernel
theorem dX9_yieldsTo_45 : decode cX9_yieldsTo 45 = .ok (.getfield 44, 3) := by decide +kernel
theorem dX9_yieldsTo_48 : decode cX9_yieldsTo 48 = .ok (.iload_n 2, 1) := by decide +kernel
theorem dX9_yieldsTo_49 : decode cX9_yieldsTo 49 = .ok (.iaload, 1) := by decide +kernel
theorem dX9_yieldsTo_50 : decode cX9_yieldsTo 50 = .ok (.iastore, 1) := by decide +kernel
theorem dX9_yieldsTo_51 : decode cX9_yieldsTo 51 = .ok (.aload_n 0, 1) := by decide +kernel
theorem dX9_yieldsTo_52 : decode cX9_yieldsTo 52 = .ok (.getfield 62, 3) := by decide +kernel
theorem dX9_yieldsTo_55 : decode cX9_yieldsTo 55 = .ok (.iload_n 1, 1) := by decide +kernel
theorem dX9_yieldsTo_56 : decode cX9_yieldsTo 56 = .ok (.iconst (-1), 1) := by decide +kernel
theorem dX9_yieldsTo_57 : decode cX9_yieldsTo 57 = .ok (.iastore, 1) := by decide +kernel
theorem dX9_yieldsTo_58 : decode cX9_yieldsTo 58 = .ok (.aload_n 0, 1) := by decide +kernel
theorem dX9_yieldsTo_59 : decode cX9_yieldsTo 59 = .ok (.dup, 1) := by decide +kernel
theorem dX9_yieldsTo_60 : decode cX9_yieldsTo 60 = .ok (.getfield 195, 3) := by decide +kernel
theorem dX9_yieldsTo_63 : decode cX9_yieldsTo 63 = .ok (.iconst 1, 1) := by decide +kernel
theorem dX9_yieldsTo_64 : decode cX9_yieldsTo 64 = .ok (.iadd, 1) := by decide +kernel
theorem dX9_yieldsTo_65 : decode cX9_yieldsTo 65 = .ok (.putfield 195, 3) := by decide +kernel
theorem dX9_yieldsTo_68 : decode cX9_yieldsTo 68 = .ok (.iload_n 3, 1) := by decide +kernel
theorem dX9_yieldsTo_69 : decode cX9_yieldsTo 69 = .ok (.ireturn, 1) := by decide +kernel
theorem dX9_turns_0 : decode cX9_turns 0 = .ok (.iload_n 1, 1) := by decide +kernel
theorem dX9_turns_1 : decode cX9_turns 1 = .ok (.istore_n 2, 1) := by decide +kernel
theorem dX9_turns_2 : decode cX9_turns 2 = .ok (.iconst 0, 1) := by decide +kernel
theorem dX9_turns_3 : decode cX9_turns 3 = .ok (.istore_n 3, 1) := by decide +kernel
theorem dX9_turns_4 : decode cX9_turns 4 = .ok (.iload_n 3, 1) := by decide +kernel
theorem dX9_turns_5 : decode cX9_turns 5 = .ok (.bipush 6, 2) := by decide +kernel
theorem dX9_turns_7 : decode cX9_turns 7 = .ok (.if_icmp .ge 16, 3) := by decide +kernel
theorem dX9_turns_10 : decode cX9_turns 10 = .ok (.aload_n 0, 1) := by decide +kernel
theorem dX9_turns_11 : decode cX9_turns 11 = .ok (.getfield 68, 3) := by decide +kernel
theorem dX9_turns_14 : decode cX9_turns 14 = .ok (.iload_n 3, 1) := by decide +kernel
theorem dX9_turns_15 : decode cX9_turns 15 = .ok (.iconst 0, 1) := by decide +kernel
theorem dX9_turns_16 : decode cX9_turns 16 = .ok (.bastore, 1) := by decide +kernel
theorem dX9_turns_17 : decode cX9_turns 17 = .ok (.iinc 3 1, 3) := by decide +kernel
theorem dX9_turns_20 : decode cX9_turns 20 = .ok (.goto (-16), 3) := by decide +kernel
theorem dX9_turns_23 : decode cX9_turns 23 = .ok (.aload_n 0, 1) := by decide +kernel
theorem dX9_turns_24 : decode cX9_turns 24 = .ok (.getfield 68, 3) := by decide +kernel
theorem dX9_turns_27 : decode cX9_turns 27 = .ok (.iload_n 2, 1) := by decide +kernel
theorem dX9_turns_28 : decode cX9_turns 28 = .ok (.iconst 1, 1) := by decide +kernel
theorem dX9_turns_29 : decode cX9_turns 29 = .ok (.bastore, 1) := by decide +kernel
theorem dX9_turns_30 : decode cX9_turns 30 = .ok (.aload_n 0, 1) := by decide +kernel
theorem dX9_turns_31 : decode cX9_turns 31 = .ok (.getfield 71, 3) := by decide +kernel
theorem dX9_turns_34 : decode cX9_turns 34 = .ok (.iload_n 2, 1) := by decide +kernel
theorem dX9_turns_35 : decode cX9_turns 35 = .ok (.aload_n 0, 1) := by decide +kernel
theorem dX9_turns_36 : decode cX9_turns 36 = .ok (.getfield 62, 3) := by decide +kernel
theorem dX9_turns_39 : decode cX9_turns 39 = .ok (.iload_n 2, 1) := by decide +kernel
theorem dX9_turns_40 : decode cX9_turns 40 = .ok (.iaload, 1) := by decide +kernel
theorem dX9_turns_41 : decode cX9_turns 41 = .ok (.iastore, 1) := by decide +kernel
theorem dX9_turns_42 : decode cX9_turns 42 = .ok (.aload_n 0, 1) := by decide +kernel
theorem dX9_turns_43 : decode cX9_turns 43 = .ok (.iload_n 2, 1) := by decide +kernel
theorem dX9_turns_44 : decode cX9_turns 44 = .ok (.invokevirtual 192, 3) := by decide +kernel
theorem dX9_turns_47 : decode cX9_turns 47 = .ok (.istore_n 2, 1) := by decide +kernel
theorem dX9_turns_48 : decode cX9_turns 48 = .ok (.iload_n 2, 1) := by decide +kernel
theorem dX9_turns_49 : decode cX9_turns 49 = .ok (.iload_n 1, 1) := by decide +kernel
theorem dX9_turns_50 : decode cX9_turns 50 = .ok (.if_icmp .ne (-27), 3) := by decide +kernel
theorem dX9_turns_53 : decode cX9_turns 53 = .ok (.iconst 0, 1) := by decide +kernel
theorem dX9_turns_54 : decode cX9_turns 54 = .ok (.istore_n 3, 1) := by decide +kernel
theorem dX9_turns_55 : decode cX9_turns 55 = .ok (.iload_n 3, 1) := by decide +kernel
theorem dX9_turns_56 : decode cX9_turns 56 = .ok (.aload_n 0, 1) := by decide +kernel
theorem dX9_turns_57 : decode cX9_turns 57 = .ok (.getfield 103, 3) := by decide +kernel
theorem dX9_turns_60 : decode cX9_turns 60 = .ok (.if_icmp .ge 29, 3) := by decide +kernel
theorem dX9_turns_63 : decode cX9_turns 63 = .ok (.aload_n 0, 1) := by decide +kernel
theorem dX9_turns_64 : decode cX9_turns 64 = .ok (.getfield 68, 3) := by decide +kernel
theorem dX9_turns_67 : decode cX9_turns 67 = .ok (.iload_n 3, 1) := by decide +kernel
theorem dX9_turns_68 : decode cX9_turns 68 = .ok (.baload, 1) := by decide +kernel
theorem dX9_turns_69 : decode cX9_turns 69 = .ok (.ifCond .eq 14, 3) := by decide +kernel
theorem dX9_turns_72 : decode cX9_turns 72 = .ok (.aload_n 0, 1) := by decide +kernel
theorem dX9_turns_73 : decode cX9_turns 73 = .ok (.iload_n 3, 1) := by decide +kernel
theorem dX9_turns_74 : decode cX9_turns 74 = .ok (.aload_n 0, 1) := by decide +kernel
theorem dX9_turns_75 : decode cX9_turns 75 = .ok (.getfield 71, 3) := by decide +kernel
theorem dX9_turns_78 : decode cX9_turns 78 = .ok (.iload_n 3, 1) := by decide +kernel
theorem dX9_turns_79 : decode cX9_turns 79 = .ok (.iaload, 1) := by decide +kernel
theorem dX9_turns_80 : decode cX9_turns 80 = .ok (.invokevirtual 198, 3) := by decide +kernel
theorem dX9_turns_83 : decode cX9_turns 83 = .ok (.iinc 3 1, 3) := by decide +kernel
theorem dX9_turns_86 : decode cX9_turns 86 = .ok (.goto (-31), 3) := by decide +kernel
theorem dX9_turns_89 : decode cX9_turns 89 = .ok (.aload_n 0, 1) := by decide +kernel
theorem dX9_turns_90 : decode cX9_turns 90 = .ok (.dup, 1) := by decide +kernel
theorem dX9_turns_91 : decode cX9_turns 91 = .ok (.getfield 201, 3) := by decide +kernel
theorem dX9_turns_94 : decode cX9_turns 94 = .ok (.iconst 1, 1) := by decide +kernel
theorem dX9_turns_95 : decode cX9_turns 95 = .ok (.iadd, 1) := by decide +kernel
theorem dX9_turns_96 : decode cX9_turns 96 = .ok (.putfield 201, 3) := by decide +kernel
theorem dX9_turns_99 : decode cX9_turns 99 = .ok (.return_, 1) := by decide +kernel
theorem dX9_resolves_0 : decode cX9_resolves 0 = .ok (.iconst 0, 1) := by decide +kernel
theorem dX9_resolves_1 : decode cX9_resolves 1 = .ok (.istore_n 1, 1) := by decide +kernel
theorem dX9_resolves_2 : decode cX9_resolves 2 = .ok (.iload_n 1, 1) := by decide +kernel
theorem dX9_resolves_3 : decode cX9_resolves 3 = .ok (.aload_n 0, 1) := by decide +kernel
theorem dX9_resolves_4 : decode cX9_resolves 4 = .ok (.getfield 103, 3) := by decide +kernel
theorem dX9_resolves_7 : decode cX9_resolves 7 = .ok (.if_icmp .ge 100, 3) := by decide +kernel
theorem dX9_resolves_10 : decode cX9_resolves 10 = .ok (.aload_n 0, 1) := by decide +kernel
theorem dX9_resolves_11 : decode cX9_resolves 11 = .ok (.iload_n 1, 1) := by decide +kernel
theorem dX9_resolves_12 : decode cX9_resolves 12 = .ok (.invokevirtual 204, 3) := by decide +kernel
theorem dX9_resolves_15 : decode cX9_resolves 15 = .ok (.istore_n 2, 1) := by decide +kernel
theorem dX9_resolves_16 : decode cX9_resolves 16 = .ok (.iload_n 2, 1) := by decide +kernel
theorem dX9_resolves_17 : decode cX9_resolves 17 = .ok (.iconst 3, 1) := by decide +kernel
theorem dX9_resolves_18 : decode cX9_resolves 18 = .ok (.if_icmp .lt 11, 3) := by decide +kernel
theorem dX9_resolves_21 : decode cX9_resolves 21 = .ok (.aload_n 0, 1) := by decide +kernel
theorem dX9_resolves_22 : decode cX9_resolves 22 = .ok (.iload_n 1, 1) := by decide +kernel
theorem dX9_resolves_23 : decode cX9_resolves 23 = .ok (.invokevirtual 207, 3) := by decide +kernel
theorem dX9_resolves_26 : decode cX9_resolves 26 = .ok (.goto 75, 3) := by decide +kernel
theorem dX9_resolves_29 : decode cX9_resolves 29 = .ok (.iload_n 2, 1) := by decide +kernel
theorem dX9_resolves_30 : decode cX9_resolves 30 = .ok (.iconst 2, 1) := by decide +kernel
theorem dX9_resolves_31 : decode cX9_resolves 31 = .ok (.if_icmp .ne 70, 3) := by decide +kernel
theorem dX9_resolves_34 : decode cX9_resolves 34 = .ok (.aload_n 0, 1) := by decide +kernel
theorem dX9_resolves_35 : decode cX9_resolves 35 = .ok (.iload_n 1, 1) := by decide +kernel
theorem dX9_resolves_36 : decode cX9_resolves 36 = .ok (.invokevirtual 192, 3) := by decide +kernel
theorem dX9_resolves_39 : decode cX9_resolves 39 = .ok (.istore_n 3, 1) := by decide +kernel
theorem dX9_resolves_40 : decode cX9_resolves 40 = .ok (.aload_n 0, 1) := by decide +kernel
theorem dX9_resolves_41 : decode cX9_resolves 41 = .ok (.iload_n 1, 1) := by decide +kernel
theorem dX9_resolves_42 : decode cX9_resolves 42 = .ok (.iload_n 3, 1) := by decide +kernel
theorem dX9_resolves_43 : decode cX9_resolves 43 = .ok (.invokevirtual 211, 3) := by decide +kernel
theorem dX9_resolves_46 : decode cX9_resolves 46 = .ok (.ifCond .eq 7, 3) := by decide +kernel
theorem dX9_resolves_49 : decode cX9_resolves 49 = .ok (.iload_n 3, 1) := by decide +kernel
theorem dX9_resolves_50 : decode cX9_resolves 50 = .ok (.goto 4, 3) := by decide +kernel
theorem dX9_resolves_53 : decode cX9_resolves 53 = .ok (.iload_n 1, 1) := by decide +kernel
theorem dX9_resolves_54 : decode cX9_resolves 54 = .ok (.istore 4, 2) := by decide +kernel
theorem dX9_resolves_56 : decode cX9_resolves 56 = .ok (.iload 4, 2) := by decide +kernel
theorem dX9_resolves_58 : decode cX9_resolves 58 = .ok (.iload_n 1, 1) := by decide +kernel
theorem dX9_resolves_59 : decode cX9_resolves 59 = .ok (.if_icmp .ne 7, 3) := by decide +kernel
theorem dX9_resolves_62 : decode cX9_resolves 62 = .ok (.iload_n 3, 1) := by decide +kernel
theorem dX9_resolves_63 : decode cX9_resolves 63 = .ok (.goto 4, 3) := by decide +kernel
theorem dX9_resolves_66 : decode cX9_resolves 66 = .ok (.iload_n 1, 1) := by decide +kernel
theorem dX9_resolves_67 : decode cX9_resolves 67 = .ok (.istore 5, 2) := by decide +kernel
theorem dX9_resolves_69 : decode cX9_resolves 69 = .ok (.aload_n 0, 1) := by decide +kernel
theorem dX9_resolves_70 : decode cX9_resolves 70 = .ok (.iload 4, 2) := by decide +kernel
theorem dX9_resolves_72 : decode cX9_resolves 72 = .ok (.iload 5, 2) := by decide +kernel
theorem dX9_resolves_74 : decode cX9_resolves 74 = .ok (.invokevirtual 214, 3) := by decide +kernel
theorem dX9_resolves_77 : decode cX9_resolves 77 = .ok (.ifCond .ne 24, 3) := by decide +kernel
theorem dX9_resolves_80 : decode cX9_resolves 80 = .ok (.aload_n 0, 1) := by decide +kernel
theorem dX9_resolves_81 : decode cX9_resolves 81 = .ok (.iload 5, 2) := by decide +kernel
theorem dX9_resolves_83 : decode cX9_resolves 83 = .ok (.iload 4, 2) := by decide +kernel
theorem dX9_resolves_85 : decode cX9_resolves 85 = .ok (.invokevirtual 214, 3) := by decide +kernel
theorem dX9_resolves_88 : decode cX9_resolves 88 = .ok (.ifCond .ne 13, 3) := by decide +kernel
theorem dX9_resolves_91 : decode cX9_resolves 91 = .ok (.aload_n 0, 1) := by decide +kernel
theorem dX9_resolves_92 : decode cX9_resolves 92 = .ok (.dup, 1) := by decide +kernel
theorem dX9_resolves_93 : decode cX9_resolves 93 = .ok (.getfield 217, 3) := by decide +kernel
theorem dX9_resolves_96 : decode cX9_resolves 96 = .ok (.iconst 1, 1) := by decide +kernel
theorem dX9_resolves_97 : decode cX9_resolves 97 = .ok (.iadd, 1) := by decide +kernel
theorem dX9_resolves_98 : decode cX9_resolves 98 = .ok (.putfield 217, 3) := by decide +kernel
theorem dX9_resolves_101 : decode cX9_resolves 101 = .ok (.iinc 1 1, 3) := by decide +kernel
theorem dX9_resolves_104 : decode cX9_resolves 104 = .ok (.goto (-102), 3) := by decide +kernel
theorem dX9_resolves_107 : decode cX9_resolves 107 = .ok (.return_, 1) := by decide +kernel
theorem dX9_isAsked_0 : decode cX9_isAsked 0 = .ok (.iconst 0, 1) := by decide +kernel
theorem dX9_isAsked_1 : decode cX9_isAsked 1 = .ok (.istore_n 2, 1) := by decide +kernel
theorem dX9_isAsked_2 : decode cX9_isAsked 2 = .ok (.iconst 0, 1) := by decide +kernel
theorem dX9_isAsked_3 : decode cX9_isAsked 3 = .ok (.istore_n 3, 1) := by decide +kernel
theorem dX9_isAsked_4 : decode cX9_isAsked 4 = .ok (.iload_n 3, 1) := by decide +kernel
theorem dX9_isAsked_5 : decode cX9_isAsked 5 = .ok (.aload_n 0, 1) := by decide +kernel
theorem dX9_isAsked_6 : decode cX9_isAsked 6 = .ok (.getfield 103, 3) := by decide +kernel
theorem dX9_isAsked_9 : decode cX9_isAsked 9 = .ok (.if_icmp .ge 29, 3) := by decide +kernel
theorem dX9_isAsked_12 : decode cX9_isAsked 12 = .ok (.iload_n 2, 1) := by decide +kernel
theorem dX9_isAsked_13 : decode cX9_isAsked 13 = .ok (.ifCond .ne 13, 3) := by decide +kernel
theorem dX9_isAsked_16 : decode cX9_isAsked 16 = .ok (.aload_n 0, 1) := by decide +kernel
theorem dX9_isAsked_17 : decode cX9_isAsked 17 = .ok (.getfield 62, 3) := by decide +kernel
theorem dX9_isAsked_20 : decode cX9_isAsked 20 = .ok (.iload_n 3, 1) := by decide +kernel
theorem dX9_isAsked_21 : decode cX9_isAsked 21 = .ok (.iaload, 1) := by decide +kernel
theorem dX9_isAsked_22 : decode cX9_isAsked 22 = .ok (.iload_n 1, 1) := by decide +kernel
theorem dX9_isAsked_23 : decode cX9_isAsked 23 = .ok (.if_icmp .ne 7, 3) := by decide +kernel
theorem dX9_isAsked_26 : decode cX9_isAsked 26 = .ok (.iconst 1, 1) := by decide +kernel
theorem dX9_isAsked_27 : decode cX9_isAsked 27 = .ok (.goto 4, 3) := by decide +kernel
theorem dX9_isAsked_30 : decode cX9_isAsked 30 = .ok (.iconst 0, 1) := by decide +kernel
theorem dX9_isAsked_31 : decode cX9_isAsked 31 = .ok (.istore_n 2, 1) := by decide +kernel
theorem dX9_isAsked_32 : decode cX9_isAsked 32 = .ok (.iinc 3 1, 3) := by decide +kernel
theorem dX9_isAsked_35 : decode cX9_isAsked 35 = .ok (.goto (-31), 3) := by decide +kernel
theorem dX9_isAsked_38 : decode cX9_isAsked 38 = .ok (.iload_n 2, 1) := by decide +kernel
theorem dX9_isAsked_39 : decode cX9_isAsked 39 = .ok (.ireturn, 1) := by decide +kernel
theorem dX9_stepsAside_0 : decode cX9_stepsAside 0 = .ok (.iconst (-1), 1) := by decide +kernel
theorem dX9_stepsAside_1 : decode cX9_stepsAside 1 = .ok (.istore_n 2, 1) := by decide +kernel
theorem dX9_stepsAside_2 : decode cX9_stepsAside 2 = .ok (.iconst 3, 1) := by decide +kernel
theorem dX9_stepsAside_3 : decode cX9_stepsAside 3 = .ok (.istore_n 3, 1) := by decide +kernel
theorem dX9_stepsAside_4 : decode cX9_stepsAside 4 = .ok (.iload_n 3, 1) := by decide +kernel
theorem dX9_stepsAside_5 : decode cX9_stepsAside 5 = .ok (.ifCond .lt 74, 3) := by decide +kernel
theorem dX9_stepsAside_8 : decode cX9_stepsAside 8 = .ok (.aload_n 0, 1) := by decide +kernel
theorem dX9_stepsAside_9 : decode cX9_stepsAside 9 = .ok (.getfield 44, 3) := by decide +kernel
theorem dX9_stepsAside_12 : decode cX9_stepsAside 12 = .ok (.iload_n 1, 1) := by decide +kernel
theorem dX9_stepsAside_13 : decode cX9_stepsAside 13 = .ok (.iaload, 1) := by decide +kernel
theorem dX9_stepsAside_14 : decode cX9_stepsAside 14 = .ok (.iload_n 3, 1) := by decide +kernel
theorem dX9_stepsAside_15 : decode cX9_stepsAside 15 = .ok (.invokestatic 120, 3) := by decide +kernel
theorem dX9_stepsAside_18 : decode cX9_stepsAside 18 = .ok (.istore 4, 2) := by decide +kernel
theorem dX9_stepsAside_20 : decode cX9_stepsAside 20 = .ok (.iload 4, 2) := by decide +kernel
theorem dX9_stepsAside_22 : decode cX9_stepsAside 22 = .ok (.iconst (-1), 1) := by decide +kernel
theorem dX9_stepsAside_23 : decode cX9_stepsAside 23 = .ok (.if_icmp .eq 35, 3) := by decide +kernel
theorem dX9_stepsAside_26 : decode cX9_stepsAside 26 = .ok (.aload_n 0, 1) := by decide +kernel
theorem dX9_stepsAside_27 : decode cX9_stepsAside 27 = .ok (.iload 4, 2) := by decide +kernel
theorem dX9_stepsAside_29 : decode cX9_stepsAside 29 = .ok (.invokevirtual 116, 3) := by decide +kernel
theorem dX9_stepsAside_32 : decode cX9_stepsAside 32 = .ok (.ifCond .eq 26, 3) := by decide +kernel
theorem dX9_stepsAside_35 : decode cX9_stepsAside 35 = .ok (.aload_n 0, 1) := by decide +kernel
theorem dX9_stepsAside_36 : decode cX9_stepsAside 36 = .ok (.iload 4, 2) := by decide +kernel
theorem dX9_stepsAside_38 : decode cX9_stepsAside 38 = .ok (.invokevirtual 112, 3) := by decide +kernel
theorem dX9_stepsAside_41 : decode cX9_stepsAside 41 = .ok (.iconst (-1), 1) := by decide +kernel
theorem dX9_stepsAside_42 : decode cX9_stepsAside 42 = .ok (.if_icmp .ne 16, 3) := by decide +kernel
theorem dX9_stepsAside_45 : decode cX9_stepsAside 45 = .ok (.aload_n 0, 1) := by decide +kernel
theorem dX9_stepsAside_46 : decode cX9_stepsAside 46 = .ok (.iload 4, 2) := by decide +kernel
theorem dX9_stepsAside_48 : decode cX9_stepsAside 48 = .ok (.invokevirtual 220, 3) := by decide +kernel
theorem dX9_stepsAside_51 : decode cX9_stepsAside 51 = .ok (.ifCond .ne 7, 3) := by decide +kernel
theorem dX9_stepsAside_54 : decode cX9_stepsAside 54 = .ok (.iconst 1, 1) := by decide +kernel
theorem dX9_stepsAside_55 : decode cX9_stepsAside 55 = .ok (.goto 4, 3) := by decide +kernel
theorem dX9_stepsAside_58 : decode cX9_stepsAside 58 = .ok (.iconst 0, 1) := by decide +kernel
theorem dX9_stepsAside_59 : decode cX9_stepsAside 59 = .ok (.istore 5, 2) := by decide +kernel
theorem dX9_stepsAside_61 : decode cX9_stepsAside 61 = .ok (.iload 5, 2) := by decide +kernel
theorem dX9_stepsAside_63 : decode cX9_stepsAside 63 = .ok (.ifCond .eq 8, 3) := by decide +kernel
theorem dX9_stepsAside_66 : decode cX9_stepsAside 66 = .ok (.iload 4, 2) := by decide +kernel
theorem dX9_stepsAside_68 : decode cX9_stepsAside 68 = .ok (.goto 4, 3) := by decide +kernel
theorem dX9_stepsAside_71 : decode cX9_stepsAside 71 = .ok (.iload_n 2, 1) := by decide +kernel
theorem dX9_stepsAside_72 : decode cX9_stepsAside 72 = .ok (.istore_n 2, 1) := by decide +kernel
theorem dX9_stepsAside_73 : decode cX9_stepsAside 73 = .ok (.iinc 3 (-1), 3) := by decide +kernel
theorem dX9_stepsAside_76 : decode cX9_stepsAside 76 = .ok (.goto (-72), 3) := by decide +kernel
theorem dX9_stepsAside_79 : decode cX9_stepsAside 79 = .ok (.iload_n 2, 1) := by decide +kernel
theorem dX9_stepsAside_80 : decode cX9_stepsAside 80 = .ok (.iconst (-1), 1) := by decide +kernel
theorem dX9_stepsAside_81 : decode cX9_stepsAside 81 = .ok (.if_icmp .eq 9, 3) := by decide +kernel
theorem dX9_stepsAside_84 : decode cX9_stepsAside 84 = .ok (.aload_n 0, 1) := by decide +kernel
theorem dX9_stepsAside_85 : decode cX9_stepsAside 85 = .ok (.iload_n 1, 1) := by decide +kernel
theorem dX9_stepsAside_86 : decode cX9_stepsAside 86 = .ok (.iload_n 2, 1) := by decide +kernel
theorem dX9_stepsAside_87 : decode cX9_stepsAside 87 = .ok (.invokevirtual 198, 3) := by decide +kernel
theorem dX9_stepsAside_90 : decode cX9_stepsAside 90 = .ok (.return_, 1) := by decide +kernel
theorem dX9_goes_0 : decode cX9_goes 0 = .ok (.iconst 0, 1) := by decide +kernel
theorem dX9_goes_1 : decode cX9_goes 1 = .ok (.istore_n 1, 1) := by decide +kernel
theorem dX9_goes_2 : decode cX9_goes 2 = .ok (.iload_n 1, 1) := by decide +kernel
theorem dX9_goes_3 : decode cX9_goes 3 = .ok (.bipush 6, 2) := by decide +kernel
theorem dX9_goes_5 : decode cX9_goes 5 = .ok (.if_icmp .ge 38, 3) := by decide +kernel
theorem dX9_goes_8 : decode cX9_goes 8 = .ok (.aload_n 0, 1) := by decide +kernel
theorem dX9_goes_9 : decode cX9_goes 9 = .ok (.getfield 68, 3) := by decide +kernel
theorem dX9_goes_12 : decode cX9_goes 12 = .ok (.iload_n 1, 1) := by decide +kernel
theorem dX9_goes_13 : decode cX9_goes 13 = .ok (.iload_n 1, 1) := by decide +kernel
theorem dX9_goes_14 : decode cX9_goes 14 = .ok (.aload_n 0, 1) := by decide +kernel
theorem dX9_goes_15 : decode cX9_goes 15 = .ok (.getfield 103, 3) := by decide +kernel
theorem dX9_goes_18 : decode cX9_goes 18 = .ok (.if_icmp .ge 13, 3) := by decide +kernel
theorem dX9_goes_21 : decode cX9_goes 21 = .ok (.aload_n 0, 1) := by decide +kernel
theorem dX9_goes_22 : decode cX9_goes 22 = .ok (.getfield 62, 3) := by decide +kernel
theorem dX9_goes_25 : decode cX9_goes 25 = .ok (.iload_n 1, 1) := by decide +kernel
theorem dX9_goes_26 : decode cX9_goes 26 = .ok (.iaload, 1) := by decide +kernel
theorem dX9_goes_27 : decode cX9_goes 27 = .ok (.iconst (-1), 1) := by decide +kernel
theorem dX9_goes_28 : decode cX9_goes 28 = .ok (.if_icmp .ne 7, 3) := by decide +kernel
theorem dX9_goes_31 : decode cX9_goes 31 = .ok (.iconst 1, 1) := by decide +kernel
theorem dX9_goes_32 : decode cX9_goes 32 = .ok (.goto 4, 3) := by decide +kernel
theorem dX9_goes_35 : decode cX9_goes 35 = .ok (.iconst 0, 1) := by decide +kernel
theorem dX9_goes_36 : decode cX9_goes 36 = .ok (.bastore, 1) := by decide +kernel
theorem dX9_goes_37 : decode cX9_goes 37 = .ok (.iinc 1 1, 3) := by decide +kernel
theorem dX9_goes_40 : decode cX9_goes 40 = .ok (.goto (-38), 3) := by decide +kernel
theorem dX9_goes_43 : decode cX9_goes 43 = .ok (.iconst 0, 1) := by decide +kernel
theorem dX9_goes_44 : decode cX9_goes 44 = .ok (.istore_n 1, 1) := by decide +kernel
theorem dX9_goes_45 : decode cX9_goes 45 = .ok (.iload_n 1, 1) := by decide +kernel
theorem dX9_goes_46 : decode cX9_goes 46 = .ok (.aload_n 0, 1) := by decide +kernel
theorem dX9_goes_47 : decode cX9_goes 47 = .ok (.getfield 103, 3) := by decide +kernel
theorem dX9_goes_50 : decode cX9_goes 50 = .ok (.if_icmp .ge 135, 3) := by decide +kernel
theorem dX9_goes_53 : decode cX9_goes 53 = .ok (.iconst (-1), 1) := by decide +kernel
theorem dX9_goes_54 : decode cX9_goes 54 = .ok (.istore_n 2, 1) := by decide +kernel
theorem dX9_goes_55 : decode cX9_goes 55 = .ok (.iconst 0, 1) := by decide +kernel
theorem dX9_goes_56 : decode cX9_goes 56 = .ok (.istore_n 3, 1) := by decide +kernel
theorem dX9_goes_57 : decode cX9_goes 57 = .ok (.iload_n 3, 1) := by decide +kernel
theorem dX9_goes_58 : decode cX9_goes 58 = .ok (.aload_n 0, 1) := by decide +kernel
theorem dX9_goes_59 : decode cX9_goes 59 = .ok (.getfield 103, 3) := by decide +kernel
theorem dX9_goes_62 : decode cX9_goes 62 = .ok (.if_icmp .ge 80, 3) := by decide +kernel
theorem dX9_goes_65 : decode cX9_goes 65 = .ok (.iload_n 2, 1) := by decide +kernel
theorem dX9_goes_66 : decode cX9_goes 66 = .ok (.iconst (-1), 1) := by decide +kernel
theorem dX9_goes_67 : decode cX9_goes 67 = .ok (.if_icmp .eq 42, 3) := by decide +kernel
theorem dX9_goes_70 : decode cX9_goes 70 = .ok (.aload_n 0, 1) := by decide +kernel
theorem dX9_goes_71 : decode cX9_goes 71 = .ok (.getfield 65, 3) := by decide +kernel
theorem dX9_goes_74 : decode cX9_goes 74 = .ok (.iload_n 3, 1) := by decide +kernel
theorem dX9_goes_75 : decode cX9_goes 75 = .ok (.iaload, 1) := by decide +kernel
theorem dX9_goes_76 : decode cX9_goes 76 = .ok (.aload_n 0, 1) := by decide +kernel
theorem dX9_goes_77 : decode cX9_goes 77 = .ok (.getfield 65, 3) := by decide +kernel
theorem dX9_goes_80 : decode cX9_goes 80 = .ok (.iload_n 2, 1) := by decide +kernel
theorem dX9_goes_81 : decode cX9_goes 81 = .ok (.iaload, 1) := by decide +kernel
theorem dX9_goes_82 : decode cX9_goes 82 = .ok (.if_icmp .lt 27, 3) := by decide +kernel
theorem dX9_goes_85 : decode cX9_goes 85 = .ok (.aload_n 0, 1) := by decide +kernel
theorem dX9_goes_86 : decode cX9_goes 86 = .ok (.getfield 65, 3) := by decide +kernel
theorem dX9_goes_89 : decode cX9_goes 89 = .ok (.iload_n 3, 1) := by decide +kernel
theorem dX9_goes_90 : decode cX9_goes 90 = .ok (.iaload, 1) := by decide +kernel
theorem dX9_goes_91 : decode cX9_goes 91 = .ok (.aload_n 0, 1) := by decide +kernel
theorem dX9_goes_92 : decode cX9_goes 92 = .ok (.getfield 65, 3) := by decide +kernel
theorem dX9_goes_95 : decode cX9_goes 95 = .ok (.iload_n 2, 1) := by decide +kernel
theorem dX9_goes_96 : decode cX9_goes 96 = .ok (.iaload, 1) := by decide +kernel
theorem dX9_goes_97 : decode cX9_goes 97 = .ok (.if_icmp .ne 16, 3) := by decide +kernel
theorem dX9_goes_100 : decode cX9_goes 100 = .ok (.aload_n 0, 1) := by decide +kernel
theorem dX9_goes_101 : decode cX9_goes 101 = .ok (.iload_n 3, 1) := by decide +kernel
theorem dX9_goes_102 : decode cX9_goes 102 = .ok (.iload_n 2, 1) := by decide +kernel
theorem dX9_goes_103 : decode cX9_goes 103 = .ok (.invokevirtual 211, 3) := by decide +kernel
theorem dX9_goes_106 : decode cX9_goes 106 = .ok (.ifCond .eq 7, 3) := by decide +kernel
theorem dX9_goes_109 : decode cX9_goes 109 = .ok (.iconst 1, 1) := by decide +kernel
theorem dX9_goes_110 : decode cX9_goes 110 = .ok (.goto 4, 3) := by decide +kernel
theorem dX9_goes_113 : decode cX9_goes 113 = .ok (.iconst 0, 1) := by decide +kernel
theorem dX9_goes_114 : decode cX9_goes 114 = .ok (.istore 4, 2) := by decide +kernel
theorem dX9_goes_116 : decode cX9_goes 116 = .ok (.aload_n 0, 1) := by decide +kernel
theorem dX9_goes_117 : decode cX9_goes 117 = .ok (.getfield 68, 3) := by decide +kernel
theorem dX9_goes_120 : decode cX9_goes 120 = .ok (.iload_n 3, 1) := by decide +kernel
theorem dX9_goes_121 : decode cX9_goes 121 = .ok (.baload, 1) := by decide +kernel
theorem dX9_goes_122 : decode cX9_goes 122 = .ok (.ifCond .ne 12, 3) := by decide +kernel
theorem dX9_goes_125 : decode cX9_goes 125 = .ok (.iload 4, 2) := by decide +kernel
theorem dX9_goes_127 : decode cX9_goes 127 = .ok (.ifCond .eq 7, 3) := by decide +kernel
theorem dX9_goes_130 : decode cX9_goes 130 = .ok (.iload_n 3, 1) := by decide +kernel
theorem dX9_goes_131 : decode cX9_goes 131 = .ok (.goto 4, 3) := by decide +kernel
theorem dX9_goes_134 : decode cX9_goes 134 = .ok (.iload_n 2, 1) := by decide +kernel
theorem dX9_goes_135 : decode cX9_goes 135 = .ok (.istore_n 2, 1) := by decide +kernel
theorem dX9_goes_136 : decode cX9_goes 136 = .ok (.iinc 3 1, 3) := by decide +kernel
theorem dX9_goes_139 : decode cX9_goes 139 = .ok (.goto (-82), 3) := by decide +kernel
theorem dX9_goes_142 : decode cX9_goes 142 = .ok (.iload_n 2, 1) := by decide +kernel
theorem dX9_goes_143 : decode cX9_goes 143 = .ok (.iconst (-1), 1) := by decide +kernel
theorem dX9_goes_144 : decode cX9_goes 144 = .ok (.if_icmp .eq 35, 3) := by decide +kernel
theorem dX9_goes_147 : decode cX9_goes 147 = .ok (.aload_n 0, 1) := by decide +kernel
theorem dX9_goes_148 : decode cX9_goes 148 = .ok (.getfield 68, 3) := by decide +kernel
theorem dX9_goes_151 : decode cX9_goes 151 = .ok (.iload_n 2, 1) := by decide +kernel
theorem dX9_goes_152 : decode cX9_goes 152 = .ok (.iconst 1, 1) := by decide +kernel
theorem dX9_goes_153 : decode cX9_goes 153 = .ok (.bastore, 1) := by decide +kernel
theorem dX9_goes_154 : decode cX9_goes 154 = .ok (.aload_n 0, 1) := by decide +kernel
theorem dX9_goes_155 : decode cX9_goes 155 = .ok (.aload_n 0, 1) := by decide +kernel
theorem dX9_goes_156 : decode cX9_goes 156 = .ok (.getfield 62, 3) := by decide +kernel
theorem dX9_goes_159 : decode cX9_goes 159 = .ok (.iload_n 2, 1) := by decide +kernel
theorem dX9_goes_160 : decode cX9_goes 160 = .ok (.iaload, 1) := by decide +kernel
theorem dX9_goes_161 : decode cX9_goes 161 = .ok (.invokevirtual 112, 3) := by decide +kernel
theorem dX9_goes_164 : decode cX9_goes 164 = .ok (.iconst (-1), 1) := by decide +kernel
theorem dX9_goes_165 : decode cX9_goes 165 = .ok (.if_icmp .ne 14, 3) := by decide +kernel
theorem dX9_goes_168 : decode cX9_goes 168 = .ok (.aload_n 0, 1) := by decide +kernel
theorem dX9_goes_169 : decode cX9_goes 169 = .ok (.iload_n 2, 1) := by decide +kernel
theorem dX9_goes_170 : decode cX9_goes 170 = .ok (.aload_n 0, 1) := by decide +kernel
theorem dX9_goes_171 : decode cX9_goes 171 = .ok (.getfield 62, 3) := by decide +kernel
theorem dX9_goes_174 : decode cX9_goes 174 = .ok (.iload_n 2, 1) := by decide +kernel
theorem dX9_goes_175 : decode cX9_goes 175 = .ok (.iaload, 1) := by decide +kernel
theorem dX9_goes_176 : decode cX9_goes 176 = .ok (.invokevirtual 198, 3) := by decide +kernel
theorem dX9_goes_179 : decode cX9_goes 179 = .ok (.iinc 1 1, 3) := by decide +kernel
theorem dX9_goes_182 : decode cX9_goes 182 = .ok (.goto (-137), 3) := by decide +kernel
theorem dX9_goes_185 : decode cX9_goes 185 = .ok (.return_, 1) := by decide +kernel
theorem dX9_arrives_0 : decode cX9_arrives 0 = .ok (.aload_n 0, 1) := by decide +kernel
theorem dX9_arrives_1 : decode cX9_arrives 1 = .ok (.getfield 50, 3) := by decide +kernel
theorem dX9_arrives_4 : decode cX9_arrives 4 = .ok (.iload_n 1, 1) := by decide +kernel
theorem dX9_arrives_5 : decode cX9_arrives 5 = .ok (.iaload, 1) := by decide +kernel
theorem dX9_arrives_6 : decode cX9_arrives 6 = .ok (.istore_n 2, 1) := by decide +kernel
theorem dX9_arrives_7 : decode cX9_arrives 7 = .ok (.aload_n 0, 1) := by decide +kernel
theorem dX9_arrives_8 : decode cX9_arrives 8 = .ok (.iload_n 1, 1) := by decide +kernel
theorem dX9_arrives_9 : decode cX9_arrives 9 = .ok (.invokevirtual 186, 3) := by decide +kernel
theorem dX9_arrives_12 : decode cX9_arrives 12 = .ok (.aload_n 0, 1) := by decide +kernel
theorem dX9_arrives_13 : decode cX9_arrives 13 = .ok (.getfield 44, 3) := by decide +kernel
theorem dX9_arrives_16 : decode cX9_arrives 16 = .ok (.iload_n 1, 1) := by decide +kernel
theorem dX9_arrives_17 : decode cX9_arrives 17 = .ok (.iaload, 1) := by decide +kernel
theorem dX9_arrives_18 : decode cX9_arrives 18 = .ok (.if_icmp .ne 27, 3) := by decide +kernel
theorem dX9_arrives_21 : decode cX9_arrives 21 = .ok (.aload_n 0, 1) := by decide +kernel
theorem dX9_arrives_22 : decode cX9_arrives 22 = .ok (.iload_n 1, 1) := by decide +kernel
theorem dX9_arrives_23 : decode cX9_arrives 23 = .ok (.iload_n 2, 1) := by decide +kernel
theorem dX9_arrives_24 : decode cX9_arrives 24 = .ok (.iconst 1, 1) := by decide +kernel
theorem dX9_arrives_25 : decode cX9_arrives 25 = .ok (.if_icmp .ne 7, 3) := by decide +kernel
theorem dX9_arrives_28 : decode cX9_arrives 28 = .ok (.iconst 2, 1) := by decide +kernel
theorem dX9_arrives_29 : decode cX9_arrives 29 = .ok (.goto 13, 3) := by decide +kernel
theorem dX9_arrives_32 : decode cX9_arrives 32 = .ok (.iload_n 2, 1) := by decide +kernel
theorem dX9_arrives_33 : decode cX9_arrives 33 = .ok (.iconst 2, 1) := by decide +kernel
theorem dX9_arrives_34 : decode cX9_arrives 34 = .ok (.if_icmp .ne 7, 3) := by decide +kernel
theorem dX9_arrives_37 : decode cX9_arrives 37 = .ok (.iconst 3, 1) := by decide +kernel
theorem dX9_arrives_38 : decode cX9_arrives 38 = .ok (.goto 4, 3) := by decide +kernel
theorem dX9_arrives_41 : decode cX9_arrives 41 = .ok (.iconst 0, 1) := by decide +kernel
theorem dX9_arrives_42 : decode cX9_arrives 42 = .ok (.invokevirtual 162, 3) := by decide +kernel
theorem dX9_arrives_45 : decode cX9_arrives 45 = .ok (.return_, 1) := by decide +kernel
theorem dX9_passes_0 : decode cX9_passes 0 = .ok (.aload_n 0, 1) := by decide +kernel
theorem dX9_passes_1 : decode cX9_passes 1 = .ok (.dup, 1) := by decide +kernel
theorem dX9_passes_2 : decode cX9_passes 2 = .ok (.getfield 171, 3) := by decide +kernel
theorem dX9_passes_5 : decode cX9_passes 5 = .ok (.iconst 1, 1) := by decide +kernel
theorem dX9_passes_6 : decode cX9_passes 6 = .ok (.iadd, 1) := by decide +kernel
theorem dX9_passes_7 : decode cX9_passes 7 = .ok (.putfield 171, 3) := by decide +kernel
theorem dX9_passes_10 : decode cX9_passes 10 = .ok (.iconst 0, 1) := by decide +kernel
theorem dX9_passes_11 : decode cX9_passes 11 = .ok (.istore_n 1, 1) := by decide +kernel
theorem dX9_passes_12 : decode cX9_passes 12 = .ok (.iload_n 1, 1) := by decide +kernel
theorem dX9_passes_13 : decode cX9_passes 13 = .ok (.aload_n 0, 1) := by decide +kernel
theorem dX9_passes_14 : decode cX9_passes 14 = .ok (.getfield 103, 3) := by decide +kernel
theorem dX9_passes_17 : decode cX9_passes 17 = .ok (.if_icmp .ge 24, 3) := by decide +kernel
theorem dX9_passes_20 : decode cX9_passes 20 = .ok (.aload_n 0, 1) := by decide +kernel
theorem dX9_passes_21 : decode cX9_passes 21 = .ok (.getfield 50, 3) := by decide +kernel
theorem dX9_passes_24 : decode cX9_passes 24 = .ok (.iload_n 1, 1) := by decide +kernel
theorem dX9_passes_25 : decode cX9_passes 25 = .ok (.iaload, 1) := by decide +kernel
theorem dX9_passes_26 : decode cX9_passes 26 = .ok (.iconst 3, 1) := by decide +kernel
theorem dX9_passes_27 : decode cX9_passes 27 = .ok (.if_icmp .ne 8, 3) := by decide +kernel
theorem dX9_passes_30 : decode cX9_passes 30 = .ok (.aload_n 0, 1) := by decide +kernel
theorem dX9_passes_31 : decode cX9_passes 31 = .ok (.iload_n 1, 1) := by decide +kernel
theorem dX9_passes_32 : decode cX9_passes 32 = .ok (.invokevirtual 223, 3) := by decide +kernel
theorem dX9_passes_35 : decode cX9_passes 35 = .ok (.iinc 1 1, 3) := by decide +kernel
theorem dX9_passes_38 : decode cX9_passes 38 = .ok (.goto (-26), 3) := by decide +kernel
theorem dX9_passes_41 : decode cX9_passes 41 = .ok (.iconst 0, 1) := by decide +kernel
theorem dX9_passes_42 : decode cX9_passes 42 = .ok (.istore_n 1, 1) := by decide +kernel
theorem dX9_passes_43 : decode cX9_passes 43 = .ok (.iload_n 1, 1) := by decide +kernel
theorem dX9_passes_44 : decode cX9_passes 44 = .ok (.aload_n 0, 1) := by decide +kernel
theorem dX9_passes_45 : decode cX9_passes 45 = .ok (.getfield 106, 3) := by decide +kernel
theorem dX9_passes_48 : decode cX9_passes 48 = .ok (.if_icmp .ge 14, 3) := by decide +kernel
theorem dX9_passes_51 : decode cX9_passes 51 = .ok (.aload_n 0, 1) := by decide +kernel
theorem dX9_passes_52 : decode cX9_passes 52 = .ok (.iload_n 1, 1) := by decide +kernel
theorem dX9_passes_53 : decode cX9_passes 53 = .ok (.invokevirtual 226, 3) := by decide +kernel
theorem dX9_passes_56 : decode cX9_passes 56 = .ok (.iinc 1 1, 3) := by decide +kernel
theorem dX9_passes_59 : decode cX9_passes 59 = .ok (.goto (-16), 3) := by decide +kernel
theorem dX9_passes_62 : decode cX9_passes 62 = .ok (.iconst 0, 1) := by decide +kernel
theorem dX9_passes_63 : decode cX9_passes 63 = .ok (.istore_n 1, 1) := by decide +kernel
theorem dX9_passes_64 : decode cX9_passes 64 = .ok (.iload_n 1, 1) := by decide +kernel
theorem dX9_passes_65 : decode cX9_passes 65 = .ok (.aload_n 0, 1) := by decide +kernel
theorem dX9_passes_66 : decode cX9_passes 66 = .ok (.getfield 103, 3) := by decide +kernel
theorem dX9_passes_69 : decode cX9_passes 69 = .ok (.if_icmp .ge 14, 3) := by decide +kernel
theorem dX9_passes_72 : decode cX9_passes 72 = .ok (.aload_n 0, 1) := by decide +kernel
theorem dX9_passes_73 : decode cX9_passes 73 = .ok (.iload_n 1, 1) := by decide +kernel
theorem dX9_passes_74 : decode cX9_passes 74 = .ok (.invokevirtual 229, 3) := by decide +kernel
theorem dX9_passes_77 : decode cX9_passes 77 = .ok (.iinc 1 1, 3) := by decide +kernel
theorem dX9_passes_80 : decode cX9_passes 80 = .ok (.goto (-16), 3) := by decide +kernel
theorem dX9_passes_83 : decode cX9_passes 83 = .ok (.aload_n 0, 1) := by decide +kernel
theorem dX9_passes_84 : decode cX9_passes 84 = .ok (.invokevirtual 232, 3) := by decide +kernel
theorem dX9_passes_87 : decode cX9_passes 87 = .ok (.iconst 0, 1) := by decide +kernel
theorem dX9_passes_88 : decode cX9_passes 88 = .ok (.istore_n 1, 1) := by decide +kernel
theorem dX9_passes_89 : decode cX9_passes 89 = .ok (.iload_n 1, 1) := by decide +kernel
theorem dX9_passes_90 : decode cX9_passes 90 = .ok (.aload_n 0, 1) := by decide +kernel
theorem dX9_passes_91 : decode cX9_passes 91 = .ok (.getfield 103, 3) := by decide +kernel
theorem dX9_passes_94 : decode cX9_passes 94 = .ok (.if_icmp .ge 36, 3) := by decide +kernel
theorem dX9_passes_97 : decode cX9_passes 97 = .ok (.aload_n 0, 1) := by decide +kernel
theorem dX9_passes_98 : decode cX9_passes 98 = .ok (.getfield 50, 3) := by decide +kernel
theorem dX9_passes_101 : decode cX9_passes 101 = .ok (.iload_n 1, 1) := by decide +kernel
theorem dX9_passes_102 : decode cX9_passes 102 = .ok (.iaload, 1) := by decide +kernel
theorem dX9_passes_103 : decode cX9_passes 103 = .ok (.ifCond .ne 21, 3) := by decide +kernel
theorem dX9_passes_106 : decode cX9_passes 106 = .ok (.aload_n 0, 1) := by decide +kernel
theorem dX9_passes_107 : decode cX9_passes 107 = .ok (.aload_n 0, 1) := by decide +kernel
theorem dX9_passes_108 : decode cX9_passes 108 = .ok (.getfield 44, 3) := by decide +kernel
theorem dX9_passes_111 : decode cX9_passes 111 = .ok (.iload_n 1, 1) := by decide +kernel
theorem dX9_passes_112 : decode cX9_passes 112 = .ok (.iaload, 1) := by decide +kernel
theorem dX9_passes_113 : decode cX9_passes 113 = .ok (.invokevirtual 220, 3) := by decide +kernel
theorem dX9_passes_116 : decode cX9_passes 116 = .ok (.ifCond .eq 8, 3) := by decide +kernel
theorem dX9_passes_119 : decode cX9_passes 119 = .ok (.aload_n 0, 1) := by decide +kernel
theorem dX9_passes_120 : decode cX9_passes 120 = .ok (.iload_n 1, 1) := by decide +kernel
theorem dX9_passes_121 : decode cX9_passes 121 = .ok (.invokevirtual 235, 3) := by decide +kernel
theorem dX9_passes_124 : decode cX9_passes 124 = .ok (.iinc 1 1, 3) := by decide +kernel
theorem dX9_passes_127 : decode cX9_passes 127 = .ok (.goto (-38), 3) := by decide +kernel
theorem dX9_passes_130 : decode cX9_passes 130 = .ok (.aload_n 0, 1) := by decide +kernel
theorem dX9_passes_131 : decode cX9_passes 131 = .ok (.invokevirtual 238, 3) := by decide +kernel
theorem dX9_passes_134 : decode cX9_passes 134 = .ok (.iconst 0, 1) := by decide +kernel
theorem dX9_passes_135 : decode cX9_passes 135 = .ok (.istore_n 1, 1) := by decide +kernel
theorem dX9_passes_136 : decode cX9_passes 136 = .ok (.iload_n 1, 1) := by decide +kernel
theorem dX9_passes_137 : decode cX9_passes 137 = .ok (.aload_n 0, 1) := by decide +kernel
theorem dX9_passes_138 : decode cX9_passes 138 = .ok (.getfield 103, 3) := by decide +kernel
theorem dX9_passes_141 : decode cX9_passes 141 = .ok (.if_icmp .ge 14, 3) := by decide +kernel
theorem dX9_passes_144 : decode cX9_passes 144 = .ok (.aload_n 0, 1) := by decide +kernel
theorem dX9_passes_145 : decode cX9_passes 145 = .ok (.iload_n 1, 1) := by decide +kernel
theorem dX9_passes_146 : decode cX9_passes 146 = .ok (.invokevirtual 241, 3) := by decide +kernel
theorem dX9_passes_149 : decode cX9_passes 149 = .ok (.iinc 1 1, 3) := by decide +kernel
theorem dX9_passes_152 : decode cX9_passes 152 = .ok (.goto (-16), 3) := by decide +kernel
theorem dX9_passes_155 : decode cX9_passes 155 = .ok (.return_, 1) := by decide +kernel
theorem dX9_tick_0 : decode cX9_tick 0 = .ok (.aload_n 0, 1) := by decide +kernel
theorem dX9_tick_1 : decode cX9_tick 1 = .ok (.iload_n 1, 1) := by decide +kernel
theorem dX9_tick_2 : decode cX9_tick 2 = .ok (.iconst 1, 1) := by decide +kernel
theorem dX9_tick_3 : decode cX9_tick 3 = .ok (.if_icmp .lt 9, 3) := by decide +kernel
theorem dX9_tick_6 : decode cX9_tick 6 = .ok (.iload_n 1, 1) := by decide +kernel
theorem dX9_tick_7 : decode cX9_tick 7 = .ok (.bipush 50, 2) := by decide +kernel
theorem dX9_tick_9 : decode cX9_tick 9 = .ok (.if_icmp .le 7, 3) := by decide +kernel
theorem dX9_tick_12 : decode cX9_tick 12 = .ok (.iconst 1, 1) := by decide +kernel
theorem dX9_tick_13 : decode cX9_tick 13 = .ok (.goto 20, 3) := by decide +kernel
theorem dX9_tick_16 : decode cX9_tick 16 = .ok (.aload_n 0, 1) := by decide +kernel
theorem dX9_tick_17 : decode cX9_tick 17 = .ok (.getfield 171, 3) := by decide +kernel
theorem dX9_tick_20 : decode cX9_tick 20 = .ok (.iload_n 1, 1) := by decide +kernel
theorem dX9_tick_21 : decode cX9_tick 21 = .ok (.iadd, 1) := by decide +kernel
theorem dX9_tick_22 : decode cX9_tick 22 = .ok (.sipush 3000, 3) := by decide +kernel
theorem dX9_tick_25 : decode cX9_tick 25 = .ok (.if_icmp .le 7, 3) := by decide +kernel
theorem dX9_tick_28 : decode cX9_tick 28 = .ok (.iconst 2, 1) := by decide +kernel
theorem dX9_tick_29 : decode cX9_tick 29 = .ok (.goto 4, 3) := by decide +kernel
theorem dX9_tick_32 : decode cX9_tick 32 = .ok (.iconst 0, 1) := by decide +kernel
theorem dX9_tick_33 : decode cX9_tick 33 = .ok (.invokevirtual 140, 3) := by decide +kernel
theorem dX9_tick_36 : decode cX9_tick 36 = .ok (.ifCond .ne 5, 3) := by decide +kernel
theorem dX9_tick_39 : decode cX9_tick 39 = .ok (.iconst 0, 1) := by decide +kernel
theorem dX9_tick_40 : decode cX9_tick 40 = .ok (.ireturn, 1) := by decide +kernel
theorem dX9_tick_41 : decode cX9_tick 41 = .ok (.aload_n 0, 1) := by decide +kernel
theorem dX9_tick_42 : decode cX9_tick 42 = .ok (.getfield 168, 3) := by decide +kernel
theorem dX9_tick_45 : decode cX9_tick 45 = .ok (.istore_n 2, 1) := by decide +kernel
theorem dX9_tick_46 : decode cX9_tick 46 = .ok (.iconst 0, 1) := by decide +kernel
theorem dX9_tick_47 : decode cX9_tick 47 = .ok (.istore_n 3, 1) := by decide +kernel
theorem dX9_tick_48 : decode cX9_tick 48 = .ok (.iload_n 3, 1) := by decide +kernel
theorem dX9_tick_49 : decode cX9_tick 49 = .ok (.iload_n 1, 1) := by decide +kernel
theorem dX9_tick_50 : decode cX9_tick 50 = .ok (.if_icmp .ge 13, 3) := by decide +kernel
theorem dX9_tick_53 : decode cX9_tick 53 = .ok (.aload_n 0, 1) := by decide +kernel
theorem dX9_tick_54 : decode cX9_tick 54 = .ok (.invokevirtual 244, 3) := by decide +kernel
theorem dX9_tick_57 : decode cX9_tick 57 = .ok (.iinc 3 1, 3) := by decide +kernel
theorem dX9_tick_60 : decode cX9_tick 60 = .ok (.goto (-12), 3) := by decide +kernel
theorem dX9_tick_63 : decode cX9_tick 63 = .ok (.aload_n 0, 1) := by decide +kernel
theorem dX9_tick_64 : decode cX9_tick 64 = .ok (.getfield 168, 3) := by decide +kernel
theorem dX9_tick_67 : decode cX9_tick 67 = .ok (.iload_n 2, 1) := by decide +kernel
theorem dX9_tick_68 : decode cX9_tick 68 = .ok (.isub, 1) := by decide +kernel
theorem dX9_tick_69 : decode cX9_tick 69 = .ok (.ireturn, 1) := by decide +kernel
theorem dX9_time_0 : decode cX9_time 0 = .ok (.aload_n 0, 1) := by decide +kernel
theorem dX9_time_1 : decode cX9_time 1 = .ok (.iconst 0, 1) := by decide +kernel
theorem dX9_time_2 : decode cX9_time 2 = .ok (.putfield 95, 3) := by decide +kernel
theorem dX9_time_5 : decode cX9_time 5 = .ok (.aload_n 0, 1) := by decide +kernel
theorem dX9_time_6 : decode cX9_time 6 = .ok (.getfield 171, 3) := by decide +kernel
theorem dX9_time_9 : decode cX9_time 9 = .ok (.ireturn, 1) := by decide +kernel
theorem dX9_steps_0 : decode cX9_steps 0 = .ok (.aload_n 0, 1) := by decide +kernel
theorem dX9_steps_1 : decode cX9_steps 1 = .ok (.iconst 0, 1) := by decide +kernel
theorem dX9_steps_2 : decode cX9_steps 2 = .ok (.putfield 95, 3) := by decide +kernel
theorem dX9_steps_5 : decode cX9_steps 5 = .ok (.aload_n 0, 1) := by decide +kernel
theorem dX9_steps_6 : decode cX9_steps 6 = .ok (.getfield 189, 3) := by decide +kernel
theorem dX9_steps_9 : decode cX9_steps 9 = .ok (.ireturn, 1) := by decide +kernel
theorem dX9_rings_0 : decode cX9_rings 0 = .ok (.aload_n 0, 1) := by decide +kernel
theorem dX9_rings_1 : decode cX9_rings 1 = .ok (.iconst 0, 1) := by decide +kernel
theorem dX9_rings_2 : decode cX9_rings 2 = .ok (.putfield 95, 3) := by decide +kernel
theorem dX9_rings_5 : decode cX9_rings 5 = .ok (.aload_n 0, 1) := by decide +kernel
theorem dX9_rings_6 : decode cX9_rings 6 = .ok (.getfield 201, 3) := by decide +kernel
theorem dX9_rings_9 : decode cX9_rings 9 = .ok (.ireturn, 1) := by decide +kernel
theorem dX9_yields_0 : decode cX9_yields 0 = .ok (.aload_n 0, 1) := by decide +kernel
theorem dX9_yields_1 : decode cX9_yields 1 = .ok (.iconst 0, 1) := by decide +kernel
theorem dX9_yields_2 : decode cX9_yields 2 = .ok (.putfield 95, 3) := by decide +kernel
theorem dX9_yields_5 : decode cX9_yields 5 = .ok (.aload_n 0, 1) := by decide +kernel
theorem dX9_yields_6 : decode cX9_yields 6 = .ok (.getfield 195, 3) := by decide +kernel
theorem dX9_yields_9 : decode cX9_yields 9 = .ok (.ireturn, 1) := by decide +kernel
theorem dX9_knots_0 : decode cX9_knots 0 = .ok (.aload_n 0, 1) := by decide +kernel
theorem dX9_knots_1 : decode cX9_knots 1 = .ok (.iconst 0, 1) := by decide +kernel
theorem dX9_knots_2 : decode cX9_knots 2 = .ok (.putfield 95, 3) := by decide +kernel
theorem dX9_knots_5 : decode cX9_knots 5 = .ok (.aload_n 0, 1) := by decide +kernel
theorem dX9_knots_6 : decode cX9_knots 6 = .ok (.getfield 217, 3) := by decide +kernel
theorem dX9_knots_9 : decode cX9_knots 9 = .ok (.ireturn, 1) := by decide +kernel
theorem dX9_stock_0 : decode cX9_stock 0 = .ok (.aload_n 0, 1) := by decide +kernel
theorem dX9_stock_1 : decode cX9_stock 1 = .ok (.iload_n 1, 1) := by decide +kernel
theorem dX9_stock_2 : decode cX9_stock 2 = .ok (.bipush 6, 2) := by decide +kernel
theorem dX9_stock_4 : decode cX9_stock 4 = .ok (.invokestatic 99, 3) := by decide +kernel
theorem dX9_stock_7 : decode cX9_stock 7 = .ok (.ifCond .eq 7, 3) := by decide +kernel
theorem dX9_stock_10 : decode cX9_stock 10 = .ok (.iconst 0, 1) := by decide +kernel
theorem dX9_stock_11 : decode cX9_stock 11 = .ok (.goto 4, 3) := by decide +kernel
theorem dX9_stock_14 : decode cX9_stock 14 = .ok (.iconst 1, 1) := by decide +kernel
theorem dX9_stock_15 : decode cX9_stock 15 = .ok (.invokevirtual 140, 3) := by decide +kernel
theorem dX9_stock_18 : decode cX9_stock 18 = .ok (.ifCond .ne 5, 3) := by decide +kernel
theorem dX9_stock_21 : decode cX9_stock 21 = .ok (.iconst 0, 1) := by decide +kernel
theorem dX9_stock_22 : decode cX9_stock 22 = .ok (.ireturn, 1) := by decide +kernel
theorem dX9_stock_23 : decode cX9_stock 23 = .ok (.iconst 0, 1) := by decide +kernel
theorem dX9_stock_24 : decode cX9_stock 24 = .ok (.istore_n 2, 1) := by decide +kernel
theorem dX9_stock_25 : decode cX9_stock 25 = .ok (.iconst 0, 1) := by decide +kernel
theorem dX9_stock_26 : decode cX9_stock 26 = .ok (.istore_n 3, 1) := by decide +kernel
theorem dX9_stock_27 : decode cX9_stock 27 = .ok (.iload_n 3, 1) := by decide +kernel
theorem dX9_stock_28 : decode cX9_stock 28 = .ok (.aload_n 0, 1) := by decide +kernel
theorem dX9_stock_29 : decode cX9_stock 29 = .ok (.getfield 109, 3) := by decide +kernel
theorem dX9_stock_32 : decode cX9_stock 32 = .ok (.if_icmp .ge 32, 3) := by decide +kernel
theorem dX9_stock_35 : decode cX9_stock 35 = .ok (.iload_n 2, 1) := by decide +kernel
theorem dX9_stock_36 : decode cX9_stock 36 = .ok (.aload_n 0, 1) := by decide +kernel
theorem dX9_stock_37 : decode cX9_stock 37 = .ok (.getfield 23, 3) := by decide +kernel
theorem dX9_stock_40 : decode cX9_stock 40 = .ok (.iload_n 3, 1) := by decide +kernel
theorem dX9_stock_41 : decode cX9_stock 41 = .ok (.iaload, 1) := by decide +kernel
theorem dX9_stock_42 : decode cX9_stock 42 = .ok (.iload_n 1, 1) := by decide +kernel
theorem dX9_stock_43 : decode cX9_stock 43 = .ok (.if_icmp .ne 12, 3) := by decide +kernel
theorem dX9_stock_46 : decode cX9_stock 46 = .ok (.aload_n 0, 1) := by decide +kernel
theorem dX9_stock_47 : decode cX9_stock 47 = .ok (.getfield 26, 3) := by decide +kernel
theorem dX9_stock_50 : decode cX9_stock 50 = .ok (.iload_n 3, 1) := by decide +kernel
theorem dX9_stock_51 : decode cX9_stock 51 = .ok (.iaload, 1) := by decide +kernel
theorem dX9_stock_52 : decode cX9_stock 52 = .ok (.goto 4, 3) := by decide +kernel
theorem dX9_stock_55 : decode cX9_stock 55 = .ok (.iconst 0, 1) := by decide +kernel
theorem dX9_stock_56 : decode cX9_stock 56 = .ok (.iadd, 1) := by decide +kernel
theorem dX9_stock_57 : decode cX9_stock 57 = .ok (.istore_n 2, 1) := by decide +kernel
theorem dX9_stock_58 : decode cX9_stock 58 = .ok (.iinc 3 1, 3) := by decide +kernel
theorem dX9_stock_61 : decode cX9_stock 61 = .ok (.goto (-34), 3) := by decide +kernel
theorem dX9_stock_64 : decode cX9_stock 64 = .ok (.iload_n 2, 1) := by decide +kernel
theorem dX9_stock_65 : decode cX9_stock 65 = .ok (.ireturn, 1) := by decide +kernel
theorem dX9_stockByPicks_0 : decode cX9_stockByPicks 0 = .ok (.aload_n 0, 1) := by decide +kernel
theorem dX9_stockByPicks_1 : decode cX9_stockByPicks 1 = .ok (.iload_n 1, 1) := by decide +kernel
theorem dX9_stockByPicks_2 : decode cX9_stockByPicks 2 = .ok (.bipush 6, 2) := by decide +kernel
theorem dX9_stockByPicks_4 : decode cX9_stockByPicks 4 = .ok (.invokestatic 99, 3) := by decide +kernel
theorem dX9_stockByPicks_7 : decode cX9_stockByPicks 7 = .ok (.ifCond .eq 7, 3) := by decide +kernel
theorem dX9_stockByPicks_10 : decode cX9_stockByPicks 10 = .ok (.iconst 0, 1) := by decide +kernel
theorem dX9_stockByPicks_11 : decode cX9_stockByPicks 11 = .ok (.goto 4, 3) := by decide +kernel
theorem dX9_stockByPicks_14 : decode cX9_stockByPicks 14 = .ok (.iconst 1, 1) := by decide +kernel
theorem dX9_stockByPicks_15 : decode cX9_stockByPicks 15 = .ok (.invokevirtual 140, 3) := by decide +kernel
theorem dX9_stockByPicks_18 : decode cX9_stockByPicks 18 = .ok (.ifCond .eq 19, 3) := by decide +kernel
theorem dX9_stockByPicks_21 : decode cX9_stockByPicks 21 = .ok (.aload_n 0, 1) := by decide +kernel
theorem dX9_stockByPicks_22 : decode cX9_stockByPicks 22 = .ok (.getfield 74, 3) := by decide +kernel
theorem dX9_stockByPicks_25 : decode cX9_stockByPicks 25 = .ok (.iload_n 1, 1) := by decide +kernel
theorem dX9_stockByPicks_26 : decode cX9_stockByPicks 26 = .ok (.iaload, 1) := by decide +kernel
theorem dX9_stockByPicks_27 : decode cX9_stockByPicks 27 = .ok (.aload_n 0, 1) := by decide +kernel
theorem dX9_stockByPicks_28 : decode cX9_stockByPicks 28 = .ok (.getfield 77, 3) := by decide +kernel
theorem dX9_stockByPicks_31 : decode cX9_stockByPicks 31 = .ok (.iload_n 1, 1) := by decide +kernel
theorem dX9_stockByPicks_32 : decode cX9_stockByPicks 32 = .ok (.iaload, 1) := by decide +kernel
theorem dX9_stockByPicks_33 : decode cX9_stockByPicks 33 = .ok (.isub, 1) := by decide +kernel
theorem dX9_stockByPicks_34 : decode cX9_stockByPicks 34 = .ok (.goto 4, 3) := by decide +kernel
theorem dX9_stockByPicks_37 : decode cX9_stockByPicks 37 = .ok (.iconst 0, 1) := by decide +kernel
theorem dX9_stockByPicks_38 : decode cX9_stockByPicks 38 = .ok (.ireturn, 1) := by decide +kernel
theorem dX9_picks_0 : decode cX9_picks 0 = .ok (.aload_n 0, 1) := by decide +kernel
theorem dX9_picks_1 : decode cX9_picks 1 = .ok (.iconst 0, 1) := by decide +kernel
theorem dX9_picks_2 : decode cX9_picks 2 = .ok (.putfield 95, 3) := by decide +kernel
theorem dX9_picks_5 : decode cX9_picks 5 = .ok (.aload_n 0, 1) := by decide +kernel
theorem dX9_picks_6 : decode cX9_picks 6 = .ok (.getfield 168, 3) := by decide +kernel
theorem dX9_picks_9 : decode cX9_picks 9 = .ok (.ireturn, 1) := by decide +kernel
theorem dX9_isPick_0 : decode cX9_isPick 0 = .ok (.aload_n 0, 1) := by decide +kernel
theorem dX9_isPick_1 : decode cX9_isPick 1 = .ok (.iload_n 1, 1) := by decide +kernel
theorem dX9_isPick_2 : decode cX9_isPick 2 = .ok (.aload_n 0, 1) := by decide +kernel
theorem dX9_isPick_3 : decode cX9_isPick 3 = .ok (.getfield 168, 3) := by decide +kernel
theorem dX9_isPick_6 : decode cX9_isPick 6 = .ok (.invokestatic 99, 3) := by decide +kernel
theorem dX9_isPick_9 : decode cX9_isPick 9 = .ok (.ifCond .eq 7, 3) := by decide +kernel
theorem dX9_isPick_12 : decode cX9_isPick 12 = .ok (.iconst 0, 1) := by decide +kernel
theorem dX9_isPick_13 : decode cX9_isPick 13 = .ok (.goto 4, 3) := by decide +kernel
theorem dX9_isPick_16 : decode cX9_isPick 16 = .ok (.iconst 1, 1) := by decide +kernel
theorem dX9_isPick_17 : decode cX9_isPick 17 = .ok (.invokevirtual 140, 3) := by decide +kernel
theorem dX9_isPick_20 : decode cX9_isPick 20 = .ok (.ireturn, 1) := by decide +kernel
theorem dX9_pickedFrom_0 : decode cX9_pickedFrom 0 = .ok (.aload_n 0, 1) := by decide +kernel
theorem dX9_pickedFrom_1 : decode cX9_pickedFrom 1 = .ok (.iload_n 1, 1) := by decide +kernel
theorem dX9_pickedFrom_2 : decode cX9_pickedFrom 2 = .ok (.invokevirtual 247, 3) := by decide +kernel
theorem dX9_pickedFrom_5 : decode cX9_pickedFrom 5 = .ok (.ifCond .eq 12, 3) := by decide +kernel
theorem dX9_pickedFrom_8 : decode cX9_pickedFrom 8 = .ok (.aload_n 0, 1) := by decide +kernel
theorem dX9_pickedFrom_9 : decode cX9_pickedFrom 9 = .ok (.getfield 80, 3) := by decide +kernel
theorem dX9_pickedFrom_12 : decode cX9_pickedFrom 12 = .ok (.iload_n 1, 1) := by decide +kernel
theorem dX9_pickedFrom_13 : decode cX9_pickedFrom 13 = .ok (.iaload, 1) := by decide +kernel
theorem dX9_pickedFrom_14 : decode cX9_pickedFrom 14 = .ok (.goto 4, 3) := by decide +kernel
theorem dX9_pickedFrom_17 : decode cX9_pickedFrom 17 = .ok (.iconst 0, 1) := by decide +kernel
theorem dX9_pickedFrom_18 : decode cX9_pickedFrom 18 = .ok (.ireturn, 1) := by decide +kernel
theorem dX9_pickedFor_0 : decode cX9_pickedFor 0 = .ok (.aload_n 0, 1) := by decide +kernel
theorem dX9_pickedFor_1 : decode cX9_pickedFor 1 = .ok (.iload_n 1, 1) := by decide +kernel
theorem dX9_pickedFor_2 : decode cX9_pickedFor 2 = .ok (.invokevirtual 247, 3) := by decide +kernel
theorem dX9_pickedFor_5 : decode cX9_pickedFor 5 = .ok (.ifCond .eq 12, 3) := by decide +kernel
theorem dX9_pickedFor_8 : decode cX9_pickedFor 8 = .ok (.aload_n 0, 1) := by decide +kernel
theorem dX9_pickedFor_9 : decode cX9_pickedFor 9 = .ok (.getfield 83, 3) := by decide +kernel
theorem dX9_pickedFor_12 : decode cX9_pickedFor 12 = .ok (.iload_n 1, 1) := by decide +kernel
theorem dX9_pickedFor_13 : decode cX9_pickedFor 13 = .ok (.iaload, 1) := by decide +kernel
theorem dX9_pickedFor_14 : decode cX9_pickedFor 14 = .ok (.goto 4, 3) := by decide +kernel
theorem dX9_pickedFor_17 : decode cX9_pickedFor 17 = .ok (.iconst 0, 1) := by decide +kernel
theorem dX9_pickedFor_18 : decode cX9_pickedFor 18 = .ok (.ireturn, 1) := by decide +kernel
theorem dX9_pickedIn_0 : decode cX9_pickedIn 0 = .ok (.aload_n 0, 1) := by decide +kernel
theorem dX9_pickedIn_1 : decode cX9_pickedIn 1 = .ok (.iload_n 1, 1) := by decide +kernel
theorem dX9_pickedIn_2 : decode cX9_pickedIn 2 = .ok (.invokevirtual 247, 3) := by decide +kernel
theorem dX9_pickedIn_5 : decode cX9_pickedIn 5 = .ok (.ifCond .eq 12, 3) := by decide +kernel
theorem dX9_pickedIn_8 : decode cX9_pickedIn 8 = .ok (.aload_n 0, 1) := by decide +kernel
theorem dX9_pickedIn_9 : decode cX9_pickedIn 9 = .ok (.getfield 86, 3) := by decide +kernel
theorem dX9_pickedIn_12 : decode cX9_pickedIn 12 = .ok (.iload_n 1, 1) := by decide +kernel
theorem dX9_pickedIn_13 : decode cX9_pickedIn 13 = .ok (.iaload, 1) := by decide +kernel
theorem dX9_pickedIn_14 : decode cX9_pickedIn 14 = .ok (.goto 4, 3) := by decide +kernel
theorem dX9_pickedIn_17 : decode cX9_pickedIn 17 = .ok (.iconst 0, 1) := by decide +kernel
theorem dX9_pickedIn_18 : decode cX9_pickedIn 18 = .ok (.ireturn, 1) := by decide +kernel
