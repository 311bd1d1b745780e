theorem dX9_saying_27 : decode cX9_saying 27 = .ok (.aload_n 0, 1) := by decide +kernel
theorem dX9_saying_28 : decode cX9_saying 28 = .ok (.getfield 150, 3) := by decide +kernel
theorem dX9_saying_31 : decode cX9_saying 31 = .ok (.iconst 1, 1) := by decide +kernel
theorem dX9_saying_32 : decode cX9_saying 32 = .ok (.isub, 1) := by decide +kernel
theorem dX9_saying_33 : decode cX9_saying 33 = .ok (.i2l, 1) := by decide +kernel
theorem dX9_saying_34 : decode cX9_saying 34 = .ok (.invokestatic 162, 3) := by decide +kernel
theorem dX9_saying_37 : decode cX9_saying 37 = .ok (.ifCond .ne 5, 3) := by decide +kernel
theorem dX9_saying_40 : decode cX9_saying 40 = .ok (.iconst (-1), 1) := by decide +kernel
theorem dX9_saying_41 : decode cX9_saying 41 = .ok (.ireturn, 1) := by decide +kernel
theorem dX9_saying_42 : decode cX9_saying 42 = .ok (.iload_n 2, 1) := by decide +kernel
theorem dX9_saying_43 : decode cX9_saying 43 = .ok (.tableswitch 90 0 6 #[41, 48, 55, 62, 69, 76, 83], 41) := by decide +kernel
theorem dX9_saying_84 : decode cX9_saying 84 = .ok (.aload_n 0, 1) := by decide +kernel
theorem dX9_saying_85 : decode cX9_saying 85 = .ok (.getfield 88, 3) := by decide +kernel
theorem dX9_saying_88 : decode cX9_saying 88 = .ok (.iload_n 1, 1) := by decide +kernel
theorem dX9_saying_89 : decode cX9_saying 89 = .ok (.iaload, 1) := by decide +kernel
theorem dX9_saying_90 : decode cX9_saying 90 = .ok (.ireturn, 1) := by decide +kernel
theorem dX9_saying_91 : decode cX9_saying 91 = .ok (.aload_n 0, 1) := by decide +kernel
theorem dX9_saying_92 : decode cX9_saying 92 = .ok (.getfield 91, 3) := by decide +kernel
theorem dX9_saying_95 : decode cX9_saying 95 = .ok (.iload_n 1, 1) := by decide +kernel
theorem dX9_saying_96 : decode cX9_saying 96 = .ok (.iaload, 1) := by decide +kernel
theorem dX9_saying_97 : decode cX9_saying 97 = .ok (.ireturn, 1) := by decide +kernel
theorem dX9_saying_98 : decode cX9_saying 98 = .ok (.aload_n 0, 1) := by decide +kernel
theorem dX9_saying_99 : decode cX9_saying 99 = .ok (.getfield 94, 3) := by decide +kernel
theorem dX9_saying_102 : decode cX9_saying 102 = .ok (.iload_n 1, 1) := by decide +kernel
theorem dX9_saying_103 : decode cX9_saying 103 = .ok (.iaload, 1) := by decide +kernel
theorem dX9_saying_104 : decode cX9_saying 104 = .ok (.ireturn, 1) := by decide +kernel
theorem dX9_saying_105 : decode cX9_saying 105 = .ok (.aload_n 0, 1) := by decide +kernel
theorem dX9_saying_106 : decode cX9_saying 106 = .ok (.getfield 97, 3) := by decide +kernel
theorem dX9_saying_109 : decode cX9_saying 109 = .ok (.iload_n 1, 1) := by decide +kernel
theorem dX9_saying_110 : decode cX9_saying 110 = .ok (.iaload, 1) := by decide +kernel
theorem dX9_saying_111 : decode cX9_saying 111 = .ok (.ireturn, 1) := by decide +kernel
theorem dX9_saying_112 : decode cX9_saying 112 = .ok (.aload_n 0, 1) := by decide +kernel
theorem dX9_saying_113 : decode cX9_saying 113 = .ok (.getfield 100, 3) := by decide +kernel
theorem dX9_saying_116 : decode cX9_saying 116 = .ok (.iload_n 1, 1) := by decide +kernel
theorem dX9_saying_117 : decode cX9_saying 117 = .ok (.iaload, 1) := by decide +kernel
theorem dX9_saying_118 : decode cX9_saying 118 = .ok (.ireturn, 1) := by decide +kernel
theorem dX9_saying_119 : decode cX9_saying 119 = .ok (.aload_n 0, 1) := by decide +kernel
theorem dX9_saying_120 : decode cX9_saying 120 = .ok (.getfield 103, 3) := by decide +kernel
theorem dX9_saying_123 : decode cX9_saying 123 = .ok (.iload_n 1, 1) := by decide +kernel
theorem dX9_saying_124 : decode cX9_saying 124 = .ok (.iaload, 1) := by decide +kernel
theorem dX9_saying_125 : decode cX9_saying 125 = .ok (.ireturn, 1) := by decide +kernel
theorem dX9_saying_126 : decode cX9_saying 126 = .ok (.aload_n 0, 1) := by decide +kernel
theorem dX9_saying_127 : decode cX9_saying 127 = .ok (.getfield 106, 3) := by decide +kernel
theorem dX9_saying_130 : decode cX9_saying 130 = .ok (.iload_n 1, 1) := by decide +kernel
theorem dX9_saying_131 : decode cX9_saying 131 = .ok (.iaload, 1) := by decide +kernel
theorem dX9_saying_132 : decode cX9_saying 132 = .ok (.ireturn, 1) := by decide +kernel
theorem dX9_saying_133 : decode cX9_saying 133 = .ok (.iconst (-1), 1) := by decide +kernel
theorem dX9_saying_134 : decode cX9_saying 134 = .ok (.ireturn, 1) := by decide +kernel
theorem dX9_took_0 : decode cX9_took 0 = .ok (.aload_n 0, 1) := by decide +kernel
theorem dX9_took_1 : decode cX9_took 1 = .ok (.getfield 150, 3) := by decide +kernel
theorem dX9_took_4 : decode cX9_took 4 = .ok (.ifCond .lt 29, 3) := by decide +kernel
theorem dX9_took_7 : decode cX9_took 7 = .ok (.iload_n 1, 1) := by decide +kernel
theorem dX9_took_8 : decode cX9_took 8 = .ok (.i2l, 1) := by decide +kernel
theorem dX9_took_9 : decode cX9_took 9 = .ok (.lconst 0, 1) := by decide +kernel
theorem dX9_took_10 : decode cX9_took 10 = .ok (.aload_n 0, 1) := by decide +kernel
theorem dX9_took_11 : decode cX9_took 11 = .ok (.getfield 382, 3) := by decide +kernel
theorem dX9_took_14 : decode cX9_took 14 = .ok (.iconst 1, 1) := by decide +kernel
theorem dX9_took_15 : decode cX9_took 15 = .ok (.isub, 1) := by decide +kernel
theorem dX9_took_16 : decode cX9_took 16 = .ok (.i2l, 1) := by decide +kernel
theorem dX9_took_17 : decode cX9_took 17 = .ok (.invokestatic 162, 3) := by decide +kernel
theorem dX9_took_20 : decode cX9_took 20 = .ok (.ifCond .eq 13, 3) := by decide +kernel
theorem dX9_took_23 : decode cX9_took 23 = .ok (.iload_n 2, 1) := by decide +kernel
theorem dX9_took_24 : decode cX9_took 24 = .ok (.i2l, 1) := by decide +kernel
theorem dX9_took_25 : decode cX9_took 25 = .ok (.lconst 0, 1) := by decide +kernel
theorem dX9_took_26 : decode cX9_took 26 = .ok (.lconst 1, 1) := by decide +kernel
theorem dX9_took_27 : decode cX9_took 27 = .ok (.invokestatic 162, 3) := by decide +kernel
theorem dX9_took_30 : decode cX9_took 30 = .ok (.ifCond .ne 6, 3) := by decide +kernel
theorem dX9_took_33 : decode cX9_took 33 = .ok (.ldc 218, 2) := by decide +kernel
theorem dX9_took_35 : decode cX9_took 35 = .ok (.ireturn, 1) := by decide +kernel
theorem dX9_took_36 : decode cX9_took 36 = .ok (.iload_n 2, 1) := by decide +kernel
theorem dX9_took_37 : decode cX9_took 37 = .ok (.ifCond .ne 12, 3) := by decide +kernel
theorem dX9_took_40 : decode cX9_took 40 = .ok (.aload_n 0, 1) := by decide +kernel
theorem dX9_took_41 : decode cX9_took 41 = .ok (.getfield 109, 3) := by decide +kernel
theorem dX9_took_44 : decode cX9_took 44 = .ok (.iload_n 1, 1) := by decide +kernel
theorem dX9_took_45 : decode cX9_took 45 = .ok (.iaload, 1) := by decide +kernel
theorem dX9_took_46 : decode cX9_took 46 = .ok (.goto 9, 3) := by decide +kernel
theorem dX9_took_49 : decode cX9_took 49 = .ok (.aload_n 0, 1) := by decide +kernel
theorem dX9_took_50 : decode cX9_took 50 = .ok (.getfield 112, 3) := by decide +kernel
theorem dX9_took_53 : decode cX9_took 53 = .ok (.iload_n 1, 1) := by decide +kernel
theorem dX9_took_54 : decode cX9_took 54 = .ok (.iaload, 1) := by decide +kernel
theorem dX9_took_55 : decode cX9_took 55 = .ok (.ireturn, 1) := by decide +kernel
theorem dX9_did_0 : decode cX9_did 0 = .ok (.iload_n 2, 1) := by decide +kernel
theorem dX9_did_1 : decode cX9_did 1 = .ok (.i2l, 1) := by decide +kernel
theorem dX9_did_2 : decode cX9_did 2 = .ok (.lconst 0, 1) := by decide +kernel
theorem dX9_did_3 : decode cX9_did 3 = .ok (.ldc2_w 419, 3) := by decide +kernel
theorem dX9_did_6 : decode cX9_did 6 = .ok (.invokestatic 162, 3) := by decide +kernel
theorem dX9_did_9 : decode cX9_did 9 = .ok (.ifCond .ne 5, 3) := by decide +kernel
theorem dX9_did_12 : decode cX9_did 12 = .ok (.iconst (-1), 1) := by decide +kernel
theorem dX9_did_13 : decode cX9_did 13 = .ok (.ireturn, 1) := by decide +kernel
theorem dX9_did_14 : decode cX9_did 14 = .ok (.aload_n 0, 1) := by decide +kernel
theorem dX9_did_15 : decode cX9_did 15 = .ok (.getfield 150, 3) := by decide +kernel
theorem dX9_did_18 : decode cX9_did 18 = .ok (.ifCond .ge 6, 3) := by decide +kernel
theorem dX9_did_21 : decode cX9_did 21 = .ok (.bipush (-5), 2) := by decide +kernel
theorem dX9_did_23 : decode cX9_did 23 = .ok (.ireturn, 1) := by decide +kernel
theorem dX9_did_24 : decode cX9_did 24 = .ok (.iload_n 1, 1) := by decide +kernel
theorem dX9_did_25 : decode cX9_did 25 = .ok (.i2l, 1) := by decide +kernel
theorem dX9_did_26 : decode cX9_did 26 = .ok (.lconst 0, 1) := by decide +kernel
theorem dX9_did_27 : decode cX9_did 27 = .ok (.aload_n 0, 1) := by decide +kernel
theorem dX9_did_28 : decode cX9_did 28 = .ok (.getfield 379, 3) := by decide +kernel
theorem dX9_did_31 : decode cX9_did 31 = .ok (.iconst 1, 1) := by decide +kernel
theorem dX9_did_32 : decode cX9_did 32 = .ok (.isub, 1) := by decide +kernel
theorem dX9_did_33 : decode cX9_did 33 = .ok (.i2l, 1) := by decide +kernel
theorem dX9_did_34 : decode cX9_did 34 = .ok (.invokestatic 162, 3) := by decide +kernel
theorem dX9_did_37 : decode cX9_did 37 = .ok (.ifCond .ne 5, 3) := by decide +kernel
theorem dX9_did_40 : decode cX9_did 40 = .ok (.iconst (-1), 1) := by decide +kernel
theorem dX9_did_41 : decode cX9_did 41 = .ok (.ireturn, 1) := by decide +kernel
theorem dX9_did_42 : decode cX9_did 42 = .ok (.iconst 0, 1) := by decide +kernel
theorem dX9_did_43 : decode cX9_did 43 = .ok (.istore_n 3, 1) := by decide +kernel
theorem dX9_did_44 : decode cX9_did 44 = .ok (.iconst 0, 1) := by decide +kernel
theorem dX9_did_45 : decode cX9_did 45 = .ok (.istore 4, 2) := by decide +kernel
theorem dX9_did_47 : decode cX9_did 47 = .ok (.iconst 0, 1) := by decide +kernel
theorem dX9_did_48 : decode cX9_did 48 = .ok (.istore 5, 2) := by decide +kernel
theorem dX9_did_50 : decode cX9_did 50 = .ok (.iconst 0, 1) := by decide +kernel
theorem dX9_did_51 : decode cX9_did 51 = .ok (.istore 6, 2) := by decide +kernel
theorem dX9_did_53 : decode cX9_did 53 = .ok (.iload 6, 2) := by decide +kernel
theorem dX9_did_55 : decode cX9_did 55 = .ok (.aload_n 0, 1) := by decide +kernel
theorem dX9_did_56 : decode cX9_did 56 = .ok (.getfield 150, 3) := by decide +kernel
theorem dX9_did_59 : decode cX9_did 59 = .ok (.if_icmp .ge 129, 3) := by decide +kernel
theorem dX9_did_62 : decode cX9_did 62 = .ok (.iload_n 3, 1) := by decide +kernel
theorem dX9_did_63 : decode cX9_did 63 = .ok (.aload_n 0, 1) := by decide +kernel
theorem dX9_did_64 : decode cX9_did 64 = .ok (.getfield 88, 3) := by decide +kernel
theorem dX9_did_67 : decode cX9_did 67 = .ok (.iload 6, 2) := by decide +kernel
theorem dX9_did_69 : decode cX9_did 69 = .ok (.iaload, 1) := by decide +kernel
theorem dX9_did_70 : decode cX9_did 70 = .ok (.iload_n 1, 1) := by decide +kernel
theorem dX9_did_71 : decode cX9_did 71 = .ok (.if_icmp .ne 13, 3) := by decide +kernel
theorem dX9_did_74 : decode cX9_did 74 = .ok (.aload_n 0, 1) := by decide +kernel
theorem dX9_did_75 : decode cX9_did 75 = .ok (.getfield 97, 3) := by decide +kernel
theorem dX9_did_78 : decode cX9_did 78 = .ok (.iload 6, 2) := by decide +kernel
theorem dX9_did_80 : decode cX9_did 80 = .ok (.iaload, 1) := by decide +kernel
theorem dX9_did_81 : decode cX9_did 81 = .ok (.goto 4, 3) := by decide +kernel
theorem dX9_did_84 : decode cX9_did 84 = .ok (.iconst 0, 1) := by decide +kernel
theorem dX9_did_85 : decode cX9_did 85 = .ok (.iadd, 1) := by decide +kernel
theorem dX9_did_86 : decode cX9_did 86 = .ok (.istore_n 3, 1) := by decide +kernel
theorem dX9_did_87 : decode cX9_did 87 = .ok (.iload 4, 2) := by decide +kernel
theorem dX9_did_89 : decode cX9_did 89 = .ok (.aload_n 0, 1) := by decide +kernel
theorem dX9_did_90 : decode cX9_did 90 = .ok (.getfield 106, 3) := by decide +kernel
theorem dX9_did_93 : decode cX9_did 93 = .ok (.iload 6, 2) := by decide +kernel
theorem dX9_did_95 : decode cX9_did 95 = .ok (.iaload, 1) := by decide +kernel
theorem dX9_did_96 : decode cX9_did 96 = .ok (.iload_n 1, 1) := by decide +kernel
theorem dX9_did_97 : decode cX9_did 97 = .ok (.if_icmp .ne 7, 3) := by decide +kernel
theorem dX9_did_100 : decode cX9_did 100 = .ok (.iconst 1, 1) := by decide +kernel
theorem dX9_did_101 : decode cX9_did 101 = .ok (.goto 4, 3) := by decide +kernel
theorem dX9_did_104 : decode cX9_did 104 = .ok (.iconst 0, 1) := by decide +kernel
theorem dX9_did_105 : decode cX9_did 105 = .ok (.iadd, 1) := by decide +kernel
theorem dX9_did_106 : decode cX9_did 106 = .ok (.istore 4, 2) := by decide +kernel
theorem dX9_did_108 : decode cX9_did 108 = .ok (.aload_n 0, 1) := by decide +kernel
theorem dX9_did_109 : decode cX9_did 109 = .ok (.getfield 88, 3) := by decide +kernel
theorem dX9_did_112 : decode cX9_did 112 = .ok (.iload 6, 2) := by decide +kernel
theorem dX9_did_114 : decode cX9_did 114 = .ok (.iaload, 1) := by decide +kernel
theorem dX9_did_115 : decode cX9_did 115 = .ok (.iload_n 1, 1) := by decide +kernel
theorem dX9_did_116 : decode cX9_did 116 = .ok (.if_icmp .ne 17, 3) := by decide +kernel
theorem dX9_did_119 : decode cX9_did 119 = .ok (.aload_n 0, 1) := by decide +kernel
theorem dX9_did_120 : decode cX9_did 120 = .ok (.getfield 103, 3) := by decide +kernel
theorem dX9_did_123 : decode cX9_did 123 = .ok (.iload 6, 2) := by decide +kernel
theorem dX9_did_125 : decode cX9_did 125 = .ok (.iaload, 1) := by decide +kernel
theorem dX9_did_126 : decode cX9_did 126 = .ok (.ifCond .lt 7, 3) := by decide +kernel
theorem dX9_did_129 : decode cX9_did 129 = .ok (.iconst 1, 1) := by decide +kernel
theorem dX9_did_130 : decode cX9_did 130 = .ok (.goto 4, 3) := by decide +kernel
theorem dX9_did_133 : decode cX9_did 133 = .ok (.iconst 0, 1) := by decide +kernel
theorem dX9_did_134 : decode cX9_did 134 = .ok (.istore 7, 2) := by decide +kernel
theorem dX9_did_136 : decode cX9_did 136 = .ok (.iload 5, 2) := by decide +kernel
theorem dX9_did_138 : decode cX9_did 138 = .ok (.iload 7, 2) := by decide +kernel
theorem dX9_did_140 : decode cX9_did 140 = .ok (.ifCond .eq 38, 3) := by decide +kernel
theorem dX9_did_143 : decode cX9_did 143 = .ok (.aload_n 0, 1) := by decide +kernel
theorem dX9_did_144 : decode cX9_did 144 = .ok (.getfield 115, 3) := by decide +kernel
theorem dX9_did_147 : decode cX9_did 147 = .ok (.aload_n 0, 1) := by decide +kernel
theorem dX9_did_148 : decode cX9_did 148 = .ok (.getfield 103, 3) := by decide +kernel
theorem dX9_did_151 : decode cX9_did 151 = .ok (.iload 6, 2) := by decide +kernel
theorem dX9_did_153 : decode cX9_did 153 = .ok (.iaload, 1) := by decide +kernel
theorem dX9_did_154 : decode cX9_did 154 = .ok (.iaload, 1) := by decide +kernel
theorem dX9_did_155 : decode cX9_did 155 = .ok (.ifCond .lt 23, 3) := by decide +kernel
theorem dX9_did_158 : decode cX9_did 158 = .ok (.aload_n 0, 1) := by decide +kernel
theorem dX9_did_159 : decode cX9_did 159 = .ok (.getfield 115, 3) := by decide +kernel
theorem dX9_did_162 : decode cX9_did 162 = .ok (.aload_n 0, 1) := by decide +kernel
theorem dX9_did_163 : decode cX9_did 163 = .ok (.getfield 103, 3) := by decide +kernel
theorem dX9_did_166 : decode cX9_did 166 = .ok (.iload 6, 2) := by decide +kernel
theorem dX9_did_168 : decode cX9_did 168 = .ok (.iaload, 1) := by decide +kernel
theorem dX9_did_169 : decode cX9_did 169 = .ok (.iaload, 1) := by decide +kernel
theorem dX9_did_170 : decode cX9_did 170 = .ok (.iload_n 1, 1) := by decide +kernel
theorem dX9_did_171 : decode cX9_did 171 = .ok (.if_icmp .eq 7, 3) := by decide +kernel
theorem dX9_did_174 : decode cX9_did 174 = .ok (.iconst 1, 1) := by decide +kernel
theorem dX9_did_175 : decode cX9_did 175 = .ok (.goto 4, 3) := by decide +kernel
theorem dX9_did_178 : decode cX9_did 178 = .ok (.iconst 0, 1) := by decide +kernel
theorem dX9_did_179 : decode cX9_did 179 = .ok (.iadd, 1) := by decide +kernel
theorem dX9_did_180 : decode cX9_did 180 = .ok (.istore 5, 2) := by decide +kernel
theorem dX9_did_182 : decode cX9_did 182 = .ok (.iinc 6 1, 3) := by decide +kernel
theorem dX9_did_185 : decode cX9_did 185 = .ok (.goto (-132), 3) := by decide +kernel
theorem dX9_did_188 : decode cX9_did 188 = .ok (.iload_n 2, 1) := by decide +kernel
theorem dX9_did_189 : decode cX9_did 189 = .ok (.ifCond .ne 31, 3) := by decide +kernel
theorem dX9_did_192 : decode cX9_did 192 = .ok (.aload_n 0, 1) := by decide +kernel
theorem dX9_did_193 : decode cX9_did 193 = .ok (.getfield 85, 3) := by decide +kernel
theorem dX9_did_196 : decode cX9_did 196 = .ok (.iconst 0, 1) := by decide +kernel
theorem dX9_did_197 : decode cX9_did 197 = .ok (.iaload, 1) := by decide +kernel
theorem dX9_did_198 : decode cX9_did 198 = .ok (.ifCond .ne 7, 3) := by decide +kernel
theorem dX9_did_201 : decode cX9_did 201 = .ok (.iconst 0, 1) := by decide +kernel
theorem dX9_did_202 : decode cX9_did 202 = .ok (.goto 44, 3) := by decide +kernel
theorem dX9_did_205 : decode cX9_did 205 = .ok (.sipush 1000, 3) := by decide +kernel
theorem dX9_did_208 : decode cX9_did 208 = .ok (.iload_n 3, 1) := by decide +kernel
theorem dX9_did_209 : decode cX9_did 209 = .ok (.imul, 1) := by decide +kernel
theorem dX9_did_210 : decode cX9_did 210 = .ok (.aload_n 0, 1) := by decide +kernel
theorem dX9_did_211 : decode cX9_did 211 = .ok (.getfield 85, 3) := by decide +kernel
theorem dX9_did_214 : decode cX9_did 214 = .ok (.iconst 0, 1) := by decide +kernel
theorem dX9_did_215 : decode cX9_did 215 = .ok (.iaload, 1) := by decide +kernel
theorem dX9_did_216 : decode cX9_did 216 = .ok (.idiv, 1) := by decide +kernel
theorem dX9_did_217 : decode cX9_did 217 = .ok (.goto 29, 3) := by decide +kernel
theorem dX9_did_220 : decode cX9_did 220 = .ok (.iload_n 2, 1) := by decide +kernel
theorem dX9_did_221 : decode cX9_did 221 = .ok (.iconst 1, 1) := by decide +kernel
theorem dX9_did_222 : decode cX9_did 222 = .ok (.if_icmp .ne 8, 3) := by decide +kernel
theorem dX9_did_225 : decode cX9_did 225 = .ok (.iload 4, 2) := by decide +kernel
theorem dX9_did_227 : decode cX9_did 227 = .ok (.goto 19, 3) := by decide +kernel
theorem dX9_did_230 : decode cX9_did 230 = .ok (.iload_n 2, 1) := by decide +kernel
theorem dX9_did_231 : decode cX9_did 231 = .ok (.iconst 2, 1) := by decide +kernel
theorem dX9_did_232 : decode cX9_did 232 = .ok (.if_icmp .ne 8, 3) := by decide +kernel
theorem dX9_did_235 : decode cX9_did 235 = .ok (.iload 5, 2) := by decide +kernel
theorem dX9_did_237 : decode cX9_did 237 = .ok (.goto 9, 3) := by decide +kernel
theorem dX9_did_240 : decode cX9_did 240 = .ok (.aload_n 0, 1) := by decide +kernel
theorem dX9_did_241 : decode cX9_did 241 = .ok (.getfield 121, 3) := by decide +kernel
theorem dX9_did_244 : decode cX9_did 244 = .ok (.iload_n 1, 1) := by decide +kernel
theorem dX9_did_245 : decode cX9_did 245 = .ok (.iaload, 1) := by decide +kernel
theorem dX9_did_246 : decode cX9_did 246 = .ok (.ireturn, 1) := by decide +kernel
theorem dX9_first_0 : decode cX9_first 0 = .ok (.aload_n 0, 1) := by decide +kernel
theorem dX9_first_1 : decode cX9_first 1 = .ok (.getfield 150, 3) := by decide +kernel
theorem dX9_first_4 : decode cX9_first 4 = .ok (.ifCond .lt 29, 3) := by decide +kernel
theorem dX9_first_7 : decode cX9_first 7 = .ok (.iload_n 1, 1) := by decide +kernel
theorem dX9_first_8 : decode cX9_first 8 = .ok (.i2l, 1) := by decide +kernel
theorem dX9_first_9 : decode cX9_first 9 = .ok (.lconst 0, 1) := by decide +kernel
theorem dX9_first_10 : decode cX9_first 10 = .ok (.aload_n 0, 1) := by decide +kernel
theorem dX9_first_11 : decode cX9_first 11 = .ok (.getfield 385, 3) := by decide +kernel
theorem dX9_first_14 : decode cX9_first 14 = .ok (.iconst 1, 1) := by decide +kernel
theorem dX9_first_15 : decode cX9_first 15 = .ok (.isub, 1) := by decide +kernel
theorem dX9_first_16 : decode cX9_first 16 = .ok (.i2l, 1) := by decide +kernel
theorem dX9_first_17 : decode cX9_first 17 = .ok (.invokestatic 162, 3) := by decide +kernel
theorem dX9_first_20 : decode cX9_first 20 = .ok (.ifCond .eq 13, 3) := by decide +kernel
theorem dX9_first_23 : decode cX9_first 23 = .ok (.iload_n 2, 1) := by decide +kernel
theorem dX9_first_24 : decode cX9_first 24 = .ok (.i2l, 1) := by decide +kernel
theorem dX9_first_25 : decode cX9_first 25 = .ok (.lconst 0, 1) := by decide +kernel
theorem dX9_first_26 : decode cX9_first 26 = .ok (.lconst 1, 1) := by decide +kernel
theorem dX9_first_27 : decode cX9_first 27 = .ok (.invokestatic 162, 3) := by decide +kernel
theorem dX9_first_30 : decode cX9_first 30 = .ok (.ifCond .ne 6, 3) := by decide +kernel
theorem dX9_first_33 : decode cX9_first 33 = .ok (.ldc 218, 2) := by decide +kernel
theorem dX9_first_35 : decode cX9_first 35 = .ok (.ireturn, 1) := by decide +kernel
theorem dX9_first_36 : decode cX9_first 36 = .ok (.iload_n 2, 1) := by decide +kernel
theorem dX9_first_37 : decode cX9_first 37 = .ok (.ifCond .ne 12, 3) := by decide +kernel
theorem dX9_first_40 : decode cX9_first 40 = .ok (.aload_n 0, 1) := by decide +kernel
theorem dX9_first_41 : decode cX9_first 41 = .ok (.getfield 115, 3) := by decide +kernel
theorem dX9_first_44 : decode cX9_first 44 = .ok (.iload_n 1, 1) := by decide +kernel
theorem dX9_first_45 : decode cX9_first 45 = .ok (.iaload, 1) := by decide +kernel
theorem dX9_first_46 : decode cX9_first 46 = .ok (.goto 9, 3) := by decide +kernel
theorem dX9_first_49 : decode cX9_first 49 = .ok (.aload_n 0, 1) := by decide +kernel
theorem dX9_first_50 : decode cX9_first 50 = .ok (.getfield 118, 3) := by decide +kernel
theorem dX9_first_53 : decode cX9_first 53 = .ok (.iload_n 1, 1) := by decide +kernel
theorem dX9_first_54 : decode cX9_first 54 = .ok (.iaload, 1) := by decide +kernel
theorem dX9_first_55 : decode cX9_first 55 = .ok (.ireturn, 1) := by decide +kernel
theorem dX9_looksAt_0 : decode cX9_looksAt 0 = .ok (.aload_n 0, 1) := by decide +kernel
theorem dX9_looksAt_1 : decode cX9_looksAt 1 = .ok (.invokevirtual 398, 3) := by decide +kernel
theorem dX9_looksAt_4 : decode cX9_looksAt 4 = .ok (.aload_n 0, 1) := by decide +kernel
theorem dX9_looksAt_5 : decode cX9_looksAt 5 = .ok (.invokevirtual 421, 3) := by decide +kernel
theorem dX9_looksAt_8 : decode cX9_looksAt 8 = .ok (.istore_n 2, 1) := by decide +kernel
theorem dX9_looksAt_9 : decode cX9_looksAt 9 = .ok (.aload_n 0, 1) := by decide +kernel
theorem dX9_looksAt_10 : decode cX9_looksAt 10 = .ok (.invokevirtual 411, 3) := by decide +kernel
theorem dX9_looksAt_13 : decode cX9_looksAt 13 = .ok (.istore_n 3, 1) := by decide +kernel
theorem dX9_looksAt_14 : decode cX9_looksAt 14 = .ok (.aload_n 0, 1) := by decide +kernel
theorem dX9_looksAt_15 : decode cX9_looksAt 15 = .ok (.getfield 424, 3) := by decide +kernel
theorem dX9_looksAt_18 : decode cX9_looksAt 18 = .ok (.ifCond .lt 27, 3) := by decide +kernel
theorem dX9_looksAt_21 : decode cX9_looksAt 21 = .ok (.iload_n 2, 1) := by decide +kernel
theorem dX9_looksAt_22 : decode cX9_looksAt 22 = .ok (.aload_n 0, 1) := by decide +kernel
theorem dX9_looksAt_23 : decode cX9_looksAt 23 = .ok (.getfield 427, 3) := by decide +kernel
theorem dX9_looksAt_26 : decode cX9_looksAt 26 = .ok (.if_icmp .lt 19, 3) := by decide +kernel
theorem dX9_looksAt_29 : decode cX9_looksAt 29 = .ok (.iload_n 2, 1) := by decide +kernel
theorem dX9_looksAt_30 : decode cX9_looksAt 30 = .ok (.aload_n 0, 1) := by decide +kernel
theorem dX9_looksAt_31 : decode cX9_looksAt 31 = .ok (.getfield 427, 3) := by decide +kernel
theorem dX9_looksAt_34 : decode cX9_looksAt 34 = .ok (.if_icmp .ne 26, 3) := by decide +kernel
theorem dX9_looksAt_37 : decode cX9_looksAt 37 = .ok (.iload_n 3, 1) := by decide +kernel
theorem dX9_looksAt_38 : decode cX9_looksAt 38 = .ok (.aload_n 0, 1) := by decide +kernel
theorem dX9_looksAt_39 : decode cX9_looksAt 39 = .ok (.getfield 430, 3) := by decide +kernel
theorem dX9_looksAt_42 : decode cX9_looksAt 42 = .ok (.if_icmp .ge 18, 3) := by decide +kernel
theorem dX9_looksAt_45 : decode cX9_looksAt 45 = .ok (.aload_n 0, 1) := by decide +kernel
theorem dX9_looksAt_46 : decode cX9_looksAt 46 = .ok (.iload_n 1, 1) := by decide +kernel
theorem dX9_looksAt_47 : decode cX9_looksAt 47 = .ok (.putfield 424, 3) := by decide +kernel
theorem dX9_looksAt_50 : decode cX9_looksAt 50 = .ok (.aload_n 0, 1) := by decide +kernel
theorem dX9_looksAt_51 : decode cX9_looksAt 51 = .ok (.iload_n 2, 1) := by decide +kernel
theorem dX9_looksAt_52 : decode cX9_looksAt 52 = .ok (.putfield 427, 3) := by decide +kernel
theorem dX9_looksAt_55 : decode cX9_looksAt 55 = .ok (.aload_n 0, 1) := by decide +kernel
theorem dX9_looksAt_56 : decode cX9_looksAt 56 = .ok (.iload_n 3, 1) := by decide +kernel
theorem dX9_looksAt_57 : decode cX9_looksAt 57 = .ok (.putfield 430, 3) := by decide +kernel
theorem dX9_looksAt_60 : decode cX9_looksAt 60 = .ok (.return_, 1) := by decide +kernel
theorem dX9_bestTold_0 : decode cX9_bestTold 0 = .ok (.iload_n 1, 1) := by decide +kernel
theorem dX9_bestTold_1 : decode cX9_bestTold 1 = .ok (.ifCond .ne 10, 3) := by decide +kernel
theorem dX9_bestTold_4 : decode cX9_bestTold 4 = .ok (.aload_n 0, 1) := by decide +kernel
theorem dX9_bestTold_5 : decode cX9_bestTold 5 = .ok (.getfield 424, 3) := by decide +kernel
theorem dX9_bestTold_8 : decode cX9_bestTold 8 = .ok (.goto 19, 3) := by decide +kernel
theorem dX9_bestTold_11 : decode cX9_bestTold 11 = .ok (.iload_n 1, 1) := by decide +kernel
theorem dX9_bestTold_12 : decode cX9_bestTold 12 = .ok (.iconst 1, 1) := by decide +kernel
theorem dX9_bestTold_13 : decode cX9_bestTold 13 = .ok (.if_icmp .ne 10, 3) := by decide +kernel
theorem dX9_bestTold_16 : decode cX9_bestTold 16 = .ok (.aload_n 0, 1) := by decide +kernel
theorem dX9_bestTold_17 : decode cX9_bestTold 17 = .ok (.getfield 427, 3) := by decide +kernel
theorem dX9_bestTold_20 : decode cX9_bestTold 20 = .ok (.goto 7, 3) := by decide +kernel
theorem dX9_bestTold_23 : decode cX9_bestTold 23 = .ok (.aload_n 0, 1) := by decide +kernel
theorem dX9_bestTold_24 : decode cX9_bestTold 24 = .ok (.getfield 430, 3) := by decide +kernel
theorem dX9_bestTold_27 : decode cX9_bestTold 27 = .ok (.ireturn, 1) := by decide +kernel
theorem dX9_rule_0 : decode cX9_rule 0 = .ok (.iload_n 1, 1) := by decide +kernel
theorem dX9_rule_1 : decode cX9_rule 1 = .ok (.i2l, 1) := by decide +kernel
theorem dX9_rule_2 : decode cX9_rule 2 = .ok (.lconst 0, 1) := by decide +kernel
theorem dX9_rule_3 : decode cX9_rule 3 = .ok (.ldc2_w 433, 3) := by decide +kernel
theorem dX9_rule_6 : decode cX9_rule 6 = .ok (.invokestatic 162, 3) := by decide +kernel
theorem dX9_rule_9 : decode cX9_rule 9 = .ok (.ifCond .ne 5, 3) := by decide +kernel
theorem dX9_rule_12 : decode cX9_rule 12 = .ok (.iconst (-1), 1) := by decide +kernel
theorem dX9_rule_13 : decode cX9_rule 13 = .ok (.ireturn, 1) := by decide +kernel
theorem dX9_rule_14 : decode cX9_rule 14 = .ok (.aload_n 0, 1) := by decide +kernel
theorem dX9_rule_15 : decode cX9_rule 15 = .ok (.invokevirtual 394, 3) := by decide +kernel
theorem dX9_rule_18 : decode cX9_rule 18 = .ok (.ifCond .ne 6, 3) := by decide +kernel
theorem dX9_rule_21 : decode cX9_rule 21 = .ok (.bipush (-5), 2) := by decide +kernel
theorem dX9_rule_23 : decode cX9_rule 23 = .ok (.ireturn, 1) := by decide +kernel
theorem dX9_rule_24 : decode cX9_rule 24 = .ok (.aload_n 0, 1) := by decide +kernel
theorem dX9_rule_25 : decode cX9_rule 25 = .ok (.invokevirtual 388, 3) := by decide +kernel
theorem dX9_rule_28 : decode cX9_rule 28 = .ok (.aload_n 0, 1) := by decide +kernel
theorem dX9_rule_29 : decode cX9_rule 29 = .ok (.iconst (-1), 1) := by decide +kernel
theorem dX9_rule_30 : decode cX9_rule 30 = .ok (.putfield 424, 3) := by decide +kernel
theorem dX9_rule_33 : decode cX9_rule 33 = .ok (.iconst 0, 1) := by decide +kernel
theorem dX9_rule_34 : decode cX9_rule 34 = .ok (.istore_n 2, 1) := by decide +kernel
theorem dX9_rule_35 : decode cX9_rule 35 = .ok (.iload_n 2, 1) := by decide +kernel
theorem dX9_rule_36 : decode cX9_rule 36 = .ok (.bipush 6, 2) := by decide +kernel
theorem dX9_rule_38 : decode cX9_rule 38 = .ok (.if_icmp .ge 19, 3) := by decide +kernel
theorem dX9_rule_41 : decode cX9_rule 41 = .ok (.aload_n 0, 1) := by decide +kernel
theorem dX9_rule_42 : decode cX9_rule 42 = .ok (.iload_n 2, 1) := by decide +kernel
theorem dX9_rule_43 : decode cX9_rule 43 = .ok (.putfield 280, 3) := by decide +kernel
theorem dX9_rule_46 : decode cX9_rule 46 = .ok (.aload_n 0, 1) := by decide +kernel
theorem dX9_rule_47 : decode cX9_rule 47 = .ok (.iload_n 2, 1) := by decide +kernel
theorem dX9_rule_48 : decode cX9_rule 48 = .ok (.invokevirtual 435, 3) := by decide +kernel
theorem dX9_rule_51 : decode cX9_rule 51 = .ok (.iinc 2 1, 3) := by decide +kernel
theorem dX9_rule_54 : decode cX9_rule 54 = .ok (.goto (-19), 3) := by decide +kernel
theorem dX9_rule_57 : decode cX9_rule 57 = .ok (.aload_n 0, 1) := by decide +kernel
theorem dX9_rule_58 : decode cX9_rule 58 = .ok (.iload_n 1, 1) := by decide +kernel
theorem dX9_rule_59 : decode cX9_rule 59 = .ok (.invokevirtual 438, 3) := by decide +kernel
theorem dX9_rule_62 : decode cX9_rule 62 = .ok (.ireturn, 1) := by decide +kernel
theorem dX9_goesOrders_0 : decode cX9_goesOrders 0 = .ok (.iload_n 1, 1) := by decide +kernel
theorem dX9_goesOrders_1 : decode cX9_goesOrders 1 = .ok (.aload_n 0, 1) := by decide +kernel
theorem dX9_goesOrders_2 : decode cX9_goesOrders 2 = .ok (.getfield 166, 3) := by decide +kernel
theorem dX9_goesOrders_5 : decode cX9_goesOrders 5 = .ok (.if_icmp .ne 9, 3) := by decide +kernel
theorem dX9_goesOrders_8 : decode cX9_goesOrders 8 = .ok (.aload_n 0, 1) := by decide +kernel
theorem dX9_goesOrders_9 : decode cX9_goesOrders 9 = .ok (.iload_n 3, 1) := by decide +kernel
theorem dX9_goesOrders_10 : decode cX9_goesOrders 10 = .ok (.invokevirtual 435, 3) := by decide +kernel
theorem dX9_goesOrders_13 : decode cX9_goesOrders 13 = .ok (.return_, 1) := by decide +kernel
theorem dX9_goesOrders_14 : decode cX9_goesOrders 14 = .ok (.iconst 0, 1) := by decide +kernel
theorem dX9_goesOrders_15 : decode cX9_goesOrders 15 = .ok (.istore 4, 2) := by decide +kernel
theorem dX9_goesOrders_17 : decode cX9_goesOrders 17 = .ok (.iload 4, 2) := by decide +kernel
theorem dX9_goesOrders_19 : decode cX9_goesOrders 19 = .ok (.aload_n 0, 1) := by decide +kernel
theorem dX9_goesOrders_20 : decode cX9_goesOrders 20 = .ok (.getfield 166, 3) := by decide +kernel
theorem dX9_goesOrders_23 : decode cX9_goesOrders 23 = .ok (.if_icmp .ge 48, 3) := by decide +kernel
theorem dX9_goesOrders_26 : decode cX9_goesOrders 26 = .ok (.iload_n 2, 1) := by decide +kernel
theorem dX9_goesOrders_27 : decode cX9_goesOrders 27 = .ok (.iload 4, 2) := by decide +kernel
theorem dX9_goesOrders_29 : decode cX9_goesOrders 29 = .ok (.ishr, 1) := by decide +kernel
theorem dX9_goesOrders_30 : decode cX9_goesOrders 30 = .ok (.iconst 1, 1) := by decide +kernel
theorem dX9_goesOrders_31 : decode cX9_goesOrders 31 = .ok (.iand, 1) := by decide +kernel
theorem dX9_goesOrders_32 : decode cX9_goesOrders 32 = .ok (.ifCond .ne 33, 3) := by decide +kernel
theorem dX9_goesOrders_35 : decode cX9_goesOrders 35 = .ok (.aload_n 0, 1) := by decide +kernel
theorem dX9_goesOrders_36 : decode cX9_goesOrders 36 = .ok (.getfield 61, 3) := by decide +kernel
theorem dX9_goesOrders_39 : decode cX9_goesOrders 39 = .ok (.iload_n 1, 1) := by decide +kernel
theorem dX9_goesOrders_40 : decode cX9_goesOrders 40 = .ok (.iload 4, 2) := by decide +kernel
theorem dX9_goesOrders_42 : decode cX9_goesOrders 42 = .ok (.iastore, 1) := by decide +kernel
theorem dX9_goesOrders_43 : decode cX9_goesOrders 43 = .ok (.aload_n 0, 1) := by decide +kernel
theorem dX9_goesOrders_44 : decode cX9_goesOrders 44 = .ok (.iload_n 1, 1) := by decide +kernel
theorem dX9_goesOrders_45 : decode cX9_goesOrders 45 = .ok (.iconst 1, 1) := by decide +kernel
theorem dX9_goesOrders_46 : decode cX9_goesOrders 46 = .ok (.iadd, 1) := by decide +kernel
theorem dX9_goesOrders_47 : decode cX9_goesOrders 47 = .ok (.iload_n 2, 1) := by decide +kernel
theorem dX9_goesOrders_48 : decode cX9_goesOrders 48 = .ok (.iconst 1, 1) := by decide +kernel
theorem dX9_goesOrders_49 : decode cX9_goesOrders 49 = .ok (.iload 4, 2) := by decide +kernel
theorem dX9_goesOrders_51 : decode cX9_goesOrders 51 = .ok (.ishl, 1) := by decide +kernel
theorem dX9_goesOrders_52 : decode cX9_goesOrders 52 = .ok (.ior, 1) := by decide +kernel
theorem dX9_goesOrders_53 : decode cX9_goesOrders 53 = .ok (.bipush 10, 2) := by decide +kernel
theorem dX9_goesOrders_55 : decode cX9_goesOrders 55 = .ok (.iload_n 3, 1) := by decide +kernel
theorem dX9_goesOrders_56 : decode cX9_goesOrders 56 = .ok (.imul, 1) := by decide +kernel
theorem dX9_goesOrders_57 : decode cX9_goesOrders 57 = .ok (.iload 4, 2) := by decide +kernel
theorem dX9_goesOrders_59 : decode cX9_goesOrders 59 = .ok (.iadd, 1) := by decide +kernel
theorem dX9_goesOrders_60 : decode cX9_goesOrders 60 = .ok (.iconst 1, 1) := by decide +kernel
theorem dX9_goesOrders_61 : decode cX9_goesOrders 61 = .ok (.iadd, 1) := by decide +kernel
theorem dX9_goesOrders_62 : decode cX9_goesOrders 62 = .ok (.invokevirtual 441, 3) := by decide +kernel
theorem dX9_goesOrders_65 : decode cX9_goesOrders 65 = .ok (.iinc 4 1, 3) := by decide +kernel
theorem dX9_goesOrders_68 : decode cX9_goesOrders 68 = .ok (.goto (-51), 3) := by decide +kernel
theorem dX9_goesOrders_71 : decode cX9_goesOrders 71 = .ok (.return_, 1) := by decide +kernel
theorem dX9_order_0 : decode cX9_order 0 = .ok (.iload_n 1, 1) := by decide +kernel
theorem dX9_order_1 : decode cX9_order 1 = .ok (.i2l, 1) := by decide +kernel
theorem dX9_order_2 : decode cX9_order 2 = .ok (.lconst 0, 1) := by decide +kernel
theorem dX9_order_3 : decode cX9_order 3 = .ok (.ldc2_w 433, 3) := by decide +kernel
theorem dX9_order_6 : decode cX9_order 6 = .ok (.invokestatic 162, 3) := by decide +kernel
theorem dX9_order_9 : decode cX9_order 9 = .ok (.ifCond .ne 5, 3) := by decide +kernel
theorem dX9_order_12 : decode cX9_order 12 = .ok (.iconst (-1), 1) := by decide +kernel
theorem dX9_order_13 : decode cX9_order 13 = .ok (.ireturn, 1) := by decide +kernel
theorem dX9_order_14 : decode cX9_order 14 = .ok (.aload_n 0, 1) := by decide +kernel
theorem dX9_order_15 : decode cX9_order 15 = .ok (.invokevirtual 394, 3) := by decide +kernel
theorem dX9_order_18 : decode cX9_order 18 = .ok (.ifCond .eq 11, 3) := by decide +kernel
theorem dX9_order_21 : decode cX9_order 21 = .ok (.aload_n 0, 1) := by decide +kernel
theorem dX9_order_22 : decode cX9_order 22 = .ok (.getfield 166, 3) := by decide +kernel
theorem dX9_order_25 : decode cX9_order 25 = .ok (.iconst 5, 1) := by decide +kernel
theorem dX9_order_26 : decode cX9_order 26 = .ok (.if_icmp .le 6, 3) := by decide +kernel
theorem dX9_order_29 : decode cX9_order 29 = .ok (.bipush (-5), 2) := by decide +kernel
theorem dX9_order_31 : decode cX9_order 31 = .ok (.ireturn, 1) := by decide +kernel
theorem dX9_order_32 : decode cX9_order 32 = .ok (.aload_n 0, 1) := by decide +kernel
theorem dX9_order_33 : decode cX9_order 33 = .ok (.invokevirtual 388, 3) := by decide +kernel
theorem dX9_order_36 : decode cX9_order 36 = .ok (.aload_n 0, 1) := by decide +kernel
theorem dX9_order_37 : decode cX9_order 37 = .ok (.iconst (-1), 1) := by decide +kernel
theorem dX9_order_38 : decode cX9_order 38 = .ok (.putfield 424, 3) := by decide +kernel
theorem dX9_order_41 : decode cX9_order 41 = .ok (.aload_n 0, 1) := by decide +kernel
theorem dX9_order_42 : decode cX9_order 42 = .ok (.iconst 0, 1) := by decide +kernel
theorem dX9_order_43 : decode cX9_order 43 = .ok (.iconst 0, 1) := by decide +kernel
theorem dX9_order_44 : decode cX9_order 44 = .ok (.iconst 0, 1) := by decide +kernel
theorem dX9_order_45 : decode cX9_order 45 = .ok (.invokevirtual 441, 3) := by decide +kernel
theorem dX9_order_48 : decode cX9_order 48 = .ok (.aload_n 0, 1) := by decide +kernel
theorem dX9_order_49 : decode cX9_order 49 = .ok (.iload_n 1, 1) := by decide +kernel
theorem dX9_order_50 : decode cX9_order 50 = .ok (.invokevirtual 438, 3) := by decide +kernel
theorem dX9_order_53 : decode cX9_order 53 = .ok (.ireturn, 1) := by decide +kernel
theorem dX9_times_0 : decode cX9_times 0 = .ok (.iload_n 1, 1) := by decide +kernel
theorem dX9_times_1 : decode cX9_times 1 = .ok (.i2l, 1) := by decide +kernel
theorem dX9_times_2 : decode cX9_times 2 = .ok (.lconst 0, 1) := by decide +kernel
theorem dX9_times_3 : decode cX9_times 3 = .ok (.ldc2_w 433, 3) := by decide +kernel
theorem dX9_times_6 : decode cX9_times 6 = .ok (.invokestatic 162, 3) := by decide +kernel
theorem dX9_times_9 : decode cX9_times 9 = .ok (.ifCond .ne 5, 3) := by decide +kernel
theorem dX9_times_12 : decode cX9_times 12 = .ok (.iconst (-1), 1) := by decide +kernel
theorem dX9_times_13 : decode cX9_times 13 = .ok (.ireturn, 1) := by decide +kernel
theorem dX9_times_14 : decode cX9_times 14 = .ok (.aload_n 0, 1) := by decide +kernel
theorem dX9_times_15 : decode cX9_times 15 = .ok (.invokevirtual 394, 3) := by decide +kernel
theorem dX9_times_18 : decode cX9_times 18 = .ok (.ifCond .ne 6, 3) := by decide +kernel
theorem dX9_times_21 : decode cX9_times 21 = .ok (.bipush (-5), 2) := by decide +kernel
theorem dX9_times_23 : decode cX9_times 23 = .ok (.ireturn, 1) := by decide +kernel
theorem dX9_times_24 : decode cX9_times 24 = .ok (.aload_n 0, 1) := by decide +kernel
theorem dX9_times_25 : decode cX9_times 25 = .ok (.invokevirtual 388, 3) := by decide +kernel
theorem dX9_times_28 : decode cX9_times 28 = .ok (.aload_n 0, 1) := by decide +kernel
theorem dX9_times_29 : decode cX9_times 29 = .ok (.iconst (-1), 1) := by decide +kernel
theorem dX9_times_30 : decode cX9_times 30 = .ok (.putfield 424, 3) := by decide +kernel
theorem dX9_times_33 : decode cX9_times 33 = .ok (.iconst 1, 1) := by decide +kernel
theorem dX9_times_34 : decode cX9_times 34 = .ok (.istore_n 2, 1) := by decide +kernel
theorem dX9_times_35 : decode cX9_times 35 = .ok (.iload_n 2, 1) := by decide +kernel
theorem dX9_times_36 : decode cX9_times 36 = .ok (.bipush 10, 2) := by decide +kernel
theorem dX9_times_38 : decode cX9_times 38 = .ok (.if_icmp .ge 19, 3) := by decide +kernel
theorem dX9_times_41 : decode cX9_times 41 = .ok (.aload_n 0, 1) := by decide +kernel
theorem dX9_times_42 : decode cX9_times 42 = .ok (.iload_n 2, 1) := by decide +kernel
theorem dX9_times_43 : decode cX9_times 43 = .ok (.putfield 283, 3) := by decide +kernel
theorem dX9_times_46 : decode cX9_times 46 = .ok (.aload_n 0, 1) := by decide +kernel
theorem dX9_times_47 : decode cX9_times 47 = .ok (.iload_n 2, 1) := by decide +kernel
theorem dX9_times_48 : decode cX9_times 48 = .ok (.invokevirtual 435, 3) := by decide +kernel
theorem dX9_times_51 : decode cX9_times 51 = .ok (.iinc 2 1, 3) := by decide +kernel
theorem dX9_times_54 : decode cX9_times 54 = .ok (.goto (-19), 3) := by decide +kernel
theorem dX9_times_57 : decode cX9_times 57 = .ok (.aload_n 0, 1) := by decide +kernel
theorem dX9_times_58 : decode cX9_times 58 = .ok (.iload_n 1, 1) := by decide +kernel
theorem dX9_times_59 : decode cX9_times 59 = .ok (.invokevirtual 438, 3) := by decide +kernel
theorem dX9_times_62 : decode cX9_times 62 = .ok (.ireturn, 1) := by decide +kernel
theorem dX9_film_0 : decode cX9_film 0 = .ok (.iload_n 1, 1) := by decide +kernel
theorem dX9_film_1 : decode cX9_film 1 = .ok (.invokestatic 198, 3) := by decide +kernel
theorem dX9_film_4 : decode cX9_film 4 = .ok (.ifCond .ne 5, 3) := by decide +kernel
theorem dX9_film_7 : decode cX9_film 7 = .ok (.iconst (-1), 1) := by decide +kernel
theorem dX9_film_8 : decode cX9_film 8 = .ok (.ireturn, 1) := by decide +kernel
theorem dX9_film_9 : decode cX9_film 9 = .ok (.aload_n 0, 1) := by decide +kernel
theorem dX9_film_10 : decode cX9_film 10 = .ok (.getfield 130, 3) := by decide +kernel
theorem dX9_film_13 : decode cX9_film 13 = .ok (.iload_n 1, 1) := by decide +kernel
theorem dX9_film_14 : decode cX9_film 14 = .ok (.iaload, 1) := by decide +kernel
theorem dX9_film_15 : decode cX9_film 15 = .ok (.ifCond .ge 6, 3) := by decide +kernel
theorem dX9_film_18 : decode cX9_film 18 = .ok (.bipush (-11), 2) := by decide +kernel
theorem dX9_film_20 : decode cX9_film 20 = .ok (.ireturn, 1) := by decide +kernel
theorem dX9_film_21 : decode cX9_film 21 = .ok (.aload_n 0, 1) := by decide +kernel
theorem dX9_film_22 : decode cX9_film 22 = .ok (.getfield 130, 3) := by decide +kernel
theorem dX9_film_25 : decode cX9_film 25 = .ok (.iload_n 1, 1) := by decide +kernel
theorem dX9_film_26 : decode cX9_film 26 = .ok (.iaload, 1) := by decide +kernel
theorem dX9_film_27 : decode cX9_film 27 = .ok (.bipush 50, 2) := by decide +kernel
theorem dX9_film_29 : decode cX9_film 29 = .ok (.if_icmp .eq 6, 3) := by decide +kernel
theorem dX9_film_32 : decode cX9_film 32 = .ok (.bipush (-12), 2) := by decide +kernel
theorem dX9_film_34 : decode cX9_film 34 = .ok (.ireturn, 1) := by decide +kernel
theorem dX9_film_35 : decode cX9_film 35 = .ok (.aload_n 0, 1) := by decide +kernel
theorem dX9_film_36 : decode cX9_film 36 = .ok (.invokevirtual 394, 3) := by decide +kernel
theorem dX9_film_39 : decode cX9_film 39 = .ok (.ifCond .ne 6, 3) := by decide +kernel
theorem dX9_film_42 : decode cX9_film 42 = .ok (.bipush (-5), 2) := by decide +kernel
theorem dX9_film_44 : decode cX9_film 44 = .ok (.ireturn, 1) := by decide +kernel
theorem dX9_film_45 : decode cX9_film 45 = .ok (.aload_n 0, 1) := by decide +kernel
theorem dX9_film_46 : decode cX9_film 46 = .ok (.invokevirtual 388, 3) := by decide +kernel
theorem dX9_film_49 : decode cX9_film 49 = .ok (.iconst 0, 1) := by decide +kernel
theorem dX9_film_50 : decode cX9_film 50 = .ok (.istore_n 2, 1) := by decide +kernel
theorem dX9_film_51 : decode cX9_film 51 = .ok (.iconst 0, 1) := by decide +kernel
theorem dX9_film_52 : decode cX9_film 52 = .ok (.istore_n 3, 1) := by decide +kernel
theorem dX9_film_53 : decode cX9_film 53 = .ok (.iload_n 3, 1) := by decide +kernel
theorem dX9_film_54 : decode cX9_film 54 = .ok (.bipush 6, 2) := by decide +kernel
theorem dX9_film_56 : decode cX9_film 56 = .ok (.if_icmp .ge 109, 3) := by decide +kernel
theorem dX9_film_59 : decode cX9_film 59 = .ok (.aload_n 0, 1) := by decide +kernel
theorem dX9_film_60 : decode cX9_film 60 = .ok (.iload_n 3, 1) := by decide +kernel
theorem dX9_film_61 : decode cX9_film 61 = .ok (.putfield 280, 3) := by decide +kernel
theorem dX9_film_64 : decode cX9_film 64 = .ok (.aload_n 0, 1) := by decide +kernel
theorem dX9_film_65 : decode cX9_film 65 = .ok (.invokevirtual 398, 3) := by decide +kernel
theorem dX9_film_68 : decode cX9_film 68 = .ok (.aload_n 0, 1) := by decide +kernel
theorem dX9_film_69 : decode cX9_film 69 = .ok (.getfield 321, 3) := by decide +kernel
theorem dX9_film_72 : decode cX9_film 72 = .ok (.aload_n 0, 1) := by decide +kernel
theorem dX9_film_73 : decode cX9_film 73 = .ok (.getfield 133, 3) := by decide +kernel
theorem dX9_film_76 : decode cX9_film 76 = .ok (.iload_n 1, 1) := by decide +kernel
theorem dX9_film_77 : decode cX9_film 77 = .ok (.iaload, 1) := by decide +kernel
theorem dX9_film_78 : decode cX9_film 78 = .ok (.if_icmp .lt 7, 3) := by decide +kernel
theorem dX9_film_81 : decode cX9_film 81 = .ok (.iconst 1, 1) := by decide +kernel
theorem dX9_film_82 : decode cX9_film 82 = .ok (.goto 4, 3) := by decide +kernel
theorem dX9_film_85 : decode cX9_film 85 = .ok (.iconst 0, 1) := by decide +kernel
theorem dX9_film_86 : decode cX9_film 86 = .ok (.istore 4, 2) := by decide +kernel
theorem dX9_film_88 : decode cX9_film 88 = .ok (.iconst 0, 1) := by decide +kernel
theorem dX9_film_89 : decode cX9_film 89 = .ok (.istore 5, 2) := by decide +kernel
theorem dX9_film_91 : decode cX9_film 91 = .ok (.iload 5, 2) := by decide +kernel
theorem dX9_film_93 : decode cX9_film 93 = .ok (.aload_n 0, 1) := by decide +kernel
theorem dX9_film_94 : decode cX9_film 94 = .ok (.getfield 133, 3) := by decide +kernel
theorem dX9_film_97 : decode cX9_film 97 = .ok (.iload_n 1, 1) := by decide +kernel
theorem dX9_film_98 : decode cX9_film 98 = .ok (.iaload, 1) := by decide +kernel
theorem dX9_film_99 : decode cX9_film 99 = .ok (.if_icmp .ge 45, 3) := by decide +kernel
theorem dX9_film_102 : decode cX9_film 102 = .ok (.iload 4, 2) := by decide +kernel
theorem dX9_film_104 : decode cX9_film 104 = .ok (.ifCond .eq 40, 3) := by decide +kernel
theorem dX9_film_107 : decode cX9_film 107 = .ok (.aload_n 0, 1) := by decide +kernel
theorem dX9_film_108 : decode cX9_film 108 = .ok (.getfield 64, 3) := by decide +kernel
theorem dX9_film_111 : decode cX9_film 111 = .ok (.iload 5, 2) := by decide +kernel
theorem dX9_film_113 : decode cX9_film 113 = .ok (.iaload, 1) := by decide +kernel
theorem dX9_film_114 : decode cX9_film 114 = .ok (.i2l, 1) := by decide +kernel
theorem dX9_film_115 : decode cX9_film 115 = .ok (.aload_n 0, 1) := by decide +kernel
theorem dX9_film_116 : decode cX9_film 116 = .ok (.getfield 136, 3) := by decide +kernel
theorem dX9_film_119 : decode cX9_film 119 = .ok (.bipush 60, 2) := by decide +kernel
theorem dX9_film_121 : decode cX9_film 121 = .ok (.iload_n 1, 1) := by decide +kernel
theorem dX9_film_122 : decode cX9_film 122 = .ok (.imul, 1) := by decide +kernel
theorem dX9_film_123 : decode cX9_film 123 = .ok (.iload 5, 2) := by decide +kernel
theorem dX9_film_125 : decode cX9_film 125 = .ok (.iadd, 1) := by decide +kernel
theorem dX9_film_126 : decode cX9_film 126 = .ok (.laload, 1) := by decide +kernel
theorem dX9_film_127 : decode cX9_film 127 = .ok (.lcmp, 1) := by decide +kernel
theorem dX9_film_128 : decode cX9_film 128 = .ok (.ifCond .ne 7, 3) := by decide +kernel
theorem dX9_film_131 : decode cX9_film 131 = .ok (.iconst 1, 1) := by decide +kernel
theorem dX9_film_132 : decode cX9_film 132 = .ok (.goto 4, 3) := by decide +kernel
theorem dX9_film_135 : decode cX9_film 135 = .ok (.iconst 0, 1) := by decide +kernel
theorem dX9_film_136 : decode cX9_film 136 = .ok (.istore 4, 2) := by decide +kernel
theorem dX9_film_138 : decode cX9_film 138 = .ok (.iinc 5 1, 3) := by decide +kernel
theorem dX9_film_141 : decode cX9_film 141 = .ok (.goto (-50), 3) := by decide +kernel
theorem dX9_film_144 : decode cX9_film 144 = .ok (.iload_n 2, 1) := by decide +kernel
theorem dX9_film_145 : decode cX9_film 145 = .ok (.iload 4, 2) := by decide +kernel
theorem dX9_film_147 : decode cX9_film 147 = .ok (.ifCond .eq 9, 3) := by decide +kernel
theorem dX9_film_150 : decode cX9_film 150 = .ok (.iconst 1, 1) := by decide +kernel
theorem dX9_film_151 : decode cX9_film 151 = .ok (.iload_n 3, 1) := by decide +kernel
theorem dX9_film_152 : decode cX9_film 152 = .ok (.ishl, 1) := by decide +kernel
theorem dX9_film_153 : decode cX9_film 153 = .ok (.goto 4, 3) := by decide +kernel
theorem dX9_film_156 : decode cX9_film 156 = .ok (.iconst 0, 1) := by decide +kernel
theorem dX9_film_157 : decode cX9_film 157 = .ok (.ior, 1) := by decide +kernel
theorem dX9_film_158 : decode cX9_film 158 = .ok (.istore_n 2, 1) := by decide +kernel
theorem dX9_film_159 : decode cX9_film 159 = .ok (.iinc 3 1, 3) := by decide +kernel
theorem dX9_film_162 : decode cX9_film 162 = .ok (.goto (-109), 3) := by decide +kernel
theorem dX9_film_165 : decode cX9_film 165 = .ok (.iload_n 2, 1) := by decide +kernel
theorem dX9_film_166 : decode cX9_film 166 = .ok (.ireturn, 1) := by decide +kernel
theorem dX9_wish_0 : decode cX9_wish 0 = .ok (.aload_n 0, 1) := by decide +kernel
theorem dX9_wish_1 : decode cX9_wish 1 = .ok (.iload_n 1, 1) := by decide +kernel
theorem dX9_wish_2 : decode cX9_wish 2 = .ok (.invokevirtual 211, 3) := by decide +kernel
theorem dX9_wish_5 : decode cX9_wish 5 = .ok (.ifCond .eq 11, 3) := by decide +kernel
theorem dX9_wish_8 : decode cX9_wish 8 = .ok (.aload_n 0, 1) := by decide +kernel
theorem dX9_wish_9 : decode cX9_wish 9 = .ok (.iload_n 2, 1) := by decide +kernel
theorem dX9_wish_10 : decode cX9_wish 10 = .ok (.invokevirtual 219, 3) := by decide +kernel
theorem dX9_wish_13 : decode cX9_wish 13 = .ok (.ifCond .ne 6, 3) := by decide +kernel
theorem dX9_wish_16 : decode cX9_wish 16 = .ok (.ldc 218, 2) := by decide +kernel
theorem dX9_wish_18 : decode cX9_wish 18 = .ok (.ireturn, 1) := by decide +kernel
theorem dX9_wish_19 : decode cX9_wish 19 = .ok (.iconst 0, 1) := by decide +kernel
theorem dX9_wish_20 : decode cX9_wish 20 = .ok (.istore_n 3, 1) := by decide +kernel
theorem dX9_wish_21 : decode cX9_wish 21 = .ok (.iconst 0, 1) := by decide +kernel
theorem dX9_wish_22 : decode cX9_wish 22 = .ok (.istore 4, 2) := by decide +kernel
theorem dX9_wish_24 : decode cX9_wish 24 = .ok (.iload 4, 2) := by decide +kernel
theorem dX9_wish_26 : decode cX9_wish 26 = .ok (.aload_n 0, 1) := by decide +kernel
theorem dX9_wish_27 : decode cX9_wish 27 = .ok (.getfield 169, 3) := by decide +kernel
theorem dX9_wish_30 : decode cX9_wish 30 = .ok (.if_icmp .ge 38, 3) := by decide +kernel
theorem dX9_wish_33 : decode cX9_wish 33 = .ok (.iload_n 3, 1) := by decide +kernel
theorem dX9_wish_34 : decode cX9_wish 34 = .ok (.aload_n 0, 1) := by decide +kernel
theorem dX9_wish_35 : decode cX9_wish 35 = .ok (.getfield 25, 3) := by decide +kernel
theorem dX9_wish_38 : decode cX9_wish 38 = .ok (.iload 4, 2) := by decide +kernel
theorem dX9_wish_40 : decode cX9_wish 40 = .ok (.iaload, 1) := by decide +kernel
theorem dX9_wish_41 : decode cX9_wish 41 = .ok (.iload_n 2, 1) := by decide +kernel
theorem dX9_wish_42 : decode cX9_wish 42 = .ok (.if_icmp .ne 17, 3) := by decide +kernel
theorem dX9_wish_45 : decode cX9_wish 45 = .ok (.aload_n 0, 1) := by decide +kernel
theorem dX9_wish_46 : decode cX9_wish 46 = .ok (.iload_n 1, 1) := by decide +kernel
theorem dX9_wish_47 : decode cX9_wish 47 = .ok (.iload 4, 2) := by decide +kernel
theorem dX9_wish_49 : decode cX9_wish 49 = .ok (.invokevirtual 292, 3) := by decide +kernel
theorem dX9_wish_52 : decode cX9_wish 52 = .ok (.ifCond .eq 7, 3) := by decide +kernel
theorem dX9_wish_55 : decode cX9_wish 55 = .ok (.iconst 1, 1) := by decide +kernel
theorem dX9_wish_56 : decode cX9_wish 56 = .ok (.goto 4, 3) := by decide +kernel
theorem dX9_wish_59 : decode cX9_wish 59 = .ok (.iconst 0, 1) := by decide +kernel
theorem dX9_wish_60 : decode cX9_wish 60 = .ok (.iadd, 1) := by decide +kernel
theorem dX9_wish_61 : decode cX9_wish 61 = .ok (.istore_n 3, 1) := by decide +kernel
theorem dX9_wish_62 : decode cX9_wish 62 = .ok (.iinc 4 1, 3) := by decide +kernel
theorem dX9_wish_65 : decode cX9_wish 65 = .ok (.goto (-41), 3) := by decide +kernel
theorem dX9_wish_68 : decode cX9_wish 68 = .ok (.aload_n 0, 1) := by decide +kernel
theorem dX9_wish_69 : decode cX9_wish 69 = .ok (.iload_n 1, 1) := by decide +kernel
theorem dX9_wish_70 : decode cX9_wish 70 = .ok (.iload_n 2, 1) := by decide +kernel
theorem dX9_wish_71 : decode cX9_wish 71 = .ok (.iload_n 3, 1) := by decide +kernel
theorem dX9_wish_72 : decode cX9_wish 72 = .ok (.iconst 0, 1) := by decide +kernel
theorem dX9_wish_73 : decode cX9_wish 73 = .ok (.iconst 0, 1) := by decide +kernel
theorem dX9_wish_74 : decode cX9_wish 74 = .ok (.iconst 0, 1) := by decide +kernel
theorem dX9_wish_75 : decode cX9_wish 75 = .ok (.invokevirtual 341, 3) := by decide +kernel
theorem dX9_wish_78 : decode cX9_wish 78 = .ok (.ireturn, 1) := by decide +kernel
theorem dX9_isBody_0 : decode cX9_isBody 0 = .ok (.iload_n 1, 1) := by decide +kernel
theorem dX9_isBody_1 : decode cX9_isBody 1 = .ok (.i2l, 1) := by decide +kernel
theorem dX9_isBody_2 : decode cX9_isBody 2 = .ok (.lconst 0, 1) := by decide +kernel
theorem dX9_isBody_3 : decode cX9_isBody 3 = .ok (.aload_n 0, 1) := by decide +kernel
theorem dX9_isBody_4 : decode cX9_isBody 4 = .ok (.getfield 444, 3) := by decide +kernel
theorem dX9_isBody_7 : decode cX9_isBody 7 = .ok (.iconst 1, 1) := by decide +kernel
theorem dX9_isBody_8 : decode cX9_isBody 8 = .ok (.isub, 1) := by decide +kernel
theorem dX9_isBody_9 : decode cX9_isBody 9 = .ok (.i2l, 1) := by decide +kernel
theorem dX9_isBody_10 : decode cX9_isBody 10 = .ok (.invokestatic 162, 3) := by decide +kernel
theorem dX9_isBody_13 : decode cX9_isBody 13 = .ok (.ireturn, 1) := by decide +kernel
theorem dX9_kindOf_0 : decode cX9_kindOf 0 = .ok (.aload_n 0, 1) := by decide +kernel
theorem dX9_kindOf_1 : decode cX9_kindOf 1 = .ok (.getfield 124, 3) := by decide +kernel
theorem dX9_kindOf_4 : decode cX9_kindOf 4 = .ok (.iload_n 1, 1) := by decide +kernel
theorem dX9_kindOf_5 : decode cX9_kindOf 5 = .ok (.iaload, 1) := by decide +kernel
theorem dX9_kindOf_6 : decode cX9_kindOf 6 = .ok (.ireturn, 1) := by decide +kernel
theorem dX9_body_0 : decode cX9_body 0 = .ok (.iload_n 1, 1) := by decide +kernel
theorem dX9_body_1 : decode cX9_body 1 = .ok (.i2l, 1) := by decide +kernel
theorem dX9_body_2 : decode cX9_body 2 = .ok (.lconst 0, 1) := by decide +kernel
theorem dX9_body_3 : decode cX9_body 3 = .ok (.ldc2_w 447, 3) := by decide +kernel
theorem dX9_body_6 : decode cX9_body 6 = .ok (.invokestatic 162, 3) := by decide +kernel
theorem dX9_body_9 : decode cX9_body 9 = .ok (.ifCond .ne 5, 3) := by decide +kernel
theorem dX9_body_12 : decode cX9_body 12 = .ok (.iconst (-1), 1) := by decide +kernel
theorem dX9_body_13 : decode cX9_body 13 = .ok (.ireturn, 1) := by decide +kernel
theorem dX9_body_14 : decode cX9_body 14 = .ok (.aload_n 0, 1) := by decide +kernel
theorem dX9_body_15 : decode cX9_body 15 = .ok (.getfield 444, 3) := by decide +kernel
theorem dX9_body_18 : decode cX9_body 18 = .ok (.bipush 50, 2) := by decide +kernel
theorem dX9_body_20 : decode cX9_body 20 = .ok (.if_icmp .ne 6, 3) := by decide +kernel
theorem dX9_body_23 : decode cX9_body 23 = .ok (.bipush (-3), 2) := by decide +kernel
theorem dX9_body_25 : decode cX9_body 25 = .ok (.ireturn, 1) := by decide +kernel
theorem dX9_body_26 : decode cX9_body 26 = .ok (.aload_n 0, 1) := by decide +kernel
theorem dX9_body_27 : decode cX9_body 27 = .ok (.getfield 124, 3) := by decide +kernel
theorem dX9_body_30 : decode cX9_body 30 = .ok (.aload_n 0, 1) := by decide +kernel
theorem dX9_body_31 : decode cX9_body 31 = .ok (.getfield 444, 3) := by decide +kernel
theorem dX9_body_34 : decode cX9_body 34 = .ok (.iload_n 1, 1) := by decide +kernel
theorem dX9_body_35 : decode cX9_body 35 = .ok (.iastore, 1) := by decide +kernel
theorem dX9_body_36 : decode cX9_body 36 = .ok (.aload_n 0, 1) := by decide +kernel
theorem dX9_body_37 : decode cX9_body 37 = .ok (.dup, 1) := by decide +kernel
theorem dX9_body_38 : decode cX9_body 38 = .ok (.getfield 444, 3) := by decide +kernel
theorem dX9_body_41 : decode cX9_body 41 = .ok (.iconst 1, 1) := by decide +kernel
theorem dX9_body_42 : decode cX9_body 42 = .ok (.iadd, 1) := by decide +kernel
theorem dX9_body_43 : decode cX9_body 43 = .ok (.putfield 444, 3) := by decide +kernel
theorem dX9_body_46 : decode cX9_body 46 = .ok (.aload_n 0, 1) := by decide +kernel
theorem dX9_body_47 : decode cX9_body 47 = .ok (.getfield 444, 3) := by decide +kernel
theorem dX9_body_50 : decode cX9_body 50 = .ok (.iconst 1, 1) := by decide +kernel
theorem dX9_body_51 : decode cX9_body 51 = .ok (.isub, 1) := by decide +kernel
theorem dX9_body_52 : decode cX9_body 52 = .ok (.ireturn, 1) := by decide +kernel
theorem dX9_above_0 : decode cX9_above 0 = .ok (.iload_n 0, 1) := by decide +kernel
theorem dX9_above_1 : decode cX9_above 1 = .ok (.iconst 3, 1) := by decide +kernel
theorem dX9_above_2 : decode cX9_above 2 = .ok (.if_icmp .ne 7, 3) := by decide +kernel
theorem dX9_above_5 : decode cX9_above 5 = .ok (.iconst 2, 1) := by decide +kernel
theorem dX9_above_6 : decode cX9_above 6 = .ok (.goto 23, 3) := by decide +kernel
theorem dX9_above_9 : decode cX9_above 9 = .ok (.iload_n 0, 1) := by decide +kernel
theorem dX9_above_10 : decode cX9_above 10 = .ok (.iconst 5, 1) := by decide +kernel
theorem dX9_above_11 : decode cX9_above 11 = .ok (.if_icmp .ne 7, 3) := by decide +kernel
theorem dX9_above_14 : decode cX9_above 14 = .ok (.iconst 3, 1) := by decide +kernel
theorem dX9_above_15 : decode cX9_above 15 = .ok (.goto 14, 3) := by decide +kernel
theorem dX9_above_18 : decode cX9_above 18 = .ok (.iload_n 0, 1) := by decide +kernel
theorem dX9_above_19 : decode cX9_above 19 = .ok (.bipush 7, 2) := by decide +kernel
theorem dX9_above_21 : decode cX9_above 21 = .ok (.if_icmp .ne 7, 3) := by decide +kernel
theorem dX9_above_24 : decode cX9_above 24 = .ok (.iconst 4, 1) := by decide +kernel
theorem dX9_above_25 : decode cX9_above 25 = .ok (.goto 4, 3) := by decide +kernel
theorem dX9_above_28 : decode cX9_above 28 = .ok (.iconst 0, 1) := by decide +kernel
theorem dX9_above_29 : decode cX9_above 29 = .ok (.ireturn, 1) := by decide +kernel
theorem dX9_begins_0 : decode cX9_begins 0 = .ok (.aload_n 0, 1) := by decide +kernel
theorem dX9_begins_1 : decode cX9_begins 1 = .ok (.getfield 449, 3) := by decide +kernel
theorem dX9_begins_4 : decode cX9_begins 4 = .ok (.bipush 24, 2) := by decide +kernel
theorem dX9_begins_6 : decode cX9_begins 6 = .ok (.if_icmp .ge 13, 3) := by decide +kernel
theorem dX9_begins_9 : decode cX9_begins 9 = .ok (.aload_n 0, 1) := by decide +kernel
theorem dX9_begins_10 : decode cX9_begins 10 = .ok (.getfield 127, 3) := by decide +kernel
theorem dX9_begins_13 : decode cX9_begins 13 = .ok (.aload_n 0, 1) := by decide +kernel
theorem dX9_begins_14 : decode cX9_begins 14 = .ok (.getfield 449, 3) := by decide +kernel
theorem dX9_begins_17 : decode cX9_begins 17 = .ok (.iload_n 1, 1) := by decide +kernel
theorem dX9_begins_18 : decode cX9_begins 18 = .ok (.iastore, 1) := by decide +kernel
theorem dX9_begins_19 : decode cX9_begins 19 = .ok (.aload_n 0, 1) := by decide +kernel
theorem dX9_begins_20 : decode cX9_begins 20 = .ok (.dup, 1) := by decide +kernel
theorem dX9_begins_21 : decode cX9_begins 21 = .ok (.getfield 449, 3) := by decide +kernel
theorem dX9_begins_24 : decode cX9_begins 24 = .ok (.iconst 1, 1) := by decide +kernel
theorem dX9_begins_25 : decode cX9_begins 25 = .ok (.iadd, 1) := by decide +kernel
theorem dX9_begins_26 : decode cX9_begins 26 = .ok (.putfield 449, 3) := by decide +kernel
theorem dX9_begins_29 : decode cX9_begins 29 = .ok (.return_, 1) := by decide +kernel
theorem dX9_knowsAs_0 : decode cX9_knowsAs 0 = .ok (.iload_n 1, 1) := by decide +kernel
theorem dX9_knowsAs_1 : decode cX9_knowsAs 1 = .ok (.iconst 1, 1) := by decide +kernel
theorem dX9_knowsAs_2 : decode cX9_knowsAs 2 = .ok (.if_icmp .ne 18, 3) := by decide +kernel
theorem dX9_knowsAs_5 : decode cX9_knowsAs 5 = .ok (.aload_n 0, 1) := by decide +kernel
theorem dX9_knowsAs_6 : decode cX9_knowsAs 6 = .ok (.bipush 20, 2) := by decide +kernel
theorem dX9_knowsAs_8 : decode cX9_knowsAs 8 = .ok (.invokevirtual 452, 3) := by decide +kernel
theorem dX9_knowsAs_11 : decode cX9_knowsAs 11 = .ok (.aload_n 0, 1) := by decide +kernel
theorem dX9_knowsAs_12 : decode cX9_knowsAs 12 = .ok (.iconst 0, 1) := by decide +kernel
theorem dX9_knowsAs_13 : decode cX9_knowsAs 13 = .ok (.iload_n 2, 1) := by decide +kernel
theorem dX9_knowsAs_14 : decode cX9_knowsAs 14 = .ok (.invokevirtual 455, 3) := by decide +kernel
theorem dX9_knowsAs_17 : decode cX9_knowsAs 17 = .ok (.iconst 3, 1) := by decide +kernel
theorem dX9_knowsAs_18 : decode cX9_knowsAs 18 = .ok (.iadd, 1) := by decide +kernel
theorem dX9_knowsAs_19 : decode cX9_knowsAs 19 = .ok (.ireturn, 1) := by decide +kernel
theorem dX9_knowsAs_20 : decode cX9_knowsAs 20 = .ok (.iload_n 1, 1) := by decide +kernel
theorem dX9_knowsAs_21 : decode cX9_knowsAs 21 = .ok (.bipush 6, 2) := by decide +kernel
theorem dX9_knowsAs_23 : decode cX9_knowsAs 23 = .ok (.if_icmp .ne 18, 3) := by decide +kernel
theorem dX9_knowsAs_26 : decode cX9_knowsAs 26 = .ok (.aload_n 0, 1) := by decide +kernel
theorem dX9_knowsAs_27 : decode cX9_knowsAs 27 = .ok (.bipush 70, 2) := by decide +kernel
theorem dX9_knowsAs_29 : decode cX9_knowsAs 29 = .ok (.invokevirtual 452, 3) := by decide +kernel
theorem dX9_knowsAs_32 : decode cX9_knowsAs 32 = .ok (.aload_n 0, 1) := by decide +kernel
theorem dX9_knowsAs_33 : decode cX9_knowsAs 33 = .ok (.iconst 0, 1) := by decide +kernel
theorem dX9_knowsAs_34 : decode cX9_knowsAs 34 = .ok (.iload_n 2, 1) := by decide +kernel
theorem dX9_knowsAs_35 : decode cX9_knowsAs 35 = .ok (.invokevirtual 455, 3) := by decide +kernel
theorem dX9_knowsAs_38 : decode cX9_knowsAs 38 = .ok (.iconst 2, 1) := by decide +kernel
theorem dX9_knowsAs_39 : decode cX9_knowsAs 39 = .ok (.imul, 1) := by decide +kernel
theorem dX9_knowsAs_40 : decode cX9_knowsAs 40 = .ok (.ireturn, 1) := by decide +kernel
theorem dX9_knowsAs_41 : decode cX9_knowsAs 41 = .ok (.aload_n 0, 1) := by decide +kernel
theorem dX9_knowsAs_42 : decode cX9_knowsAs 42 = .ok (.iconst 1, 1) := by decide +kernel
theorem dX9_knowsAs_43 : decode cX9_knowsAs 43 = .ok (.invokevirtual 452, 3) := by decide +kernel
theorem dX9_knowsAs_46 : decode cX9_knowsAs 46 = .ok (.iload_n 2, 1) := by decide +kernel
theorem dX9_knowsAs_47 : decode cX9_knowsAs 47 = .ok (.aload_n 0, 1) := by decide +kernel
theorem dX9_knowsAs_48 : decode cX9_knowsAs 48 = .ok (.getfield 458, 3) := by decide +kernel
theorem dX9_knowsAs_51 : decode cX9_knowsAs 51 = .ok (.iadd, 1) := by decide +kernel
theorem dX9_knowsAs_52 : decode cX9_knowsAs 52 = .ok (.ireturn, 1) := by decide +kernel
theorem dX9_speaksAs_0 : decode cX9_speaksAs 0 = .ok (.iload_n 1, 1) := by decide +kernel
theorem dX9_speaksAs_1 : decode cX9_speaksAs 1 = .ok (.iconst 3, 1) := by decide +kernel
theorem dX9_speaksAs_2 : decode cX9_speaksAs 2 = .ok (.if_icmp .eq 8, 3) := by decide +kernel
theorem dX9_speaksAs_5 : decode cX9_speaksAs 5 = .ok (.iload_n 1, 1) := by decide +kernel
theorem dX9_speaksAs_6 : decode cX9_speaksAs 6 = .ok (.iconst 5, 1) := by decide +kernel
theorem dX9_speaksAs_7 : decode cX9_speaksAs 7 = .ok (.if_icmp .ne 18, 3) := by decide +kernel
theorem dX9_speaksAs_10 : decode cX9_speaksAs 10 = .ok (.aload_n 0, 1) := by decide +kernel
theorem dX9_speaksAs_11 : decode cX9_speaksAs 11 = .ok (.bipush 41, 2) := by decide +kernel
theorem dX9_speaksAs_13 : decode cX9_speaksAs 13 = .ok (.invokevirtual 452, 3) := by decide +kernel
theorem dX9_speaksAs_16 : decode cX9_speaksAs 16 = .ok (.aload_n 0, 1) := by decide +kernel
theorem dX9_speaksAs_17 : decode cX9_speaksAs 17 = .ok (.iconst 2, 1) := by decide +kernel
theorem dX9_speaksAs_18 : decode cX9_speaksAs 18 = .ok (.iload_n 2, 1) := by decide +kernel
theorem dX9_speaksAs_19 : decode cX9_speaksAs 19 = .ok (.iconst 1, 1) := by decide +kernel
theorem dX9_speaksAs_20 : decode cX9_speaksAs 20 = .ok (.iadd, 1) := by decide +kernel
theorem dX9_speaksAs_21 : decode cX9_speaksAs 21 = .ok (.invokevirtual 461, 3) := by decide +kernel
theorem dX9_speaksAs_24 : decode cX9_speaksAs 24 = .ok (.ireturn, 1) := by decide +kernel
theorem dX9_speaksAs_25 : decode cX9_speaksAs 25 = .ok (.iload_n 1, 1) := by decide +kernel
theorem dX9_speaksAs_26 : decode cX9_speaksAs 26 = .ok (.iconst 2, 1) := by decide +kernel
theorem dX9_speaksAs_27 : decode cX9_speaksAs 27 = .ok (.if_icmp .ne 17, 3) := by decide +kernel
theorem dX9_speaksAs_30 : decode cX9_speaksAs 30 = .ok (.aload_n 0, 1) := by decide +kernel
theorem dX9_speaksAs_31 : decode cX9_speaksAs 31 = .ok (.bipush 30, 2) := by decide +kernel
theorem dX9_speaksAs_33 : decode cX9_speaksAs 33 = .ok (.invokevirtual 452, 3) := by decide +kernel
theorem dX9_speaksAs_36 : decode cX9_speaksAs 36 = .ok (.aload_n 0, 1) := by decide +kernel
theorem dX9_speaksAs_37 : decode cX9_speaksAs 37 = .ok (.iconst 0, 1) := by decide +kernel
theorem dX9_speaksAs_38 : decode cX9_speaksAs 38 = .ok (.iload_n 2, 1) := by decide +kernel
theorem dX9_speaksAs_39 : decode cX9_speaksAs 39 = .ok (.invokevirtual 461, 3) := by decide +kernel
theorem dX9_speaksAs_42 : decode cX9_speaksAs 42 = .ok (.ineg, 1) := by decide +kernel
theorem dX9_speaksAs_43 : decode cX9_speaksAs 43 = .ok (.ireturn, 1) := by decide +kernel
theorem dX9_speaksAs_44 : decode cX9_speaksAs 44 = .ok (.iload_n 1, 1) := by decide +kernel
theorem dX9_speaksAs_45 : decode cX9_speaksAs 45 = .ok (.bipush 7, 2) := by decide +kernel
theorem dX9_speaksAs_47 : decode cX9_speaksAs 47 = .ok (.if_icmp .ne 28, 3) := by decide +kernel
theorem dX9_speaksAs_50 : decode cX9_speaksAs 50 = .ok (.aload_n 0, 1) := by decide +kernel
theorem dX9_speaksAs_51 : decode cX9_speaksAs 51 = .ok (.bipush 80, 2) := by decide +kernel
theorem dX9_speaksAs_53 : decode cX9_speaksAs 53 = .ok (.invokevirtual 452, 3) := by decide +kernel
theorem dX9_speaksAs_56 : decode cX9_speaksAs 56 = .ok (.aload_n 0, 1) := by decide +kernel
theorem dX9_speaksAs_57 : decode cX9_speaksAs 57 = .ok (.iconst 4, 1) := by decide +kernel
theorem dX9_speaksAs_58 : decode cX9_speaksAs 58 = .ok (.iload_n 2, 1) := by decide +kernel
theorem dX9_speaksAs_59 : decode cX9_speaksAs 59 = .ok (.invokevirtual 461, 3) := by decide +kernel
theorem dX9_speaksAs_62 : decode cX9_speaksAs 62 = .ok (.istore_n 3, 1) := by decide +kernel
theorem dX9_speaksAs_63 : decode cX9_speaksAs 63 = .ok (.iload_n 3, 1) := by decide +kernel
theorem dX9_speaksAs_64 : decode cX9_speaksAs 64 = .ok (.aload_n 0, 1) := by decide +kernel
theorem dX9_speaksAs_65 : decode cX9_speaksAs 65 = .ok (.aload_n 0, 1) := by decide +kernel
theorem dX9_speaksAs_66 : decode cX9_speaksAs 66 = .ok (.getfield 464, 3) := by decide +kernel
theorem dX9_speaksAs_69 : decode cX9_speaksAs 69 = .ok (.iconst 2, 1) := by decide +kernel
theorem dX9_speaksAs_70 : decode cX9_speaksAs 70 = .ok (.invokevirtual 467, 3) := by decide +kernel
theorem dX9_speaksAs_73 : decode cX9_speaksAs 73 = .ok (.iadd, 1) := by decide +kernel
theorem dX9_speaksAs_74 : decode cX9_speaksAs 74 = .ok (.ireturn, 1) := by decide +kernel
theorem dX9_speaksAs_75 : decode cX9_speaksAs 75 = .ok (.aload_n 0, 1) := by decide +kernel
theorem dX9_speaksAs_76 : decode cX9_speaksAs 76 = .ok (.bipush 10, 2) := by decide +kernel
theorem dX9_speaksAs_78 : decode cX9_speaksAs 78 = .ok (.invokevirtual 452, 3) := by decide +kernel
theorem dX9_speaksAs_81 : decode cX9_speaksAs 81 = .ok (.aload_n 0, 1) := by decide +kernel
theorem dX9_speaksAs_82 : decode cX9_speaksAs 82 = .ok (.aload_n 0, 1) := by decide +kernel
theorem dX9_speaksAs_83 : decode cX9_speaksAs 83 = .ok (.getfield 464, 3) := by decide +kernel
theorem dX9_speaksAs_86 : decode cX9_speaksAs 86 = .ok (.iload_n 2, 1) := by decide +kernel
theorem dX9_speaksAs_87 : decode cX9_speaksAs 87 = .ok (.invokevirtual 455, 3) := by decide +kernel
theorem dX9_speaksAs_90 : decode cX9_speaksAs 90 = .ok (.iconst 2, 1) := by decide +kernel
theorem dX9_speaksAs_91 : decode cX9_speaksAs 91 = .ok (.imul, 1) := by decide +kernel
theorem dX9_speaksAs_92 : decode cX9_speaksAs 92 = .ok (.ireturn, 1) := by decide +kernel
theorem dX9_stopsAs_0 : decode cX9_stopsAs 0 = .ok (.iload_n 1, 1) := by decide +kernel
theorem dX9_stopsAs_1 : decode cX9_stopsAs 1 = .ok (.iconst 3, 1) := by decide +kernel
theorem dX9_stopsAs_2 : decode cX9_stopsAs 2 = .ok (.if_icmp .eq 8, 3) := by decide +kernel
theorem dX9_stopsAs_5 : decode cX9_stopsAs 5 = .ok (.iload_n 1, 1) := by decide +kernel
theorem dX9_stopsAs_6 : decode cX9_stopsAs 6 = .ok (.iconst 5, 1) := by decide +kernel
theorem dX9_stopsAs_7 : decode cX9_stopsAs 7 = .ok (.if_icmp .ne 18, 3) := by decide +kernel
theorem dX9_stopsAs_10 : decode cX9_stopsAs 10 = .ok (.aload_n 0, 1) := by decide +kernel
theorem dX9_stopsAs_11 : decode cX9_stopsAs 11 = .ok (.bipush 40, 2) := by decide +kernel
theorem dX9_stopsAs_13 : decode cX9_stopsAs 13 = .ok (.invokevirtual 452, 3) := by decide +kernel
theorem dX9_stopsAs_16 : decode cX9_stopsAs 16 = .ok (.aload_n 0, 1) := by decide +kernel
theorem dX9_stopsAs_17 : decode cX9_stopsAs 17 = .ok (.iconst 2, 1) := by decide +kernel
theorem dX9_stopsAs_18 : decode cX9_stopsAs 18 = .ok (.iload_n 2, 1) := by decide +kernel
theorem dX9_stopsAs_19 : decode cX9_stopsAs 19 = .ok (.invokevirtual 467, 3) := by decide +kernel
theorem dX9_stopsAs_22 : decode cX9_stopsAs 22 = .ok (.iconst 3, 1) := by decide +kernel
theorem dX9_stopsAs_23 : decode cX9_stopsAs 23 = .ok (.imul, 1) := by decide +kernel
theorem dX9_stopsAs_24 : decode cX9_stopsAs 24 = .ok (.ireturn, 1) := by decide +kernel
theorem dX9_stopsAs_25 : decode cX9_stopsAs 25 = .ok (.iload_n 1, 1) := by decide +kernel
theorem dX9_stopsAs_26 : decode cX9_stopsAs 26 = .ok (.iconst 4, 1) := by decide +kernel
theorem dX9_stopsAs_27 : decode cX9_stopsAs 27 = .ok (.if_icmp .eq 9, 3) := by decide +kernel
theorem dX9_stopsAs_30 : decode cX9_stopsAs 30 = .ok (.iload_n 1, 1) := by decide +kernel
theorem dX9_stopsAs_31 : decode cX9_stopsAs 31 = .ok (.bipush 7, 2) := by decide +kernel
theorem dX9_stopsAs_33 : decode cX9_stopsAs 33 = .ok (.if_icmp .ne 28, 3) := by decide +kernel
theorem dX9_stopsAs_36 : decode cX9_stopsAs 36 = .ok (.aload_n 0, 1) := by decide +kernel
theorem dX9_stopsAs_37 : decode cX9_stopsAs 37 = .ok (.bipush 50, 2) := by decide +kernel
theorem dX9_stopsAs_39 : decode cX9_stopsAs 39 = .ok (.invokevirtual 452, 3) := by decide +kernel
theorem dX9_stopsAs_42 : decode cX9_stopsAs 42 = .ok (.aload_n 0, 1) := by decide +kernel
theorem dX9_stopsAs_43 : decode cX9_stopsAs 43 = .ok (.iconst 0, 1) := by decide +kernel
theorem dX9_stopsAs_44 : decode cX9_stopsAs 44 = .ok (.iload_n 2, 1) := by decide +kernel
theorem dX9_stopsAs_45 : decode cX9_stopsAs 45 = .ok (.invokevirtual 467, 3) := by decide +kernel
theorem dX9_stopsAs_48 : decode cX9_stopsAs 48 = .ok (.istore_n 3, 1) := by decide +kernel
theorem dX9_stopsAs_49 : decode cX9_stopsAs 49 = .ok (.iload_n 3, 1) := by decide +kernel
theorem dX9_stopsAs_50 : decode cX9_stopsAs 50 = .ok (.aload_n 0, 1) := by decide +kernel
theorem dX9_stopsAs_51 : decode cX9_stopsAs 51 = .ok (.aload_n 0, 1) := by decide +kernel
theorem dX9_stopsAs_52 : decode cX9_stopsAs 52 = .ok (.getfield 464, 3) := by decide +kernel
theorem dX9_stopsAs_55 : decode cX9_stopsAs 55 = .ok (.iconst 2, 1) := by decide +kernel
theorem dX9_stopsAs_56 : decode cX9_stopsAs 56 = .ok (.invokevirtual 455, 3) := by decide +kernel
theorem dX9_stopsAs_59 : decode cX9_stopsAs 59 = .ok (.isub, 1) := by decide +kernel
theorem dX9_stopsAs_60 : decode cX9_stopsAs 60 = .ok (.ireturn, 1) := by decide +kernel
theorem dX9_stopsAs_61 : decode cX9_stopsAs 61 = .ok (.aload_n 0, 1) := by decide +kernel
theorem dX9_stopsAs_62 : decode cX9_stopsAs 62 = .ok (.bipush 11, 2) := by decide +kernel
theorem dX9_stopsAs_64 : decode cX9_stopsAs 64 = .ok (.invokevirtual 452, 3) := by decide +kernel
theorem dX9_stopsAs_67 : decode cX9_stopsAs 67 = .ok (.iload_n 2, 1) := by decide +kernel
theorem dX9_stopsAs_68 : decode cX9_stopsAs 68 = .ok (.aload_n 0, 1) := by decide +kernel
theorem dX9_stopsAs_69 : decode cX9_stopsAs 69 = .ok (.getfield 458, 3) := by decide +kernel
theorem dX9_stopsAs_72 : decode cX9_stopsAs 72 = .ok (.ixor, 1) := by decide +kernel
theorem dX9_stopsAs_73 : decode cX9_stopsAs 73 = .ok (.ireturn, 1) := by decide +kernel
theorem dX9_decidesAs_0 : decode cX9_decidesAs 0 = .ok (.iload_n 1, 1) := by decide +kernel
theorem dX9_decidesAs_1 : decode cX9_decidesAs 1 = .ok (.iconst 5, 1) := by decide +kernel
theorem dX9_decidesAs_2 : decode cX9_decidesAs 2 = .ok (.if_icmp .ne 18, 3) := by decide +kernel
theorem dX9_decidesAs_5 : decode cX9_decidesAs 5 = .ok (.aload_n 0, 1) := by decide +kernel
theorem dX9_decidesAs_6 : decode cX9_decidesAs 6 = .ok (.bipush 60, 2) := by decide +kernel
theorem dX9_decidesAs_8 : decode cX9_decidesAs 8 = .ok (.invokevirtual 452, 3) := by decide +kernel
theorem dX9_decidesAs_11 : decode cX9_decidesAs 11 = .ok (.aload_n 0, 1) := by decide +kernel
theorem dX9_decidesAs_12 : decode cX9_decidesAs 12 = .ok (.iconst 3, 1) := by decide +kernel
theorem dX9_decidesAs_13 : decode cX9_decidesAs 13 = .ok (.iload_n 2, 1) := by decide +kernel
theorem dX9_decidesAs_14 : decode cX9_decidesAs 14 = .ok (.invokevirtual 470, 3) := by decide +kernel
theorem dX9_decidesAs_17 : decode cX9_decidesAs 17 = .ok (.iconst 5, 1) := by decide +kernel
theorem dX9_decidesAs_18 : decode cX9_decidesAs 18 = .ok (.ixor, 1) := by decide +kernel
theorem dX9_decidesAs_19 : decode cX9_decidesAs 19 = .ok (.ireturn, 1) := by decide +kernel
theorem dX9_decidesAs_20 : decode cX9_decidesAs 20 = .ok (.iload_n 1, 1) := by decide +kernel
theorem dX9_decidesAs_21 : decode cX9_decidesAs 21 = .ok (.bipush 7, 2) := by decide +kernel
theorem dX9_decidesAs_23 : decode cX9_decidesAs 23 = .ok (.if_icmp .ne 18, 3) := by decide +kernel
theorem dX9_decidesAs_26 : decode cX9_decidesAs 26 = .ok (.aload_n 0, 1) := by decide +kernel
theorem dX9_decidesAs_27 : decode cX9_decidesAs 27 = .ok (.bipush 81, 2) := by decide +kernel
theorem dX9_decidesAs_29 : decode cX9_decidesAs 29 = .ok (.invokevirtual 452, 3) := by decide +kernel
theorem dX9_decidesAs_32 : decode cX9_decidesAs 32 = .ok (.aload_n 0, 1) := by decide +kernel
theorem dX9_decidesAs_33 : decode cX9_decidesAs 33 = .ok (.iconst 4, 1) := by decide +kernel
theorem dX9_decidesAs_34 : decode cX9_decidesAs 34 = .ok (.iload_n 2, 1) := by decide +kernel
theorem dX9_decidesAs_35 : decode cX9_decidesAs 35 = .ok (.invokevirtual 470, 3) := by decide +kernel
theorem dX9_decidesAs_38 : decode cX9_decidesAs 38 = .ok (.iconst 1, 1) := by decide +kernel
theorem dX9_decidesAs_39 : decode cX9_decidesAs 39 = .ok (.isub, 1) := by decide +kernel
theorem dX9_decidesAs_40 : decode cX9_decidesAs 40 = .ok (.ireturn, 1) := by decide +kernel
theorem dX9_decidesAs_41 : decode cX9_decidesAs 41 = .ok (.aload_n 0, 1) := by decide +kernel
theorem dX9_decidesAs_42 : decode cX9_decidesAs 42 = .ok (.iconst 2, 1) := by decide +kernel
theorem dX9_decidesAs_43 : decode cX9_decidesAs 43 = .ok (.invokevirtual 452, 3) := by decide +kernel
theorem dX9_decidesAs_46 : decode cX9_decidesAs 46 = .ok (.aload_n 0, 1) := by decide +kernel
theorem dX9_decidesAs_47 : decode cX9_decidesAs 47 = .ok (.aload_n 0, 1) := by decide +kernel
theorem dX9_decidesAs_48 : decode cX9_decidesAs 48 = .ok (.getfield 464, 3) := by decide +kernel
theorem dX9_decidesAs_51 : decode cX9_decidesAs 51 = .ok (.iload_n 2, 1) := by decide +kernel
theorem dX9_decidesAs_52 : decode cX9_decidesAs 52 = .ok (.invokevirtual 461, 3) := by decide +kernel
theorem dX9_decidesAs_55 : decode cX9_decidesAs 55 = .ok (.istore_n 3, 1) := by decide +kernel
theorem dX9_decidesAs_56 : decode cX9_decidesAs 56 = .ok (.iload_n 3, 1) := by decide +kernel
theorem dX9_decidesAs_57 : decode cX9_decidesAs 57 = .ok (.aload_n 0, 1) := by decide +kernel
theorem dX9_decidesAs_58 : decode cX9_decidesAs 58 = .ok (.aload_n 0, 1) := by decide +kernel
theorem dX9_decidesAs_59 : decode cX9_decidesAs 59 = .ok (.getfield 464, 3) := by decide +kernel
theorem dX9_decidesAs_62 : decode cX9_decidesAs 62 = .ok (.iconst 1, 1) := by decide +kernel
theorem dX9_decidesAs_63 : decode cX9_decidesAs 63 = .ok (.invokevirtual 467, 3) := by decide +kernel
theorem dX9_decidesAs_66 : decode cX9_decidesAs 66 = .ok (.isub, 1) := by decide +kernel
theorem dX9_decidesAs_67 : decode cX9_decidesAs 67 = .ok (.ireturn, 1) := by decide +kernel
theorem dX9_act_0 : decode cX9_act 0 = .ok (.aload_n 0, 1) := by decide +kernel
theorem dX9_act_1 : decode cX9_act 1 = .ok (.iconst 0, 1) := by decide +kernel
theorem dX9_act_2 : decode cX9_act 2 = .ok (.putfield 449, 3) := by decide +kernel
theorem dX9_act_5 : decode cX9_act 5 = .ok (.aload_n 0, 1) := by decide +kernel
theorem dX9_act_6 : decode cX9_act 6 = .ok (.iload_n 1, 1) := by decide +kernel
theorem dX9_act_7 : decode cX9_act 7 = .ok (.invokevirtual 473, 3) := by decide +kernel
theorem dX9_act_10 : decode cX9_act 10 = .ok (.ifCond .ne 5, 3) := by decide +kernel
theorem dX9_act_13 : decode cX9_act 13 = .ok (.iconst 0, 1) := by decide +kernel
theorem dX9_act_14 : decode cX9_act 14 = .ok (.ireturn, 1) := by decide +kernel
theorem dX9_act_15 : decode cX9_act 15 = .ok (.aload_n 0, 1) := by decide +kernel
theorem dX9_act_16 : decode cX9_act 16 = .ok (.aload_n 0, 1) := by decide +kernel
theorem dX9_act_17 : decode cX9_act 17 = .ok (.getfield 124, 3) := by decide +kernel
theorem dX9_act_20 : decode cX9_act 20 = .ok (.iload_n 1, 1) := by decide +kernel
theorem dX9_act_21 : decode cX9_act 21 = .ok (.iaload, 1) := by decide +kernel
theorem dX9_act_22 : decode cX9_act 22 = .ok (.putfield 464, 3) := by decide +kernel
theorem dX9_act_25 : decode cX9_act 25 = .ok (.aload_n 0, 1) := by decide +kernel
theorem dX9_act_26 : decode cX9_act 26 = .ok (.iload_n 1, 1) := by decide +kernel
theorem dX9_act_27 : decode cX9_act 27 = .ok (.putfield 458, 3) := by decide +kernel
theorem dX9_act_30 : decode cX9_act 30 = .ok (.iload_n 2, 1) := by decide +kernel
theorem dX9_act_31 : decode cX9_act 31 = .ok (.tableswitch 69 0 3 #[29, 39, 49, 59], 29) := by decide +kernel
theorem dX9_act_60 : decode cX9_act 60 = .ok (.aload_n 0, 1) := by decide +kernel
theorem dX9_act_61 : decode cX9_act 61 = .ok (.aload_n 0, 1) := by decide +kernel
theorem dX9_act_62 : decode cX9_act 62 = .ok (.getfield 464, 3) := by decide +kernel
theorem dX9_act_65 : decode cX9_act 65 = .ok (.iload_n 3, 1) := by decide +kernel
theorem dX9_act_66 : decode cX9_act 66 = .ok (.invokevirtual 455, 3) := by decide +kernel
theorem dX9_act_69 : decode cX9_act 69 = .ok (.ireturn, 1) := by decide +kernel
theorem dX9_act_70 : decode cX9_act 70 = .ok (.aload_n 0, 1) := by decide +kernel
theorem dX9_act_71 : decode cX9_act 71 = .ok (.aload_n 0, 1) := by decide +kernel
theorem dX9_act_72 : decode cX9_act 72 = .ok (.getfield 464, 3) := by decide +kernel
theorem dX9_act_75 : decode cX9_act 75 = .ok (.iload_n 3, 1) := by decide +kernel
theorem dX9_act_76 : decode cX9_act 76 = .ok (.invokevirtual 461, 3) := by decide +kernel
theorem dX9_act_79 : decode cX9_act 79 = .ok (.ireturn, 1) := by decide +kernel
theorem dX9_act_80 : decode cX9_act 80 = .ok (.aload_n 0, 1) := by decide +kernel
theorem dX9_act_81 : decode cX9_act 81 = .ok (.aload_n 0, 1) := by decide +kernel
theorem dX9_act_82 : decode cX9_act 82 = .ok (.getfield 464, 3) := by decide +kernel
theorem dX9_act_85 : decode cX9_act 85 = .ok (.iload_n 3, 1) := by decide +kernel
theorem dX9_act_86 : decode cX9_act 86 = .ok (.invokevirtual 467, 3) := by decide +kernel
theorem dX9_act_89 : decode cX9_act 89 = .ok (.ireturn, 1) := by decide +kernel
theorem dX9_act_90 : decode cX9_act 90 = .ok (.aload_n 0, 1) := by decide +kernel
theorem dX9_act_91 : decode cX9_act 91 = .ok (.aload_n 0, 1) := by decide +kernel
theorem dX9_act_92 : decode cX9_act 92 = .ok (.getfield 464, 3) := by decide +kernel
theorem dX9_act_95 : decode cX9_act 95 = .ok (.iload_n 3, 1) := by decide +kernel
theorem dX9_act_96 : decode cX9_act 96 = .ok (.invokevirtual 470, 3) := by decide +kernel
theorem dX9_act_99 : decode cX9_act 99 = .ok (.ireturn, 1) := by decide +kernel
theorem dX9_act_100 : decode cX9_act 100 = .ok (.iconst 0, 1) := by decide +kernel
theorem dX9_act_101 : decode cX9_act 101 = .ok (.ireturn, 1) := by decide +kernel
theorem dX9_trace_0 : decode cX9_trace 0 = .ok (.iload_n 1, 1) := by decide +kernel
theorem dX9_trace_1 : decode cX9_trace 1 = .ok (.ifCond .lt 26, 3) := by decide +kernel
theorem dX9_trace_4 : decode cX9_trace 4 = .ok (.iload_n 1, 1) := by decide +kernel
theorem dX9_trace_5 : decode cX9_trace 5 = .ok (.aload_n 0, 1) := by decide +kernel
theorem dX9_trace_6 : decode cX9_trace 6 = .ok (.getfield 449, 3) := by decide +kernel
theorem dX9_trace_9 : decode cX9_trace 9 = .ok (.if_icmp .ge 18, 3) := by decide +kernel
theorem dX9_trace_12 : decode cX9_trace 12 = .ok (.iload_n 1, 1) := by decide +kernel
theorem dX9_trace_13 : decode cX9_trace 13 = .ok (.bipush 24, 2) := by decide +kernel
theorem dX9_trace_15 : decode cX9_trace 15 = .ok (.if_icmp .ge 12, 3) := by decide +kernel
theorem dX9_trace_18 : decode cX9_trace 18 = .ok (.aload_n 0, 1) := by decide +kernel
theorem dX9_trace_19 : decode cX9_trace 19 = .ok (.getfield 127, 3) := by decide +kernel
theorem dX9_trace_22 : decode cX9_trace 22 = .ok (.iload_n 1, 1) := by decide +kernel
theorem dX9_trace_23 : decode cX9_trace 23 = .ok (.iaload, 1) := by decide +kernel
theorem dX9_trace_24 : decode cX9_trace 24 = .ok (.goto 4, 3) := by decide +kernel
theorem dX9_trace_27 : decode cX9_trace 27 = .ok (.iconst (-1), 1) := by decide +kernel
theorem dX9_trace_28 : decode cX9_trace 28 = .ok (.ireturn, 1) := by decide +kernel
theorem dX9_isShelf_0 : decode cX9_isShelf 0 = .ok (.iload_n 0, 1) := by decide +kernel
theorem dX9_isShelf_1 : decode cX9_isShelf 1 = .ok (.i2l, 1) := by decide +kernel
theorem dX9_isShelf_2 : decode cX9_isShelf 2 = .ok (.lconst 0, 1) := by decide +kernel
theorem dX9_isShelf_3 : decode cX9_isShelf 3 = .ok (.ldc2_w 203, 3) := by decide +kernel
theorem dX9_isShelf_6 : decode cX9_isShelf 6 = .ok (.invokestatic 162, 3) := by decide +kernel
theorem dX9_isShelf_9 : decode cX9_isShelf 9 = .ok (.ireturn, 1) := by decide +kernel
theorem dX9_keep_0 : decode cX9_keep 0 = .ok (.iload_n 1, 1) := by decide +kernel
theorem dX9_keep_1 : decode cX9_keep 1 = .ok (.invokestatic 198, 3) := by decide +kernel
theorem dX9_keep_4 : decode cX9_keep 4 = .ok (.ifCond .eq 16, 3) := by decide +kernel
theorem dX9_keep_7 : decode cX9_keep 7 = .ok (.iload_n 2, 1) := by decide +kernel
theorem dX9_keep_8 : decode cX9_keep 8 = .ok (.iconst (-1), 1) := by decide +kernel
theorem dX9_keep_9 : decode cX9_keep 9 = .ok (.if_icmp .eq 13, 3) := by decide +kernel
theorem dX9_keep_12 : decode cX9_keep 12 = .ok (.aload_n 0, 1) := by decide +kernel
theorem dX9_keep_13 : decode cX9_keep 13 = .ok (.iload_n 2, 1) := by decide +kernel
theorem dX9_keep_14 : decode cX9_keep 14 = .ok (.invokevirtual 473, 3) := by decide +kernel
theorem dX9_keep_17 : decode cX9_keep 17 = .ok (.ifCond .ne 5, 3) := by decide +kernel
theorem dX9_keep_20 : decode cX9_keep 20 = .ok (.iconst (-1), 1) := by decide +kernel
theorem dX9_keep_21 : decode cX9_keep 21 = .ok (.ireturn, 1) := by decide +kernel
theorem dX9_keep_22 : decode cX9_keep 22 = .ok (.aload_n 0, 1) := by decide +kernel
theorem dX9_keep_23 : decode cX9_keep 23 = .ok (.getfield 130, 3) := by decide +kernel
theorem dX9_keep_26 : decode cX9_keep 26 = .ok (.iload_n 1, 1) := by decide +kernel
theorem dX9_keep_27 : decode cX9_keep 27 = .ok (.iload_n 2, 1) := by decide +kernel
theorem dX9_keep_28 : decode cX9_keep 28 = .ok (.iastore, 1) := by decide +kernel
theorem dX9_keep_29 : decode cX9_keep 29 = .ok (.aload_n 0, 1) := by decide +kernel
theorem dX9_keep_30 : decode cX9_keep 30 = .ok (.getfield 133, 3) := by decide +kernel
theorem dX9_keep_33 : decode cX9_keep 33 = .ok (.iload_n 1, 1) := by decide +kernel
theorem dX9_keep_34 : decode cX9_keep 34 = .ok (.iconst 0, 1) := by decide +kernel
theorem dX9_keep_35 : decode cX9_keep 35 = .ok (.iastore, 1) := by decide +kernel
theorem dX9_keep_36 : decode cX9_keep 36 = .ok (.iconst 1, 1) := by decide +kernel
theorem dX9_keep_37 : decode cX9_keep 37 = .ok (.ireturn, 1) := by decide +kernel
theorem dX9_row_0 : decode cX9_row 0 = .ok (.iload_n 1, 1) := by decide +kernel
theorem dX9_row_1 : decode cX9_row 1 = .ok (.invokestatic 198, 3) := by decide +kernel
theorem dX9_row_4 : decode cX9_row 4 = .ok (.ifCond .eq 21, 3) := by decide +kernel
theorem dX9_row_7 : decode cX9_row 7 = .ok (.iload_n 2, 1) := by decide +kernel
theorem dX9_row_8 : decode cX9_row 8 = .ok (.i2l, 1) := by decide +kernel
theorem dX9_row_9 : decode cX9_row 9 = .ok (.lconst 0, 1) := by decide +kernel
theorem dX9_row_10 : decode cX9_row 10 = .ok (.ldc2_w 476, 3) := by decide +kernel
theorem dX9_row_13 : decode cX9_row 13 = .ok (.invokestatic 162, 3) := by decide +kernel
theorem dX9_row_16 : decode cX9_row 16 = .ok (.ifCond .eq 9, 3) := by decide +kernel
theorem dX9_row_19 : decode cX9_row 19 = .ok (.iload_n 3, 1) := by decide +kernel
theorem dX9_row_20 : decode cX9_row 20 = .ok (.bipush 60, 2) := by decide +kernel
theorem dX9_row_22 : decode cX9_row 22 = .ok (.if_icmp .le 5, 3) := by decide +kernel
theorem dX9_row_25 : decode cX9_row 25 = .ok (.iconst (-1), 1) := by decide +kernel
theorem dX9_row_26 : decode cX9_row 26 = .ok (.ireturn, 1) := by decide +kernel
theorem dX9_row_27 : decode cX9_row 27 = .ok (.iload_n 3, 1) := by decide +kernel
theorem dX9_row_28 : decode cX9_row 28 = .ok (.ifCond .ge 6, 3) := by decide +kernel
theorem dX9_row_31 : decode cX9_row 31 = .ok (.bipush (-14), 2) := by decide +kernel
theorem dX9_row_33 : decode cX9_row 33 = .ok (.ireturn, 1) := by decide +kernel
theorem dX9_row_34 : decode cX9_row 34 = .ok (.aload_n 0, 1) := by decide +kernel
theorem dX9_row_35 : decode cX9_row 35 = .ok (.getfield 130, 3) := by decide +kernel
theorem dX9_row_38 : decode cX9_row 38 = .ok (.iload_n 1, 1) := by decide +kernel
theorem dX9_row_39 : decode cX9_row 39 = .ok (.bipush 50, 2) := by decide +kernel
theorem dX9_row_41 : decode cX9_row 41 = .ok (.iload_n 2, 1) := by decide +kernel
theorem dX9_row_42 : decode cX9_row 42 = .ok (.iadd, 1) := by decide +kernel
theorem dX9_row_43 : decode cX9_row 43 = .ok (.iastore, 1) := by decide +kernel
theorem dX9_row_44 : decode cX9_row 44 = .ok (.aload_n 0, 1) := by decide +kernel
theorem dX9_row_45 : decode cX9_row 45 = .ok (.getfield 133, 3) := by decide +kernel
theorem dX9_row_48 : decode cX9_row 48 = .ok (.iload_n 1, 1) := by decide +kernel
theorem dX9_row_49 : decode cX9_row 49 = .ok (.iload_n 3, 1) := by decide +kernel
theorem dX9_row_50 : decode cX9_row 50 = .ok (.iastore, 1) := by decide +kernel
theorem dX9_row_51 : decode cX9_row 51 = .ok (.bipush 60, 2) := by decide +kernel
theorem dX9_row_53 : decode cX9_row 53 = .ok (.iload_n 1, 1) := by decide +kernel
theorem dX9_row_54 : decode cX9_row 54 = .ok (.imul, 1) := by decide +kernel
theorem dX9_row_55 : decode cX9_row 55 = .ok (.istore 4, 2) := by decide +kernel
theorem dX9_row_57 : decode cX9_row 57 = .ok (.iload 4, 2) := by decide +kernel
theorem dX9_row_59 : decode cX9_row 59 = .ok (.bipush 60, 2) := by decide +kernel
theorem dX9_row_61 : decode cX9_row 61 = .ok (.iload_n 1, 1) := by decide +kernel
theorem dX9_row_62 : decode cX9_row 62 = .ok (.imul, 1) := by decide +kernel
theorem dX9_row_63 : decode cX9_row 63 = .ok (.bipush 60, 2) := by decide +kernel
theorem dX9_row_65 : decode cX9_row 65 = .ok (.iadd, 1) := by decide +kernel
theorem dX9_row_66 : decode cX9_row 66 = .ok (.if_icmp .ge 17, 3) := by decide +kernel
theorem dX9_row_69 : decode cX9_row 69 = .ok (.aload_n 0, 1) := by decide +kernel
theorem dX9_row_70 : decode cX9_row 70 = .ok (.getfield 136, 3) := by decide +kernel
theorem dX9_row_73 : decode cX9_row 73 = .ok (.iload 4, 2) := by decide +kernel
theorem dX9_row_75 : decode cX9_row 75 = .ok (.lconst 0, 1) := by decide +kernel
theorem dX9_row_76 : decode cX9_row 76 = .ok (.lastore, 1) := by decide +kernel
theorem dX9_row_77 : decode cX9_row 77 = .ok (.iinc 4 1, 3) := by decide +kernel
theorem dX9_row_80 : decode cX9_row 80 = .ok (.goto (-23), 3) := by decide +kernel
theorem dX9_row_83 : decode cX9_row 83 = .ok (.iconst 1, 1) := by decide +kernel
theorem dX9_row_84 : decode cX9_row 84 = .ok (.ireturn, 1) := by decide +kernel
theorem dX9_refusal_0 : decode cX9_refusal 0 = .ok (.iload_n 1, 1) := by decide +kernel
theorem dX9_refusal_1 : decode cX9_refusal 1 = .ok (.invokestatic 198, 3) := by decide +kernel
theorem dX9_refusal_4 : decode cX9_refusal 4 = .ok (.ifCond .ne 5, 3) := by decide +kernel
theorem dX9_refusal_7 : decode cX9_refusal 7 = .ok (.iconst (-1), 1) := by decide +kernel
theorem dX9_refusal_8 : decode cX9_refusal 8 = .ok (.ireturn, 1) := by decide +kernel
theorem dX9_refusal_9 : decode cX9_refusal 9 = .ok (.aload_n 0, 1) := by decide +kernel
theorem dX9_refusal_10 : decode cX9_refusal 10 = .ok (.getfield 130, 3) := by decide +kernel
theorem dX9_refusal_13 : decode cX9_refusal 13 = .ok (.iload_n 1, 1) := by decide +kernel
theorem dX9_refusal_14 : decode cX9_refusal 14 = .ok (.iaload, 1) := by decide +kernel
theorem dX9_refusal_15 : decode cX9_refusal 15 = .ok (.ifCond .ge 6, 3) := by decide +kernel
theorem dX9_refusal_18 : decode cX9_refusal 18 = .ok (.bipush (-11), 2) := by decide +kernel
theorem dX9_refusal_20 : decode cX9_refusal 20 = .ok (.ireturn, 1) := by decide +kernel
theorem dX9_refusal_21 : decode cX9_refusal 21 = .ok (.aload_n 0, 1) := by decide +kernel
theorem dX9_refusal_22 : decode cX9_refusal 22 = .ok (.getfield 130, 3) := by decide +kernel
theorem dX9_refusal_25 : decode cX9_refusal 25 = .ok (.iload_n 1, 1) := by decide +kernel
theorem dX9_refusal_26 : decode cX9_refusal 26 = .ok (.iaload, 1) := by decide +kernel
theorem dX9_refusal_27 : decode cX9_refusal 27 = .ok (.bipush 50, 2) := by decide +kernel
theorem dX9_refusal_29 : decode cX9_refusal 29 = .ok (.if_icmp .ge 6, 3) := by decide +kernel
theorem dX9_refusal_32 : decode cX9_refusal 32 = .ok (.bipush (-12), 2) := by decide +kernel
theorem dX9_refusal_34 : decode cX9_refusal 34 = .ok (.ireturn, 1) := by decide +kernel
theorem dX9_refusal_35 : decode cX9_refusal 35 = .ok (.iload_n 2, 1) := by decide +kernel
theorem dX9_refusal_36 : decode cX9_refusal 36 = .ok (.ifCond .lt 17, 3) := by decide +kernel
theorem dX9_refusal_39 : decode cX9_refusal 39 = .ok (.iload_n 2, 1) := by decide +kernel
theorem dX9_refusal_40 : decode cX9_refusal 40 = .ok (.aload_n 0, 1) := by decide +kernel
theorem dX9_refusal_41 : decode cX9_refusal 41 = .ok (.getfield 133, 3) := by decide +kernel
theorem dX9_refusal_44 : decode cX9_refusal 44 = .ok (.iload_n 1, 1) := by decide +kernel
theorem dX9_refusal_45 : decode cX9_refusal 45 = .ok (.iaload, 1) := by decide +kernel
theorem dX9_refusal_46 : decode cX9_refusal 46 = .ok (.if_icmp .ge 7, 3) := by decide +kernel
theorem dX9_refusal_49 : decode cX9_refusal 49 = .ok (.iconst 0, 1) := by decide +kernel
theorem dX9_refusal_50 : decode cX9_refusal 50 = .ok (.goto 5, 3) := by decide +kernel
theorem dX9_refusal_53 : decode cX9_refusal 53 = .ok (.bipush (-13), 2) := by decide +kernel
theorem dX9_refusal_55 : decode cX9_refusal 55 = .ok (.ireturn, 1) := by decide +kernel
theorem dX9_asSort_0 : decode cX9_asSort 0 = .ok (.iload_n 0, 1) := by decide +kernel
theorem dX9_asSort_1 : decode cX9_asSort 1 = .ok (.ifCond .ne 10, 3) := by decide +kernel
theorem dX9_asSort_4 : decode cX9_asSort 4 = .ok (.lload_n 1, 1) := by decide +kernel
theorem dX9_asSort_5 : decode cX9_asSort 5 = .ok (.l2i, 1) := by decide +kernel
theorem dX9_asSort_6 : decode cX9_asSort 6 = .ok (.i2b, 1) := by decide +kernel
theorem dX9_asSort_7 : decode cX9_asSort 7 = .ok (.i2l, 1) := by decide +kernel
theorem dX9_asSort_8 : decode cX9_asSort 8 = .ok (.goto 46, 3) := by decide +kernel
theorem dX9_asSort_11 : decode cX9_asSort 11 = .ok (.iload_n 0, 1) := by decide +kernel
theorem dX9_asSort_12 : decode cX9_asSort 12 = .ok (.iconst 1, 1) := by decide +kernel
theorem dX9_asSort_13 : decode cX9_asSort 13 = .ok (.if_icmp .ne 10, 3) := by decide +kernel
theorem dX9_asSort_16 : decode cX9_asSort 16 = .ok (.lload_n 1, 1) := by decide +kernel
theorem dX9_asSort_17 : decode cX9_asSort 17 = .ok (.l2i, 1) := by decide +kernel
theorem dX9_asSort_18 : decode cX9_asSort 18 = .ok (.i2s, 1) := by decide +kernel
theorem dX9_asSort_19 : decode cX9_asSort 19 = .ok (.i2l, 1) := by decide +kernel
theorem dX9_asSort_20 : decode cX9_asSort 20 = .ok (.goto 34, 3) := by decide +kernel
theorem dX9_asSort_23 : decode cX9_asSort 23 = .ok (.iload_n 0, 1) := by decide +kernel
theorem dX9_asSort_24 : decode cX9_asSort 24 = .ok (.iconst 2, 1) := by decide +kernel
theorem dX9_asSort_25 : decode cX9_asSort 25 = .ok (.if_icmp .ne 9, 3) := by decide +kernel
theorem dX9_asSort_28 : decode cX9_asSort 28 = .ok (.lload_n 1, 1) := by decide +kernel
theorem dX9_asSort_29 : decode cX9_asSort 29 = .ok (.l2i, 1) := by decide +kernel
theorem dX9_asSort_30 : decode cX9_asSort 30 = .ok (.i2l, 1) := by decide +kernel
theorem dX9_asSort_31 : decode cX9_asSort 31 = .ok (.goto 23, 3) := by decide +kernel
theorem dX9_asSort_34 : decode cX9_asSort 34 = .ok (.iload_n 0, 1) := by decide +kernel
theorem dX9_asSort_35 : decode cX9_asSort 35 = .ok (.iconst 4, 1) := by decide +kernel
theorem dX9_asSort_36 : decode cX9_asSort 36 = .ok (.if_icmp .ne 17, 3) := by decide +kernel
theorem dX9_asSort_39 : decode cX9_asSort 39 = .ok (.lload_n 1, 1) := by decide +kernel
theorem dX9_asSort_40 : decode cX9_asSort 40 = .ok (.lconst 0, 1) := by decide +kernel
theorem dX9_asSort_41 : decode cX9_asSort 41 = .ok (.lcmp, 1) := by decide +kernel
theorem dX9_asSort_42 : decode cX9_asSort 42 = .ok (.ifCond .eq 7, 3) := by decide +kernel
theorem dX9_asSort_45 : decode cX9_asSort 45 = .ok (.lconst 1, 1) := by decide +kernel
theorem dX9_asSort_46 : decode cX9_asSort 46 = .ok (.goto 8, 3) := by decide +kernel
theorem dX9_asSort_49 : decode cX9_asSort 49 = .ok (.lconst 0, 1) := by decide +kernel
theorem dX9_asSort_50 : decode cX9_asSort 50 = .ok (.goto 4, 3) := by decide +kernel
theorem dX9_asSort_53 : decode cX9_asSort 53 = .ok (.lload_n 1, 1) := by decide +kernel
theorem dX9_asSort_54 : decode cX9_asSort 54 = .ok (.lreturn, 1) := by decide +kernel
theorem dX9_put_0 : decode cX9_put 0 = .ok (.aload_n 0, 1) := by decide +kernel
theorem dX9_put_1 : decode cX9_put 1 = .ok (.iload_n 1, 1) := by decide +kernel
theorem dX9_put_2 : decode cX9_put 2 = .ok (.iload_n 2, 1) := by decide +kernel
theorem dX9_put_3 : decode cX9_put 3 = .ok (.invokevirtual 478, 3) := by decide +kernel
theorem dX9_put_6 : decode cX9_put 6 = .ok (.istore 5, 2) := by decide +kernel
theorem dX9_put_8 : decode cX9_put 8 = .ok (.iload 5, 2) := by decide +kernel
theorem dX9_put_10 : decode cX9_put 10 = .ok (.ifCond .ne 27, 3) := by decide +kernel
theorem dX9_put_13 : decode cX9_put 13 = .ok (.aload_n 0, 1) := by decide +kernel
theorem dX9_put_14 : decode cX9_put 14 = .ok (.getfield 136, 3) := by decide +kernel
theorem dX9_put_17 : decode cX9_put 17 = .ok (.bipush 60, 2) := by decide +kernel
theorem dX9_put_19 : decode cX9_put 19 = .ok (.iload_n 1, 1) := by decide +kernel
theorem dX9_put_20 : decode cX9_put 20 = .ok (.imul, 1) := by decide +kernel
theorem dX9_put_21 : decode cX9_put 21 = .ok (.iload_n 2, 1) := by decide +kernel
theorem dX9_put_22 : decode cX9_put 22 = .ok (.iadd, 1) := by decide +kernel
theorem dX9_put_23 : decode cX9_put 23 = .ok (.aload_n 0, 1) := by decide +kernel
theorem dX9_put_24 : decode cX9_put 24 = .ok (.getfield 130, 3) := by decide +kernel
theorem dX9_put_27 : decode cX9_put 27 = .ok (.iload_n 1, 1) := by decide +kernel
theorem dX9_put_28 : decode cX9_put 28 = .ok (.iaload, 1) := by decide +kernel
theorem dX9_put_29 : decode cX9_put 29 = .ok (.bipush 50, 2) := by decide +kernel
theorem dX9_put_31 : decode cX9_put 31 = .ok (.isub, 1) := by decide +kernel
theorem dX9_put_32 : decode cX9_put 32 = .ok (.lload_n 3, 1) := by decide +kernel
theorem dX9_put_33 : decode cX9_put 33 = .ok (.invokestatic 481, 3) := by decide +kernel
theorem dX9_put_36 : decode cX9_put 36 = .ok (.lastore, 1) := by decide +kernel
theorem dX9_put_37 : decode cX9_put 37 = .ok (.iload 5, 2) := by decide +kernel
theorem dX9_put_39 : decode cX9_put 39 = .ok (.ifCond .ne 7, 3) := by decide +kernel
theorem dX9_put_42 : decode cX9_put 42 = .ok (.iconst 1, 1) := by decide +kernel
theorem dX9_put_43 : decode cX9_put 43 = .ok (.goto 5, 3) := by decide +kernel
theorem dX9_put_46 : decode cX9_put 46 = .ok (.iload 5, 2) := by decide +kernel
theorem dX9_put_48 : decode cX9_put 48 = .ok (.ireturn, 1) := by decide +kernel
theorem dX9_element_0 : decode cX9_element 0 = .ok (.aload_n 0, 1) := by decide +kernel
theorem dX9_element_1 : decode cX9_element 1 = .ok (.iload_n 1, 1) := by decide +kernel
theorem dX9_element_2 : decode cX9_element 2 = .ok (.iload_n 2, 1) := by decide +kernel
theorem dX9_element_3 : decode cX9_element 3 = .ok (.invokevirtual 478, 3) := by decide +kernel
theorem dX9_element_6 : decode cX9_element 6 = .ok (.ifCond .eq 9, 3) := by decide +kernel
theorem dX9_element_9 : decode cX9_element 9 = .ok (.ldc2_w 487, 3) := by decide +kernel
theorem dX9_element_12 : decode cX9_element 12 = .ok (.goto 14, 3) := by decide +kernel
theorem dX9_element_15 : decode cX9_element 15 = .ok (.aload_n 0, 1) := by decide +kernel
theorem dX9_element_16 : decode cX9_element 16 = .ok (.getfield 136, 3) := by decide +kernel
theorem dX9_element_19 : decode cX9_element 19 = .ok (.bipush 60, 2) := by decide +kernel
theorem dX9_element_21 : decode cX9_element 21 = .ok (.iload_n 1, 1) := by decide +kernel
theorem dX9_element_22 : decode cX9_element 22 = .ok (.imul, 1) := by decide +kernel
theorem dX9_element_23 : decode cX9_element 23 = .ok (.iload_n 2, 1) := by decide +kernel
theorem dX9_element_24 : decode cX9_element 24 = .ok (.iadd, 1) := by decide +kernel
theorem dX9_element_25 : decode cX9_element 25 = .ok (.laload, 1) := by decide +kernel
theorem dX9_element_26 : decode cX9_element 26 = .ok (.lreturn, 1) := by decide +kernel
theorem dX9_shift_0 : decode cX9_shift 0 = .ok (.iload_n 1, 1) := by decide +kernel
theorem dX9_shift_1 : decode cX9_shift 1 = .ok (.invokestatic 198, 3) := by decide +kernel
theorem dX9_shift_4 : decode cX9_shift 4 = .ok (.ifCond .eq 10, 3) := by decide +kernel
theorem dX9_shift_7 : decode cX9_shift 7 = .ok (.iload_n 3, 1) := by decide +kernel
theorem dX9_shift_8 : decode cX9_shift 8 = .ok (.invokestatic 198, 3) := by decide +kernel
theorem dX9_shift_11 : decode cX9_shift 11 = .ok (.ifCond .ne 5, 3) := by decide +kernel
theorem dX9_shift_14 : decode cX9_shift 14 = .ok (.iconst (-1), 1) := by decide +kernel
theorem dX9_shift_15 : decode cX9_shift 15 = .ok (.ireturn, 1) := by decide +kernel
theorem dX9_shift_16 : decode cX9_shift 16 = .ok (.aload_n 0, 1) := by decide +kernel
theorem dX9_shift_17 : decode cX9_shift 17 = .ok (.getfield 130, 3) := by decide +kernel
theorem dX9_shift_20 : decode cX9_shift 20 = .ok (.iload_n 1, 1) := by decide +kernel
theorem dX9_shift_21 : decode cX9_shift 21 = .ok (.iaload, 1) := by decide +kernel
theorem dX9_shift_22 : decode cX9_shift 22 = .ok (.ifCond .lt 12, 3) := by decide +kernel
theorem dX9_shift_25 : decode cX9_shift 25 = .ok (.aload_n 0, 1) := by decide +kernel
theorem dX9_shift_26 : decode cX9_shift 26 = .ok (.getfield 130, 3) := by decide +kernel
theorem dX9_shift_29 : decode cX9_shift 29 = .ok (.iload_n 3, 1) := by decide +kernel
theorem dX9_shift_30 : decode cX9_shift 30 = .ok (.iaload, 1) := by decide +kernel
theorem dX9_shift_31 : decode cX9_shift 31 = .ok (.ifCond .ge 6, 3) := by decide +kernel
theorem dX9_shift_34 : decode cX9_shift 34 = .ok (.bipush (-11), 2) := by decide +kernel
theorem dX9_shift_36 : decode cX9_shift 36 = .ok (.ireturn, 1) := by decide +kernel
theorem dX9_shift_37 : decode cX9_shift 37 = .ok (.aload_n 0, 1) := by decide +kernel
theorem dX9_shift_38 : decode cX9_shift 38 = .ok (.getfield 130, 3) := by decide +kernel
theorem dX9_shift_41 : decode cX9_shift 41 = .ok (.iload_n 1, 1) := by decide +kernel
theorem dX9_shift_42 : decode cX9_shift 42 = .ok (.iaload, 1) := by decide +kernel
theorem dX9_shift_43 : decode cX9_shift 43 = .ok (.bipush 50, 2) := by decide +kernel
theorem dX9_shift_45 : decode cX9_shift 45 = .ok (.if_icmp .lt 18, 3) := by decide +kernel
theorem dX9_shift_48 : decode cX9_shift 48 = .ok (.aload_n 0, 1) := by decide +kernel
theorem dX9_shift_49 : decode cX9_shift 49 = .ok (.getfield 130, 3) := by decide +kernel
theorem dX9_shift_52 : decode cX9_shift 52 = .ok (.iload_n 1, 1) := by decide +kernel
theorem dX9_shift_53 : decode cX9_shift 53 = .ok (.iaload, 1) := by decide +kernel
theorem dX9_shift_54 : decode cX9_shift 54 = .ok (.aload_n 0, 1) := by decide +kernel
theorem dX9_shift_55 : decode cX9_shift 55 = .ok (.getfield 130, 3) := by decide +kernel
theorem dX9_shift_58 : decode cX9_shift 58 = .ok (.iload_n 3, 1) := by decide +kernel
theorem dX9_shift_59 : decode cX9_shift 59 = .ok (.iaload, 1) := by decide +kernel
theorem dX9_shift_60 : decode cX9_shift 60 = .ok (.if_icmp .eq 6, 3) := by decide +kernel
theorem dX9_shift_63 : decode cX9_shift 63 = .ok (.bipush (-12), 2) := by decide +kernel
theorem dX9_shift_65 : decode cX9_shift 65 = .ok (.ireturn, 1) := by decide +kernel
theorem dX9_shift_66 : decode cX9_shift 66 = .ok (.iload 5, 2) := by decide +kernel
theorem dX9_shift_68 : decode cX9_shift 68 = .ok (.ifCond .lt 39, 3) := by decide +kernel
theorem dX9_shift_71 : decode cX9_shift 71 = .ok (.iload_n 2, 1) := by decide +kernel
theorem dX9_shift_72 : decode cX9_shift 72 = .ok (.ifCond .lt 35, 3) := by decide +kernel
theorem dX9_shift_75 : decode cX9_shift 75 = .ok (.iload 4, 2) := by decide +kernel
theorem dX9_shift_77 : decode cX9_shift 77 = .ok (.ifCond .lt 30, 3) := by decide +kernel
theorem dX9_shift_80 : decode cX9_shift 80 = .ok (.iload_n 2, 1) := by decide +kernel
theorem dX9_shift_81 : decode cX9_shift 81 = .ok (.aload_n 0, 1) := by decide +kernel
theorem dX9_shift_82 : decode cX9_shift 82 = .ok (.getfield 133, 3) := by decide +kernel
theorem dX9_shift_85 : decode cX9_shift 85 = .ok (.iload_n 1, 1) := by decide +kernel
theorem dX9_shift_86 : decode cX9_shift 86 = .ok (.iaload, 1) := by decide +kernel
theorem dX9_shift_87 : decode cX9_shift 87 = .ok (.iload 5, 2) := by decide +kernel
theorem dX9_shift_89 : decode cX9_shift 89 = .ok (.isub, 1) := by decide +kernel
theorem dX9_shift_90 : decode cX9_shift 90 = .ok (.if_icmp .gt 17, 3) := by decide +kernel
theorem dX9_shift_93 : decode cX9_shift 93 = .ok (.iload 4, 2) := by decide +kernel
theorem dX9_shift_95 : decode cX9_shift 95 = .ok (.aload_n 0, 1) := by decide +kernel
theorem dX9_shift_96 : decode cX9_shift 96 = .ok (.getfield 133, 3) := by decide +kernel
theorem dX9_shift_99 : decode cX9_shift 99 = .ok (.iload_n 3, 1) := by decide +kernel
theorem dX9_shift_100 : decode cX9_shift 100 = .ok (.iaload, 1) := by decide +kernel
theorem dX9_shift_101 : decode cX9_shift 101 = .ok (.iload 5, 2) := by decide +kernel
theorem dX9_shift_103 : decode cX9_shift 103 = .ok (.isub, 1) := by decide +kernel
theorem dX9_shift_104 : decode cX9_shift 104 = .ok (.if_icmp .le 6, 3) := by decide +kernel
theorem dX9_shift_107 : decode cX9_shift 107 = .ok (.bipush (-13), 2) := by decide +kernel
theorem dX9_shift_109 : decode cX9_shift 109 = .ok (.ireturn, 1) := by decide +kernel
theorem dX9_shift_110 : decode cX9_shift 110 = .ok (.iconst 0, 1) := by decide +kernel
theorem dX9_shift_111 : decode cX9_shift 111 = .ok (.istore 6, 2) := by decide +kernel
theorem dX9_shift_113 : decode cX9_shift 113 = .ok (.iload 6, 2) := by decide +kernel
theorem dX9_shift_115 : decode cX9_shift 115 = .ok (.iload 5, 2) := by decide +kernel
theorem dX9_shift_117 : decode cX9_shift 117 = .ok (.if_icmp .ge 30, 3) := by decide +kernel
theorem dX9_shift_120 : decode cX9_shift 120 = .ok (.aload_n 0, 1) := by decide +kernel
theorem dX9_shift_121 : decode cX9_shift 121 = .ok (.getfield 140, 3) := by decide +kernel
theorem dX9_shift_124 : decode cX9_shift 124 = .ok (.iload 6, 2) := by decide +kernel
theorem dX9_shift_126 : decode cX9_shift 126 = .ok (.aload_n 0, 1) := by decide +kernel
theorem dX9_shift_127 : decode cX9_shift 127 = .ok (.getfield 136, 3) := by decide +kernel
theorem dX9_shift_130 : decode cX9_shift 130 = .ok (.bipush 60, 2) := by decide +kernel
theorem dX9_shift_132 : decode cX9_shift 132 = .ok (.iload_n 1, 1) := by decide +kernel
theorem dX9_shift_133 : decode cX9_shift 133 = .ok (.imul, 1) := by decide +kernel
theorem dX9_shift_134 : decode cX9_shift 134 = .ok (.iload_n 2, 1) := by decide +kernel
theorem dX9_shift_135 : decode cX9_shift 135 = .ok (.iadd, 1) := by decide +kernel
theorem dX9_shift_136 : decode cX9_shift 136 = .ok (.iload 6, 2) := by decide +kernel
theorem dX9_shift_138 : decode cX9_shift 138 = .ok (.iadd, 1) := by decide +kernel
theorem dX9_shift_139 : decode cX9_shift 139 = .ok (.laload, 1) := by decide +kernel
theorem dX9_shift_140 : decode cX9_shift 140 = .ok (.lastore, 1) := by decide +kernel
theorem dX9_shift_141 : decode cX9_shift 141 = .ok (.iinc 6 1, 3) := by decide +kernel
theorem dX9_shift_144 : decode cX9_shift 144 = .ok (.goto (-31), 3) := by decide +kernel
theorem dX9_shift_147 : decode cX9_shift 147 = .ok (.iconst 0, 1) := by decide +kernel
theorem dX9_shift_148 : decode cX9_shift 148 = .ok (.istore 6, 2) := by decide +kernel
theorem dX9_shift_150 : decode cX9_shift 150 = .ok (.iload 6, 2) := by decide +kernel
theorem dX9_shift_152 : decode cX9_shift 152 = .ok (.iload 5, 2) := by decide +kernel
theorem dX9_shift_154 : decode cX9_shift 154 = .ok (.if_icmp .ge 31, 3) := by decide +kernel
theorem dX9_shift_157 : decode cX9_shift 157 = .ok (.aload_n 0, 1) := by decide +kernel
theorem dX9_shift_158 : decode cX9_shift 158 = .ok (.getfield 136, 3) := by decide +kernel
theorem dX9_shift_161 : decode cX9_shift 161 = .ok (.bipush 60, 2) := by decide +kernel
theorem dX9_shift_163 : decode cX9_shift 163 = .ok (.iload_n 3, 1) := by decide +kernel
theorem dX9_shift_164 : decode cX9_shift 164 = .ok (.imul, 1) := by decide +kernel
theorem dX9_shift_165 : decode cX9_shift 165 = .ok (.iload 4, 2) := by decide +kernel
theorem dX9_shift_167 : decode cX9_shift 167 = .ok (.iadd, 1) := by decide +kernel
theorem dX9_shift_168 : decode cX9_shift 168 = .ok (.iload 6, 2) := by decide +kernel
theorem dX9_shift_170 : decode cX9_shift 170 = .ok (.iadd, 1) := by decide +kernel
theorem dX9_shift_171 : decode cX9_shift 171 = .ok (.aload_n 0, 1) := by decide +kernel
theorem dX9_shift_172 : decode cX9_shift 172 = .ok (.getfield 140, 3) := by decide +kernel
theorem dX9_shift_175 : decode cX9_shift 175 = .ok (.iload 6, 2) := by decide +kernel
theorem dX9_shift_177 : decode cX9_shift 177 = .ok (.laload, 1) := by decide +kernel
theorem dX9_shift_178 : decode cX9_shift 178 = .ok (.lastore, 1) := by decide +kernel
theorem dX9_shift_179 : decode cX9_shift 179 = .ok (.iinc 6 1, 3) := by decide +kernel
theorem dX9_shift_182 : decode cX9_shift 182 = .ok (.goto (-32), 3) := by decide +kernel
theorem dX9_shift_185 : decode cX9_shift 185 = .ok (.iload 5, 2) := by decide +kernel
theorem dX9_shift_187 : decode cX9_shift 187 = .ok (.ireturn, 1) := by decide +kernel
theorem dX9_taken_0 : decode cX9_taken 0 = .ok (.iload_n 1, 1) := by decide +kernel
theorem dX9_taken_1 : decode cX9_taken 1 = .ok (.invokestatic 198, 3) := by decide +kernel
theorem dX9_taken_4 : decode cX9_taken 4 = .ok (.ifCond .eq 15, 3) := by decide +kernel
theorem dX9_taken_7 : decode cX9_taken 7 = .ok (.iload_n 2, 1) := by decide +kernel
theorem dX9_taken_8 : decode cX9_taken 8 = .ok (.i2l, 1) := by decide +kernel
theorem dX9_taken_9 : decode cX9_taken 9 = .ok (.lconst 0, 1) := by decide +kernel
theorem dX9_taken_10 : decode cX9_taken 10 = .ok (.ldc2_w 447, 3) := by decide +kernel
theorem dX9_taken_13 : decode cX9_taken 13 = .ok (.invokestatic 162, 3) := by decide +kernel
theorem dX9_taken_16 : decode cX9_taken 16 = .ok (.ifCond .ne 5, 3) := by decide +kernel
theorem dX9_taken_19 : decode cX9_taken 19 = .ok (.iconst (-1), 1) := by decide +kernel
theorem dX9_taken_20 : decode cX9_taken 20 = .ok (.ireturn, 1) := by decide +kernel
theorem dX9_taken_21 : decode cX9_taken 21 = .ok (.aload_n 0, 1) := by decide +kernel
theorem dX9_taken_22 : decode cX9_taken 22 = .ok (.getfield 130, 3) := by decide +kernel
theorem dX9_taken_25 : decode cX9_taken 25 = .ok (.iload_n 1, 1) := by decide +kernel
theorem dX9_taken_26 : decode cX9_taken 26 = .ok (.iaload, 1) := by decide +kernel
theorem dX9_taken_27 : decode cX9_taken 27 = .ok (.ifCond .ge 6, 3) := by decide +kernel
theorem dX9_taken_30 : decode cX9_taken 30 = .ok (.bipush (-11), 2) := by decide +kernel
theorem dX9_taken_32 : decode cX9_taken 32 = .ok (.ireturn, 1) := by decide +kernel
theorem dX9_taken_33 : decode cX9_taken 33 = .ok (.aload_n 0, 1) := by decide +kernel
theorem dX9_taken_34 : decode cX9_taken 34 = .ok (.getfield 130, 3) := by decide +kernel
theorem dX9_taken_37 : decode cX9_taken 37 = .ok (.iload_n 1, 1) := by decide +kernel
theorem dX9_taken_38 : decode cX9_taken 38 = .ok (.iaload, 1) := by decide +kernel
theorem dX9_taken_39 : decode cX9_taken 39 = .ok (.bipush 50, 2) := by decide +kernel
theorem dX9_taken_41 : decode cX9_taken 41 = .ok (.if_icmp .lt 6, 3) := by decide +kernel
theorem dX9_taken_44 : decode cX9_taken 44 = .ok (.bipush (-12), 2) := by decide +kernel
theorem dX9_taken_46 : decode cX9_taken 46 = .ok (.ireturn, 1) := by decide +kernel
theorem dX9_taken_47 : decode cX9_taken 47 = .ok (.aload_n 0, 1) := by decide +kernel
theorem dX9_taken_48 : decode cX9_taken 48 = .ok (.aload_n 0, 1) := by decide +kernel
theorem dX9_taken_49 : decode cX9_taken 49 = .ok (.getfield 130, 3) := by decide +kernel
theorem dX9_taken_52 : decode cX9_taken 52 = .ok (.iload_n 1, 1) := by decide +kernel
theorem dX9_taken_53 : decode cX9_taken 53 = .ok (.iaload, 1) := by decide +kernel
theorem dX9_taken_54 : decode cX9_taken 54 = .ok (.invokevirtual 489, 3) := by decide +kernel
theorem dX9_taken_57 : decode cX9_taken 57 = .ok (.istore_n 3, 1) := by decide +kernel
theorem dX9_taken_58 : decode cX9_taken 58 = .ok (.iload_n 3, 1) := by decide +kernel
theorem dX9_taken_59 : decode cX9_taken 59 = .ok (.iload_n 2, 1) := by decide +kernel
theorem dX9_taken_60 : decode cX9_taken 60 = .ok (.if_icmp .eq 15, 3) := by decide +kernel
theorem dX9_taken_63 : decode cX9_taken 63 = .ok (.iload_n 3, 1) := by decide +kernel
theorem dX9_taken_64 : decode cX9_taken 64 = .ok (.ifCond .le 11, 3) := by decide +kernel
theorem dX9_taken_67 : decode cX9_taken 67 = .ok (.iload_n 3, 1) := by decide +kernel
theorem dX9_taken_68 : decode cX9_taken 68 = .ok (.invokestatic 492, 3) := by decide +kernel
theorem dX9_taken_71 : decode cX9_taken 71 = .ok (.istore_n 3, 1) := by decide +kernel
theorem dX9_taken_72 : decode cX9_taken 72 = .ok (.goto (-14), 3) := by decide +kernel
theorem dX9_taken_75 : decode cX9_taken 75 = .ok (.iload_n 3, 1) := by decide +kernel
theorem dX9_taken_76 : decode cX9_taken 76 = .ok (.iload_n 2, 1) := by decide +kernel
theorem dX9_taken_77 : decode cX9_taken 77 = .ok (.if_icmp .ne 16, 3) := by decide +kernel
theorem dX9_taken_80 : decode cX9_taken 80 = .ok (.aload_n 0, 1) := by decide +kernel
theorem dX9_taken_81 : decode cX9_taken 81 = .ok (.aload_n 0, 1) := by decide +kernel
theorem dX9_taken_82 : decode cX9_taken 82 = .ok (.getfield 130, 3) := by decide +kernel
theorem dX9_taken_85 : decode cX9_taken 85 = .ok (.iload_n 1, 1) := by decide +kernel
theorem dX9_taken_86 : decode cX9_taken 86 = .ok (.iaload, 1) := by decide +kernel
theorem dX9_taken_87 : decode cX9_taken 87 = .ok (.invokevirtual 489, 3) := by decide +kernel
theorem dX9_taken_90 : decode cX9_taken 90 = .ok (.goto 5, 3) := by decide +kernel
theorem dX9_taken_93 : decode cX9_taken 93 = .ok (.bipush (-12), 2) := by decide +kernel
theorem dX9_taken_95 : decode cX9_taken 95 = .ok (.ireturn, 1) := by decide +kernel
theorem dX9_count_0 : decode cX9_count 0 = .ok (.iload_n 1, 1) := by decide +kernel
theorem dX9_count_1 : decode cX9_count 1 = .ok (.tableswitch 78 0 6 #[43, 48, 53, 58, 63, 68, 73], 43) := by decide +kernel
theorem dX9_count_44 : decode cX9_count 44 = .ok (.aload_n 0, 1) := by decide +kernel
theorem dX9_count_45 : decode cX9_count 45 = .ok (.getfield 159, 3) := by decide +kernel
theorem dX9_count_48 : decode cX9_count 48 = .ok (.ireturn, 1) := by decide +kernel
theorem dX9_count_49 : decode cX9_count 49 = .ok (.aload_n 0, 1) := by decide +kernel
theorem dX9_count_50 : decode cX9_count 50 = .ok (.getfield 166, 3) := by decide +kernel
theorem dX9_count_53 : decode cX9_count 53 = .ok (.ireturn, 1) := by decide +kernel
theorem dX9_count_54 : decode cX9_count 54 = .ok (.aload_n 0, 1) := by decide +kernel
theorem dX9_count_55 : decode cX9_count 55 = .ok (.getfield 169, 3) := by decide +kernel
theorem dX9_count_58 : decode cX9_count 58 = .ok (.ireturn, 1) := by decide +kernel
theorem dX9_count_59 : decode cX9_count 59 = .ok (.aload_n 0, 1) := by decide +kernel
theorem dX9_count_60 : decode cX9_count 60 = .ok (.getfield 227, 3) := by decide +kernel
theorem dX9_count_63 : decode cX9_count 63 = .ok (.ireturn, 1) := by decide +kernel
theorem dX9_count_64 : decode cX9_count 64 = .ok (.aload_n 0, 1) := by decide +kernel
theorem dX9_count_65 : decode cX9_count 65 = .ok (.getfield 153, 3) := by decide +kernel
theorem dX9_count_68 : decode cX9_count 68 = .ok (.ireturn, 1) := by decide +kernel
theorem dX9_count_69 : decode cX9_count 69 = .ok (.aload_n 0, 1) := by decide +kernel
theorem dX9_count_70 : decode cX9_count 70 = .ok (.getfield 444, 3) := by decide +kernel
theorem dX9_count_73 : decode cX9_count 73 = .ok (.ireturn, 1) := by decide +kernel
theorem dX9_count_74 : decode cX9_count 74 = .ok (.aload_n 0, 1) := by decide +kernel
theorem dX9_count_75 : decode cX9_count 75 = .ok (.getfield 449, 3) := by decide +kernel
theorem dX9_count_78 : decode cX9_count 78 = .ok (.ireturn, 1) := by decide +kernel
theorem dX9_count_79 : decode cX9_count 79 = .ok (.iconst (-1), 1) := by decide +kernel
theorem dX9_count_80 : decode cX9_count 80 = .ok (.ireturn, 1) := by decide +kernel
theorem dJ11_isValidCodePoint_9a6ad_0 : decode cJ11_isValidCodePoint_9a6ad 0 = .ok (.iload_n 0, 1) := by decide +kernel
theorem dJ11_isValidCodePoint_9a6ad_1 : decode cJ11_isValidCodePoint_9a6ad 1 = .ok (.bipush 16, 2) := by decide +kernel
theorem dJ11_isValidCodePoint_9a6ad_3 : decode cJ11_isValidCodePoint_9a6ad 3 = .ok (.iushr, 1) := by decide +kernel
theorem dJ11_isValidCodePoint_9a6ad_4 : decode cJ11_isValidCodePoint_9a6ad 4 = .ok (.istore_n 1, 1) := by decide +kernel
theorem dJ11_isValidCodePoint_9a6ad_5 : decode cJ11_isValidCodePoint_9a6ad 5 = .ok (.iload_n 1, 1) := by decide +kernel
theorem dJ11_isValidCodePoint_9a6ad_6 : decode cJ11_isValidCodePoint_9a6ad 6 = .ok (.bipush 17, 2) := by decide +kernel
theorem dJ11_isValidCodePoint_9a6ad_8 : decode cJ11_isValidCodePoint_9a6ad 8 = .ok (.if_icmp .ge 7, 3) := by decide +kernel
theorem dJ11_isValidCodePoint_9a6ad_11 : decode cJ11_isValidCodePoint_9a6ad 11 = .ok (.iconst 1, 1) := by decide +kernel
theorem dJ11_isValidCodePoint_9a6ad_12 : decode cJ11_isValidCodePoint_9a6ad 12 = .ok (.goto 4, 3) := by decide +kernel
theorem dJ11_isValidCodePoint_9a6ad_15 : decode cJ11_isValidCodePoint_9a6ad 15 = .ok (.iconst 0, 1) := by decide +kernel
theorem dJ11_isValidCodePoint_9a6ad_16 : decode cJ11_isValidCodePoint_9a6ad 16 = .ok (.ireturn, 1) := by decide +kernel
theorem dJ11_highSurrogate_5068e_0 : decode cJ11_highSurrogate_5068e 0 = .ok (.iload_n 0, 1) := by decide +kernel
theorem dJ11_highSurrogate_5068e_1 : decode cJ11_highSurrogate_5068e 1 = .ok (.bipush 10, 2) := by decide +kernel
theorem dJ11_highSurrogate_5068e_3 : decode cJ11_highSurrogate_5068e 3 = .ok (.iushr, 1) := by decide +kernel
theorem dJ11_highSurrogate_5068e_4 : decode cJ11_highSurrogate_5068e 4 = .ok (.ldc 110, 2) := by decide +kernel
theorem dJ11_highSurrogate_5068e_6 : decode cJ11_highSurrogate_5068e 6 = .ok (.iadd, 1) := by decide +kernel
theorem dJ11_highSurrogate_5068e_7 : decode cJ11_highSurrogate_5068e 7 = .ok (.i2c, 1) := by decide +kernel
theorem dJ11_highSurrogate_5068e_8 : decode cJ11_highSurrogate_5068e 8 = .ok (.ireturn, 1) := by decide +kernel
theorem dJ11_lowSurrogate_5068e_0 : decode cJ11_lowSurrogate_5068e 0 = .ok (.iload_n 0, 1) := by decide +kernel
theorem dJ11_lowSurrogate_5068e_1 : decode cJ11_lowSurrogate_5068e 1 = .ok (.sipush 1023, 3) := by decide +kernel
theorem dJ11_lowSurrogate_5068e_4 : decode cJ11_lowSurrogate_5068e 4 = .ok (.iand, 1) := by decide +kernel
theorem dJ11_lowSurrogate_5068e_5 : decode cJ11_lowSurrogate_5068e 5 = .ok (.ldc 76, 2) := by decide +kernel
theorem dJ11_lowSurrogate_5068e_7 : decode cJ11_lowSurrogate_5068e 7 = .ok (.iadd, 1) := by decide +kernel
theorem dJ11_lowSurrogate_5068e_8 : decode cJ11_lowSurrogate_5068e 8 = .ok (.i2c, 1) := by decide +kernel
theorem dJ11_lowSurrogate_5068e_9 : decode cJ11_lowSurrogate_5068e 9 = .ok (.ireturn, 1) := by decide +kernel
theorem dJ6_bitCount_0f7a4_0 : decode cJ6_bitCount_0f7a4 0 = .ok (.iload_n 0, 1) := by decide +kernel
theorem dJ6_bitCount_0f7a4_1 : decode cJ6_bitCount_0f7a4 1 = .ok (.iload_n 0, 1) := by decide +kernel
theorem dJ6_bitCount_0f7a4_2 : decode cJ6_bitCount_0f7a4 2 = .ok (.iconst 1, 1) := by decide +kernel
theorem dJ6_bitCount_0f7a4_3 : decode cJ6_bitCount_0f7a4 3 = .ok (.iushr, 1) := by decide +kernel
theorem dJ6_bitCount_0f7a4_4 : decode cJ6_bitCount_0f7a4 4 = .ok (.ldc_w 265, 3) := by decide +kernel
theorem dJ6_bitCount_0f7a4_7 : decode cJ6_bitCount_0f7a4 7 = .ok (.iand, 1) := by decide +kernel
theorem dJ6_bitCount_0f7a4_8 : decode cJ6_bitCount_0f7a4 8 = .ok (.isub, 1) := by decide +kernel
theorem dJ6_bitCount_0f7a4_9 : decode cJ6_bitCount_0f7a4 9 = .ok (.istore_n 0, 1) := by decide +kernel
theorem dJ6_bitCount_0f7a4_10 : decode cJ6_bitCount_0f7a4 10 = .ok (.iload_n 0, 1) := by decide +kernel
theorem dJ6_bitCount_0f7a4_11 : decode cJ6_bitCount_0f7a4 11 = .ok (.ldc_w 266, 3) := by decide +kernel
theorem dJ6_bitCount_0f7a4_14 : decode cJ6_bitCount_0f7a4 14 = .ok (.iand, 1) := by decide +kernel
theorem dJ6_bitCount_0f7a4_15 : decode cJ6_bitCount_0f7a4 15 = .ok (.iload_n 0, 1) := by decide +kernel
theorem dJ6_bitCount_0f7a4_16 : decode cJ6_bitCount_0f7a4 16 = .ok (.iconst 2, 1) := by decide +kernel
theorem dJ6_bitCount_0f7a4_17 : decode cJ6_bitCount_0f7a4 17 = .ok (.iushr, 1) := by decide +kernel
theorem dJ6_bitCount_0f7a4_18 : decode cJ6_bitCount_0f7a4 18 = .ok (.ldc_w 266, 3) := by decide +kernel
theorem dJ6_bitCount_0f7a4_21 : decode cJ6_bitCount_0f7a4 21 = .ok (.iand, 1) := by decide +kernel
theorem dJ6_bitCount_0f7a4_22 : decode cJ6_bitCount_0f7a4 22 = .ok (.iadd, 1) := by decide +kernel
theorem dJ6_bitCount_0f7a4_23 : decode cJ6_bitCount_0f7a4 23 = .ok (.istore_n 0, 1) := by decide +kernel
theorem dJ6_bitCount_0f7a4_24 : decode cJ6_bitCount_0f7a4 24 = .ok (.iload_n 0, 1) := by decide +kernel
theorem dJ6_bitCount_0f7a4_25 : decode cJ6_bitCount_0f7a4 25 = .ok (.iload_n 0, 1) := by decide +kernel
theorem dJ6_bitCount_0f7a4_26 : decode cJ6_bitCount_0f7a4 26 = .ok (.iconst 4, 1) := by decide +kernel
theorem dJ6_bitCount_0f7a4_27 : decode cJ6_bitCount_0f7a4 27 = .ok (.iushr, 1) := by decide +kernel
theorem dJ6_bitCount_0f7a4_28 : decode cJ6_bitCount_0f7a4 28 = .ok (.iadd, 1) := by decide +kernel
theorem dJ6_bitCount_0f7a4_29 : decode cJ6_bitCount_0f7a4 29 = .ok (.ldc_w 267, 3) := by decide +kernel
theorem dJ6_bitCount_0f7a4_32 : decode cJ6_bitCount_0f7a4 32 = .ok (.iand, 1) := by decide +kernel
theorem dJ6_bitCount_0f7a4_33 : decode cJ6_bitCount_0f7a4 33 = .ok (.istore_n 0, 1) := by decide +kernel
theorem dJ6_bitCount_0f7a4_34 : decode cJ6_bitCount_0f7a4 34 = .ok (.iload_n 0, 1) := by decide +kernel
theorem dJ6_bitCount_0f7a4_35 : decode cJ6_bitCount_0f7a4 35 = .ok (.iload_n 0, 1) := by decide +kernel
theorem dJ6_bitCount_0f7a4_36 : decode cJ6_bitCount_0f7a4 36 = .ok (.bipush 8, 2) := by decide +kernel
theorem dJ6_bitCount_0f7a4_38 : decode cJ6_bitCount_0f7a4 38 = .ok (.iushr, 1) := by decide +kernel
theorem dJ6_bitCount_0f7a4_39 : decode cJ6_bitCount_0f7a4 39 = .ok (.iadd, 1) := by decide +kernel
theorem dJ6_bitCount_0f7a4_40 : decode cJ6_bitCount_0f7a4 40 = .ok (.istore_n 0, 1) := by decide +kernel
theorem dJ6_bitCount_0f7a4_41 : decode cJ6_bitCount_0f7a4 41 = .ok (.iload_n 0, 1) := by decide +kernel
theorem dJ6_bitCount_0f7a4_42 : decode cJ6_bitCount_0f7a4 42 = .ok (.iload_n 0, 1) := by decide +kernel
theorem dJ6_bitCount_0f7a4_43 : decode cJ6_bitCount_0f7a4 43 = .ok (.bipush 16, 2) := by decide +kernel
theorem dJ6_bitCount_0f7a4_45 : decode cJ6_bitCount_0f7a4 45 = .ok (.iushr, 1) := by decide +kernel
theorem dJ6_bitCount_0f7a4_46 : decode cJ6_bitCount_0f7a4 46 = .ok (.iadd, 1) := by decide +kernel
theorem dJ6_bitCount_0f7a4_47 : decode cJ6_bitCount_0f7a4 47 = .ok (.istore_n 0, 1) := by decide +kernel
theorem dJ6_bitCount_0f7a4_48 : decode cJ6_bitCount_0f7a4 48 = .ok (.iload_n 0, 1) := by decide +kernel
theorem dJ6_bitCount_0f7a4_49 : decode cJ6_bitCount_0f7a4 49 = .ok (.bipush 63, 2) := by decide +kernel
theorem dJ6_bitCount_0f7a4_51 : decode cJ6_bitCount_0f7a4 51 = .ok (.iand, 1) := by decide +kernel
theorem dJ6_bitCount_0f7a4_52 : decode cJ6_bitCount_0f7a4 52 = .ok (.ireturn, 1) := by decide +kernel
theorem dJ9_abs_0f7a4_0 : decode cJ9_abs_0f7a4 0 = .ok (.iload_n 0, 1) := by decide +kernel
theorem dJ9_abs_0f7a4_1 : decode cJ9_abs_0f7a4 1 = .ok (.ifCond .ge 8, 3) := by decide +kernel
theorem dJ9_abs_0f7a4_4 : decode cJ9_abs_0f7a4 4 = .ok (.iload_n 0, 1) := by decide +kernel
theorem dJ9_abs_0f7a4_5 : decode cJ9_abs_0f7a4 5 = .ok (.ineg, 1) := by decide +kernel
theorem dJ9_abs_0f7a4_6 : decode cJ9_abs_0f7a4 6 = .ok (.goto 4, 3) := by decide +kernel
theorem dJ9_abs_0f7a4_9 : decode cJ9_abs_0f7a4 9 = .ok (.iload_n 0, 1) := by decide +kernel
theorem dJ9_abs_0f7a4_10 : decode cJ9_abs_0f7a4 10 = .ok (.ireturn, 1) := by decide +kernel
theorem dJ9_max_7cf53_0 : decode cJ9_max_7cf53 0 = .ok (.iload_n 0, 1) := by decide +kernel
theorem dJ9_max_7cf53_1 : decode cJ9_max_7cf53 1 = .ok (.iload_n 1, 1) := by decide +kernel
theorem dJ9_max_7cf53_2 : decode cJ9_max_7cf53 2 = .ok (.if_icmp .lt 7, 3) := by decide +kernel
theorem dJ9_max_7cf53_5 : decode cJ9_max_7cf53 5 = .ok (.iload_n 0, 1) := by decide +kernel
theorem dJ9_max_7cf53_6 : decode cJ9_max_7cf53 6 = .ok (.goto 4, 3) := by decide +kernel
theorem dJ9_max_7cf53_9 : decode cJ9_max_7cf53 9 = .ok (.iload_n 1, 1) := by decide +kernel
theorem dJ9_max_7cf53_10 : decode cJ9_max_7cf53 10 = .ok (.ireturn, 1) := by decide +kernel
theorem dJ9_min_7cf53_0 : decode cJ9_min_7cf53 0 = .ok (.iload_n 0, 1) := by decide +kernel
theorem dJ9_min_7cf53_1 : decode cJ9_min_7cf53 1 = .ok (.iload_n 1, 1) := by decide +kernel
theorem dJ9_min_7cf53_2 : decode cJ9_min_7cf53 2 = .ok (.if_icmp .gt 7, 3) := by decide +kernel
theorem dJ9_min_7cf53_5 : decode cJ9_min_7cf53 5 = .ok (.iload_n 0, 1) := by decide +kernel
theorem dJ9_min_7cf53_6 : decode cJ9_min_7cf53 6 = .ok (.goto 4, 3) := by decide +kernel
theorem dJ9_min_7cf53_9 : decode cJ9_min_7cf53 9 = .ok (.iload_n 1, 1) := by decide +kernel
theorem dJ9_min_7cf53_10 : decode cJ9_min_7cf53 10 = .ok (.ireturn, 1) := by decide +kernel
theorem dJ0_length_8abf5_0 : decode cJ0_length_8abf5 0 = .ok (.aload_n 0, 1) := by decide +kernel
theorem dJ0_length_8abf5_1 : decode cJ0_length_8abf5 1 = .ok (.getfield 9, 3) := by decide +kernel
theorem dJ0_length_8abf5_4 : decode cJ0_length_8abf5 4 = .ok (.arraylength, 1) := by decide +kernel
theorem dJ0_length_8abf5_5 : decode cJ0_length_8abf5 5 = .ok (.aload_n 0, 1) := by decide +kernel
theorem dJ0_length_8abf5_6 : decode cJ0_length_8abf5 6 = .ok (.invokevirtual 335, 3) := by decide +kernel
theorem dJ0_length_8abf5_9 : decode cJ0_length_8abf5 9 = .ok (.ishr, 1) := by decide +kernel
theorem dJ0_length_8abf5_10 : decode cJ0_length_8abf5 10 = .ok (.ireturn, 1) := by decide +kernel
theorem dJ0_indexOf_0f7a4_0 : decode cJ0_indexOf_0f7a4 0 = .ok (.aload_n 0, 1) := by decide +kernel
theorem dJ0_indexOf_0f7a4_1 : decode cJ0_indexOf_0f7a4 1 = .ok (.iload_n 1, 1) := by decide +kernel
theorem dJ0_indexOf_0f7a4_2 : decode cJ0_indexOf_0f7a4 2 = .ok (.iconst 0, 1) := by decide +kernel
theorem dJ0_indexOf_0f7a4_3 : decode cJ0_indexOf_0f7a4 3 = .ok (.invokevirtual 633, 3) := by decide +kernel
theorem dJ0_indexOf_0f7a4_6 : decode cJ0_indexOf_0f7a4 6 = .ok (.ireturn, 1) := by decide +kernel
theorem dJ0_indexOf_7cf53_0 : decode cJ0_indexOf_7cf53 0 = .ok (.aload_n 0, 1) := by decide +kernel
theorem dJ0_indexOf_7cf53_1 : decode cJ0_indexOf_7cf53 1 = .ok (.invokevirtual 492, 3) := by decide +kernel
theorem dJ0_indexOf_7cf53_4 : decode cJ0_indexOf_7cf53 4 = .ok (.ifCond .eq 19, 3) := by decide +kernel
theorem dJ0_indexOf_7cf53_7 : decode cJ0_indexOf_7cf53 7 = .ok (.aload_n 0, 1) := by decide +kernel
theorem dJ0_indexOf_7cf53_8 : decode cJ0_indexOf_7cf53 8 = .ok (.getfield 9, 3) := by decide +kernel
theorem dJ0_indexOf_7cf53_11 : decode cJ0_indexOf_7cf53 11 = .ok (.iload_n 1, 1) := by decide +kernel
theorem dJ0_indexOf_7cf53_12 : decode cJ0_indexOf_7cf53 12 = .ok (.iload_n 2, 1) := by decide +kernel
theorem dJ0_indexOf_7cf53_13 : decode cJ0_indexOf_7cf53 13 = .ok (.aload_n 0, 1) := by decide +kernel
theorem dJ0_indexOf_7cf53_14 : decode cJ0_indexOf_7cf53 14 = .ok (.invokevirtual 505, 3) := by decide +kernel
theorem dJ0_indexOf_7cf53_17 : decode cJ0_indexOf_7cf53 17 = .ok (.invokestatic 637, 3) := by decide +kernel
theorem dJ0_indexOf_7cf53_20 : decode cJ0_indexOf_7cf53 20 = .ok (.goto 16, 3) := by decide +kernel
theorem dJ0_indexOf_7cf53_23 : decode cJ0_indexOf_7cf53 23 = .ok (.aload_n 0, 1) := by decide +kernel
theorem dJ0_indexOf_7cf53_24 : decode cJ0_indexOf_7cf53 24 = .ok (.getfield 9, 3) := by decide +kernel
theorem dJ0_indexOf_7cf53_27 : decode cJ0_indexOf_7cf53 27 = .ok (.iload_n 1, 1) := by decide +kernel
theorem dJ0_indexOf_7cf53_28 : decode cJ0_indexOf_7cf53 28 = .ok (.iload_n 2, 1) := by decide +kernel
theorem dJ0_indexOf_7cf53_29 : decode cJ0_indexOf_7cf53 29 = .ok (.aload_n 0, 1) := by decide +kernel
theorem dJ0_indexOf_7cf53_30 : decode cJ0_indexOf_7cf53 30 = .ok (.invokevirtual 505, 3) := by decide +kernel
theorem dJ0_indexOf_7cf53_33 : decode cJ0_indexOf_7cf53 33 = .ok (.invokestatic 640, 3) := by decide +kernel
theorem dJ0_indexOf_7cf53_36 : decode cJ0_indexOf_7cf53 36 = .ok (.ireturn, 1) := by decide +kernel
theorem dJ0_coder_7d493_0 : decode cJ0_coder_7d493 0 = .ok (.getstatic 38, 3) := by decide +kernel
theorem dJ0_coder_7d493_3 : decode cJ0_coder_7d493 3 = .ok (.ifCond .eq 10, 3) := by decide +kernel
theorem dJ0_coder_7d493_6 : decode cJ0_coder_7d493 6 = .ok (.aload_n 0, 1) := by decide +kernel
theorem dJ0_coder_7d493_7 : decode cJ0_coder_7d493 7 = .ok (.getfield 15, 3) := by decide +kernel
theorem dJ0_coder_7d493_10 : decode cJ0_coder_7d493 10 = .ok (.goto 4, 3) := by decide +kernel
theorem dJ0_coder_7d493_13 : decode cJ0_coder_7d493 13 = .ok (.iconst 1, 1) := by decide +kernel
theorem dJ0_coder_7d493_14 : decode cJ0_coder_7d493 14 = .ok (.ireturn, 1) := by decide +kernel
theorem dJ0_isLatin1_aae02_0 : decode cJ0_isLatin1_aae02 0 = .ok (.getstatic 38, 3) := by decide +kernel
theorem dJ0_isLatin1_aae02_3 : decode cJ0_isLatin1_aae02 3 = .ok (.ifCond .eq 14, 3) := by decide +kernel
theorem dJ0_isLatin1_aae02_6 : decode cJ0_isLatin1_aae02 6 = .ok (.aload_n 0, 1) := by decide +kernel
theorem dJ0_isLatin1_aae02_7 : decode cJ0_isLatin1_aae02 7 = .ok (.getfield 15, 3) := by decide +kernel
theorem dJ0_isLatin1_aae02_10 : decode cJ0_isLatin1_aae02 10 = .ok (.ifCond .ne 7, 3) := by decide +kernel
theorem dJ0_isLatin1_aae02_13 : decode cJ0_isLatin1_aae02 13 = .ok (.iconst 1, 1) := by decide +kernel
theorem dJ0_isLatin1_aae02_14 : decode cJ0_isLatin1_aae02 14 = .ok (.goto 4, 3) := by decide +kernel
theorem dJ0_isLatin1_aae02_17 : decode cJ0_isLatin1_aae02 17 = .ok (.iconst 0, 1) := by decide +kernel
theorem dJ0_isLatin1_aae02_18 : decode cJ0_isLatin1_aae02 18 = .ok (.ireturn, 1) := by decide +kernel
theorem dJ0_checkBoundsBeginEnd_23922_0 : decode cJ0_checkBoundsBeginEnd_23922 0 = .ok (.iload_n 0, 1) := by decide +kernel
theorem dJ0_checkBoundsBeginEnd_23922_1 : decode cJ0_checkBoundsBeginEnd_23922 1 = .ok (.iload_n 1, 1) := by decide +kernel
theorem dJ0_checkBoundsBeginEnd_23922_2 : decode cJ0_checkBoundsBeginEnd_23922 2 = .ok (.iload_n 2, 1) := by decide +kernel
theorem dJ0_checkBoundsBeginEnd_23922_3 : decode cJ0_checkBoundsBeginEnd_23922 3 = .ok (.getstatic 1053, 3) := by decide +kernel
theorem dJ0_checkBoundsBeginEnd_23922_6 : decode cJ0_checkBoundsBeginEnd_23922 6 = .ok (.invokestatic 1062, 3) := by decide +kernel
theorem dJ0_checkBoundsBeginEnd_23922_9 : decode cJ0_checkBoundsBeginEnd_23922 9 = .ok (.pop, 1) := by decide +kernel
theorem dJ0_checkBoundsBeginEnd_23922_10 : decode cJ0_checkBoundsBeginEnd_23922 10 = .ok (.return_, 1) := by decide +kernel
theorem dJ1_canEncode_9a6ad_0 : decode cJ1_canEncode_9a6ad 0 = .ok (.iload_n 0, 1) := by decide +kernel
theorem dJ1_canEncode_9a6ad_1 : decode cJ1_canEncode_9a6ad 1 = .ok (.ifCond .lt 14, 3) := by decide +kernel
theorem dJ1_canEncode_9a6ad_4 : decode cJ1_canEncode_9a6ad 4 = .ok (.iload_n 0, 1) := by decide +kernel
theorem dJ1_canEncode_9a6ad_5 : decode cJ1_canEncode_9a6ad 5 = .ok (.sipush 255, 3) := by decide +kernel
theorem dJ1_canEncode_9a6ad_8 : decode cJ1_canEncode_9a6ad 8 = .ok (.if_icmp .gt 7, 3) := by decide +kernel
theorem dJ1_canEncode_9a6ad_11 : decode cJ1_canEncode_9a6ad 11 = .ok (.iconst 1, 1) := by decide +kernel
theorem dJ1_canEncode_9a6ad_12 : decode cJ1_canEncode_9a6ad 12 = .ok (.goto 4, 3) := by decide +kernel
theorem dJ1_canEncode_9a6ad_15 : decode cJ1_canEncode_9a6ad 15 = .ok (.iconst 0, 1) := by decide +kernel
theorem dJ1_canEncode_9a6ad_16 : decode cJ1_canEncode_9a6ad 16 = .ok (.ireturn, 1) := by decide +kernel
theorem dJ1_indexOf_4cfef_0 : decode cJ1_indexOf_4cfef 0 = .ok (.iload_n 1, 1) := by decide +kernel
theorem dJ1_indexOf_4cfef_1 : decode cJ1_indexOf_4cfef 1 = .ok (.invokestatic 88, 3) := by decide +kernel
theorem dJ1_indexOf_4cfef_4 : decode cJ1_indexOf_4cfef 4 = .ok (.ifCond .ne 5, 3) := by decide +kernel
theorem dJ1_indexOf_4cfef_7 : decode cJ1_indexOf_4cfef 7 = .ok (.iconst (-1), 1) := by decide +kernel
theorem dJ1_indexOf_4cfef_8 : decode cJ1_indexOf_4cfef 8 = .ok (.ireturn, 1) := by decide +kernel
theorem dJ1_indexOf_4cfef_9 : decode cJ1_indexOf_4cfef 9 = .ok (.iload_n 2, 1) := by decide +kernel
theorem dJ1_indexOf_4cfef_10 : decode cJ1_indexOf_4cfef 10 = .ok (.iconst 0, 1) := by decide +kernel
theorem dJ1_indexOf_4cfef_11 : decode cJ1_indexOf_4cfef 11 = .ok (.invokestatic 92, 3) := by decide +kernel
theorem dJ1_indexOf_4cfef_14 : decode cJ1_indexOf_4cfef 14 = .ok (.istore_n 2, 1) := by decide +kernel
theorem dJ1_indexOf_4cfef_15 : decode cJ1_indexOf_4cfef 15 = .ok (.iload_n 3, 1) := by decide +kernel
theorem dJ1_indexOf_4cfef_16 : decode cJ1_indexOf_4cfef 16 = .ok (.aload_n 0, 1) := by decide +kernel
theorem dJ1_indexOf_4cfef_17 : decode cJ1_indexOf_4cfef 17 = .ok (.arraylength, 1) := by decide +kernel
theorem dJ1_indexOf_4cfef_18 : decode cJ1_indexOf_4cfef 18 = .ok (.invokestatic 38, 3) := by decide +kernel
theorem dJ1_indexOf_4cfef_21 : decode cJ1_indexOf_4cfef 21 = .ok (.istore_n 3, 1) := by decide +kernel
theorem dJ1_indexOf_4cfef_22 : decode cJ1_indexOf_4cfef 22 = .ok (.iload_n 2, 1) := by decide +kernel
theorem dJ1_indexOf_4cfef_23 : decode cJ1_indexOf_4cfef 23 = .ok (.iload_n 3, 1) := by decide +kernel
theorem dJ1_indexOf_4cfef_24 : decode cJ1_indexOf_4cfef 24 = .ok (.if_icmp .lt 5, 3) := by decide +kernel
theorem dJ1_indexOf_4cfef_27 : decode cJ1_indexOf_4cfef 27 = .ok (.iconst (-1), 1) := by decide +kernel
theorem dJ1_indexOf_4cfef_28 : decode cJ1_indexOf_4cfef 28 = .ok (.ireturn, 1) := by decide +kernel
theorem dJ1_indexOf_4cfef_29 : decode cJ1_indexOf_4cfef 29 = .ok (.aload_n 0, 1) := by decide +kernel
theorem dJ1_indexOf_4cfef_30 : decode cJ1_indexOf_4cfef 30 = .ok (.iload_n 1, 1) := by decide +kernel
theorem dJ1_indexOf_4cfef_31 : decode cJ1_indexOf_4cfef 31 = .ok (.iload_n 2, 1) := by decide +kernel
theorem dJ1_indexOf_4cfef_32 : decode cJ1_indexOf_4cfef 32 = .ok (.iload_n 3, 1) := by decide +kernel
theorem dJ1_indexOf_4cfef_33 : decode cJ1_indexOf_4cfef 33 = .ok (.invokestatic 95, 3) := by decide +kernel
theorem dJ1_indexOf_4cfef_36 : decode cJ1_indexOf_4cfef 36 = .ok (.ireturn, 1) := by decide +kernel
theorem dJ1_indexOfChar_4cfef_0 : decode cJ1_indexOfChar_4cfef 0 = .ok (.iload_n 1, 1) := by decide +kernel
theorem dJ1_indexOfChar_4cfef_1 : decode cJ1_indexOfChar_4cfef 1 = .ok (.i2b, 1) := by decide +kernel
theorem dJ1_indexOfChar_4cfef_2 : decode cJ1_indexOfChar_4cfef 2 = .ok (.istore 4, 2) := by decide +kernel
theorem dJ1_indexOfChar_4cfef_4 : decode cJ1_indexOfChar_4cfef 4 = .ok (.iload_n 2, 1) := by decide +kernel
theorem dJ1_indexOfChar_4cfef_5 : decode cJ1_indexOfChar_4cfef 5 = .ok (.istore 5, 2) := by decide +kernel
theorem dJ1_indexOfChar_4cfef_7 : decode cJ1_indexOfChar_4cfef 7 = .ok (.iload 5, 2) := by decide +kernel
theorem dJ1_indexOfChar_4cfef_9 : decode cJ1_indexOfChar_4cfef 9 = .ok (.iload_n 3, 1) := by decide +kernel
theorem dJ1_indexOfChar_4cfef_10 : decode cJ1_indexOfChar_4cfef 10 = .ok (.if_icmp .ge 21, 3) := by decide +kernel
theorem dJ1_indexOfChar_4cfef_13 : decode cJ1_indexOfChar_4cfef 13 = .ok (.aload_n 0, 1) := by decide +kernel
theorem dJ1_indexOfChar_4cfef_14 : decode cJ1_indexOfChar_4cfef 14 = .ok (.iload 5, 2) := by decide +kernel
theorem dJ1_indexOfChar_4cfef_16 : decode cJ1_indexOfChar_4cfef 16 = .ok (.baload, 1) := by decide +kernel
theorem dJ1_indexOfChar_4cfef_17 : decode cJ1_indexOfChar_4cfef 17 = .ok (.iload 4, 2) := by decide +kernel
theorem dJ1_indexOfChar_4cfef_19 : decode cJ1_indexOfChar_4cfef 19 = .ok (.if_icmp .ne 6, 3) := by decide +kernel
theorem dJ1_indexOfChar_4cfef_22 : decode cJ1_indexOfChar_4cfef 22 = .ok (.iload 5, 2) := by decide +kernel
theorem dJ1_indexOfChar_4cfef_24 : decode cJ1_indexOfChar_4cfef 24 = .ok (.ireturn, 1) := by decide +kernel
theorem dJ1_indexOfChar_4cfef_25 : decode cJ1_indexOfChar_4cfef 25 = .ok (.iinc 5 1, 3) := by decide +kernel
theorem dJ1_indexOfChar_4cfef_28 : decode cJ1_indexOfChar_4cfef 28 = .ok (.goto (-21), 3) := by decide +kernel
theorem dJ1_indexOfChar_4cfef_31 : decode cJ1_indexOfChar_4cfef 31 = .ok (.iconst (-1), 1) := by decide +kernel
theorem dJ1_indexOfChar_4cfef_32 : decode cJ1_indexOfChar_4cfef 32 = .ok (.ireturn, 1) := by decide +kernel
theorem dJ2_getChar_3b067_0 : decode cJ2_getChar_3b067 0 = .ok (.getstatic 44, 3) := by decide +kernel
theorem dJ2_getChar_3b067_3 : decode cJ2_getChar_3b067 3 = .ok (.ifCond .ne 25, 3) := by decide +kernel
theorem dJ2_getChar_3b067_6 : decode cJ2_getChar_3b067 6 = .ok (.iload_n 1, 1) := by decide +kernel
theorem dJ2_getChar_3b067_7 : decode cJ2_getChar_3b067 7 = .ok (.ifCond .lt 11, 3) := by decide +kernel
theorem dJ2_getChar_3b067_10 : decode cJ2_getChar_3b067 10 = .ok (.iload_n 1, 1) := by decide +kernel
theorem dJ2_getChar_3b067_11 : decode cJ2_getChar_3b067 11 = .ok (.aload_n 0, 1) := by decide +kernel
theorem dJ2_getChar_3b067_12 : decode cJ2_getChar_3b067 12 = .ok (.invokestatic 48, 3) := by decide +kernel
theorem dJ2_getChar_3b067_15 : decode cJ2_getChar_3b067 15 = .ok (.if_icmp .lt 13, 3) := by decide +kernel
theorem dJ2_getChar_3b067_18 : decode cJ2_getChar_3b067 18 = .ok (.new 52, 3) := by decide +kernel
theorem dJ2_getChar_3b067_21 : decode cJ2_getChar_3b067 21 = .ok (.dup, 1) := by decide +kernel
theorem dJ2_getChar_3b067_22 : decode cJ2_getChar_3b067 22 = .ok (.ldc 54, 2) := by decide +kernel
theorem dJ2_getChar_3b067_24 : decode cJ2_getChar_3b067 24 = .ok (.invokespecial 56, 3) := by decide +kernel
theorem dJ2_getChar_3b067_27 : decode cJ2_getChar_3b067 27 = .ok (.athrow, 1) := by decide +kernel
theorem dJ2_getChar_3b067_28 : decode cJ2_getChar_3b067 28 = .ok (.iload_n 1, 1) := by decide +kernel
theorem dJ2_getChar_3b067_29 : decode cJ2_getChar_3b067 29 = .ok (.iconst 1, 1) := by decide +kernel
theorem dJ2_getChar_3b067_30 : decode cJ2_getChar_3b067 30 = .ok (.ishl, 1) := by decide +kernel
theorem dJ2_getChar_3b067_31 : decode cJ2_getChar_3b067 31 = .ok (.istore_n 1, 1) := by decide +kernel
theorem dJ2_getChar_3b067_32 : decode cJ2_getChar_3b067 32 = .ok (.aload_n 0, 1) := by decide +kernel
theorem dJ2_getChar_3b067_33 : decode cJ2_getChar_3b067 33 = .ok (.iload_n 1, 1) := by decide +kernel
theorem dJ2_getChar_3b067_34 : decode cJ2_getChar_3b067 34 = .ok (.iinc 1 1, 3) := by decide +kernel
theorem dJ2_getChar_3b067_37 : decode cJ2_getChar_3b067 37 = .ok (.baload, 1) := by decide +kernel
theorem dJ2_getChar_3b067_38 : decode cJ2_getChar_3b067 38 = .ok (.sipush 255, 3) := by decide +kernel
theorem dJ2_getChar_3b067_41 : decode cJ2_getChar_3b067 41 = .ok (.iand, 1) := by decide +kernel
theorem dJ2_getChar_3b067_42 : decode cJ2_getChar_3b067 42 = .ok (.getstatic 59, 3) := by decide +kernel
theorem dJ2_getChar_3b067_45 : decode cJ2_getChar_3b067 45 = .ok (.ishl, 1) := by decide +kernel
theorem dJ2_getChar_3b067_46 : decode cJ2_getChar_3b067 46 = .ok (.aload_n 0, 1) := by decide +kernel
theorem dJ2_getChar_3b067_47 : decode cJ2_getChar_3b067 47 = .ok (.iload_n 1, 1) := by decide +kernel
theorem dJ2_getChar_3b067_48 : decode cJ2_getChar_3b067 48 = .ok (.baload, 1) := by decide +kernel
theorem dJ2_getChar_3b067_49 : decode cJ2_getChar_3b067 49 = .ok (.sipush 255, 3) := by decide +kernel
theorem dJ2_getChar_3b067_52 : decode cJ2_getChar_3b067 52 = .ok (.iand, 1) := by decide +kernel
theorem dJ2_getChar_3b067_53 : decode cJ2_getChar_3b067 53 = .ok (.getstatic 63, 3) := by decide +kernel
theorem dJ2_getChar_3b067_56 : decode cJ2_getChar_3b067 56 = .ok (.ishl, 1) := by decide +kernel
theorem dJ2_getChar_3b067_57 : decode cJ2_getChar_3b067 57 = .ok (.ior, 1) := by decide +kernel
theorem dJ2_getChar_3b067_58 : decode cJ2_getChar_3b067 58 = .ok (.i2c, 1) := by decide +kernel
theorem dJ2_getChar_3b067_59 : decode cJ2_getChar_3b067 59 = .ok (.ireturn, 1) := by decide +kernel
theorem dJ2_length_9d52b_0 : decode cJ2_length_9d52b 0 = .ok (.aload_n 0, 1) := by decide +kernel
theorem dJ2_length_9d52b_1 : decode cJ2_length_9d52b 1 = .ok (.arraylength, 1) := by decide +kernel
theorem dJ2_length_9d52b_2 : decode cJ2_length_9d52b 2 = .ok (.iconst 1, 1) := by decide +kernel
theorem dJ2_length_9d52b_3 : decode cJ2_length_9d52b 3 = .ok (.ishr, 1) := by decide +kernel
theorem dJ2_length_9d52b_4 : decode cJ2_length_9d52b 4 = .ok (.ireturn, 1) := by decide +kernel
theorem dJ2_indexOf_4cfef_0 : decode cJ2_indexOf_4cfef 0 = .ok (.iload_n 2, 1) := by decide +kernel
theorem dJ2_indexOf_4cfef_1 : decode cJ2_indexOf_4cfef 1 = .ok (.iconst 0, 1) := by decide +kernel
theorem dJ2_indexOf_4cfef_2 : decode cJ2_indexOf_4cfef 2 = .ok (.invokestatic 224, 3) := by decide +kernel
theorem dJ2_indexOf_4cfef_5 : decode cJ2_indexOf_4cfef 5 = .ok (.istore_n 2, 1) := by decide +kernel
theorem dJ2_indexOf_4cfef_6 : decode cJ2_indexOf_4cfef 6 = .ok (.iload_n 3, 1) := by decide +kernel
theorem dJ2_indexOf_4cfef_7 : decode cJ2_indexOf_4cfef 7 = .ok (.aload_n 0, 1) := by decide +kernel
theorem dJ2_indexOf_4cfef_8 : decode cJ2_indexOf_4cfef 8 = .ok (.arraylength, 1) := by decide +kernel
theorem dJ2_indexOf_4cfef_9 : decode cJ2_indexOf_4cfef 9 = .ok (.iconst 1, 1) := by decide +kernel
theorem dJ2_indexOf_4cfef_10 : decode cJ2_indexOf_4cfef 10 = .ok (.ishr, 1) := by decide +kernel
theorem dJ2_indexOf_4cfef_11 : decode cJ2_indexOf_4cfef 11 = .ok (.invokestatic 183, 3) := by decide +kernel
theorem dJ2_indexOf_4cfef_14 : decode cJ2_indexOf_4cfef 14 = .ok (.istore_n 3, 1) := by decide +kernel
theorem dJ2_indexOf_4cfef_15 : decode cJ2_indexOf_4cfef 15 = .ok (.iload_n 2, 1) := by decide +kernel
theorem dJ2_indexOf_4cfef_16 : decode cJ2_indexOf_4cfef 16 = .ok (.iload_n 3, 1) := by decide +kernel
theorem dJ2_indexOf_4cfef_17 : decode cJ2_indexOf_4cfef 17 = .ok (.if_icmp .lt 5, 3) := by decide +kernel
theorem dJ2_indexOf_4cfef_20 : decode cJ2_indexOf_4cfef 20 = .ok (.iconst (-1), 1) := by decide +kernel
theorem dJ2_indexOf_4cfef_21 : decode cJ2_indexOf_4cfef 21 = .ok (.ireturn, 1) := by decide +kernel
theorem dJ2_indexOf_4cfef_22 : decode cJ2_indexOf_4cfef 22 = .ok (.iload_n 1, 1) := by decide +kernel
theorem dJ2_indexOf_4cfef_23 : decode cJ2_indexOf_4cfef 23 = .ok (.ldc 227, 2) := by decide +kernel
theorem dJ2_indexOf_4cfef_25 : decode cJ2_indexOf_4cfef 25 = .ok (.if_icmp .ge 11, 3) := by decide +kernel
theorem dJ2_indexOf_4cfef_28 : decode cJ2_indexOf_4cfef 28 = .ok (.aload_n 0, 1) := by decide +kernel
theorem dJ2_indexOf_4cfef_29 : decode cJ2_indexOf_4cfef 29 = .ok (.iload_n 1, 1) := by decide +kernel
theorem dJ2_indexOf_4cfef_30 : decode cJ2_indexOf_4cfef 30 = .ok (.iload_n 2, 1) := by decide +kernel
theorem dJ2_indexOf_4cfef_31 : decode cJ2_indexOf_4cfef 31 = .ok (.iload_n 3, 1) := by decide +kernel
theorem dJ2_indexOf_4cfef_32 : decode cJ2_indexOf_4cfef 32 = .ok (.invokestatic 228, 3) := by decide +kernel
theorem dJ2_indexOf_4cfef_35 : decode cJ2_indexOf_4cfef 35 = .ok (.ireturn, 1) := by decide +kernel
theorem dJ2_indexOf_4cfef_36 : decode cJ2_indexOf_4cfef 36 = .ok (.aload_n 0, 1) := by decide +kernel
theorem dJ2_indexOf_4cfef_37 : decode cJ2_indexOf_4cfef 37 = .ok (.iload_n 1, 1) := by decide +kernel
theorem dJ2_indexOf_4cfef_38 : decode cJ2_indexOf_4cfef 38 = .ok (.iload_n 2, 1) := by decide +kernel
theorem dJ2_indexOf_4cfef_39 : decode cJ2_indexOf_4cfef 39 = .ok (.iload_n 3, 1) := by decide +kernel
theorem dJ2_indexOf_4cfef_40 : decode cJ2_indexOf_4cfef 40 = .ok (.invokestatic 232, 3) := by decide +kernel
theorem dJ2_indexOf_4cfef_43 : decode cJ2_indexOf_4cfef 43 = .ok (.ireturn, 1) := by decide +kernel
theorem dJ2_indexOfChar_4cfef_0 : decode cJ2_indexOfChar_4cfef 0 = .ok (.iload_n 2, 1) := by decide +kernel
theorem dJ2_indexOfChar_4cfef_1 : decode cJ2_indexOfChar_4cfef 1 = .ok (.iload_n 3, 1) := by decide +kernel
theorem dJ2_indexOfChar_4cfef_2 : decode cJ2_indexOfChar_4cfef 2 = .ok (.aload_n 0, 1) := by decide +kernel
theorem dJ2_indexOfChar_4cfef_3 : decode cJ2_indexOfChar_4cfef 3 = .ok (.invokestatic 96, 3) := by decide +kernel
theorem dJ2_indexOfChar_4cfef_6 : decode cJ2_indexOfChar_4cfef 6 = .ok (.aload_n 0, 1) := by decide +kernel
theorem dJ2_indexOfChar_4cfef_7 : decode cJ2_indexOfChar_4cfef 7 = .ok (.iload_n 1, 1) := by decide +kernel
theorem dJ2_indexOfChar_4cfef_8 : decode cJ2_indexOfChar_4cfef 8 = .ok (.iload_n 2, 1) := by decide +kernel
theorem dJ2_indexOfChar_4cfef_9 : decode cJ2_indexOfChar_4cfef 9 = .ok (.iload_n 3, 1) := by decide +kernel
theorem dJ2_indexOfChar_4cfef_10 : decode cJ2_indexOfChar_4cfef 10 = .ok (.invokestatic 244, 3) := by decide +kernel
theorem dJ2_indexOfChar_4cfef_13 : decode cJ2_indexOfChar_4cfef 13 = .ok (.ireturn, 1) := by decide +kernel
theorem dJ2_indexOfCharUnsafe_4cfef_0 : decode cJ2_indexOfCharUnsafe_4cfef 0 = .ok (.iload_n 2, 1) := by decide +kernel
theorem dJ2_indexOfCharUnsafe_4cfef_1 : decode cJ2_indexOfCharUnsafe_4cfef 1 = .ok (.istore 4, 2) := by decide +kernel
theorem dJ2_indexOfCharUnsafe_4cfef_3 : decode cJ2_indexOfCharUnsafe_4cfef 3 = .ok (.iload 4, 2) := by decide +kernel
theorem dJ2_indexOfCharUnsafe_4cfef_5 : decode cJ2_indexOfCharUnsafe_4cfef 5 = .ok (.iload_n 3, 1) := by decide +kernel
theorem dJ2_indexOfCharUnsafe_4cfef_6 : decode cJ2_indexOfCharUnsafe_4cfef 6 = .ok (.if_icmp .ge 22, 3) := by decide +kernel
theorem dJ2_indexOfCharUnsafe_4cfef_9 : decode cJ2_indexOfCharUnsafe_4cfef 9 = .ok (.aload_n 0, 1) := by decide +kernel
theorem dJ2_indexOfCharUnsafe_4cfef_10 : decode cJ2_indexOfCharUnsafe_4cfef 10 = .ok (.iload 4, 2) := by decide +kernel
theorem dJ2_indexOfCharUnsafe_4cfef_12 : decode cJ2_indexOfCharUnsafe_4cfef 12 = .ok (.invokestatic 71, 3) := by decide +kernel
theorem dJ2_indexOfCharUnsafe_4cfef_15 : decode cJ2_indexOfCharUnsafe_4cfef 15 = .ok (.iload_n 1, 1) := by decide +kernel
theorem dJ2_indexOfCharUnsafe_4cfef_16 : decode cJ2_indexOfCharUnsafe_4cfef 16 = .ok (.if_icmp .ne 6, 3) := by decide +kernel
theorem dJ2_indexOfCharUnsafe_4cfef_19 : decode cJ2_indexOfCharUnsafe_4cfef 19 = .ok (.iload 4, 2) := by decide +kernel
theorem dJ2_indexOfCharUnsafe_4cfef_21 : decode cJ2_indexOfCharUnsafe_4cfef 21 = .ok (.ireturn, 1) := by decide +kernel
theorem dJ2_indexOfCharUnsafe_4cfef_22 : decode cJ2_indexOfCharUnsafe_4cfef 22 = .ok (.iinc 4 1, 3) := by decide +kernel
theorem dJ2_indexOfCharUnsafe_4cfef_25 : decode cJ2_indexOfCharUnsafe_4cfef 25 = .ok (.goto (-22), 3) := by decide +kernel
theorem dJ2_indexOfCharUnsafe_4cfef_28 : decode cJ2_indexOfCharUnsafe_4cfef 28 = .ok (.iconst (-1), 1) := by decide +kernel
theorem dJ2_indexOfCharUnsafe_4cfef_29 : decode cJ2_indexOfCharUnsafe_4cfef 29 = .ok (.ireturn, 1) := by decide +kernel
theorem dJ2_indexOfSupplementary_4cfef_0 : decode cJ2_indexOfSupplementary_4cfef 0 = .ok (.iload_n 1, 1) := by decide +kernel
theorem dJ2_indexOfSupplementary_4cfef_1 : decode cJ2_indexOfSupplementary_4cfef 1 = .ok (.invokestatic 164, 3) := by decide +kernel
theorem dJ2_indexOfSupplementary_4cfef_4 : decode cJ2_indexOfSupplementary_4cfef 4 = .ok (.ifCond .eq 65, 3) := by decide +kernel
theorem dJ2_indexOfSupplementary_4cfef_7 : decode cJ2_indexOfSupplementary_4cfef 7 = .ok (.iload_n 1, 1) := by decide +kernel
theorem dJ2_indexOfSupplementary_4cfef_8 : decode cJ2_indexOfSupplementary_4cfef 8 = .ok (.invokestatic 157, 3) := by decide +kernel
theorem dJ2_indexOfSupplementary_4cfef_11 : decode cJ2_indexOfSupplementary_4cfef 11 = .ok (.istore 4, 2) := by decide +kernel
theorem dJ2_indexOfSupplementary_4cfef_13 : decode cJ2_indexOfSupplementary_4cfef 13 = .ok (.iload_n 1, 1) := by decide +kernel
theorem dJ2_indexOfSupplementary_4cfef_14 : decode cJ2_indexOfSupplementary_4cfef 14 = .ok (.invokestatic 161, 3) := by decide +kernel
theorem dJ2_indexOfSupplementary_4cfef_17 : decode cJ2_indexOfSupplementary_4cfef 17 = .ok (.istore 5, 2) := by decide +kernel
theorem dJ2_indexOfSupplementary_4cfef_19 : decode cJ2_indexOfSupplementary_4cfef 19 = .ok (.iload_n 2, 1) := by decide +kernel
theorem dJ2_indexOfSupplementary_4cfef_20 : decode cJ2_indexOfSupplementary_4cfef 20 = .ok (.iload_n 3, 1) := by decide +kernel
theorem dJ2_indexOfSupplementary_4cfef_21 : decode cJ2_indexOfSupplementary_4cfef 21 = .ok (.aload_n 0, 1) := by decide +kernel
theorem dJ2_indexOfSupplementary_4cfef_22 : decode cJ2_indexOfSupplementary_4cfef 22 = .ok (.invokestatic 96, 3) := by decide +kernel
theorem dJ2_indexOfSupplementary_4cfef_25 : decode cJ2_indexOfSupplementary_4cfef 25 = .ok (.iload_n 2, 1) := by decide +kernel
theorem dJ2_indexOfSupplementary_4cfef_26 : decode cJ2_indexOfSupplementary_4cfef 26 = .ok (.istore 6, 2) := by decide +kernel
theorem dJ2_indexOfSupplementary_4cfef_28 : decode cJ2_indexOfSupplementary_4cfef 28 = .ok (.iload 6, 2) := by decide +kernel
theorem dJ2_indexOfSupplementary_4cfef_30 : decode cJ2_indexOfSupplementary_4cfef 30 = .ok (.iload_n 3, 1) := by decide +kernel
theorem dJ2_indexOfSupplementary_4cfef_31 : decode cJ2_indexOfSupplementary_4cfef 31 = .ok (.iconst 1, 1) := by decide +kernel
theorem dJ2_indexOfSupplementary_4cfef_32 : decode cJ2_indexOfSupplementary_4cfef 32 = .ok (.isub, 1) := by decide +kernel
theorem dJ2_indexOfSupplementary_4cfef_33 : decode cJ2_indexOfSupplementary_4cfef 33 = .ok (.if_icmp .ge 36, 3) := by decide +kernel
theorem dJ2_indexOfSupplementary_4cfef_36 : decode cJ2_indexOfSupplementary_4cfef 36 = .ok (.aload_n 0, 1) := by decide +kernel
theorem dJ2_indexOfSupplementary_4cfef_37 : decode cJ2_indexOfSupplementary_4cfef 37 = .ok (.iload 6, 2) := by decide +kernel
theorem dJ2_indexOfSupplementary_4cfef_39 : decode cJ2_indexOfSupplementary_4cfef 39 = .ok (.invokestatic 71, 3) := by decide +kernel
theorem dJ2_indexOfSupplementary_4cfef_42 : decode cJ2_indexOfSupplementary_4cfef 42 = .ok (.iload 4, 2) := by decide +kernel
theorem dJ2_indexOfSupplementary_4cfef_44 : decode cJ2_indexOfSupplementary_4cfef 44 = .ok (.if_icmp .ne 19, 3) := by decide +kernel
theorem dJ2_indexOfSupplementary_4cfef_47 : decode cJ2_indexOfSupplementary_4cfef 47 = .ok (.aload_n 0, 1) := by decide +kernel
theorem dJ2_indexOfSupplementary_4cfef_48 : decode cJ2_indexOfSupplementary_4cfef 48 = .ok (.iload 6, 2) := by decide +kernel
theorem dJ2_indexOfSupplementary_4cfef_50 : decode cJ2_indexOfSupplementary_4cfef 50 = .ok (.iconst 1, 1) := by decide +kernel
theorem dJ2_indexOfSupplementary_4cfef_51 : decode cJ2_indexOfSupplementary_4cfef 51 = .ok (.iadd, 1) := by decide +kernel
theorem dJ2_indexOfSupplementary_4cfef_52 : decode cJ2_indexOfSupplementary_4cfef 52 = .ok (.invokestatic 71, 3) := by decide +kernel
theorem dJ2_indexOfSupplementary_4cfef_55 : decode cJ2_indexOfSupplementary_4cfef 55 = .ok (.iload 5, 2) := by decide +kernel
theorem dJ2_indexOfSupplementary_4cfef_57 : decode cJ2_indexOfSupplementary_4cfef 57 = .ok (.if_icmp .ne 6, 3) := by decide +kernel
theorem dJ2_indexOfSupplementary_4cfef_60 : decode cJ2_indexOfSupplementary_4cfef 60 = .ok (.iload 6, 2) := by decide +kernel
theorem dJ2_indexOfSupplementary_4cfef_62 : decode cJ2_indexOfSupplementary_4cfef 62 = .ok (.ireturn, 1) := by decide +kernel
theorem dJ2_indexOfSupplementary_4cfef_63 : decode cJ2_indexOfSupplementary_4cfef 63 = .ok (.iinc 6 1, 3) := by decide +kernel
theorem dJ2_indexOfSupplementary_4cfef_66 : decode cJ2_indexOfSupplementary_4cfef 66 = .ok (.goto (-38), 3) := by decide +kernel
theorem dJ2_indexOfSupplementary_4cfef_69 : decode cJ2_indexOfSupplementary_4cfef 69 = .ok (.iconst (-1), 1) := by decide +kernel
theorem dJ2_indexOfSupplementary_4cfef_70 : decode cJ2_indexOfSupplementary_4cfef 70 = .ok (.ireturn, 1) := by decide +kernel
theorem dJ2_checkBoundsBeginEnd_d044e_0 : decode cJ2_checkBoundsBeginEnd_d044e 0 = .ok (.iload_n 0, 1) := by decide +kernel
theorem dJ2_checkBoundsBeginEnd_d044e_1 : decode cJ2_checkBoundsBeginEnd_d044e 1 = .ok (.iload_n 1, 1) := by decide +kernel
theorem dJ2_checkBoundsBeginEnd_d044e_2 : decode cJ2_checkBoundsBeginEnd_d044e 2 = .ok (.aload_n 2, 1) := by decide +kernel
theorem dJ2_checkBoundsBeginEnd_d044e_3 : decode cJ2_checkBoundsBeginEnd_d044e 3 = .ok (.invokestatic 48, 3) := by decide +kernel
theorem dJ2_checkBoundsBeginEnd_d044e_6 : decode cJ2_checkBoundsBeginEnd_d044e 6 = .ok (.invokestatic 241, 3) := by decide +kernel
theorem dJ2_checkBoundsBeginEnd_d044e_9 : decode cJ2_checkBoundsBeginEnd_d044e 9 = .ok (.return_, 1) := by decide +kernel
theorem dJ7_fill_d0a16_0 : decode cJ7_fill_d0a16 0 = .ok (.iconst 0, 1) := by decide +kernel
theorem dJ7_fill_d0a16_1 : decode cJ7_fill_d0a16 1 = .ok (.istore_n 3, 1) := by decide +kernel
theorem dJ7_fill_d0a16_2 : decode cJ7_fill_d0a16 2 = .ok (.aload_n 0, 1) := by decide +kernel
theorem dJ7_fill_d0a16_3 : decode cJ7_fill_d0a16 3 = .ok (.arraylength, 1) := by decide +kernel
theorem dJ7_fill_d0a16_4 : decode cJ7_fill_d0a16 4 = .ok (.istore 4, 2) := by decide +kernel
theorem dJ7_fill_d0a16_6 : decode cJ7_fill_d0a16 6 = .ok (.iload_n 3, 1) := by decide +kernel
theorem dJ7_fill_d0a16_7 : decode cJ7_fill_d0a16 7 = .ok (.iload 4, 2) := by decide +kernel
theorem dJ7_fill_d0a16_9 : decode cJ7_fill_d0a16 9 = .ok (.if_icmp .ge 13, 3) := by decide +kernel
theorem dJ7_fill_d0a16_12 : decode cJ7_fill_d0a16 12 = .ok (.aload_n 0, 1) := by decide +kernel
theorem dJ7_fill_d0a16_13 : decode cJ7_fill_d0a16 13 = .ok (.iload_n 3, 1) := by decide +kernel
theorem dJ7_fill_d0a16_14 : decode cJ7_fill_d0a16 14 = .ok (.lload_n 1, 1) := by decide +kernel
theorem dJ7_fill_d0a16_15 : decode cJ7_fill_d0a16 15 = .ok (.lastore, 1) := by decide +kernel
theorem dJ7_fill_d0a16_16 : decode cJ7_fill_d0a16 16 = .ok (.iinc 3 1, 3) := by decide +kernel
theorem dJ7_fill_d0a16_19 : decode cJ7_fill_d0a16 19 = .ok (.goto (-13), 3) := by decide +kernel
theorem dJ7_fill_d0a16_22 : decode cJ7_fill_d0a16 22 = .ok (.return_, 1) := by decide +kernel
theorem dJ7_fill_53178_0 : decode cJ7_fill_53178 0 = .ok (.iconst 0, 1) := by decide +kernel
theorem dJ7_fill_53178_1 : decode cJ7_fill_53178 1 = .ok (.istore_n 2, 1) := by decide +kernel
theorem dJ7_fill_53178_2 : decode cJ7_fill_53178 2 = .ok (.aload_n 0, 1) := by decide +kernel
theorem dJ7_fill_53178_3 : decode cJ7_fill_53178 3 = .ok (.arraylength, 1) := by decide +kernel
theorem dJ7_fill_53178_4 : decode cJ7_fill_53178 4 = .ok (.istore_n 3, 1) := by decide +kernel
theorem dJ7_fill_53178_5 : decode cJ7_fill_53178 5 = .ok (.iload_n 2, 1) := by decide +kernel
theorem dJ7_fill_53178_6 : decode cJ7_fill_53178 6 = .ok (.iload_n 3, 1) := by decide +kernel
theorem dJ7_fill_53178_7 : decode cJ7_fill_53178 7 = .ok (.if_icmp .ge 13, 3) := by decide +kernel
theorem dJ7_fill_53178_10 : decode cJ7_fill_53178 10 = .ok (.aload_n 0, 1) := by decide +kernel
theorem dJ7_fill_53178_11 : decode cJ7_fill_53178 11 = .ok (.iload_n 2, 1) := by decide +kernel
theorem dJ7_fill_53178_12 : decode cJ7_fill_53178 12 = .ok (.iload_n 1, 1) := by decide +kernel
theorem dJ7_fill_53178_13 : decode cJ7_fill_53178 13 = .ok (.iastore, 1) := by decide +kernel
theorem dJ7_fill_53178_14 : decode cJ7_fill_53178 14 = .ok (.iinc 2 1, 3) := by decide +kernel
theorem dJ7_fill_53178_17 : decode cJ7_fill_53178 17 = .ok (.goto (-12), 3) := by decide +kernel
theorem dJ7_fill_53178_20 : decode cJ7_fill_53178 20 = .ok (.return_, 1) := by decide +kernel
theorem dJ3_checkFromToIndex_8c36e_0 : decode cJ3_checkFromToIndex_8c36e 0 = .ok (.iload_n 0, 1) := by decide +kernel
theorem dJ3_checkFromToIndex_8c36e_1 : decode cJ3_checkFromToIndex_8c36e 1 = .ok (.ifCond .lt 13, 3) := by decide +kernel
theorem dJ3_checkFromToIndex_8c36e_4 : decode cJ3_checkFromToIndex_8c36e 4 = .ok (.iload_n 0, 1) := by decide +kernel
theorem dJ3_checkFromToIndex_8c36e_5 : decode cJ3_checkFromToIndex_8c36e 5 = .ok (.iload_n 1, 1) := by decide +kernel
theorem dJ3_checkFromToIndex_8c36e_6 : decode cJ3_checkFromToIndex_8c36e 6 = .ok (.if_icmp .gt 8, 3) := by decide +kernel
theorem dJ3_checkFromToIndex_8c36e_9 : decode cJ3_checkFromToIndex_8c36e 9 = .ok (.iload_n 1, 1) := by decide +kernel
theorem dJ3_checkFromToIndex_8c36e_10 : decode cJ3_checkFromToIndex_8c36e 10 = .ok (.iload_n 2, 1) := by decide +kernel
theorem dJ3_checkFromToIndex_8c36e_11 : decode cJ3_checkFromToIndex_8c36e 11 = .ok (.if_icmp .le 11, 3) := by decide +kernel
theorem dJ3_checkFromToIndex_8c36e_14 : decode cJ3_checkFromToIndex_8c36e 14 = .ok (.aload_n 3, 1) := by decide +kernel
theorem dJ3_checkFromToIndex_8c36e_15 : decode cJ3_checkFromToIndex_8c36e 15 = .ok (.iload_n 0, 1) := by decide +kernel
theorem dJ3_checkFromToIndex_8c36e_16 : decode cJ3_checkFromToIndex_8c36e 16 = .ok (.iload_n 1, 1) := by decide +kernel
theorem dJ3_checkFromToIndex_8c36e_17 : decode cJ3_checkFromToIndex_8c36e 17 = .ok (.iload_n 2, 1) := by decide +kernel
theorem dJ3_checkFromToIndex_8c36e_18 : decode cJ3_checkFromToIndex_8c36e 18 = .ok (.invokestatic 99, 3) := by decide +kernel
theorem dJ3_checkFromToIndex_8c36e_21 : decode cJ3_checkFromToIndex_8c36e 21 = .ok (.athrow, 1) := by decide +kernel
theorem dJ3_checkFromToIndex_8c36e_22 : decode cJ3_checkFromToIndex_8c36e 22 = .ok (.iload_n 0, 1) := by decide +kernel
theorem dJ3_checkFromToIndex_8c36e_23 : decode cJ3_checkFromToIndex_8c36e 23 = .ok (.ireturn, 1) := by decide +kernel
theorem dL_law_0 : decode cL_law 0 = .ok (.new 7, 3) := by decide +kernel
theorem dL_law_3 : decode cL_law 3 = .ok (.dup, 1) := by decide +kernel
theorem dL_law_4 : decode cL_law 4 = .ok (.invokespecial 9, 3) := by decide +kernel
theorem dL_law_7 : decode cL_law 7 = .ok (.astore_n 1, 1) := by decide +kernel
theorem dL_law_8 : decode cL_law 8 = .ok (.new 10, 3) := by decide +kernel
theorem dL_law_11 : decode cL_law 11 = .ok (.dup, 1) := by decide +kernel
theorem dL_law_12 : decode cL_law 12 = .ok (.invokespecial 12, 3) := by decide +kernel
theorem dL_law_15 : decode cL_law 15 = .ok (.astore_n 2, 1) := by decide +kernel
theorem dL_law_16 : decode cL_law 16 = .ok (.iconst 0, 1) := by decide +kernel
theorem dL_law_17 : decode cL_law 17 = .ok (.istore_n 3, 1) := by decide +kernel
theorem dL_law_18 : decode cL_law 18 = .ok (.iload_n 3, 1) := by decide +kernel
theorem dL_law_19 : decode cL_law 19 = .ok (.aload_n 0, 1) := by decide +kernel
theorem dL_law_20 : decode cL_law 20 = .ok (.arraylength, 1) := by decide +kernel
theorem dL_law_21 : decode cL_law 21 = .ok (.bipush 6, 2) := by decide +kernel
theorem dL_law_23 : decode cL_law 23 = .ok (.isub, 1) := by decide +kernel
theorem dL_law_24 : decode cL_law 24 = .ok (.if_icmp .gt 1175, 3) := by decide +kernel
theorem dL_law_27 : decode cL_law 27 = .ok (.aload_n 0, 1) := by decide +kernel
theorem dL_law_28 : decode cL_law 28 = .ok (.iload_n 3, 1) := by decide +kernel
theorem dL_law_29 : decode cL_law 29 = .ok (.iaload, 1) := by decide +kernel
theorem dL_law_30 : decode cL_law 30 = .ok (.bipush 31, 2) := by decide +kernel
theorem dL_law_32 : decode cL_law 32 = .ok (.iand, 1) := by decide +kernel
theorem dL_law_33 : decode cL_law 33 = .ok (.tableswitch 1160 0 31 #[143, 176, 209, 252, 295, 318, 331, 364, 407, 440, 463, 486, 519, 552, 585, 618, 641, 664, 687, 710, 743, 756, 769, 792, 835, 858, 891, 934, 1007, 1041, 1104, 1137], 143) := by decide +kernel
theorem dL_law_176 : decode cL_law 176 = .ok (.aload_n 1, 1) := by decide +kernel
theorem dL_law_177 : decode cL_law 177 = .ok (.aload_n 0, 1) := by decide +kernel
theorem dL_law_178 : decode cL_law 178 = .ok (.iload_n 3, 1) := by decide +kernel
theorem dL_law_179 : decode cL_law 179 = .ok (.iconst 1, 1) := by decide +kernel
theorem dL_law_180 : decode cL_law 180 = .ok (.iadd, 1) := by decide +kernel
theorem dL_law_181 : decode cL_law 181 = .ok (.iaload, 1) := by decide +kernel
theorem dL_law_182 : decode cL_law 182 = .ok (.aload_n 0, 1) := by decide +kernel
theorem dL_law_183 : decode cL_law 183 = .ok (.iload_n 3, 1) := by decide +kernel
theorem dL_law_184 : decode cL_law 184 = .ok (.iconst 2, 1) := by decide +kernel
theorem dL_law_185 : decode cL_law 185 = .ok (.iadd, 1) := by decide +kernel
theorem dL_law_186 : decode cL_law 186 = .ok (.iaload, 1) := by decide +kernel
theorem dL_law_187 : decode cL_law 187 = .ok (.invokevirtual 13, 3) := by decide +kernel
theorem dL_law_190 : decode cL_law 190 = .ok (.aload_n 2, 1) := by decide +kernel
theorem dL_law_191 : decode cL_law 191 = .ok (.aload_n 0, 1) := by decide +kernel
theorem dL_law_192 : decode cL_law 192 = .ok (.iload_n 3, 1) := by decide +kernel
theorem dL_law_193 : decode cL_law 193 = .ok (.iconst 1, 1) := by decide +kernel
theorem dL_law_194 : decode cL_law 194 = .ok (.iadd, 1) := by decide +kernel
theorem dL_law_195 : decode cL_law 195 = .ok (.iaload, 1) := by decide +kernel
theorem dL_law_196 : decode cL_law 196 = .ok (.aload_n 0, 1) := by decide +kernel
theorem dL_law_197 : decode cL_law 197 = .ok (.iload_n 3, 1) := by decide +kernel
theorem dL_law_198 : decode cL_law 198 = .ok (.iconst 2, 1) := by decide +kernel
theorem dL_law_199 : decode cL_law 199 = .ok (.iadd, 1) := by decide +kernel
theorem dL_law_200 : decode cL_law 200 = .ok (.iaload, 1) := by decide +kernel
theorem dL_law_201 : decode cL_law 201 = .ok (.invokevirtual 17, 3) := by decide +kernel
theorem dL_law_204 : decode cL_law 204 = .ok (.if_icmp .eq 989, 3) := by decide +kernel
theorem dL_law_207 : decode cL_law 207 = .ok (.iconst 0, 1) := by decide +kernel
theorem dL_law_208 : decode cL_law 208 = .ok (.ireturn, 1) := by decide +kernel
theorem dL_law_209 : decode cL_law 209 = .ok (.aload_n 1, 1) := by decide +kernel
theorem dL_law_210 : decode cL_law 210 = .ok (.aload_n 0, 1) := by decide +kernel
theorem dL_law_211 : decode cL_law 211 = .ok (.iload_n 3, 1) := by decide +kernel
theorem dL_law_212 : decode cL_law 212 = .ok (.iconst 1, 1) := by decide +kernel
theorem dL_law_213 : decode cL_law 213 = .ok (.iadd, 1) := by decide +kernel
theorem dL_law_214 : decode cL_law 214 = .ok (.iaload, 1) := by decide +kernel
theorem dL_law_215 : decode cL_law 215 = .ok (.aload_n 0, 1) := by decide +kernel
theorem dL_law_216 : decode cL_law 216 = .ok (.iload_n 3, 1) := by decide +kernel
theorem dL_law_217 : decode cL_law 217 = .ok (.iconst 2, 1) := by decide +kernel
theorem dL_law_218 : decode cL_law 218 = .ok (.iadd, 1) := by decide +kernel
theorem dL_law_219 : decode cL_law 219 = .ok (.iaload, 1) := by decide +kernel
theorem dL_law_220 : decode cL_law 220 = .ok (.invokevirtual 18, 3) := by decide +kernel
theorem dL_law_223 : decode cL_law 223 = .ok (.aload_n 2, 1) := by decide +kernel
theorem dL_law_224 : decode cL_law 224 = .ok (.aload_n 0, 1) := by decide +kernel
theorem dL_law_225 : decode cL_law 225 = .ok (.iload_n 3, 1) := by decide +kernel
theorem dL_law_226 : decode cL_law 226 = .ok (.iconst 1, 1) := by decide +kernel
theorem dL_law_227 : decode cL_law 227 = .ok (.iadd, 1) := by decide +kernel
theorem dL_law_228 : decode cL_law 228 = .ok (.iaload, 1) := by decide +kernel
theorem dL_law_229 : decode cL_law 229 = .ok (.aload_n 0, 1) := by decide +kernel
theorem dL_law_230 : decode cL_law 230 = .ok (.iload_n 3, 1) := by decide +kernel
theorem dL_law_231 : decode cL_law 231 = .ok (.iconst 2, 1) := by decide +kernel
theorem dL_law_232 : decode cL_law 232 = .ok (.iadd, 1) := by decide +kernel
theorem dL_law_233 : decode cL_law 233 = .ok (.iaload, 1) := by decide +kernel
theorem dL_law_234 : decode cL_law 234 = .ok (.invokevirtual 21, 3) := by decide +kernel
theorem dL_law_237 : decode cL_law 237 = .ok (.if_icmp .eq 956, 3) := by decide +kernel
theorem dL_law_240 : decode cL_law 240 = .ok (.iconst 0, 1) := by decide +kernel
theorem dL_law_241 : decode cL_law 241 = .ok (.ireturn, 1) := by decide +kernel
theorem dL_law_242 : decode cL_law 242 = .ok (.aload_n 1, 1) := by decide +kernel
theorem dL_law_243 : decode cL_law 243 = .ok (.aload_n 0, 1) := by decide +kernel
theorem dL_law_244 : decode cL_law 244 = .ok (.iload_n 3, 1) := by decide +kernel
theorem dL_law_245 : decode cL_law 245 = .ok (.iconst 1, 1) := by decide +kernel
theorem dL_law_246 : decode cL_law 246 = .ok (.iadd, 1) := by decide +kernel
theorem dL_law_247 : decode cL_law 247 = .ok (.iaload, 1) := by decide +kernel
theorem dL_law_248 : decode cL_law 248 = .ok (.aload_n 0, 1) := by decide +kernel
theorem dL_law_249 : decode cL_law 249 = .ok (.iload_n 3, 1) := by decide +kernel
theorem dL_law_250 : decode cL_law 250 = .ok (.iconst 2, 1) := by decide +kernel
theorem dL_law_251 : decode cL_law 251 = .ok (.iadd, 1) := by decide +kernel
theorem dL_law_252 : decode cL_law 252 = .ok (.iaload, 1) := by decide +kernel
theorem dL_law_253 : decode cL_law 253 = .ok (.aload_n 0, 1) := by decide +kernel
theorem dL_law_254 : decode cL_law 254 = .ok (.iload_n 3, 1) := by decide +kernel
theorem dL_law_255 : decode cL_law 255 = .ok (.iconst 3, 1) := by decide +kernel
theorem dL_law_256 : decode cL_law 256 = .ok (.iadd, 1) := by decide +kernel
theorem dL_law_257 : decode cL_law 257 = .ok (.iaload, 1) := by decide +kernel
theorem dL_law_258 : decode cL_law 258 = .ok (.invokevirtual 22, 3) := by decide +kernel
theorem dL_law_261 : decode cL_law 261 = .ok (.aload_n 2, 1) := by decide +kernel
theorem dL_law_262 : decode cL_law 262 = .ok (.aload_n 0, 1) := by decide +kernel
theorem dL_law_263 : decode cL_law 263 = .ok (.iload_n 3, 1) := by decide +kernel
theorem dL_law_264 : decode cL_law 264 = .ok (.iconst 1, 1) := by decide +kernel
theorem dL_law_265 : decode cL_law 265 = .ok (.iadd, 1) := by decide +kernel
theorem dL_law_266 : decode cL_law 266 = .ok (.iaload, 1) := by decide +kernel
theorem dL_law_267 : decode cL_law 267 = .ok (.aload_n 0, 1) := by decide +kernel
theorem dL_law_268 : decode cL_law 268 = .ok (.iload_n 3, 1) := by decide +kernel
theorem dL_law_269 : decode cL_law 269 = .ok (.iconst 2, 1) := by decide +kernel
theorem dL_law_270 : decode cL_law 270 = .ok (.iadd, 1) := by decide +kernel
theorem dL_law_271 : decode cL_law 271 = .ok (.iaload, 1) := by decide +kernel
theorem dL_law_272 : decode cL_law 272 = .ok (.aload_n 0, 1) := by decide +kernel
theorem dL_law_273 : decode cL_law 273 = .ok (.iload_n 3, 1) := by decide +kernel
theorem dL_law_274 : decode cL_law 274 = .ok (.iconst 3, 1) := by decide +kernel
theorem dL_law_275 : decode cL_law 275 = .ok (.iadd, 1) := by decide +kernel
theorem dL_law_276 : decode cL_law 276 = .ok (.iaload, 1) := by decide +kernel
theorem dL_law_277 : decode cL_law 277 = .ok (.invokevirtual 26, 3) := by decide +kernel
theorem dL_law_280 : decode cL_law 280 = .ok (.if_icmp .eq 913, 3) := by decide +kernel
theorem dL_law_283 : decode cL_law 283 = .ok (.iconst 0, 1) := by decide +kernel
theorem dL_law_284 : decode cL_law 284 = .ok (.ireturn, 1) := by decide +kernel
theorem dL_law_285 : decode cL_law 285 = .ok (.aload_n 1, 1) := by decide +kernel
theorem dL_law_286 : decode cL_law 286 = .ok (.aload_n 0, 1) := by decide +kernel
theorem dL_law_287 : decode cL_law 287 = .ok (.iload_n 3, 1) := by decide +kernel
theorem dL_law_288 : decode cL_law 288 = .ok (.iconst 1, 1) := by decide +kernel
theorem dL_law_289 : decode cL_law 289 = .ok (.iadd, 1) := by decide +kernel
theorem dL_law_290 : decode cL_law 290 = .ok (.iaload, 1) := by decide +kernel
theorem dL_law_291 : decode cL_law 291 = .ok (.aload_n 0, 1) := by decide +kernel
theorem dL_law_292 : decode cL_law 292 = .ok (.iload_n 3, 1) := by decide +kernel
theorem dL_law_293 : decode cL_law 293 = .ok (.iconst 2, 1) := by decide +kernel
theorem dL_law_294 : decode cL_law 294 = .ok (.iadd, 1) := by decide +kernel
theorem dL_law_295 : decode cL_law 295 = .ok (.iaload, 1) := by decide +kernel
theorem dL_law_296 : decode cL_law 296 = .ok (.aload_n 0, 1) := by decide +kernel
theorem dL_law_297 : decode cL_law 297 = .ok (.iload_n 3, 1) := by decide +kernel
theorem dL_law_298 : decode cL_law 298 = .ok (.iconst 3, 1) := by decide +kernel
theorem dL_law_299 : decode cL_law 299 = .ok (.iadd, 1) := by decide +kernel
theorem dL_law_300 : decode cL_law 300 = .ok (.iaload, 1) := by decide +kernel
theorem dL_law_301 : decode cL_law 301 = .ok (.invokevirtual 27, 3) := by decide +kernel
theorem dL_law_304 : decode cL_law 304 = .ok (.aload_n 2, 1) := by decide +kernel
theorem dL_law_305 : decode cL_law 305 = .ok (.aload_n 0, 1) := by decide +kernel
theorem dL_law_306 : decode cL_law 306 = .ok (.iload_n 3, 1) := by decide +kernel
theorem dL_law_307 : decode cL_law 307 = .ok (.iconst 1, 1) := by decide +kernel
theorem dL_law_308 : decode cL_law 308 = .ok (.iadd, 1) := by decide +kernel
theorem dL_law_309 : decode cL_law 309 = .ok (.iaload, 1) := by decide +kernel
theorem dL_law_310 : decode cL_law 310 = .ok (.aload_n 0, 1) := by decide +kernel
theorem dL_law_311 : decode cL_law 311 = .ok (.iload_n 3, 1) := by decide +kernel
theorem dL_law_312 : decode cL_law 312 = .ok (.iconst 2, 1) := by decide +kernel
theorem dL_law_313 : decode cL_law 313 = .ok (.iadd, 1) := by decide +kernel
theorem dL_law_314 : decode cL_law 314 = .ok (.iaload, 1) := by decide +kernel
theorem dL_law_315 : decode cL_law 315 = .ok (.aload_n 0, 1) := by decide +kernel
theorem dL_law_316 : decode cL_law 316 = .ok (.iload_n 3, 1) := by decide +kernel
theorem dL_law_317 : decode cL_law 317 = .ok (.iconst 3, 1) := by decide +kernel
theorem dL_law_318 : decode cL_law 318 = .ok (.iadd, 1) := by decide +kernel
theorem dL_law_319 : decode cL_law 319 = .ok (.iaload, 1) := by decide +kernel
theorem dL_law_320 : decode cL_law 320 = .ok (.invokevirtual 30, 3) := by decide +kernel
theorem dL_law_323 : decode cL_law 323 = .ok (.if_icmp .eq 870, 3) := by decide +kernel
theorem dL_law_326 : decode cL_law 326 = .ok (.iconst 0, 1) := by decide +kernel
theorem dL_law_327 : decode cL_law 327 = .ok (.ireturn, 1) := by decide +kernel
theorem dL_law_328 : decode cL_law 328 = .ok (.aload_n 1, 1) := by decide +kernel
theorem dL_law_329 : decode cL_law 329 = .ok (.aload_n 0, 1) := by decide +kernel
theorem dL_law_330 : decode cL_law 330 = .ok (.iload_n 3, 1) := by decide +kernel
theorem dL_law_331 : decode cL_law 331 = .ok (.iconst 1, 1) := by decide +kernel
theorem dL_law_332 : decode cL_law 332 = .ok (.iadd, 1) := by decide +kernel
theorem dL_law_333 : decode cL_law 333 = .ok (.iaload, 1) := by decide +kernel
theorem dL_law_334 : decode cL_law 334 = .ok (.invokevirtual 31, 3) := by decide +kernel
theorem dL_law_337 : decode cL_law 337 = .ok (.aload_n 2, 1) := by decide +kernel
theorem dL_law_338 : decode cL_law 338 = .ok (.aload_n 0, 1) := by decide +kernel
theorem dL_law_339 : decode cL_law 339 = .ok (.iload_n 3, 1) := by decide +kernel
theorem dL_law_340 : decode cL_law 340 = .ok (.iconst 1, 1) := by decide +kernel
theorem dL_law_341 : decode cL_law 341 = .ok (.iadd, 1) := by decide +kernel
theorem dL_law_342 : decode cL_law 342 = .ok (.iaload, 1) := by decide +kernel
theorem dL_law_343 : decode cL_law 343 = .ok (.invokevirtual 35, 3) := by decide +kernel
theorem dL_law_346 : decode cL_law 346 = .ok (.if_icmp .eq 847, 3) := by decide +kernel
theorem dL_law_349 : decode cL_law 349 = .ok (.iconst 0, 1) := by decide +kernel
theorem dL_law_350 : decode cL_law 350 = .ok (.ireturn, 1) := by decide +kernel
theorem dL_law_351 : decode cL_law 351 = .ok (.aload_n 1, 1) := by decide +kernel
theorem dL_law_352 : decode cL_law 352 = .ok (.invokevirtual 36, 3) := by decide +kernel
theorem dL_law_355 : decode cL_law 355 = .ok (.aload_n 2, 1) := by decide +kernel
theorem dL_law_356 : decode cL_law 356 = .ok (.invokevirtual 40, 3) := by decide +kernel
theorem dL_law_359 : decode cL_law 359 = .ok (.if_icmp .eq 834, 3) := by decide +kernel
theorem dL_law_362 : decode cL_law 362 = .ok (.iconst 0, 1) := by decide +kernel
theorem dL_law_363 : decode cL_law 363 = .ok (.ireturn, 1) := by decide +kernel
theorem dL_law_364 : decode cL_law 364 = .ok (.aload_n 1, 1) := by decide +kernel
theorem dL_law_365 : decode cL_law 365 = .ok (.aload_n 0, 1) := by decide +kernel
theorem dL_law_366 : decode cL_law 366 = .ok (.iload_n 3, 1) := by decide +kernel
theorem dL_law_367 : decode cL_law 367 = .ok (.iconst 1, 1) := by decide +kernel
theorem dL_law_368 : decode cL_law 368 = .ok (.iadd, 1) := by decide +kernel
theorem dL_law_369 : decode cL_law 369 = .ok (.iaload, 1) := by decide +kernel
theorem dL_law_370 : decode cL_law 370 = .ok (.aload_n 0, 1) := by decide +kernel
theorem dL_law_371 : decode cL_law 371 = .ok (.iload_n 3, 1) := by decide +kernel
theorem dL_law_372 : decode cL_law 372 = .ok (.iconst 2, 1) := by decide +kernel
theorem dL_law_373 : decode cL_law 373 = .ok (.iadd, 1) := by decide +kernel
theorem dL_law_374 : decode cL_law 374 = .ok (.iaload, 1) := by decide +kernel
theorem dL_law_375 : decode cL_law 375 = .ok (.invokevirtual 41, 3) := by decide +kernel
theorem dL_law_378 : decode cL_law 378 = .ok (.aload_n 2, 1) := by decide +kernel
theorem dL_law_379 : decode cL_law 379 = .ok (.aload_n 0, 1) := by decide +kernel
theorem dL_law_380 : decode cL_law 380 = .ok (.iload_n 3, 1) := by decide +kernel
theorem dL_law_381 : decode cL_law 381 = .ok (.iconst 1, 1) := by decide +kernel
theorem dL_law_382 : decode cL_law 382 = .ok (.iadd, 1) := by decide +kernel
theorem dL_law_383 : decode cL_law 383 = .ok (.iaload, 1) := by decide +kernel
theorem dL_law_384 : decode cL_law 384 = .ok (.aload_n 0, 1) := by decide +kernel
theorem dL_law_385 : decode cL_law 385 = .ok (.iload_n 3, 1) := by decide +kernel
theorem dL_law_386 : decode cL_law 386 = .ok (.iconst 2, 1) := by decide +kernel
theorem dL_law_387 : decode cL_law 387 = .ok (.iadd, 1) := by decide +kernel
theorem dL_law_388 : decode cL_law 388 = .ok (.iaload, 1) := by decide +kernel
theorem dL_law_389 : decode cL_law 389 = .ok (.invokevirtual 44, 3) := by decide +kernel
theorem dL_law_392 : decode cL_law 392 = .ok (.if_icmp .eq 801, 3) := by decide +kernel
theorem dL_law_395 : decode cL_law 395 = .ok (.iconst 0, 1) := by decide +kernel
theorem dL_law_396 : decode cL_law 396 = .ok (.ireturn, 1) := by decide +kernel
theorem dL_law_397 : decode cL_law 397 = .ok (.aload_n 1, 1) := by decide +kernel
theorem dL_law_398 : decode cL_law 398 = .ok (.aload_n 0, 1) := by decide +kernel
theorem dL_law_399 : decode cL_law 399 = .ok (.iload_n 3, 1) := by decide +kernel
theorem dL_law_400 : decode cL_law 400 = .ok (.iconst 1, 1) := by decide +kernel
theorem dL_law_401 : decode cL_law 401 = .ok (.iadd, 1) := by decide +kernel
theorem dL_law_402 : decode cL_law 402 = .ok (.iaload, 1) := by decide +kernel
theorem dL_law_403 : decode cL_law 403 = .ok (.aload_n 0, 1) := by decide +kernel
theorem dL_law_404 : decode cL_law 404 = .ok (.iload_n 3, 1) := by decide +kernel
theorem dL_law_405 : decode cL_law 405 = .ok (.iconst 2, 1) := by decide +kernel
theorem dL_law_406 : decode cL_law 406 = .ok (.iadd, 1) := by decide +kernel
theorem dL_law_407 : decode cL_law 407 = .ok (.iaload, 1) := by decide +kernel
theorem dL_law_408 : decode cL_law 408 = .ok (.aload_n 0, 1) := by decide +kernel
theorem dL_law_409 : decode cL_law 409 = .ok (.iload_n 3, 1) := by decide +kernel
theorem dL_law_410 : decode cL_law 410 = .ok (.iconst 3, 1) := by decide +kernel
theorem dL_law_411 : decode cL_law 411 = .ok (.iadd, 1) := by decide +kernel
theorem dL_law_412 : decode cL_law 412 = .ok (.iaload, 1) := by decide +kernel
theorem dL_law_413 : decode cL_law 413 = .ok (.invokevirtual 45, 3) := by decide +kernel
theorem dL_law_416 : decode cL_law 416 = .ok (.aload_n 2, 1) := by decide +kernel
theorem dL_law_417 : decode cL_law 417 = .ok (.aload_n 0, 1) := by decide +kernel
theorem dL_law_418 : decode cL_law 418 = .ok (.iload_n 3, 1) := by decide +kernel
theorem dL_law_419 : decode cL_law 419 = .ok (.iconst 1, 1) := by decide +kernel
theorem dL_law_420 : decode cL_law 420 = .ok (.iadd, 1) := by decide +kernel
theorem dL_law_421 : decode cL_law 421 = .ok (.iaload, 1) := by decide +kernel
theorem dL_law_422 : decode cL_law 422 = .ok (.aload_n 0, 1) := by decide +kernel
theorem dL_law_423 : decode cL_law 423 = .ok (.iload_n 3, 1) := by decide +kernel
theorem dL_law_424 : decode cL_law 424 = .ok (.iconst 2, 1) := by decide +kernel
theorem dL_law_425 : decode cL_law 425 = .ok (.iadd, 1) := by decide +kernel
theorem dL_law_426 : decode cL_law 426 = .ok (.iaload, 1) := by decide +kernel
theorem dL_law_427 : decode cL_law 427 = .ok (.aload_n 0, 1) := by decide +kernel
theorem dL_law_428 : decode cL_law 428 = .ok (.iload_n 3, 1) := by decide +kernel
theorem dL_law_429 : decode cL_law 429 = .ok (.iconst 3, 1) := by decide +kernel
theorem dL_law_430 : decode cL_law 430 = .ok (.iadd, 1) := by decide +kernel
theorem dL_law_431 : decode cL_law 431 = .ok (.iaload, 1) := by decide +kernel
theorem dL_law_432 : decode cL_law 432 = .ok (.invokevirtual 48, 3) := by decide +kernel
theorem dL_law_435 : decode cL_law 435 = .ok (.if_icmp .eq 758, 3) := by decide +kernel
theorem dL_law_438 : decode cL_law 438 = .ok (.iconst 0, 1) := by decide +kernel
theorem dL_law_439 : decode cL_law 439 = .ok (.ireturn, 1) := by decide +kernel
theorem dL_law_440 : decode cL_law 440 = .ok (.aload_n 1, 1) := by decide +kernel
theorem dL_law_441 : decode cL_law 441 = .ok (.aload_n 0, 1) := by decide +kernel
theorem dL_law_442 : decode cL_law 442 = .ok (.iload_n 3, 1) := by decide +kernel
theorem dL_law_443 : decode cL_law 443 = .ok (.iconst 1, 1) := by decide +kernel
theorem dL_law_444 : decode cL_law 444 = .ok (.iadd, 1) := by decide +kernel
theorem dL_law_445 : decode cL_law 445 = .ok (.iaload, 1) := by decide +kernel
theorem dL_law_446 : decode cL_law 446 = .ok (.aload_n 0, 1) := by decide +kernel
theorem dL_law_447 : decode cL_law 447 = .ok (.iload_n 3, 1) := by decide +kernel
theorem dL_law_448 : decode cL_law 448 = .ok (.iconst 2, 1) := by decide +kernel
theorem dL_law_449 : decode cL_law 449 = .ok (.iadd, 1) := by decide +kernel
theorem dL_law_450 : decode cL_law 450 = .ok (.iaload, 1) := by decide +kernel
theorem dL_law_451 : decode cL_law 451 = .ok (.invokevirtual 49, 3) := by decide +kernel
theorem dL_law_454 : decode cL_law 454 = .ok (.aload_n 2, 1) := by decide +kernel
theorem dL_law_455 : decode cL_law 455 = .ok (.aload_n 0, 1) := by decide +kernel
theorem dL_law_456 : decode cL_law 456 = .ok (.iload_n 3, 1) := by decide +kernel
theorem dL_law_457 : decode cL_law 457 = .ok (.iconst 1, 1) := by decide +kernel
theorem dL_law_458 : decode cL_law 458 = .ok (.iadd, 1) := by decide +kernel
theorem dL_law_459 : decode cL_law 459 = .ok (.iaload, 1) := by decide +kernel
theorem dL_law_460 : decode cL_law 460 = .ok (.aload_n 0, 1) := by decide +kernel
theorem dL_law_461 : decode cL_law 461 = .ok (.iload_n 3, 1) := by decide +kernel
theorem dL_law_462 : decode cL_law 462 = .ok (.iconst 2, 1) := by decide +kernel
theorem dL_law_463 : decode cL_law 463 = .ok (.iadd, 1) := by decide +kernel
theorem dL_law_464 : decode cL_law 464 = .ok (.iaload, 1) := by decide +kernel
theorem dL_law_465 : decode cL_law 465 = .ok (.invokevirtual 52, 3) := by decide +kernel
theorem dL_law_468 : decode cL_law 468 = .ok (.if_icmp .eq 725, 3) := by decide +kernel
theorem dL_law_471 : decode cL_law 471 = .ok (.iconst 0, 1) := by decide +kernel
theorem dL_law_472 : decode cL_law 472 = .ok (.ireturn, 1) := by decide +kernel
theorem dL_law_473 : decode cL_law 473 = .ok (.aload_n 1, 1) := by decide +kernel
theorem dL_law_474 : decode cL_law 474 = .ok (.aload_n 0, 1) := by decide +kernel
theorem dL_law_475 : decode cL_law 475 = .ok (.iload_n 3, 1) := by decide +kernel
theorem dL_law_476 : decode cL_law 476 = .ok (.iconst 1, 1) := by decide +kernel
theorem dL_law_477 : decode cL_law 477 = .ok (.iadd, 1) := by decide +kernel
theorem dL_law_478 : decode cL_law 478 = .ok (.iaload, 1) := by decide +kernel
theorem dL_law_479 : decode cL_law 479 = .ok (.invokevirtual 53, 3) := by decide +kernel
theorem dL_law_482 : decode cL_law 482 = .ok (.aload_n 2, 1) := by decide +kernel
theorem dL_law_483 : decode cL_law 483 = .ok (.aload_n 0, 1) := by decide +kernel
theorem dL_law_484 : decode cL_law 484 = .ok (.iload_n 3, 1) := by decide +kernel
theorem dL_law_485 : decode cL_law 485 = .ok (.iconst 1, 1) := by decide +kernel
theorem dL_law_486 : decode cL_law 486 = .ok (.iadd, 1) := by decide +kernel
theorem dL_law_487 : decode cL_law 487 = .ok (.iaload, 1) := by decide +kernel
theorem dL_law_488 : decode cL_law 488 = .ok (.invokevirtual 56, 3) := by decide +kernel
theorem dL_law_491 : decode cL_law 491 = .ok (.if_icmp .eq 702, 3) := by decide +kernel
theorem dL_law_494 : decode cL_law 494 = .ok (.iconst 0, 1) := by decide +kernel
theorem dL_law_495 : decode cL_law 495 = .ok (.ireturn, 1) := by decide +kernel
theorem dL_law_496 : decode cL_law 496 = .ok (.aload_n 1, 1) := by decide +kernel
theorem dL_law_497 : decode cL_law 497 = .ok (.aload_n 0, 1) := by decide +kernel
theorem dL_law_498 : decode cL_law 498 = .ok (.iload_n 3, 1) := by decide +kernel
theorem dL_law_499 : decode cL_law 499 = .ok (.iconst 1, 1) := by decide +kernel
theorem dL_law_500 : decode cL_law 500 = .ok (.iadd, 1) := by decide +kernel
theorem dL_law_501 : decode cL_law 501 = .ok (.iaload, 1) := by decide +kernel
theorem dL_law_502 : decode cL_law 502 = .ok (.invokevirtual 57, 3) := by decide +kernel
theorem dL_law_505 : decode cL_law 505 = .ok (.aload_n 2, 1) := by decide +kernel
theorem dL_law_506 : decode cL_law 506 = .ok (.aload_n 0, 1) := by decide +kernel
theorem dL_law_507 : decode cL_law 507 = .ok (.iload_n 3, 1) := by decide +kernel
theorem dL_law_508 : decode cL_law 508 = .ok (.iconst 1, 1) := by decide +kernel
theorem dL_law_509 : decode cL_law 509 = .ok (.iadd, 1) := by decide +kernel
theorem dL_law_510 : decode cL_law 510 = .ok (.iaload, 1) := by decide +kernel
theorem dL_law_511 : decode cL_law 511 = .ok (.invokevirtual 60, 3) := by decide +kernel
theorem dL_law_514 : decode cL_law 514 = .ok (.if_icmp .eq 679, 3) := by decide +kernel
theorem dL_law_517 : decode cL_law 517 = .ok (.iconst 0, 1) := by decide +kernel
theorem dL_law_518 : decode cL_law 518 = .ok (.ireturn, 1) := by decide +kernel
theorem dL_law_519 : decode cL_law 519 = .ok (.aload_n 1, 1) := by decide +kernel
theorem dL_law_520 : decode cL_law 520 = .ok (.aload_n 0, 1) := by decide +kernel
theorem dL_law_521 : decode cL_law 521 = .ok (.iload_n 3, 1) := by decide +kernel
theorem dL_law_522 : decode cL_law 522 = .ok (.iconst 1, 1) := by decide +kernel
theorem dL_law_523 : decode cL_law 523 = .ok (.iadd, 1) := by decide +kernel
theorem dL_law_524 : decode cL_law 524 = .ok (.iaload, 1) := by decide +kernel
theorem dL_law_525 : decode cL_law 525 = .ok (.aload_n 0, 1) := by decide +kernel
theorem dL_law_526 : decode cL_law 526 = .ok (.iload_n 3, 1) := by decide +kernel
theorem dL_law_527 : decode cL_law 527 = .ok (.iconst 2, 1) := by decide +kernel
theorem dL_law_528 : decode cL_law 528 = .ok (.iadd, 1) := by decide +kernel
theorem dL_law_529 : decode cL_law 529 = .ok (.iaload, 1) := by decide +kernel
theorem dL_law_530 : decode cL_law 530 = .ok (.invokevirtual 61, 3) := by decide +kernel
theorem dL_law_533 : decode cL_law 533 = .ok (.aload_n 2, 1) := by decide +kernel
theorem dL_law_534 : decode cL_law 534 = .ok (.aload_n 0, 1) := by decide +kernel
theorem dL_law_535 : decode cL_law 535 = .ok (.iload_n 3, 1) := by decide +kernel
theorem dL_law_536 : decode cL_law 536 = .ok (.iconst 1, 1) := by decide +kernel
theorem dL_law_537 : decode cL_law 537 = .ok (.iadd, 1) := by decide +kernel
theorem dL_law_538 : decode cL_law 538 = .ok (.iaload, 1) := by decide +kernel
theorem dL_law_539 : decode cL_law 539 = .ok (.aload_n 0, 1) := by decide +kernel
theorem dL_law_540 : decode cL_law 540 = .ok (.iload_n 3, 1) := by decide +kernel
theorem dL_law_541 : decode cL_law 541 = .ok (.iconst 2, 1) := by decide +kernel
theorem dL_law_542 : decode cL_law 542 = .ok (.iadd, 1) := by decide +kernel
theorem dL_law_543 : decode cL_law 543 = .ok (.iaload, 1) := by decide +kernel
theorem dL_law_544 : decode cL_law 544 = .ok (.invokevirtual 64, 3) := by decide +kernel
theorem dL_law_547 : decode cL_law 547 = .ok (.if_icmp .eq 646, 3) := by decide +kernel
theorem dL_law_550 : decode cL_law 550 = .ok (.iconst 0, 1) := by decide +kernel
theorem dL_law_551 : decode cL_law 551 = .ok (.ireturn, 1) := by decide +kernel
theorem dL_law_552 : decode cL_law 552 = .ok (.aload_n 1, 1) := by decide +kernel
theorem dL_law_553 : decode cL_law 553 = .ok (.aload_n 0, 1) := by decide +kernel
theorem dL_law_554 : decode cL_law 554 = .ok (.iload_n 3, 1) := by decide +kernel
theorem dL_law_555 : decode cL_law 555 = .ok (.iconst 1, 1) := by decide +kernel
theorem dL_law_556 : decode cL_law 556 = .ok (.iadd, 1) := by decide +kernel
theorem dL_law_557 : decode cL_law 557 = .ok (.iaload, 1) := by decide +kernel
theorem dL_law_558 : decode cL_law 558 = .ok (.aload_n 0, 1) := by decide +kernel
theorem dL_law_559 : decode cL_law 559 = .ok (.iload_n 3, 1) := by decide +kernel
theorem dL_law_560 : decode cL_law 560 = .ok (.iconst 2, 1) := by decide +kernel
theorem dL_law_561 : decode cL_law 561 = .ok (.iadd, 1) := by decide +kernel
theorem dL_law_562 : decode cL_law 562 = .ok (.iaload, 1) := by decide +kernel
theorem dL_law_563 : decode cL_law 563 = .ok (.invokevirtual 65, 3) := by decide +kernel
theorem dL_law_566 : decode cL_law 566 = .ok (.aload_n 2, 1) := by decide +kernel
theorem dL_law_567 : decode cL_law 567 = .ok (.aload_n 0, 1) := by decide +kernel
theorem dL_law_568 : decode cL_law 568 = .ok (.iload_n 3, 1) := by decide +kernel
theorem dL_law_569 : decode cL_law 569 = .ok (.iconst 1, 1) := by decide +kernel
theorem dL_law_570 : decode cL_law 570 = .ok (.iadd, 1) := by decide +kernel
theorem dL_law_571 : decode cL_law 571 = .ok (.iaload, 1) := by decide +kernel
theorem dL_law_572 : decode cL_law 572 = .ok (.aload_n 0, 1) := by decide +kernel
theorem dL_law_573 : decode cL_law 573 = .ok (.iload_n 3, 1) := by decide +kernel
theorem dL_law_574 : decode cL_law 574 = .ok (.iconst 2, 1) := by decide +kernel
theorem dL_law_575 : decode cL_law 575 = .ok (.iadd, 1) := by decide +kernel
theorem dL_law_576 : decode cL_law 576 = .ok (.iaload, 1) := by decide +kernel
theorem dL_law_577 : decode cL_law 577 = .ok (.invokevirtual 68, 3) := by decide +kernel
theorem dL_law_580 : decode cL_law 580 = .ok (.if_icmp .eq 613, 3) := by decide +kernel
theorem dL_law_583 : decode cL_law 583 = .ok (.iconst 0, 1) := by decide +kernel
theorem dL_law_584 : decode cL_law 584 = .ok (.ireturn, 1) := by decide +kernel
theorem dL_law_585 : decode cL_law 585 = .ok (.aload_n 1, 1) := by decide +kernel
theorem dL_law_586 : decode cL_law 586 = .ok (.aload_n 0, 1) := by decide +kernel
theorem dL_law_587 : decode cL_law 587 = .ok (.iload_n 3, 1) := by decide +kernel
theorem dL_law_588 : decode cL_law 588 = .ok (.iconst 1, 1) := by decide +kernel
theorem dL_law_589 : decode cL_law 589 = .ok (.iadd, 1) := by decide +kernel
theorem dL_law_590 : decode cL_law 590 = .ok (.iaload, 1) := by decide +kernel
theorem dL_law_591 : decode cL_law 591 = .ok (.aload_n 0, 1) := by decide +kernel
theorem dL_law_592 : decode cL_law 592 = .ok (.iload_n 3, 1) := by decide +kernel
theorem dL_law_593 : decode cL_law 593 = .ok (.iconst 2, 1) := by decide +kernel
theorem dL_law_594 : decode cL_law 594 = .ok (.iadd, 1) := by decide +kernel
theorem dL_law_595 : decode cL_law 595 = .ok (.iaload, 1) := by decide +kernel
theorem dL_law_596 : decode cL_law 596 = .ok (.invokevirtual 69, 3) := by decide +kernel
theorem dL_law_599 : decode cL_law 599 = .ok (.aload_n 2, 1) := by decide +kernel
theorem dL_law_600 : decode cL_law 600 = .ok (.aload_n 0, 1) := by decide +kernel
theorem dL_law_601 : decode cL_law 601 = .ok (.iload_n 3, 1) := by decide +kernel
theorem dL_law_602 : decode cL_law 602 = .ok (.iconst 1, 1) := by decide +kernel
theorem dL_law_603 : decode cL_law 603 = .ok (.iadd, 1) := by decide +kernel
theorem dL_law_604 : decode cL_law 604 = .ok (.iaload, 1) := by decide +kernel
theorem dL_law_605 : decode cL_law 605 = .ok (.aload_n 0, 1) := by decide +kernel
theorem dL_law_606 : decode cL_law 606 = .ok (.iload_n 3, 1) := by decide +kernel
theorem dL_law_607 : decode cL_law 607 = .ok (.iconst 2, 1) := by decide +kernel
theorem dL_law_608 : decode cL_law 608 = .ok (.iadd, 1) := by decide +kernel
theorem dL_law_609 : decode cL_law 609 = .ok (.iaload, 1) := by decide +kernel
theorem dL_law_610 : decode cL_law 610 = .ok (.invokevirtual 72, 3) := by decide +kernel
theorem dL_law_613 : decode cL_law 613 = .ok (.if_icmp .eq 580, 3) := by decide +kernel
theorem dL_law_616 : decode cL_law 616 = .ok (.iconst 0, 1) := by decide +kernel
theorem dL_law_617 : decode cL_law 617 = .ok (.ireturn, 1) := by decide +kernel
theorem dL_law_618 : decode cL_law 618 = .ok (.aload_n 1, 1) := by decide +kernel
theorem dL_law_619 : decode cL_law 619 = .ok (.aload_n 0, 1) := by decide +kernel
theorem dL_law_620 : decode cL_law 620 = .ok (.iload_n 3, 1) := by decide +kernel
theorem dL_law_621 : decode cL_law 621 = .ok (.iconst 1, 1) := by decide +kernel
theorem dL_law_622 : decode cL_law 622 = .ok (.iadd, 1) := by decide +kernel
theorem dL_law_623 : decode cL_law 623 = .ok (.iaload, 1) := by decide +kernel
theorem dL_law_624 : decode cL_law 624 = .ok (.aload_n 0, 1) := by decide +kernel
theorem dL_law_625 : decode cL_law 625 = .ok (.iload_n 3, 1) := by decide +kernel
theorem dL_law_626 : decode cL_law 626 = .ok (.iconst 2, 1) := by decide +kernel
theorem dL_law_627 : decode cL_law 627 = .ok (.iadd, 1) := by decide +kernel
theorem dL_law_628 : decode cL_law 628 = .ok (.iaload, 1) := by decide +kernel
theorem dL_law_629 : decode cL_law 629 = .ok (.invokevirtual 73, 3) := by decide +kernel
theorem dL_law_632 : decode cL_law 632 = .ok (.aload_n 2, 1) := by decide +kernel
theorem dL_law_633 : decode cL_law 633 = .ok (.aload_n 0, 1) := by decide +kernel
theorem dL_law_634 : decode cL_law 634 = .ok (.iload_n 3, 1) := by decide +kernel
theorem dL_law_635 : decode cL_law 635 = .ok (.iconst 1, 1) := by decide +kernel
theorem dL_law_636 : decode cL_law 636 = .ok (.iadd, 1) := by decide +kernel
theorem dL_law_637 : decode cL_law 637 = .ok (.iaload, 1) := by decide +kernel
theorem dL_law_638 : decode cL_law 638 = .ok (.aload_n 0, 1) := by decide +kernel
theorem dL_law_639 : decode cL_law 639 = .ok (.iload_n 3, 1) := by decide +kernel
theorem dL_law_640 : decode cL_law 640 = .ok (.iconst 2, 1) := by decide +kernel
theorem dL_law_641 : decode cL_law 641 = .ok (.iadd, 1) := by decide +kernel
theorem dL_law_642 : decode cL_law 642 = .ok (.iaload, 1) := by decide +kernel
theorem dL_law_643 : decode cL_law 643 = .ok (.invokevirtual 76, 3) := by decide +kernel
theorem dL_law_646 : decode cL_law 646 = .ok (.if_icmp .eq 547, 3) := by decide +kernel
theorem dL_law_649 : decode cL_law 649 = .ok (.iconst 0, 1) := by decide +kernel
theorem dL_law_650 : decode cL_law 650 = .ok (.ireturn, 1) := by decide +kernel
theorem dL_law_651 : decode cL_law 651 = .ok (.aload_n 1, 1) := by decide +kernel
theorem dL_law_652 : decode cL_law 652 = .ok (.aload_n 0, 1) := by decide +kernel
theorem dL_law_653 : decode cL_law 653 = .ok (.iload_n 3, 1) := by decide +kernel
theorem dL_law_654 : decode cL_law 654 = .ok (.iconst 1, 1) := by decide +kernel
theorem dL_law_655 : decode cL_law 655 = .ok (.iadd, 1) := by decide +kernel
theorem dL_law_656 : decode cL_law 656 = .ok (.iaload, 1) := by decide +kernel
theorem dL_law_657 : decode cL_law 657 = .ok (.invokevirtual 77, 3) := by decide +kernel
theorem dL_law_660 : decode cL_law 660 = .ok (.aload_n 2, 1) := by decide +kernel
theorem dL_law_661 : decode cL_law 661 = .ok (.aload_n 0, 1) := by decide +kernel
theorem dL_law_662 : decode cL_law 662 = .ok (.iload_n 3, 1) := by decide +kernel
theorem dL_law_663 : decode cL_law 663 = .ok (.iconst 1, 1) := by decide +kernel
theorem dL_law_664 : decode cL_law 664 = .ok (.iadd, 1) := by decide +kernel
theorem dL_law_665 : decode cL_law 665 = .ok (.iaload, 1) := by decide +kernel
theorem dL_law_666 : decode cL_law 666 = .ok (.invokevirtual 80, 3) := by decide +kernel
theorem dL_law_669 : decode cL_law 669 = .ok (.if_icmp .eq 524, 3) := by decide +kernel
theorem dL_law_672 : decode cL_law 672 = .ok (.iconst 0, 1) := by decide +kernel
theorem dL_law_673 : decode cL_law 673 = .ok (.ireturn, 1) := by decide +kernel
theorem dL_law_674 : decode cL_law 674 = .ok (.aload_n 1, 1) := by decide +kernel
theorem dL_law_675 : decode cL_law 675 = .ok (.aload_n 0, 1) := by decide +kernel
theorem dL_law_676 : decode cL_law 676 = .ok (.iload_n 3, 1) := by decide +kernel
theorem dL_law_677 : decode cL_law 677 = .ok (.iconst 1, 1) := by decide +kernel
theorem dL_law_678 : decode cL_law 678 = .ok (.iadd, 1) := by decide +kernel
theorem dL_law_679 : decode cL_law 679 = .ok (.iaload, 1) := by decide +kernel
theorem dL_law_680 : decode cL_law 680 = .ok (.invokevirtual 81, 3) := by decide +kernel
theorem dL_law_683 : decode cL_law 683 = .ok (.aload_n 2, 1) := by decide +kernel
theorem dL_law_684 : decode cL_law 684 = .ok (.aload_n 0, 1) := by decide +kernel
theorem dL_law_685 : decode cL_law 685 = .ok (.iload_n 3, 1) := by decide +kernel
theorem dL_law_686 : decode cL_law 686 = .ok (.iconst 1, 1) := by decide +kernel
theorem dL_law_687 : decode cL_law 687 = .ok (.iadd, 1) := by decide +kernel
theorem dL_law_688 : decode cL_law 688 = .ok (.iaload, 1) := by decide +kernel
theorem dL_law_689 : decode cL_law 689 = .ok (.invokevirtual 84, 3) := by decide +kernel
theorem dL_law_692 : decode cL_law 692 = .ok (.if_icmp .eq 501, 3) := by decide +kernel
theorem dL_law_695 : decode cL_law 695 = .ok (.iconst 0, 1) := by decide +kernel
theorem dL_law_696 : decode cL_law 696 = .ok (.ireturn, 1) := by decide +kernel
theorem dL_law_697 : decode cL_law 697 = .ok (.aload_n 1, 1) := by decide +kernel
theorem dL_law_698 : decode cL_law 698 = .ok (.aload_n 0, 1) := by decide +kernel
theorem dL_law_699 : decode cL_law 699 = .ok (.iload_n 3, 1) := by decide +kernel
theorem dL_law_700 : decode cL_law 700 = .ok (.iconst 1, 1) := by decide +kernel
theorem dL_law_701 : decode cL_law 701 = .ok (.iadd, 1) := by decide +kernel
theorem dL_law_702 : decode cL_law 702 = .ok (.iaload, 1) := by decide +kernel
theorem dL_law_703 : decode cL_law 703 = .ok (.invokevirtual 85, 3) := by decide +kernel
theorem dL_law_706 : decode cL_law 706 = .ok (.aload_n 2, 1) := by decide +kernel
theorem dL_law_707 : decode cL_law 707 = .ok (.aload_n 0, 1) := by decide +kernel
theorem dL_law_708 : decode cL_law 708 = .ok (.iload_n 3, 1) := by decide +kernel
theorem dL_law_709 : decode cL_law 709 = .ok (.iconst 1, 1) := by decide +kernel
theorem dL_law_710 : decode cL_law 710 = .ok (.iadd, 1) := by decide +kernel
theorem dL_law_711 : decode cL_law 711 = .ok (.iaload, 1) := by decide +kernel
theorem dL_law_712 : decode cL_law 712 = .ok (.invokevirtual 88, 3) := by decide +kernel
theorem dL_law_715 : decode cL_law 715 = .ok (.if_icmp .eq 478, 3) := by decide +kernel
theorem dL_law_718 : decode cL_law 718 = .ok (.iconst 0, 1) := by decide +kernel
theorem dL_law_719 : decode cL_law 719 = .ok (.ireturn, 1) := by decide +kernel
theorem dL_law_720 : decode cL_law 720 = .ok (.aload_n 1, 1) := by decide +kernel
theorem dL_law_721 : decode cL_law 721 = .ok (.aload_n 0, 1) := by decide +kernel
theorem dL_law_722 : decode cL_law 722 = .ok (.iload_n 3, 1) := by decide +kernel
theorem dL_law_723 : decode cL_law 723 = .ok (.iconst 1, 1) := by decide +kernel
theorem dL_law_724 : decode cL_law 724 = .ok (.iadd, 1) := by decide +kernel
theorem dL_law_725 : decode cL_law 725 = .ok (.iaload, 1) := by decide +kernel
theorem dL_law_726 : decode cL_law 726 = .ok (.invokevirtual 89, 3) := by decide +kernel
theorem dL_law_729 : decode cL_law 729 = .ok (.aload_n 2, 1) := by decide +kernel
theorem dL_law_730 : decode cL_law 730 = .ok (.aload_n 0, 1) := by decide +kernel
theorem dL_law_731 : decode cL_law 731 = .ok (.iload_n 3, 1) := by decide +kernel
theorem dL_law_732 : decode cL_law 732 = .ok (.iconst 1, 1) := by decide +kernel
theorem dL_law_733 : decode cL_law 733 = .ok (.iadd, 1) := by decide +kernel
theorem dL_law_734 : decode cL_law 734 = .ok (.iaload, 1) := by decide +kernel
theorem dL_law_735 : decode cL_law 735 = .ok (.invokevirtual 92, 3) := by decide +kernel
theorem dL_law_738 : decode cL_law 738 = .ok (.if_icmp .eq 455, 3) := by decide +kernel
theorem dL_law_741 : decode cL_law 741 = .ok (.iconst 0, 1) := by decide +kernel
theorem dL_law_742 : decode cL_law 742 = .ok (.ireturn, 1) := by decide +kernel
theorem dL_law_743 : decode cL_law 743 = .ok (.aload_n 1, 1) := by decide +kernel
theorem dL_law_744 : decode cL_law 744 = .ok (.aload_n 0, 1) := by decide +kernel
theorem dL_law_745 : decode cL_law 745 = .ok (.iload_n 3, 1) := by decide +kernel
theorem dL_law_746 : decode cL_law 746 = .ok (.iconst 1, 1) := by decide +kernel
theorem dL_law_747 : decode cL_law 747 = .ok (.iadd, 1) := by decide +kernel
theorem dL_law_748 : decode cL_law 748 = .ok (.iaload, 1) := by decide +kernel
theorem dL_law_749 : decode cL_law 749 = .ok (.aload_n 0, 1) := by decide +kernel
theorem dL_law_750 : decode cL_law 750 = .ok (.iload_n 3, 1) := by decide +kernel
theorem dL_law_751 : decode cL_law 751 = .ok (.iconst 2, 1) := by decide +kernel
theorem dL_law_752 : decode cL_law 752 = .ok (.iadd, 1) := by decide +kernel
theorem dL_law_753 : decode cL_law 753 = .ok (.iaload, 1) := by decide +kernel
theorem dL_law_754 : decode cL_law 754 = .ok (.invokevirtual 93, 3) := by decide +kernel
theorem dL_law_757 : decode cL_law 757 = .ok (.aload_n 2, 1) := by decide +kernel
theorem dL_law_758 : decode cL_law 758 = .ok (.aload_n 0, 1) := by decide +kernel
theorem dL_law_759 : decode cL_law 759 = .ok (.iload_n 3, 1) := by decide +kernel
theorem dL_law_760 : decode cL_law 760 = .ok (.iconst 1, 1) := by decide +kernel
theorem dL_law_761 : decode cL_law 761 = .ok (.iadd, 1) := by decide +kernel
theorem dL_law_762 : decode cL_law 762 = .ok (.iaload, 1) := by decide +kernel
theorem dL_law_763 : decode cL_law 763 = .ok (.aload_n 0, 1) := by decide +kernel
theorem dL_law_764 : decode cL_law 764 = .ok (.iload_n 3, 1) := by decide +kernel
theorem dL_law_765 : decode cL_law 765 = .ok (.iconst 2, 1) := by decide +kernel
theorem dL_law_766 : decode cL_law 766 = .ok (.iadd, 1) := by decide +kernel
theorem dL_law_767 : decode cL_law 767 = .ok (.iaload, 1) := by decide +kernel
theorem dL_law_768 : decode cL_law 768 = .ok (.invokevirtual 96, 3) := by decide +kernel
theorem dL_law_771 : decode cL_law 771 = .ok (.if_icmp .eq 422, 3) := by decide +kernel
theorem dL_law_774 : decode cL_law 774 = .ok (.iconst 0, 1) := by decide +kernel
theorem dL_law_775 : decode cL_law 775 = .ok (.ireturn, 1) := by decide +kernel
theorem dL_law_776 : decode cL_law 776 = .ok (.aload_n 1, 1) := by decide +kernel
theorem dL_law_777 : decode cL_law 777 = .ok (.invokevirtual 97, 3) := by decide +kernel
theorem dL_law_780 : decode cL_law 780 = .ok (.aload_n 2, 1) := by decide +kernel
theorem dL_law_781 : decode cL_law 781 = .ok (.invokevirtual 100, 3) := by decide +kernel
theorem dL_law_784 : decode cL_law 784 = .ok (.if_icmp .eq 409, 3) := by decide +kernel
theorem dL_law_787 : decode cL_law 787 = .ok (.iconst 0, 1) := by decide +kernel
theorem dL_law_788 : decode cL_law 788 = .ok (.ireturn, 1) := by decide +kernel
theorem dL_law_789 : decode cL_law 789 = .ok (.aload_n 1, 1) := by decide +kernel
theorem dL_law_790 : decode cL_law 790 = .ok (.invokevirtual 101, 3) := by decide +kernel
theorem dL_law_793 : decode cL_law 793 = .ok (.aload_n 2, 1) := by decide +kernel
theorem dL_law_794 : decode cL_law 794 = .ok (.invokevirtual 104, 3) := by decide +kernel
theorem dL_law_797 : decode cL_law 797 = .ok (.if_icmp .eq 396, 3) := by decide +kernel
theorem dL_law_800 : decode cL_law 800 = .ok (.iconst 0, 1) := by decide +kernel
theorem dL_law_801 : decode cL_law 801 = .ok (.ireturn, 1) := by decide +kernel
theorem dL_law_802 : decode cL_law 802 = .ok (.aload_n 1, 1) := by decide +kernel
theorem dL_law_803 : decode cL_law 803 = .ok (.aload_n 0, 1) := by decide +kernel
theorem dL_law_804 : decode cL_law 804 = .ok (.iload_n 3, 1) := by decide +kernel
theorem dL_law_805 : decode cL_law 805 = .ok (.iconst 1, 1) := by decide +kernel
theorem dL_law_806 : decode cL_law 806 = .ok (.iadd, 1) := by decide +kernel
theorem dL_law_807 : decode cL_law 807 = .ok (.iaload, 1) := by decide +kernel
theorem dL_law_808 : decode cL_law 808 = .ok (.invokevirtual 105, 3) := by decide +kernel
theorem dL_law_811 : decode cL_law 811 = .ok (.aload_n 2, 1) := by decide +kernel
theorem dL_law_812 : decode cL_law 812 = .ok (.aload_n 0, 1) := by decide +kernel
theorem dL_law_813 : decode cL_law 813 = .ok (.iload_n 3, 1) := by decide +kernel
theorem dL_law_814 : decode cL_law 814 = .ok (.iconst 1, 1) := by decide +kernel
theorem dL_law_815 : decode cL_law 815 = .ok (.iadd, 1) := by decide +kernel
theorem dL_law_816 : decode cL_law 816 = .ok (.iaload, 1) := by decide +kernel
theorem dL_law_817 : decode cL_law 817 = .ok (.invokevirtual 108, 3) := by decide +kernel
theorem dL_law_820 : decode cL_law 820 = .ok (.if_icmp .eq 373, 3) := by decide +kernel
theorem dL_law_823 : decode cL_law 823 = .ok (.iconst 0, 1) := by decide +kernel
theorem dL_law_824 : decode cL_law 824 = .ok (.ireturn, 1) := by decide +kernel
theorem dL_law_825 : decode cL_law 825 = .ok (.aload_n 1, 1) := by decide +kernel
theorem dL_law_826 : decode cL_law 826 = .ok (.aload_n 0, 1) := by decide +kernel
theorem dL_law_827 : decode cL_law 827 = .ok (.iload_n 3, 1) := by decide +kernel
theorem dL_law_828 : decode cL_law 828 = .ok (.iconst 1, 1) := by decide +kernel
theorem dL_law_829 : decode cL_law 829 = .ok (.iadd, 1) := by decide +kernel
theorem dL_law_830 : decode cL_law 830 = .ok (.iaload, 1) := by decide +kernel
theorem dL_law_831 : decode cL_law 831 = .ok (.aload_n 0, 1) := by decide +kernel
theorem dL_law_832 : decode cL_law 832 = .ok (.iload_n 3, 1) := by decide +kernel
theorem dL_law_833 : decode cL_law 833 = .ok (.iconst 2, 1) := by decide +kernel
theorem dL_law_834 : decode cL_law 834 = .ok (.iadd, 1) := by decide +kernel
theorem dL_law_835 : decode cL_law 835 = .ok (.iaload, 1) := by decide +kernel
theorem dL_law_836 : decode cL_law 836 = .ok (.aload_n 0, 1) := by decide +kernel
theorem dL_law_837 : decode cL_law 837 = .ok (.iload_n 3, 1) := by decide +kernel
theorem dL_law_838 : decode cL_law 838 = .ok (.iconst 3, 1) := by decide +kernel
theorem dL_law_839 : decode cL_law 839 = .ok (.iadd, 1) := by decide +kernel
theorem dL_law_840 : decode cL_law 840 = .ok (.iaload, 1) := by decide +kernel
theorem dL_law_841 : decode cL_law 841 = .ok (.invokevirtual 109, 3) := by decide +kernel
theorem dL_law_844 : decode cL_law 844 = .ok (.aload_n 2, 1) := by decide +kernel
theorem dL_law_845 : decode cL_law 845 = .ok (.aload_n 0, 1) := by decide +kernel
theorem dL_law_846 : decode cL_law 846 = .ok (.iload_n 3, 1) := by decide +kernel
theorem dL_law_847 : decode cL_law 847 = .ok (.iconst 1, 1) := by decide +kernel
theorem dL_law_848 : decode cL_law 848 = .ok (.iadd, 1) := by decide +kernel
theorem dL_law_849 : decode cL_law 849 = .ok (.iaload, 1) := by decide +kernel
theorem dL_law_850 : decode cL_law 850 = .ok (.aload_n 0, 1) := by decide +kernel
theorem dL_law_851 : decode cL_law 851 = .ok (.iload_n 3, 1) := by decide +kernel
theorem dL_law_852 : decode cL_law 852 = .ok (.iconst 2, 1) := by decide +kernel
theorem dL_law_853 : decode cL_law 853 = .ok (.iadd, 1) := by decide +kernel
theorem dL_law_854 : decode cL_law 854 = .ok (.iaload, 1) := by decide +kernel
theorem dL_law_855 : decode cL_law 855 = .ok (.aload_n 0, 1) := by decide +kernel
theorem dL_law_856 : decode cL_law 856 = .ok (.iload_n 3, 1) := by decide +kernel
theorem dL_law_857 : decode cL_law 857 = .ok (.iconst 3, 1) := by decide +kernel
theorem dL_law_858 : decode cL_law 858 = .ok (.iadd, 1) := by decide +kernel
theorem dL_law_859 : decode cL_law 859 = .ok (.iaload, 1) := by decide +kernel
theorem dL_law_860 : decode cL_law 860 = .ok (.invokevirtual 112, 3) := by decide +kernel
theorem dL_law_863 : decode cL_law 863 = .ok (.if_icmp .eq 330, 3) := by decide +kernel
theorem dL_law_866 : decode cL_law 866 = .ok (.iconst 0, 1) := by decide +kernel
theorem dL_law_867 : decode cL_law 867 = .ok (.ireturn, 1) := by decide +kernel
theorem dL_law_868 : decode cL_law 868 = .ok (.aload_n 1, 1) := by decide +kernel
theorem dL_law_869 : decode cL_law 869 = .ok (.aload_n 0, 1) := by decide +kernel
theorem dL_law_870 : decode cL_law 870 = .ok (.iload_n 3, 1) := by decide +kernel
theorem dL_law_871 : decode cL_law 871 = .ok (.iconst 1, 1) := by decide +kernel
theorem dL_law_872 : decode cL_law 872 = .ok (.iadd, 1) := by decide +kernel
theorem dL_law_873 : decode cL_law 873 = .ok (.iaload, 1) := by decide +kernel
theorem dL_law_874 : decode cL_law 874 = .ok (.invokevirtual 113, 3) := by decide +kernel
theorem dL_law_877 : decode cL_law 877 = .ok (.aload_n 2, 1) := by decide +kernel
theorem dL_law_878 : decode cL_law 878 = .ok (.aload_n 0, 1) := by decide +kernel
theorem dL_law_879 : decode cL_law 879 = .ok (.iload_n 3, 1) := by decide +kernel
theorem dL_law_880 : decode cL_law 880 = .ok (.iconst 1, 1) := by decide +kernel
theorem dL_law_881 : decode cL_law 881 = .ok (.iadd, 1) := by decide +kernel
theorem dL_law_882 : decode cL_law 882 = .ok (.iaload, 1) := by decide +kernel
theorem dL_law_883 : decode cL_law 883 = .ok (.invokevirtual 116, 3) := by decide +kernel
theorem dL_law_886 : decode cL_law 886 = .ok (.if_icmp .eq 307, 3) := by decide +kernel
theorem dL_law_889 : decode cL_law 889 = .ok (.iconst 0, 1) := by decide +kernel
theorem dL_law_890 : decode cL_law 890 = .ok (.ireturn, 1) := by decide +kernel
theorem dL_law_891 : decode cL_law 891 = .ok (.aload_n 1, 1) := by decide +kernel
theorem dL_law_892 : decode cL_law 892 = .ok (.aload_n 0, 1) := by decide +kernel
theorem dL_law_893 : decode cL_law 893 = .ok (.iload_n 3, 1) := by decide +kernel
theorem dL_law_894 : decode cL_law 894 = .ok (.iconst 1, 1) := by decide +kernel
theorem dL_law_895 : decode cL_law 895 = .ok (.iadd, 1) := by decide +kernel
theorem dL_law_896 : decode cL_law 896 = .ok (.iaload, 1) := by decide +kernel
theorem dL_law_897 : decode cL_law 897 = .ok (.aload_n 0, 1) := by decide +kernel
theorem dL_law_898 : decode cL_law 898 = .ok (.iload_n 3, 1) := by decide +kernel
theorem dL_law_899 : decode cL_law 899 = .ok (.iconst 2, 1) := by decide +kernel
theorem dL_law_900 : decode cL_law 900 = .ok (.iadd, 1) := by decide +kernel
theorem dL_law_901 : decode cL_law 901 = .ok (.iaload, 1) := by decide +kernel
theorem dL_law_902 : decode cL_law 902 = .ok (.invokevirtual 117, 3) := by decide +kernel
theorem dL_law_905 : decode cL_law 905 = .ok (.aload_n 2, 1) := by decide +kernel
theorem dL_law_906 : decode cL_law 906 = .ok (.aload_n 0, 1) := by decide +kernel
theorem dL_law_907 : decode cL_law 907 = .ok (.iload_n 3, 1) := by decide +kernel
theorem dL_law_908 : decode cL_law 908 = .ok (.iconst 1, 1) := by decide +kernel
theorem dL_law_909 : decode cL_law 909 = .ok (.iadd, 1) := by decide +kernel
theorem dL_law_910 : decode cL_law 910 = .ok (.iaload, 1) := by decide +kernel
theorem dL_law_911 : decode cL_law 911 = .ok (.aload_n 0, 1) := by decide +kernel
theorem dL_law_912 : decode cL_law 912 = .ok (.iload_n 3, 1) := by decide +kernel
theorem dL_law_913 : decode cL_law 913 = .ok (.iconst 2, 1) := by decide +kernel
theorem dL_law_914 : decode cL_law 914 = .ok (.iadd, 1) := by decide +kernel
theorem dL_law_915 : decode cL_law 915 = .ok (.iaload, 1) := by decide +kernel
theorem dL_law_916 : decode cL_law 916 = .ok (.invokevirtual 120, 3) := by decide +kernel
theorem dL_law_919 : decode cL_law 919 = .ok (.if_icmp .eq 274, 3) := by decide +kernel
theorem dL_law_922 : decode cL_law 922 = .ok (.iconst 0, 1) := by decide +kernel
theorem dL_law_923 : decode cL_law 923 = .ok (.ireturn, 1) := by decide +kernel
theorem dL_law_924 : decode cL_law 924 = .ok (.aload_n 1, 1) := by decide +kernel
theorem dL_law_925 : decode cL_law 925 = .ok (.aload_n 0, 1) := by decide +kernel
theorem dL_law_926 : decode cL_law 926 = .ok (.iload_n 3, 1) := by decide +kernel
theorem dL_law_927 : decode cL_law 927 = .ok (.iconst 1, 1) := by decide +kernel
theorem dL_law_928 : decode cL_law 928 = .ok (.iadd, 1) := by decide +kernel
theorem dL_law_929 : decode cL_law 929 = .ok (.iaload, 1) := by decide +kernel
theorem dL_law_930 : decode cL_law 930 = .ok (.aload_n 0, 1) := by decide +kernel
theorem dL_law_931 : decode cL_law 931 = .ok (.iload_n 3, 1) := by decide +kernel
theorem dL_law_932 : decode cL_law 932 = .ok (.iconst 2, 1) := by decide +kernel
theorem dL_law_933 : decode cL_law 933 = .ok (.iadd, 1) := by decide +kernel
theorem dL_law_934 : decode cL_law 934 = .ok (.iaload, 1) := by decide +kernel
theorem dL_law_935 : decode cL_law 935 = .ok (.aload_n 0, 1) := by decide +kernel
theorem dL_law_936 : decode cL_law 936 = .ok (.iload_n 3, 1) := by decide +kernel
theorem dL_law_937 : decode cL_law 937 = .ok (.iconst 3, 1) := by decide +kernel
theorem dL_law_938 : decode cL_law 938 = .ok (.iadd, 1) := by decide +kernel
theorem dL_law_939 : decode cL_law 939 = .ok (.iaload, 1) := by decide +kernel
theorem dL_law_940 : decode cL_law 940 = .ok (.invokevirtual 121, 3) := by decide +kernel
theorem dL_law_943 : decode cL_law 943 = .ok (.aload_n 2, 1) := by decide +kernel
theorem dL_law_944 : decode cL_law 944 = .ok (.aload_n 0, 1) := by decide +kernel
theorem dL_law_945 : decode cL_law 945 = .ok (.iload_n 3, 1) := by decide +kernel
theorem dL_law_946 : decode cL_law 946 = .ok (.iconst 1, 1) := by decide +kernel
theorem dL_law_947 : decode cL_law 947 = .ok (.iadd, 1) := by decide +kernel
theorem dL_law_948 : decode cL_law 948 = .ok (.iaload, 1) := by decide +kernel
theorem dL_law_949 : decode cL_law 949 = .ok (.aload_n 0, 1) := by decide +kernel
theorem dL_law_950 : decode cL_law 950 = .ok (.iload_n 3, 1) := by decide +kernel
theorem dL_law_951 : decode cL_law 951 = .ok (.iconst 2, 1) := by decide +kernel
theorem dL_law_952 : decode cL_law 952 = .ok (.iadd, 1) := by decide +kernel
theorem dL_law_953 : decode cL_law 953 = .ok (.iaload, 1) := by decide +kernel
theorem dL_law_954 : decode cL_law 954 = .ok (.aload_n 0, 1) := by decide +kernel
theorem dL_law_955 : decode cL_law 955 = .ok (.iload_n 3, 1) := by decide +kernel
theorem dL_law_956 : decode cL_law 956 = .ok (.iconst 3, 1) := by decide +kernel
theorem dL_law_957 : decode cL_law 957 = .ok (.iadd, 1) := by decide +kernel
theorem dL_law_958 : decode cL_law 958 = .ok (.iaload, 1) := by decide +kernel
theorem dL_law_959 : decode cL_law 959 = .ok (.invokevirtual 124, 3) := by decide +kernel
theorem dL_law_962 : decode cL_law 962 = .ok (.if_icmp .eq 231, 3) := by decide +kernel
theorem dL_law_965 : decode cL_law 965 = .ok (.iconst 0, 1) := by decide +kernel
theorem dL_law_966 : decode cL_law 966 = .ok (.ireturn, 1) := by decide +kernel
theorem dL_law_967 : decode cL_law 967 = .ok (.aload_n 1, 1) := by decide +kernel
theorem dL_law_968 : decode cL_law 968 = .ok (.aload_n 0, 1) := by decide +kernel
theorem dL_law_969 : decode cL_law 969 = .ok (.iload_n 3, 1) := by decide +kernel
theorem dL_law_970 : decode cL_law 970 = .ok (.iconst 1, 1) := by decide +kernel
theorem dL_law_971 : decode cL_law 971 = .ok (.iadd, 1) := by decide +kernel
theorem dL_law_972 : decode cL_law 972 = .ok (.iaload, 1) := by decide +kernel
theorem dL_law_973 : decode cL_law 973 = .ok (.aload_n 0, 1) := by decide +kernel
theorem dL_law_974 : decode cL_law 974 = .ok (.iload_n 3, 1) := by decide +kernel
theorem dL_law_975 : decode cL_law 975 = .ok (.iconst 2, 1) := by decide +kernel
theorem dL_law_976 : decode cL_law 976 = .ok (.iadd, 1) := by decide +kernel
theorem dL_law_977 : decode cL_law 977 = .ok (.iaload, 1) := by decide +kernel
theorem dL_law_978 : decode cL_law 978 = .ok (.aload_n 0, 1) := by decide +kernel
theorem dL_law_979 : decode cL_law 979 = .ok (.iload_n 3, 1) := by decide +kernel
theorem dL_law_980 : decode cL_law 980 = .ok (.iconst 3, 1) := by decide +kernel
theorem dL_law_981 : decode cL_law 981 = .ok (.iadd, 1) := by decide +kernel
theorem dL_law_982 : decode cL_law 982 = .ok (.iaload, 1) := by decide +kernel
theorem dL_law_983 : decode cL_law 983 = .ok (.i2l, 1) := by decide +kernel
theorem dL_law_984 : decode cL_law 984 = .ok (.bipush 32, 2) := by decide +kernel
theorem dL_law_986 : decode cL_law 986 = .ok (.lshl, 1) := by decide +kernel
theorem dL_law_987 : decode cL_law 987 = .ok (.aload_n 0, 1) := by decide +kernel
theorem dL_law_988 : decode cL_law 988 = .ok (.iload_n 3, 1) := by decide +kernel
theorem dL_law_989 : decode cL_law 989 = .ok (.iconst 4, 1) := by decide +kernel
theorem dL_law_990 : decode cL_law 990 = .ok (.iadd, 1) := by decide +kernel
theorem dL_law_991 : decode cL_law 991 = .ok (.iaload, 1) := by decide +kernel
theorem dL_law_992 : decode cL_law 992 = .ok (.i2l, 1) := by decide +kernel
theorem dL_law_993 : decode cL_law 993 = .ok (.ldc2_w 125, 3) := by decide +kernel
theorem dL_law_996 : decode cL_law 996 = .ok (.land, 1) := by decide +kernel
theorem dL_law_997 : decode cL_law 997 = .ok (.lor, 1) := by decide +kernel
theorem dL_law_998 : decode cL_law 998 = .ok (.invokevirtual 127, 3) := by decide +kernel
theorem dL_law_1001 : decode cL_law 1001 = .ok (.aload_n 2, 1) := by decide +kernel
theorem dL_law_1002 : decode cL_law 1002 = .ok (.aload_n 0, 1) := by decide +kernel
theorem dL_law_1003 : decode cL_law 1003 = .ok (.iload_n 3, 1) := by decide +kernel
theorem dL_law_1004 : decode cL_law 1004 = .ok (.iconst 1, 1) := by decide +kernel
theorem dL_law_1005 : decode cL_law 1005 = .ok (.iadd, 1) := by decide +kernel
theorem dL_law_1006 : decode cL_law 1006 = .ok (.iaload, 1) := by decide +kernel
theorem dL_law_1007 : decode cL_law 1007 = .ok (.aload_n 0, 1) := by decide +kernel
theorem dL_law_1008 : decode cL_law 1008 = .ok (.iload_n 3, 1) := by decide +kernel
theorem dL_law_1009 : decode cL_law 1009 = .ok (.iconst 2, 1) := by decide +kernel
theorem dL_law_1010 : decode cL_law 1010 = .ok (.iadd, 1) := by decide +kernel
theorem dL_law_1011 : decode cL_law 1011 = .ok (.iaload, 1) := by decide +kernel
theorem dL_law_1012 : decode cL_law 1012 = .ok (.aload_n 0, 1) := by decide +kernel
theorem dL_law_1013 : decode cL_law 1013 = .ok (.iload_n 3, 1) := by decide +kernel
theorem dL_law_1014 : decode cL_law 1014 = .ok (.iconst 3, 1) := by decide +kernel
theorem dL_law_1015 : decode cL_law 1015 = .ok (.iadd, 1) := by decide +kernel
theorem dL_law_1016 : decode cL_law 1016 = .ok (.iaload, 1) := by decide +kernel
theorem dL_law_1017 : decode cL_law 1017 = .ok (.i2l, 1) := by decide +kernel
theorem dL_law_1018 : decode cL_law 1018 = .ok (.bipush 32, 2) := by decide +kernel
theorem dL_law_1020 : decode cL_law 1020 = .ok (.lshl, 1) := by decide +kernel
theorem dL_law_1021 : decode cL_law 1021 = .ok (.aload_n 0, 1) := by decide +kernel
theorem dL_law_1022 : decode cL_law 1022 = .ok (.iload_n 3, 1) := by decide +kernel
theorem dL_law_1023 : decode cL_law 1023 = .ok (.iconst 4, 1) := by decide +kernel
theorem dL_law_1024 : decode cL_law 1024 = .ok (.iadd, 1) := by decide +kernel
theorem dL_law_1025 : decode cL_law 1025 = .ok (.iaload, 1) := by decide +kernel
theorem dL_law_1026 : decode cL_law 1026 = .ok (.i2l, 1) := by decide +kernel
theorem dL_law_1027 : decode cL_law 1027 = .ok (.ldc2_w 125, 3) := by decide +kernel
theorem dL_law_1030 : decode cL_law 1030 = .ok (.land, 1) := by decide +kernel
theorem dL_law_1031 : decode cL_law 1031 = .ok (.lor, 1) := by decide +kernel
theorem dL_law_1032 : decode cL_law 1032 = .ok (.invokevirtual 131, 3) := by decide +kernel
theorem dL_law_1035 : decode cL_law 1035 = .ok (.if_icmp .eq 158, 3) := by decide +kernel
theorem dL_law_1038 : decode cL_law 1038 = .ok (.iconst 0, 1) := by decide +kernel
theorem dL_law_1039 : decode cL_law 1039 = .ok (.ireturn, 1) := by decide +kernel
theorem dL_law_1040 : decode cL_law 1040 = .ok (.aload_n 1, 1) := by decide +kernel
theorem dL_law_1041 : decode cL_law 1041 = .ok (.aload_n 0, 1) := by decide +kernel
theorem dL_law_1042 : decode cL_law 1042 = .ok (.iload_n 3, 1) := by decide +kernel
theorem dL_law_1043 : decode cL_law 1043 = .ok (.iconst 1, 1) := by decide +kernel
theorem dL_law_1044 : decode cL_law 1044 = .ok (.iadd, 1) := by decide +kernel
theorem dL_law_1045 : decode cL_law 1045 = .ok (.iaload, 1) := by decide +kernel
theorem dL_law_1046 : decode cL_law 1046 = .ok (.aload_n 0, 1) := by decide +kernel
theorem dL_law_1047 : decode cL_law 1047 = .ok (.iload_n 3, 1) := by decide +kernel
theorem dL_law_1048 : decode cL_law 1048 = .ok (.iconst 2, 1) := by decide +kernel
theorem dL_law_1049 : decode cL_law 1049 = .ok (.iadd, 1) := by decide +kernel
theorem dL_law_1050 : decode cL_law 1050 = .ok (.iaload, 1) := by decide +kernel
theorem dL_law_1051 : decode cL_law 1051 = .ok (.invokevirtual 132, 3) := by decide +kernel
theorem dL_law_1054 : decode cL_law 1054 = .ok (.aload_n 2, 1) := by decide +kernel
theorem dL_law_1055 : decode cL_law 1055 = .ok (.aload_n 0, 1) := by decide +kernel
theorem dL_law_1056 : decode cL_law 1056 = .ok (.iload_n 3, 1) := by decide +kernel
theorem dL_law_1057 : decode cL_law 1057 = .ok (.iconst 1, 1) := by decide +kernel
theorem dL_law_1058 : decode cL_law 1058 = .ok (.iadd, 1) := by decide +kernel
theorem dL_law_1059 : decode cL_law 1059 = .ok (.iaload, 1) := by decide +kernel
theorem dL_law_1060 : decode cL_law 1060 = .ok (.aload_n 0, 1) := by decide +kernel
theorem dL_law_1061 : decode cL_law 1061 = .ok (.iload_n 3, 1) := by decide +kernel
theorem dL_law_1062 : decode cL_law 1062 = .ok (.iconst 2, 1) := by decide +kernel
theorem dL_law_1063 : decode cL_law 1063 = .ok (.iadd, 1) := by decide +kernel
theorem dL_law_1064 : decode cL_law 1064 = .ok (.iaload, 1) := by decide +kernel
theorem dL_law_1065 : decode cL_law 1065 = .ok (.invokevirtual 136, 3) := by decide +kernel
theorem dL_law_1068 : decode cL_law 1068 = .ok (.lcmp, 1) := by decide +kernel
theorem dL_law_1069 : decode cL_law 1069 = .ok (.ifCond .eq 124, 3) := by decide +kernel
theorem dL_law_1072 : decode cL_law 1072 = .ok (.iconst 0, 1) := by decide +kernel
theorem dL_law_1073 : decode cL_law 1073 = .ok (.ireturn, 1) := by decide +kernel
theorem dL_law_1074 : decode cL_law 1074 = .ok (.aload_n 1, 1) := by decide +kernel
theorem dL_law_1075 : decode cL_law 1075 = .ok (.aload_n 0, 1) := by decide +kernel
theorem dL_law_1076 : decode cL_law 1076 = .ok (.iload_n 3, 1) := by decide +kernel
theorem dL_law_1077 : decode cL_law 1077 = .ok (.iconst 1, 1) := by decide +kernel
theorem dL_law_1078 : decode cL_law 1078 = .ok (.iadd, 1) := by decide +kernel
theorem dL_law_1079 : decode cL_law 1079 = .ok (.iaload, 1) := by decide +kernel
theorem dL_law_1080 : decode cL_law 1080 = .ok (.aload_n 0, 1) := by decide +kernel
theorem dL_law_1081 : decode cL_law 1081 = .ok (.iload_n 3, 1) := by decide +kernel
theorem dL_law_1082 : decode cL_law 1082 = .ok (.iconst 2, 1) := by decide +kernel
theorem dL_law_1083 : decode cL_law 1083 = .ok (.iadd, 1) := by decide +kernel
theorem dL_law_1084 : decode cL_law 1084 = .ok (.iaload, 1) := by decide +kernel
theorem dL_law_1085 : decode cL_law 1085 = .ok (.aload_n 0, 1) := by decide +kernel
theorem dL_law_1086 : decode cL_law 1086 = .ok (.iload_n 3, 1) := by decide +kernel
theorem dL_law_1087 : decode cL_law 1087 = .ok (.iconst 3, 1) := by decide +kernel
theorem dL_law_1088 : decode cL_law 1088 = .ok (.iadd, 1) := by decide +kernel
theorem dL_law_1089 : decode cL_law 1089 = .ok (.iaload, 1) := by decide +kernel
theorem dL_law_1090 : decode cL_law 1090 = .ok (.aload_n 0, 1) := by decide +kernel
theorem dL_law_1091 : decode cL_law 1091 = .ok (.iload_n 3, 1) := by decide +kernel
theorem dL_law_1092 : decode cL_law 1092 = .ok (.iconst 4, 1) := by decide +kernel
theorem dL_law_1093 : decode cL_law 1093 = .ok (.iadd, 1) := by decide +kernel
theorem dL_law_1094 : decode cL_law 1094 = .ok (.iaload, 1) := by decide +kernel
theorem dL_law_1095 : decode cL_law 1095 = .ok (.aload_n 0, 1) := by decide +kernel
theorem dL_law_1096 : decode cL_law 1096 = .ok (.iload_n 3, 1) := by decide +kernel
theorem dL_law_1097 : decode cL_law 1097 = .ok (.iconst 5, 1) := by decide +kernel
theorem dL_law_1098 : decode cL_law 1098 = .ok (.iadd, 1) := by decide +kernel
theorem dL_law_1099 : decode cL_law 1099 = .ok (.iaload, 1) := by decide +kernel
theorem dL_law_1100 : decode cL_law 1100 = .ok (.invokevirtual 137, 3) := by decide +kernel
theorem dL_law_1103 : decode cL_law 1103 = .ok (.aload_n 2, 1) := by decide +kernel
theorem dL_law_1104 : decode cL_law 1104 = .ok (.aload_n 0, 1) := by decide +kernel
theorem dL_law_1105 : decode cL_law 1105 = .ok (.iload_n 3, 1) := by decide +kernel
theorem dL_law_1106 : decode cL_law 1106 = .ok (.iconst 1, 1) := by decide +kernel
theorem dL_law_1107 : decode cL_law 1107 = .ok (.iadd, 1) := by decide +kernel
theorem dL_law_1108 : decode cL_law 1108 = .ok (.iaload, 1) := by decide +kernel
theorem dL_law_1109 : decode cL_law 1109 = .ok (.aload_n 0, 1) := by decide +kernel
theorem dL_law_1110 : decode cL_law 1110 = .ok (.iload_n 3, 1) := by decide +kernel
theorem dL_law_1111 : decode cL_law 1111 = .ok (.iconst 2, 1) := by decide +kernel
theorem dL_law_1112 : decode cL_law 1112 = .ok (.iadd, 1) := by decide +kernel
theorem dL_law_1113 : decode cL_law 1113 = .ok (.iaload, 1) := by decide +kernel
theorem dL_law_1114 : decode cL_law 1114 = .ok (.aload_n 0, 1) := by decide +kernel
theorem dL_law_1115 : decode cL_law 1115 = .ok (.iload_n 3, 1) := by decide +kernel
theorem dL_law_1116 : decode cL_law 1116 = .ok (.iconst 3, 1) := by decide +kernel
theorem dL_law_1117 : decode cL_law 1117 = .ok (.iadd, 1) := by decide +kernel
theorem dL_law_1118 : decode cL_law 1118 = .ok (.iaload, 1) := by decide +kernel
theorem dL_law_1119 : decode cL_law 1119 = .ok (.aload_n 0, 1) := by decide +kernel
theorem dL_law_1120 : decode cL_law 1120 = .ok (.iload_n 3, 1) := by decide +kernel
theorem dL_law_1121 : decode cL_law 1121 = .ok (.iconst 4, 1) := by decide +kernel
theorem dL_law_1122 : decode cL_law 1122 = .ok (.iadd, 1) := by decide +kernel
theorem dL_law_1123 : decode cL_law 1123 = .ok (.iaload, 1) := by decide +kernel
theorem dL_law_1124 : decode cL_law 1124 = .ok (.aload_n 0, 1) := by decide +kernel
theorem dL_law_1125 : decode cL_law 1125 = .ok (.iload_n 3, 1) := by decide +kernel
theorem dL_law_1126 : decode cL_law 1126 = .ok (.iconst 5, 1) := by decide +kernel
theorem dL_law_1127 : decode cL_law 1127 = .ok (.iadd, 1) := by decide +kernel
theorem dL_law_1128 : decode cL_law 1128 = .ok (.iaload, 1) := by decide +kernel
theorem dL_law_1129 : decode cL_law 1129 = .ok (.invokevirtual 141, 3) := by decide +kernel
theorem dL_law_1132 : decode cL_law 1132 = .ok (.if_icmp .eq 61, 3) := by decide +kernel
theorem dL_law_1135 : decode cL_law 1135 = .ok (.iconst 0, 1) := by decide +kernel
theorem dL_law_1136 : decode cL_law 1136 = .ok (.ireturn, 1) := by decide +kernel
theorem dL_law_1137 : decode cL_law 1137 = .ok (.aload_n 1, 1) := by decide +kernel
theorem dL_law_1138 : decode cL_law 1138 = .ok (.aload_n 0, 1) := by decide +kernel
theorem dL_law_1139 : decode cL_law 1139 = .ok (.iload_n 3, 1) := by decide +kernel
theorem dL_law_1140 : decode cL_law 1140 = .ok (.iconst 1, 1) := by decide +kernel
theorem dL_law_1141 : decode cL_law 1141 = .ok (.iadd, 1) := by decide +kernel
theorem dL_law_1142 : decode cL_law 1142 = .ok (.iaload, 1) := by decide +kernel
theorem dL_law_1143 : decode cL_law 1143 = .ok (.aload_n 0, 1) := by decide +kernel
theorem dL_law_1144 : decode cL_law 1144 = .ok (.iload_n 3, 1) := by decide +kernel
theorem dL_law_1145 : decode cL_law 1145 = .ok (.iconst 2, 1) := by decide +kernel
theorem dL_law_1146 : decode cL_law 1146 = .ok (.iadd, 1) := by decide +kernel
theorem dL_law_1147 : decode cL_law 1147 = .ok (.iaload, 1) := by decide +kernel
theorem dL_law_1148 : decode cL_law 1148 = .ok (.invokevirtual 142, 3) := by decide +kernel
theorem dL_law_1151 : decode cL_law 1151 = .ok (.aload_n 2, 1) := by decide +kernel
theorem dL_law_1152 : decode cL_law 1152 = .ok (.aload_n 0, 1) := by decide +kernel
theorem dL_law_1153 : decode cL_law 1153 = .ok (.iload_n 3, 1) := by decide +kernel
theorem dL_law_1154 : decode cL_law 1154 = .ok (.iconst 1, 1) := by decide +kernel
theorem dL_law_1155 : decode cL_law 1155 = .ok (.iadd, 1) := by decide +kernel
theorem dL_law_1156 : decode cL_law 1156 = .ok (.iaload, 1) := by decide +kernel
theorem dL_law_1157 : decode cL_law 1157 = .ok (.aload_n 0, 1) := by decide +kernel
theorem dL_law_1158 : decode cL_law 1158 = .ok (.iload_n 3, 1) := by decide +kernel
theorem dL_law_1159 : decode cL_law 1159 = .ok (.iconst 2, 1) := by decide +kernel
theorem dL_law_1160 : decode cL_law 1160 = .ok (.iadd, 1) := by decide +kernel
theorem dL_law_1161 : decode cL_law 1161 = .ok (.iaload, 1) := by decide +kernel
theorem dL_law_1162 : decode cL_law 1162 = .ok (.invokevirtual 145, 3) := by decide +kernel
theorem dL_law_1165 : decode cL_law 1165 = .ok (.if_icmp .eq 28, 3) := by decide +kernel
theorem dL_law_1168 : decode cL_law 1168 = .ok (.iconst 0, 1) := by decide +kernel
theorem dL_law_1169 : decode cL_law 1169 = .ok (.ireturn, 1) := by decide +kernel
theorem dL_law_1170 : decode cL_law 1170 = .ok (.aload_n 1, 1) := by decide +kernel
theorem dL_law_1171 : decode cL_law 1171 = .ok (.aload_n 0, 1) := by decide +kernel
theorem dL_law_1172 : decode cL_law 1172 = .ok (.iload_n 3, 1) := by decide +kernel
theorem dL_law_1173 : decode cL_law 1173 = .ok (.iconst 1, 1) := by decide +kernel
theorem dL_law_1174 : decode cL_law 1174 = .ok (.iadd, 1) := by decide +kernel
theorem dL_law_1175 : decode cL_law 1175 = .ok (.iaload, 1) := by decide +kernel
theorem dL_law_1176 : decode cL_law 1176 = .ok (.invokevirtual 146, 3) := by decide +kernel
theorem dL_law_1179 : decode cL_law 1179 = .ok (.aload_n 2, 1) := by decide +kernel
theorem dL_law_1180 : decode cL_law 1180 = .ok (.aload_n 0, 1) := by decide +kernel
theorem dL_law_1181 : decode cL_law 1181 = .ok (.iload_n 3, 1) := by decide +kernel
theorem dL_law_1182 : decode cL_law 1182 = .ok (.iconst 1, 1) := by decide +kernel
theorem dL_law_1183 : decode cL_law 1183 = .ok (.iadd, 1) := by decide +kernel
theorem dL_law_1184 : decode cL_law 1184 = .ok (.iaload, 1) := by decide +kernel
theorem dL_law_1185 : decode cL_law 1185 = .ok (.invokevirtual 149, 3) := by decide +kernel
theorem dL_law_1188 : decode cL_law 1188 = .ok (.if_icmp .eq 5, 3) := by decide +kernel
theorem dL_law_1191 : decode cL_law 1191 = .ok (.iconst 0, 1) := by decide +kernel
theorem dL_law_1192 : decode cL_law 1192 = .ok (.ireturn, 1) := by decide +kernel
theorem dL_law_1193 : decode cL_law 1193 = .ok (.iinc 3 6, 3) := by decide +kernel
theorem dL_law_1196 : decode cL_law 1196 = .ok (.goto (-1178), 3) := by decide +kernel
theorem dL_law_1199 : decode cL_law 1199 = .ok (.iconst 1, 1) := by decide +kernel
theorem dL_law_1200 : decode cL_law 1200 = .ok (.ireturn, 1) := by decide +kernel
