theorem dX9_adds_18 : decode cX9_adds 18 = .ok (.iload_n 2, 1) := by decide +kernel
theorem dX9_adds_19 : decode cX9_adds 19 = .ok (.iastore, 1) := by decide +kernel
theorem dX9_adds_20 : decode cX9_adds 20 = .ok (.aload_n 0, 1) := by decide +kernel
theorem dX9_adds_21 : decode cX9_adds 21 = .ok (.getfield 31, 3) := by decide +kernel
theorem dX9_adds_24 : decode cX9_adds 24 = .ok (.aload_n 0, 1) := by decide +kernel
theorem dX9_adds_25 : decode cX9_adds 25 = .ok (.getfield 169, 3) := by decide +kernel
theorem dX9_adds_28 : decode cX9_adds 28 = .ok (.iload_n 3, 1) := by decide +kernel
theorem dX9_adds_29 : decode cX9_adds 29 = .ok (.iastore, 1) := by decide +kernel
theorem dX9_adds_30 : decode cX9_adds 30 = .ok (.aload_n 0, 1) := by decide +kernel
theorem dX9_adds_31 : decode cX9_adds 31 = .ok (.dup, 1) := by decide +kernel
theorem dX9_adds_32 : decode cX9_adds 32 = .ok (.getfield 169, 3) := by decide +kernel
theorem dX9_adds_35 : decode cX9_adds 35 = .ok (.iconst 1, 1) := by decide +kernel
theorem dX9_adds_36 : decode cX9_adds 36 = .ok (.iadd, 1) := by decide +kernel
theorem dX9_adds_37 : decode cX9_adds 37 = .ok (.putfield 169, 3) := by decide +kernel
theorem dX9_adds_40 : decode cX9_adds 40 = .ok (.return_, 1) := by decide +kernel
theorem dX9_card_0 : decode cX9_card 0 = .ok (.aload_n 0, 1) := by decide +kernel
theorem dX9_card_1 : decode cX9_card 1 = .ok (.iload_n 1, 1) := by decide +kernel
theorem dX9_card_2 : decode cX9_card 2 = .ok (.i2l, 1) := by decide +kernel
theorem dX9_card_3 : decode cX9_card 3 = .ok (.iload_n 2, 1) := by decide +kernel
theorem dX9_card_4 : decode cX9_card 4 = .ok (.i2l, 1) := by decide +kernel
theorem dX9_card_5 : decode cX9_card 5 = .ok (.iload_n 3, 1) := by decide +kernel
theorem dX9_card_6 : decode cX9_card 6 = .ok (.i2l, 1) := by decide +kernel
theorem dX9_card_7 : decode cX9_card 7 = .ok (.invokevirtual 191, 3) := by decide +kernel
theorem dX9_card_10 : decode cX9_card 10 = .ok (.ifCond .ne 5, 3) := by decide +kernel
theorem dX9_card_13 : decode cX9_card 13 = .ok (.iconst (-1), 1) := by decide +kernel
theorem dX9_card_14 : decode cX9_card 14 = .ok (.ireturn, 1) := by decide +kernel
theorem dX9_card_15 : decode cX9_card 15 = .ok (.aload_n 0, 1) := by decide +kernel
theorem dX9_card_16 : decode cX9_card 16 = .ok (.getfield 169, 3) := by decide +kernel
theorem dX9_card_19 : decode cX9_card 19 = .ok (.bipush 20, 2) := by decide +kernel
theorem dX9_card_21 : decode cX9_card 21 = .ok (.if_icmp .ne 6, 3) := by decide +kernel
theorem dX9_card_24 : decode cX9_card 24 = .ok (.bipush (-3), 2) := by decide +kernel
theorem dX9_card_26 : decode cX9_card 26 = .ok (.ireturn, 1) := by decide +kernel
theorem dX9_card_27 : decode cX9_card 27 = .ok (.aload_n 0, 1) := by decide +kernel
theorem dX9_card_28 : decode cX9_card 28 = .ok (.iload_n 1, 1) := by decide +kernel
theorem dX9_card_29 : decode cX9_card 29 = .ok (.iload_n 2, 1) := by decide +kernel
theorem dX9_card_30 : decode cX9_card 30 = .ok (.iload_n 3, 1) := by decide +kernel
theorem dX9_card_31 : decode cX9_card 31 = .ok (.invokevirtual 194, 3) := by decide +kernel
theorem dX9_card_34 : decode cX9_card 34 = .ok (.aload_n 0, 1) := by decide +kernel
theorem dX9_card_35 : decode cX9_card 35 = .ok (.getfield 169, 3) := by decide +kernel
theorem dX9_card_38 : decode cX9_card 38 = .ok (.iconst 1, 1) := by decide +kernel
theorem dX9_card_39 : decode cX9_card 39 = .ok (.isub, 1) := by decide +kernel
theorem dX9_card_40 : decode cX9_card 40 = .ok (.ireturn, 1) := by decide +kernel
theorem dX9_cards_0 : decode cX9_cards 0 = .ok (.iload_n 1, 1) := by decide +kernel
theorem dX9_cards_1 : decode cX9_cards 1 = .ok (.invokestatic 198, 3) := by decide +kernel
theorem dX9_cards_4 : decode cX9_cards 4 = .ok (.ifCond .eq 15, 3) := by decide +kernel
theorem dX9_cards_7 : decode cX9_cards 7 = .ok (.iload_n 3, 1) := by decide +kernel
theorem dX9_cards_8 : decode cX9_cards 8 = .ok (.i2l, 1) := by decide +kernel
theorem dX9_cards_9 : decode cX9_cards 9 = .ok (.lconst 1, 1) := by decide +kernel
theorem dX9_cards_10 : decode cX9_cards 10 = .ok (.ldc2_w 201, 3) := by decide +kernel
theorem dX9_cards_13 : decode cX9_cards 13 = .ok (.invokestatic 162, 3) := by decide +kernel
theorem dX9_cards_16 : decode cX9_cards 16 = .ok (.ifCond .ne 5, 3) := by decide +kernel
theorem dX9_cards_19 : decode cX9_cards 19 = .ok (.iconst (-1), 1) := by decide +kernel
theorem dX9_cards_20 : decode cX9_cards 20 = .ok (.ireturn, 1) := by decide +kernel
theorem dX9_cards_21 : decode cX9_cards 21 = .ok (.aload_n 0, 1) := by decide +kernel
theorem dX9_cards_22 : decode cX9_cards 22 = .ok (.getfield 130, 3) := by decide +kernel
theorem dX9_cards_25 : decode cX9_cards 25 = .ok (.iload_n 1, 1) := by decide +kernel
theorem dX9_cards_26 : decode cX9_cards 26 = .ok (.iaload, 1) := by decide +kernel
theorem dX9_cards_27 : decode cX9_cards 27 = .ok (.ifCond .lt 17, 3) := by decide +kernel
theorem dX9_cards_30 : decode cX9_cards 30 = .ok (.aload_n 0, 1) := by decide +kernel
theorem dX9_cards_31 : decode cX9_cards 31 = .ok (.getfield 130, 3) := by decide +kernel
theorem dX9_cards_34 : decode cX9_cards 34 = .ok (.iload_n 1, 1) := by decide +kernel
theorem dX9_cards_35 : decode cX9_cards 35 = .ok (.iaload, 1) := by decide +kernel
theorem dX9_cards_36 : decode cX9_cards 36 = .ok (.bipush 51, 2) := by decide +kernel
theorem dX9_cards_38 : decode cX9_cards 38 = .ok (.if_icmp .eq 6, 3) := by decide +kernel
theorem dX9_cards_41 : decode cX9_cards 41 = .ok (.bipush (-12), 2) := by decide +kernel
theorem dX9_cards_43 : decode cX9_cards 43 = .ok (.ireturn, 1) := by decide +kernel
theorem dX9_cards_44 : decode cX9_cards 44 = .ok (.iconst 0, 1) := by decide +kernel
theorem dX9_cards_45 : decode cX9_cards 45 = .ok (.istore 4, 2) := by decide +kernel
theorem dX9_cards_47 : decode cX9_cards 47 = .ok (.aload_n 0, 1) := by decide +kernel
theorem dX9_cards_48 : decode cX9_cards 48 = .ok (.getfield 130, 3) := by decide +kernel
theorem dX9_cards_51 : decode cX9_cards 51 = .ok (.iload_n 1, 1) := by decide +kernel
theorem dX9_cards_52 : decode cX9_cards 52 = .ok (.iaload, 1) := by decide +kernel
theorem dX9_cards_53 : decode cX9_cards 53 = .ok (.bipush 51, 2) := by decide +kernel
theorem dX9_cards_55 : decode cX9_cards 55 = .ok (.if_icmp .ne 11, 3) := by decide +kernel
theorem dX9_cards_58 : decode cX9_cards 58 = .ok (.iload_n 2, 1) := by decide +kernel
theorem dX9_cards_59 : decode cX9_cards 59 = .ok (.ifCond .lt 7, 3) := by decide +kernel
theorem dX9_cards_62 : decode cX9_cards 62 = .ok (.iconst 1, 1) := by decide +kernel
theorem dX9_cards_63 : decode cX9_cards 63 = .ok (.goto 4, 3) := by decide +kernel
theorem dX9_cards_66 : decode cX9_cards 66 = .ok (.iconst 0, 1) := by decide +kernel
theorem dX9_cards_67 : decode cX9_cards 67 = .ok (.istore 5, 2) := by decide +kernel
theorem dX9_cards_69 : decode cX9_cards 69 = .ok (.iload 5, 2) := by decide +kernel
theorem dX9_cards_71 : decode cX9_cards 71 = .ok (.ifCond .eq 142, 3) := by decide +kernel
theorem dX9_cards_74 : decode cX9_cards 74 = .ok (.iload 4, 2) := by decide +kernel
theorem dX9_cards_76 : decode cX9_cards 76 = .ok (.iload_n 3, 1) := by decide +kernel
theorem dX9_cards_77 : decode cX9_cards 77 = .ok (.if_icmp .ge 136, 3) := by decide +kernel
theorem dX9_cards_80 : decode cX9_cards 80 = .ok (.iload_n 2, 1) := by decide +kernel
theorem dX9_cards_81 : decode cX9_cards 81 = .ok (.aload_n 0, 1) := by decide +kernel
theorem dX9_cards_82 : decode cX9_cards 82 = .ok (.getfield 133, 3) := by decide +kernel
theorem dX9_cards_85 : decode cX9_cards 85 = .ok (.iload_n 1, 1) := by decide +kernel
theorem dX9_cards_86 : decode cX9_cards 86 = .ok (.iaload, 1) := by decide +kernel
theorem dX9_cards_87 : decode cX9_cards 87 = .ok (.iconst 3, 1) := by decide +kernel
theorem dX9_cards_88 : decode cX9_cards 88 = .ok (.isub, 1) := by decide +kernel
theorem dX9_cards_89 : decode cX9_cards 89 = .ok (.iconst 3, 1) := by decide +kernel
theorem dX9_cards_90 : decode cX9_cards 90 = .ok (.iload 4, 2) := by decide +kernel
theorem dX9_cards_92 : decode cX9_cards 92 = .ok (.imul, 1) := by decide +kernel
theorem dX9_cards_93 : decode cX9_cards 93 = .ok (.isub, 1) := by decide +kernel
theorem dX9_cards_94 : decode cX9_cards 94 = .ok (.if_icmp .gt 16, 3) := by decide +kernel
theorem dX9_cards_97 : decode cX9_cards 97 = .ok (.aload_n 0, 1) := by decide +kernel
theorem dX9_cards_98 : decode cX9_cards 98 = .ok (.getfield 169, 3) := by decide +kernel
theorem dX9_cards_101 : decode cX9_cards 101 = .ok (.bipush 20, 2) := by decide +kernel
theorem dX9_cards_103 : decode cX9_cards 103 = .ok (.if_icmp .ge 7, 3) := by decide +kernel
theorem dX9_cards_106 : decode cX9_cards 106 = .ok (.iconst 1, 1) := by decide +kernel
theorem dX9_cards_107 : decode cX9_cards 107 = .ok (.goto 4, 3) := by decide +kernel
theorem dX9_cards_110 : decode cX9_cards 110 = .ok (.iconst 0, 1) := by decide +kernel
theorem dX9_cards_111 : decode cX9_cards 111 = .ok (.istore 5, 2) := by decide +kernel
theorem dX9_cards_113 : decode cX9_cards 113 = .ok (.bipush 60, 2) := by decide +kernel
theorem dX9_cards_115 : decode cX9_cards 115 = .ok (.iload_n 1, 1) := by decide +kernel
theorem dX9_cards_116 : decode cX9_cards 116 = .ok (.imul, 1) := by decide +kernel
theorem dX9_cards_117 : decode cX9_cards 117 = .ok (.iload_n 2, 1) := by decide +kernel
theorem dX9_cards_118 : decode cX9_cards 118 = .ok (.iadd, 1) := by decide +kernel
theorem dX9_cards_119 : decode cX9_cards 119 = .ok (.iconst 3, 1) := by decide +kernel
theorem dX9_cards_120 : decode cX9_cards 120 = .ok (.iload 4, 2) := by decide +kernel
theorem dX9_cards_122 : decode cX9_cards 122 = .ok (.imul, 1) := by decide +kernel
theorem dX9_cards_123 : decode cX9_cards 123 = .ok (.iadd, 1) := by decide +kernel
theorem dX9_cards_124 : decode cX9_cards 124 = .ok (.istore 6, 2) := by decide +kernel
theorem dX9_cards_126 : decode cX9_cards 126 = .ok (.iload 5, 2) := by decide +kernel
theorem dX9_cards_128 : decode cX9_cards 128 = .ok (.ifCond .eq 39, 3) := by decide +kernel
theorem dX9_cards_131 : decode cX9_cards 131 = .ok (.aload_n 0, 1) := by decide +kernel
theorem dX9_cards_132 : decode cX9_cards 132 = .ok (.aload_n 0, 1) := by decide +kernel
theorem dX9_cards_133 : decode cX9_cards 133 = .ok (.getfield 136, 3) := by decide +kernel
theorem dX9_cards_136 : decode cX9_cards 136 = .ok (.iload 6, 2) := by decide +kernel
theorem dX9_cards_138 : decode cX9_cards 138 = .ok (.laload, 1) := by decide +kernel
theorem dX9_cards_139 : decode cX9_cards 139 = .ok (.aload_n 0, 1) := by decide +kernel
theorem dX9_cards_140 : decode cX9_cards 140 = .ok (.getfield 136, 3) := by decide +kernel
theorem dX9_cards_143 : decode cX9_cards 143 = .ok (.iload 6, 2) := by decide +kernel
theorem dX9_cards_145 : decode cX9_cards 145 = .ok (.iconst 1, 1) := by decide +kernel
theorem dX9_cards_146 : decode cX9_cards 146 = .ok (.iadd, 1) := by decide +kernel
theorem dX9_cards_147 : decode cX9_cards 147 = .ok (.laload, 1) := by decide +kernel
theorem dX9_cards_148 : decode cX9_cards 148 = .ok (.aload_n 0, 1) := by decide +kernel
theorem dX9_cards_149 : decode cX9_cards 149 = .ok (.getfield 136, 3) := by decide +kernel
theorem dX9_cards_152 : decode cX9_cards 152 = .ok (.iload 6, 2) := by decide +kernel
theorem dX9_cards_154 : decode cX9_cards 154 = .ok (.iconst 2, 1) := by decide +kernel
theorem dX9_cards_155 : decode cX9_cards 155 = .ok (.iadd, 1) := by decide +kernel
theorem dX9_cards_156 : decode cX9_cards 156 = .ok (.laload, 1) := by decide +kernel
theorem dX9_cards_157 : decode cX9_cards 157 = .ok (.invokevirtual 191, 3) := by decide +kernel
theorem dX9_cards_160 : decode cX9_cards 160 = .ok (.ifCond .eq 7, 3) := by decide +kernel
theorem dX9_cards_163 : decode cX9_cards 163 = .ok (.iconst 1, 1) := by decide +kernel
theorem dX9_cards_164 : decode cX9_cards 164 = .ok (.goto 4, 3) := by decide +kernel
theorem dX9_cards_167 : decode cX9_cards 167 = .ok (.iconst 0, 1) := by decide +kernel
theorem dX9_cards_168 : decode cX9_cards 168 = .ok (.istore 5, 2) := by decide +kernel
theorem dX9_cards_170 : decode cX9_cards 170 = .ok (.iload 5, 2) := by decide +kernel
theorem dX9_cards_172 : decode cX9_cards 172 = .ok (.ifCond .eq 38, 3) := by decide +kernel
theorem dX9_cards_175 : decode cX9_cards 175 = .ok (.aload_n 0, 1) := by decide +kernel
theorem dX9_cards_176 : decode cX9_cards 176 = .ok (.aload_n 0, 1) := by decide +kernel
theorem dX9_cards_177 : decode cX9_cards 177 = .ok (.getfield 136, 3) := by decide +kernel
theorem dX9_cards_180 : decode cX9_cards 180 = .ok (.iload 6, 2) := by decide +kernel
theorem dX9_cards_182 : decode cX9_cards 182 = .ok (.laload, 1) := by decide +kernel
theorem dX9_cards_183 : decode cX9_cards 183 = .ok (.l2i, 1) := by decide +kernel
theorem dX9_cards_184 : decode cX9_cards 184 = .ok (.aload_n 0, 1) := by decide +kernel
theorem dX9_cards_185 : decode cX9_cards 185 = .ok (.getfield 136, 3) := by decide +kernel
theorem dX9_cards_188 : decode cX9_cards 188 = .ok (.iload 6, 2) := by decide +kernel
theorem dX9_cards_190 : decode cX9_cards 190 = .ok (.iconst 1, 1) := by decide +kernel
theorem dX9_cards_191 : decode cX9_cards 191 = .ok (.iadd, 1) := by decide +kernel
theorem dX9_cards_192 : decode cX9_cards 192 = .ok (.laload, 1) := by decide +kernel
theorem dX9_cards_193 : decode cX9_cards 193 = .ok (.l2i, 1) := by decide +kernel
theorem dX9_cards_194 : decode cX9_cards 194 = .ok (.aload_n 0, 1) := by decide +kernel
theorem dX9_cards_195 : decode cX9_cards 195 = .ok (.getfield 136, 3) := by decide +kernel
theorem dX9_cards_198 : decode cX9_cards 198 = .ok (.iload 6, 2) := by decide +kernel
theorem dX9_cards_200 : decode cX9_cards 200 = .ok (.iconst 2, 1) := by decide +kernel
theorem dX9_cards_201 : decode cX9_cards 201 = .ok (.iadd, 1) := by decide +kernel
theorem dX9_cards_202 : decode cX9_cards 202 = .ok (.laload, 1) := by decide +kernel
theorem dX9_cards_203 : decode cX9_cards 203 = .ok (.l2i, 1) := by decide +kernel
theorem dX9_cards_204 : decode cX9_cards 204 = .ok (.invokevirtual 194, 3) := by decide +kernel
theorem dX9_cards_207 : decode cX9_cards 207 = .ok (.iinc 4 1, 3) := by decide +kernel
theorem dX9_cards_210 : decode cX9_cards 210 = .ok (.goto (-141), 3) := by decide +kernel
theorem dX9_cards_213 : decode cX9_cards 213 = .ok (.iload 4, 2) := by decide +kernel
theorem dX9_cards_215 : decode cX9_cards 215 = .ok (.ireturn, 1) := by decide +kernel
theorem dX9_set_0 : decode cX9_set 0 = .ok (.iconst (-1), 1) := by decide +kernel
theorem dX9_set_1 : decode cX9_set 1 = .ok (.istore_n 3, 1) := by decide +kernel
theorem dX9_set_2 : decode cX9_set 2 = .ok (.iload_n 1, 1) := by decide +kernel
theorem dX9_set_3 : decode cX9_set 3 = .ok (.tableswitch 95 0 2 #[25, 49, 71], 25) := by decide +kernel
theorem dX9_set_28 : decode cX9_set 28 = .ok (.iload_n 2, 1) := by decide +kernel
theorem dX9_set_29 : decode cX9_set 29 = .ok (.i2l, 1) := by decide +kernel
theorem dX9_set_30 : decode cX9_set 30 = .ok (.lconst 0, 1) := by decide +kernel
theorem dX9_set_31 : decode cX9_set 31 = .ok (.ldc2_w 203, 3) := by decide +kernel
theorem dX9_set_34 : decode cX9_set 34 = .ok (.invokestatic 162, 3) := by decide +kernel
theorem dX9_set_37 : decode cX9_set 37 = .ok (.ifCond .eq 13, 3) := by decide +kernel
theorem dX9_set_40 : decode cX9_set 40 = .ok (.aload_n 0, 1) := by decide +kernel
theorem dX9_set_41 : decode cX9_set 41 = .ok (.getfield 205, 3) := by decide +kernel
theorem dX9_set_44 : decode cX9_set 44 = .ok (.istore_n 3, 1) := by decide +kernel
theorem dX9_set_45 : decode cX9_set 45 = .ok (.aload_n 0, 1) := by decide +kernel
theorem dX9_set_46 : decode cX9_set 46 = .ok (.iload_n 2, 1) := by decide +kernel
theorem dX9_set_47 : decode cX9_set 47 = .ok (.putfield 205, 3) := by decide +kernel
theorem dX9_set_50 : decode cX9_set 50 = .ok (.iload_n 3, 1) := by decide +kernel
theorem dX9_set_51 : decode cX9_set 51 = .ok (.ireturn, 1) := by decide +kernel
theorem dX9_set_52 : decode cX9_set 52 = .ok (.iload_n 2, 1) := by decide +kernel
theorem dX9_set_53 : decode cX9_set 53 = .ok (.i2l, 1) := by decide +kernel
theorem dX9_set_54 : decode cX9_set 54 = .ok (.lconst 0, 1) := by decide +kernel
theorem dX9_set_55 : decode cX9_set 55 = .ok (.lconst 1, 1) := by decide +kernel
theorem dX9_set_56 : decode cX9_set 56 = .ok (.invokestatic 162, 3) := by decide +kernel
theorem dX9_set_59 : decode cX9_set 59 = .ok (.ifCond .eq 13, 3) := by decide +kernel
theorem dX9_set_62 : decode cX9_set 62 = .ok (.aload_n 0, 1) := by decide +kernel
theorem dX9_set_63 : decode cX9_set 63 = .ok (.getfield 208, 3) := by decide +kernel
theorem dX9_set_66 : decode cX9_set 66 = .ok (.istore_n 3, 1) := by decide +kernel
theorem dX9_set_67 : decode cX9_set 67 = .ok (.aload_n 0, 1) := by decide +kernel
theorem dX9_set_68 : decode cX9_set 68 = .ok (.iload_n 2, 1) := by decide +kernel
theorem dX9_set_69 : decode cX9_set 69 = .ok (.putfield 208, 3) := by decide +kernel
theorem dX9_set_72 : decode cX9_set 72 = .ok (.iload_n 3, 1) := by decide +kernel
theorem dX9_set_73 : decode cX9_set 73 = .ok (.ireturn, 1) := by decide +kernel
theorem dX9_set_74 : decode cX9_set 74 = .ok (.iload_n 2, 1) := by decide +kernel
theorem dX9_set_75 : decode cX9_set 75 = .ok (.i2l, 1) := by decide +kernel
theorem dX9_set_76 : decode cX9_set 76 = .ok (.lconst 1, 1) := by decide +kernel
theorem dX9_set_77 : decode cX9_set 77 = .ok (.ldc2_w 172, 3) := by decide +kernel
theorem dX9_set_80 : decode cX9_set 80 = .ok (.invokestatic 162, 3) := by decide +kernel
theorem dX9_set_83 : decode cX9_set 83 = .ok (.ifCond .eq 13, 3) := by decide +kernel
theorem dX9_set_86 : decode cX9_set 86 = .ok (.aload_n 0, 1) := by decide +kernel
theorem dX9_set_87 : decode cX9_set 87 = .ok (.getfield 147, 3) := by decide +kernel
theorem dX9_set_90 : decode cX9_set 90 = .ok (.istore_n 3, 1) := by decide +kernel
theorem dX9_set_91 : decode cX9_set 91 = .ok (.aload_n 0, 1) := by decide +kernel
theorem dX9_set_92 : decode cX9_set 92 = .ok (.iload_n 2, 1) := by decide +kernel
theorem dX9_set_93 : decode cX9_set 93 = .ok (.putfield 147, 3) := by decide +kernel
theorem dX9_set_96 : decode cX9_set 96 = .ok (.iload_n 3, 1) := by decide +kernel
theorem dX9_set_97 : decode cX9_set 97 = .ok (.ireturn, 1) := by decide +kernel
theorem dX9_set_98 : decode cX9_set 98 = .ok (.iconst (-1), 1) := by decide +kernel
theorem dX9_set_99 : decode cX9_set 99 = .ok (.ireturn, 1) := by decide +kernel
theorem dX9_mend_0 : decode cX9_mend 0 = .ok (.iload_n 2, 1) := by decide +kernel
theorem dX9_mend_1 : decode cX9_mend 1 = .ok (.tableswitch 187 0 4 #[35, 62, 92, 127, 157], 35) := by decide +kernel
theorem dX9_mend_36 : decode cX9_mend 36 = .ok (.aload_n 0, 1) := by decide +kernel
theorem dX9_mend_37 : decode cX9_mend 37 = .ok (.iload_n 1, 1) := by decide +kernel
theorem dX9_mend_38 : decode cX9_mend 38 = .ok (.invokevirtual 211, 3) := by decide +kernel
theorem dX9_mend_41 : decode cX9_mend 41 = .ok (.ifCond .eq 19, 3) := by decide +kernel
theorem dX9_mend_44 : decode cX9_mend 44 = .ok (.iload_n 3, 1) := by decide +kernel
theorem dX9_mend_45 : decode cX9_mend 45 = .ok (.invokestatic 184, 3) := by decide +kernel
theorem dX9_mend_48 : decode cX9_mend 48 = .ok (.ifCond .eq 12, 3) := by decide +kernel
theorem dX9_mend_51 : decode cX9_mend 51 = .ok (.aload_n 0, 1) := by decide +kernel
theorem dX9_mend_52 : decode cX9_mend 52 = .ok (.iload_n 1, 1) := by decide +kernel
theorem dX9_mend_53 : decode cX9_mend 53 = .ok (.iload_n 3, 1) := by decide +kernel
theorem dX9_mend_54 : decode cX9_mend 54 = .ok (.invokevirtual 214, 3) := by decide +kernel
theorem dX9_mend_57 : decode cX9_mend 57 = .ok (.goto 5, 3) := by decide +kernel
theorem dX9_mend_60 : decode cX9_mend 60 = .ok (.ldc 218, 2) := by decide +kernel
theorem dX9_mend_62 : decode cX9_mend 62 = .ok (.ireturn, 1) := by decide +kernel
theorem dX9_mend_63 : decode cX9_mend 63 = .ok (.aload_n 0, 1) := by decide +kernel
theorem dX9_mend_64 : decode cX9_mend 64 = .ok (.iload_n 1, 1) := by decide +kernel
theorem dX9_mend_65 : decode cX9_mend 65 = .ok (.invokevirtual 211, 3) := by decide +kernel
theorem dX9_mend_68 : decode cX9_mend 68 = .ok (.ifCond .eq 22, 3) := by decide +kernel
theorem dX9_mend_71 : decode cX9_mend 71 = .ok (.iload_n 3, 1) := by decide +kernel
theorem dX9_mend_72 : decode cX9_mend 72 = .ok (.invokestatic 184, 3) := by decide +kernel
theorem dX9_mend_75 : decode cX9_mend 75 = .ok (.ifCond .eq 15, 3) := by decide +kernel
theorem dX9_mend_78 : decode cX9_mend 78 = .ok (.aload_n 0, 1) := by decide +kernel
theorem dX9_mend_79 : decode cX9_mend 79 = .ok (.bipush 10, 2) := by decide +kernel
theorem dX9_mend_81 : decode cX9_mend 81 = .ok (.iload_n 1, 1) := by decide +kernel
theorem dX9_mend_82 : decode cX9_mend 82 = .ok (.iadd, 1) := by decide +kernel
theorem dX9_mend_83 : decode cX9_mend 83 = .ok (.iload_n 3, 1) := by decide +kernel
theorem dX9_mend_84 : decode cX9_mend 84 = .ok (.invokevirtual 214, 3) := by decide +kernel
theorem dX9_mend_87 : decode cX9_mend 87 = .ok (.goto 5, 3) := by decide +kernel
theorem dX9_mend_90 : decode cX9_mend 90 = .ok (.ldc 218, 2) := by decide +kernel
theorem dX9_mend_92 : decode cX9_mend 92 = .ok (.ireturn, 1) := by decide +kernel
theorem dX9_mend_93 : decode cX9_mend 93 = .ok (.aload_n 0, 1) := by decide +kernel
theorem dX9_mend_94 : decode cX9_mend 94 = .ok (.iload_n 1, 1) := by decide +kernel
theorem dX9_mend_95 : decode cX9_mend 95 = .ok (.invokevirtual 211, 3) := by decide +kernel
theorem dX9_mend_98 : decode cX9_mend 98 = .ok (.ifCond .eq 27, 3) := by decide +kernel
theorem dX9_mend_101 : decode cX9_mend 101 = .ok (.iload_n 3, 1) := by decide +kernel
theorem dX9_mend_102 : decode cX9_mend 102 = .ok (.i2l, 1) := by decide +kernel
theorem dX9_mend_103 : decode cX9_mend 103 = .ok (.lconst 0, 1) := by decide +kernel
theorem dX9_mend_104 : decode cX9_mend 104 = .ok (.ldc2_w 174, 3) := by decide +kernel
theorem dX9_mend_107 : decode cX9_mend 107 = .ok (.invokestatic 162, 3) := by decide +kernel
theorem dX9_mend_110 : decode cX9_mend 110 = .ok (.ifCond .eq 15, 3) := by decide +kernel
theorem dX9_mend_113 : decode cX9_mend 113 = .ok (.aload_n 0, 1) := by decide +kernel
theorem dX9_mend_114 : decode cX9_mend 114 = .ok (.bipush 20, 2) := by decide +kernel
theorem dX9_mend_116 : decode cX9_mend 116 = .ok (.iload_n 1, 1) := by decide +kernel
theorem dX9_mend_117 : decode cX9_mend 117 = .ok (.iadd, 1) := by decide +kernel
theorem dX9_mend_118 : decode cX9_mend 118 = .ok (.iload_n 3, 1) := by decide +kernel
theorem dX9_mend_119 : decode cX9_mend 119 = .ok (.invokevirtual 214, 3) := by decide +kernel
theorem dX9_mend_122 : decode cX9_mend 122 = .ok (.goto 5, 3) := by decide +kernel
theorem dX9_mend_125 : decode cX9_mend 125 = .ok (.ldc 218, 2) := by decide +kernel
theorem dX9_mend_127 : decode cX9_mend 127 = .ok (.ireturn, 1) := by decide +kernel
theorem dX9_mend_128 : decode cX9_mend 128 = .ok (.aload_n 0, 1) := by decide +kernel
theorem dX9_mend_129 : decode cX9_mend 129 = .ok (.iload_n 1, 1) := by decide +kernel
theorem dX9_mend_130 : decode cX9_mend 130 = .ok (.invokevirtual 219, 3) := by decide +kernel
theorem dX9_mend_133 : decode cX9_mend 133 = .ok (.ifCond .eq 22, 3) := by decide +kernel
theorem dX9_mend_136 : decode cX9_mend 136 = .ok (.iload_n 3, 1) := by decide +kernel
theorem dX9_mend_137 : decode cX9_mend 137 = .ok (.invokestatic 180, 3) := by decide +kernel
theorem dX9_mend_140 : decode cX9_mend 140 = .ok (.ifCond .eq 15, 3) := by decide +kernel
theorem dX9_mend_143 : decode cX9_mend 143 = .ok (.aload_n 0, 1) := by decide +kernel
theorem dX9_mend_144 : decode cX9_mend 144 = .ok (.bipush 30, 2) := by decide +kernel
theorem dX9_mend_146 : decode cX9_mend 146 = .ok (.iload_n 1, 1) := by decide +kernel
theorem dX9_mend_147 : decode cX9_mend 147 = .ok (.iadd, 1) := by decide +kernel
theorem dX9_mend_148 : decode cX9_mend 148 = .ok (.iload_n 3, 1) := by decide +kernel
theorem dX9_mend_149 : decode cX9_mend 149 = .ok (.invokevirtual 214, 3) := by decide +kernel
theorem dX9_mend_152 : decode cX9_mend 152 = .ok (.goto 5, 3) := by decide +kernel
theorem dX9_mend_155 : decode cX9_mend 155 = .ok (.ldc 218, 2) := by decide +kernel
theorem dX9_mend_157 : decode cX9_mend 157 = .ok (.ireturn, 1) := by decide +kernel
theorem dX9_mend_158 : decode cX9_mend 158 = .ok (.aload_n 0, 1) := by decide +kernel
theorem dX9_mend_159 : decode cX9_mend 159 = .ok (.iload_n 1, 1) := by decide +kernel
theorem dX9_mend_160 : decode cX9_mend 160 = .ok (.invokevirtual 219, 3) := by decide +kernel
theorem dX9_mend_163 : decode cX9_mend 163 = .ok (.ifCond .eq 22, 3) := by decide +kernel
theorem dX9_mend_166 : decode cX9_mend 166 = .ok (.iload_n 3, 1) := by decide +kernel
theorem dX9_mend_167 : decode cX9_mend 167 = .ok (.invokestatic 184, 3) := by decide +kernel
theorem dX9_mend_170 : decode cX9_mend 170 = .ok (.ifCond .eq 15, 3) := by decide +kernel
theorem dX9_mend_173 : decode cX9_mend 173 = .ok (.aload_n 0, 1) := by decide +kernel
theorem dX9_mend_174 : decode cX9_mend 174 = .ok (.bipush 36, 2) := by decide +kernel
theorem dX9_mend_176 : decode cX9_mend 176 = .ok (.iload_n 1, 1) := by decide +kernel
theorem dX9_mend_177 : decode cX9_mend 177 = .ok (.iadd, 1) := by decide +kernel
theorem dX9_mend_178 : decode cX9_mend 178 = .ok (.iload_n 3, 1) := by decide +kernel
theorem dX9_mend_179 : decode cX9_mend 179 = .ok (.invokevirtual 214, 3) := by decide +kernel
theorem dX9_mend_182 : decode cX9_mend 182 = .ok (.goto 5, 3) := by decide +kernel
theorem dX9_mend_185 : decode cX9_mend 185 = .ok (.ldc 218, 2) := by decide +kernel
theorem dX9_mend_187 : decode cX9_mend 187 = .ok (.ireturn, 1) := by decide +kernel
theorem dX9_mend_188 : decode cX9_mend 188 = .ok (.ldc 218, 2) := by decide +kernel
theorem dX9_mend_190 : decode cX9_mend 190 = .ok (.ireturn, 1) := by decide +kernel
theorem dX9_of_0 : decode cX9_of 0 = .ok (.iload_n 2, 1) := by decide +kernel
theorem dX9_of_1 : decode cX9_of 1 = .ok (.tableswitch 299 0 22 #[107, 127, 150, 170, 299, 299, 299, 299, 299, 299, 193, 216, 299, 299, 299, 299, 299, 299, 299, 299, 239, 259, 279], 107) := by decide +kernel
theorem dX9_of_108 : decode cX9_of 108 = .ok (.aload_n 0, 1) := by decide +kernel
theorem dX9_of_109 : decode cX9_of 109 = .ok (.iload_n 1, 1) := by decide +kernel
theorem dX9_of_110 : decode cX9_of 110 = .ok (.invokevirtual 211, 3) := by decide +kernel
theorem dX9_of_113 : decode cX9_of 113 = .ok (.ifCond .eq 12, 3) := by decide +kernel
theorem dX9_of_116 : decode cX9_of 116 = .ok (.aload_n 0, 1) := by decide +kernel
theorem dX9_of_117 : decode cX9_of 117 = .ok (.getfield 9, 3) := by decide +kernel
theorem dX9_of_120 : decode cX9_of 120 = .ok (.iload_n 1, 1) := by decide +kernel
theorem dX9_of_121 : decode cX9_of 121 = .ok (.iaload, 1) := by decide +kernel
theorem dX9_of_122 : decode cX9_of 122 = .ok (.goto 5, 3) := by decide +kernel
theorem dX9_of_125 : decode cX9_of 125 = .ok (.ldc 218, 2) := by decide +kernel
theorem dX9_of_127 : decode cX9_of 127 = .ok (.ireturn, 1) := by decide +kernel
theorem dX9_of_128 : decode cX9_of 128 = .ok (.aload_n 0, 1) := by decide +kernel
theorem dX9_of_129 : decode cX9_of 129 = .ok (.iload_n 1, 1) := by decide +kernel
theorem dX9_of_130 : decode cX9_of 130 = .ok (.invokevirtual 211, 3) := by decide +kernel
theorem dX9_of_133 : decode cX9_of 133 = .ok (.ifCond .eq 15, 3) := by decide +kernel
theorem dX9_of_136 : decode cX9_of 136 = .ok (.aload_n 0, 1) := by decide +kernel
theorem dX9_of_137 : decode cX9_of 137 = .ok (.getfield 9, 3) := by decide +kernel
theorem dX9_of_140 : decode cX9_of 140 = .ok (.bipush 10, 2) := by decide +kernel
theorem dX9_of_142 : decode cX9_of 142 = .ok (.iload_n 1, 1) := by decide +kernel
theorem dX9_of_143 : decode cX9_of 143 = .ok (.iadd, 1) := by decide +kernel
theorem dX9_of_144 : decode cX9_of 144 = .ok (.iaload, 1) := by decide +kernel
theorem dX9_of_145 : decode cX9_of 145 = .ok (.goto 5, 3) := by decide +kernel
theorem dX9_of_148 : decode cX9_of 148 = .ok (.ldc 218, 2) := by decide +kernel
theorem dX9_of_150 : decode cX9_of 150 = .ok (.ireturn, 1) := by decide +kernel
theorem dX9_of_151 : decode cX9_of 151 = .ok (.aload_n 0, 1) := by decide +kernel
theorem dX9_of_152 : decode cX9_of 152 = .ok (.iload_n 1, 1) := by decide +kernel
theorem dX9_of_153 : decode cX9_of 153 = .ok (.invokevirtual 211, 3) := by decide +kernel
theorem dX9_of_156 : decode cX9_of 156 = .ok (.ifCond .eq 12, 3) := by decide +kernel
theorem dX9_of_159 : decode cX9_of 159 = .ok (.aload_n 0, 1) := by decide +kernel
theorem dX9_of_160 : decode cX9_of 160 = .ok (.getfield 22, 3) := by decide +kernel
theorem dX9_of_163 : decode cX9_of 163 = .ok (.iload_n 1, 1) := by decide +kernel
theorem dX9_of_164 : decode cX9_of 164 = .ok (.iaload, 1) := by decide +kernel
theorem dX9_of_165 : decode cX9_of 165 = .ok (.goto 5, 3) := by decide +kernel
theorem dX9_of_168 : decode cX9_of 168 = .ok (.ldc 218, 2) := by decide +kernel
theorem dX9_of_170 : decode cX9_of 170 = .ok (.ireturn, 1) := by decide +kernel
theorem dX9_of_171 : decode cX9_of 171 = .ok (.aload_n 0, 1) := by decide +kernel
theorem dX9_of_172 : decode cX9_of 172 = .ok (.iload_n 1, 1) := by decide +kernel
theorem dX9_of_173 : decode cX9_of 173 = .ok (.invokevirtual 211, 3) := by decide +kernel
theorem dX9_of_176 : decode cX9_of 176 = .ok (.ifCond .eq 15, 3) := by decide +kernel
theorem dX9_of_179 : decode cX9_of 179 = .ok (.aload_n 0, 1) := by decide +kernel
theorem dX9_of_180 : decode cX9_of 180 = .ok (.getfield 9, 3) := by decide +kernel
theorem dX9_of_183 : decode cX9_of 183 = .ok (.bipush 20, 2) := by decide +kernel
theorem dX9_of_185 : decode cX9_of 185 = .ok (.iload_n 1, 1) := by decide +kernel
theorem dX9_of_186 : decode cX9_of 186 = .ok (.iadd, 1) := by decide +kernel
theorem dX9_of_187 : decode cX9_of 187 = .ok (.iaload, 1) := by decide +kernel
theorem dX9_of_188 : decode cX9_of 188 = .ok (.goto 5, 3) := by decide +kernel
theorem dX9_of_191 : decode cX9_of 191 = .ok (.ldc 218, 2) := by decide +kernel
theorem dX9_of_193 : decode cX9_of 193 = .ok (.ireturn, 1) := by decide +kernel
theorem dX9_of_194 : decode cX9_of 194 = .ok (.aload_n 0, 1) := by decide +kernel
theorem dX9_of_195 : decode cX9_of 195 = .ok (.iload_n 1, 1) := by decide +kernel
theorem dX9_of_196 : decode cX9_of 196 = .ok (.invokevirtual 219, 3) := by decide +kernel
theorem dX9_of_199 : decode cX9_of 199 = .ok (.ifCond .eq 15, 3) := by decide +kernel
theorem dX9_of_202 : decode cX9_of 202 = .ok (.aload_n 0, 1) := by decide +kernel
theorem dX9_of_203 : decode cX9_of 203 = .ok (.getfield 9, 3) := by decide +kernel
theorem dX9_of_206 : decode cX9_of 206 = .ok (.bipush 30, 2) := by decide +kernel
theorem dX9_of_208 : decode cX9_of 208 = .ok (.iload_n 1, 1) := by decide +kernel
theorem dX9_of_209 : decode cX9_of 209 = .ok (.iadd, 1) := by decide +kernel
theorem dX9_of_210 : decode cX9_of 210 = .ok (.iaload, 1) := by decide +kernel
theorem dX9_of_211 : decode cX9_of 211 = .ok (.goto 5, 3) := by decide +kernel
theorem dX9_of_214 : decode cX9_of 214 = .ok (.ldc 218, 2) := by decide +kernel
theorem dX9_of_216 : decode cX9_of 216 = .ok (.ireturn, 1) := by decide +kernel
theorem dX9_of_217 : decode cX9_of 217 = .ok (.aload_n 0, 1) := by decide +kernel
theorem dX9_of_218 : decode cX9_of 218 = .ok (.iload_n 1, 1) := by decide +kernel
theorem dX9_of_219 : decode cX9_of 219 = .ok (.invokevirtual 219, 3) := by decide +kernel
theorem dX9_of_222 : decode cX9_of 222 = .ok (.ifCond .eq 15, 3) := by decide +kernel
theorem dX9_of_225 : decode cX9_of 225 = .ok (.aload_n 0, 1) := by decide +kernel
theorem dX9_of_226 : decode cX9_of 226 = .ok (.getfield 9, 3) := by decide +kernel
theorem dX9_of_229 : decode cX9_of 229 = .ok (.bipush 36, 2) := by decide +kernel
theorem dX9_of_231 : decode cX9_of 231 = .ok (.iload_n 1, 1) := by decide +kernel
theorem dX9_of_232 : decode cX9_of 232 = .ok (.iadd, 1) := by decide +kernel
theorem dX9_of_233 : decode cX9_of 233 = .ok (.iaload, 1) := by decide +kernel
theorem dX9_of_234 : decode cX9_of 234 = .ok (.goto 5, 3) := by decide +kernel
theorem dX9_of_237 : decode cX9_of 237 = .ok (.ldc 218, 2) := by decide +kernel
theorem dX9_of_239 : decode cX9_of 239 = .ok (.ireturn, 1) := by decide +kernel
theorem dX9_of_240 : decode cX9_of 240 = .ok (.aload_n 0, 1) := by decide +kernel
theorem dX9_of_241 : decode cX9_of 241 = .ok (.iload_n 1, 1) := by decide +kernel
theorem dX9_of_242 : decode cX9_of 242 = .ok (.invokevirtual 222, 3) := by decide +kernel
theorem dX9_of_245 : decode cX9_of 245 = .ok (.ifCond .eq 12, 3) := by decide +kernel
theorem dX9_of_248 : decode cX9_of 248 = .ok (.aload_n 0, 1) := by decide +kernel
theorem dX9_of_249 : decode cX9_of 249 = .ok (.getfield 25, 3) := by decide +kernel
theorem dX9_of_252 : decode cX9_of 252 = .ok (.iload_n 1, 1) := by decide +kernel
theorem dX9_of_253 : decode cX9_of 253 = .ok (.iaload, 1) := by decide +kernel
theorem dX9_of_254 : decode cX9_of 254 = .ok (.goto 5, 3) := by decide +kernel
theorem dX9_of_257 : decode cX9_of 257 = .ok (.ldc 218, 2) := by decide +kernel
theorem dX9_of_259 : decode cX9_of 259 = .ok (.ireturn, 1) := by decide +kernel
theorem dX9_of_260 : decode cX9_of 260 = .ok (.aload_n 0, 1) := by decide +kernel
theorem dX9_of_261 : decode cX9_of 261 = .ok (.iload_n 1, 1) := by decide +kernel
theorem dX9_of_262 : decode cX9_of 262 = .ok (.invokevirtual 222, 3) := by decide +kernel
theorem dX9_of_265 : decode cX9_of 265 = .ok (.ifCond .eq 12, 3) := by decide +kernel
theorem dX9_of_268 : decode cX9_of 268 = .ok (.aload_n 0, 1) := by decide +kernel
theorem dX9_of_269 : decode cX9_of 269 = .ok (.getfield 28, 3) := by decide +kernel
theorem dX9_of_272 : decode cX9_of 272 = .ok (.iload_n 1, 1) := by decide +kernel
theorem dX9_of_273 : decode cX9_of 273 = .ok (.iaload, 1) := by decide +kernel
theorem dX9_of_274 : decode cX9_of 274 = .ok (.goto 5, 3) := by decide +kernel
theorem dX9_of_277 : decode cX9_of 277 = .ok (.ldc 218, 2) := by decide +kernel
theorem dX9_of_279 : decode cX9_of 279 = .ok (.ireturn, 1) := by decide +kernel
theorem dX9_of_280 : decode cX9_of 280 = .ok (.aload_n 0, 1) := by decide +kernel
theorem dX9_of_281 : decode cX9_of 281 = .ok (.iload_n 1, 1) := by decide +kernel
theorem dX9_of_282 : decode cX9_of 282 = .ok (.invokevirtual 222, 3) := by decide +kernel
theorem dX9_of_285 : decode cX9_of 285 = .ok (.ifCond .eq 12, 3) := by decide +kernel
theorem dX9_of_288 : decode cX9_of 288 = .ok (.aload_n 0, 1) := by decide +kernel
theorem dX9_of_289 : decode cX9_of 289 = .ok (.getfield 31, 3) := by decide +kernel
theorem dX9_of_292 : decode cX9_of 292 = .ok (.iload_n 1, 1) := by decide +kernel
theorem dX9_of_293 : decode cX9_of 293 = .ok (.iaload, 1) := by decide +kernel
theorem dX9_of_294 : decode cX9_of 294 = .ok (.goto 5, 3) := by decide +kernel
theorem dX9_of_297 : decode cX9_of 297 = .ok (.ldc 218, 2) := by decide +kernel
theorem dX9_of_299 : decode cX9_of 299 = .ok (.ireturn, 1) := by decide +kernel
theorem dX9_of_300 : decode cX9_of 300 = .ok (.ldc 218, 2) := by decide +kernel
theorem dX9_of_302 : decode cX9_of 302 = .ok (.ireturn, 1) := by decide +kernel
theorem dX9_feed_0 : decode cX9_feed 0 = .ok (.iload_n 1, 1) := by decide +kernel
theorem dX9_feed_1 : decode cX9_feed 1 = .ok (.i2l, 1) := by decide +kernel
theorem dX9_feed_2 : decode cX9_feed 2 = .ok (.lconst 0, 1) := by decide +kernel
theorem dX9_feed_3 : decode cX9_feed 3 = .ok (.ldc2_w 225, 3) := by decide +kernel
theorem dX9_feed_6 : decode cX9_feed 6 = .ok (.invokestatic 162, 3) := by decide +kernel
theorem dX9_feed_9 : decode cX9_feed 9 = .ok (.ifCond .ne 5, 3) := by decide +kernel
theorem dX9_feed_12 : decode cX9_feed 12 = .ok (.iconst (-1), 1) := by decide +kernel
theorem dX9_feed_13 : decode cX9_feed 13 = .ok (.ireturn, 1) := by decide +kernel
theorem dX9_feed_14 : decode cX9_feed 14 = .ok (.aload_n 0, 1) := by decide +kernel
theorem dX9_feed_15 : decode cX9_feed 15 = .ok (.getfield 227, 3) := by decide +kernel
theorem dX9_feed_18 : decode cX9_feed 18 = .ok (.bipush 120, 2) := by decide +kernel
theorem dX9_feed_20 : decode cX9_feed 20 = .ok (.if_icmp .ne 6, 3) := by decide +kernel
theorem dX9_feed_23 : decode cX9_feed 23 = .ok (.bipush (-3), 2) := by decide +kernel
theorem dX9_feed_25 : decode cX9_feed 25 = .ok (.ireturn, 1) := by decide +kernel
theorem dX9_feed_26 : decode cX9_feed 26 = .ok (.aload_n 0, 1) := by decide +kernel
theorem dX9_feed_27 : decode cX9_feed 27 = .ok (.getfield 34, 3) := by decide +kernel
theorem dX9_feed_30 : decode cX9_feed 30 = .ok (.aload_n 0, 1) := by decide +kernel
theorem dX9_feed_31 : decode cX9_feed 31 = .ok (.getfield 227, 3) := by decide +kernel
theorem dX9_feed_34 : decode cX9_feed 34 = .ok (.iload_n 1, 1) := by decide +kernel
theorem dX9_feed_35 : decode cX9_feed 35 = .ok (.iastore, 1) := by decide +kernel
theorem dX9_feed_36 : decode cX9_feed 36 = .ok (.aload_n 0, 1) := by decide +kernel
theorem dX9_feed_37 : decode cX9_feed 37 = .ok (.dup, 1) := by decide +kernel
theorem dX9_feed_38 : decode cX9_feed 38 = .ok (.getfield 227, 3) := by decide +kernel
theorem dX9_feed_41 : decode cX9_feed 41 = .ok (.iconst 1, 1) := by decide +kernel
theorem dX9_feed_42 : decode cX9_feed 42 = .ok (.iadd, 1) := by decide +kernel
theorem dX9_feed_43 : decode cX9_feed 43 = .ok (.putfield 227, 3) := by decide +kernel
theorem dX9_feed_46 : decode cX9_feed 46 = .ok (.aload_n 0, 1) := by decide +kernel
theorem dX9_feed_47 : decode cX9_feed 47 = .ok (.getfield 227, 3) := by decide +kernel
theorem dX9_feed_50 : decode cX9_feed 50 = .ok (.ireturn, 1) := by decide +kernel
theorem dX9_byteAt_0 : decode cX9_byteAt 0 = .ok (.aload_n 0, 1) := by decide +kernel
theorem dX9_byteAt_1 : decode cX9_byteAt 1 = .ok (.getfield 230, 3) := by decide +kernel
theorem dX9_byteAt_4 : decode cX9_byteAt 4 = .ok (.aload_n 0, 1) := by decide +kernel
theorem dX9_byteAt_5 : decode cX9_byteAt 5 = .ok (.getfield 233, 3) := by decide +kernel
theorem dX9_byteAt_8 : decode cX9_byteAt 8 = .ok (.if_icmp .ge 39, 3) := by decide +kernel
theorem dX9_byteAt_11 : decode cX9_byteAt 11 = .ok (.aload_n 0, 1) := by decide +kernel
theorem dX9_byteAt_12 : decode cX9_byteAt 12 = .ok (.getfield 236, 3) := by decide +kernel
theorem dX9_byteAt_15 : decode cX9_byteAt 15 = .ok (.ifCond .ge 15, 3) := by decide +kernel
theorem dX9_byteAt_18 : decode cX9_byteAt 18 = .ok (.aload_n 0, 1) := by decide +kernel
theorem dX9_byteAt_19 : decode cX9_byteAt 19 = .ok (.getfield 34, 3) := by decide +kernel
theorem dX9_byteAt_22 : decode cX9_byteAt 22 = .ok (.aload_n 0, 1) := by decide +kernel
theorem dX9_byteAt_23 : decode cX9_byteAt 23 = .ok (.getfield 230, 3) := by decide +kernel
theorem dX9_byteAt_26 : decode cX9_byteAt 26 = .ok (.iaload, 1) := by decide +kernel
theorem dX9_byteAt_27 : decode cX9_byteAt 27 = .ok (.goto 21, 3) := by decide +kernel
theorem dX9_byteAt_30 : decode cX9_byteAt 30 = .ok (.aload_n 0, 1) := by decide +kernel
theorem dX9_byteAt_31 : decode cX9_byteAt 31 = .ok (.getfield 37, 3) := by decide +kernel
theorem dX9_byteAt_34 : decode cX9_byteAt 34 = .ok (.aload_n 0, 1) := by decide +kernel
theorem dX9_byteAt_35 : decode cX9_byteAt 35 = .ok (.getfield 236, 3) := by decide +kernel
theorem dX9_byteAt_38 : decode cX9_byteAt 38 = .ok (.aload_n 0, 1) := by decide +kernel
theorem dX9_byteAt_39 : decode cX9_byteAt 39 = .ok (.getfield 230, 3) := by decide +kernel
theorem dX9_byteAt_42 : decode cX9_byteAt 42 = .ok (.iadd, 1) := by decide +kernel
theorem dX9_byteAt_43 : decode cX9_byteAt 43 = .ok (.iaload, 1) := by decide +kernel
theorem dX9_byteAt_44 : decode cX9_byteAt 44 = .ok (.goto 4, 3) := by decide +kernel
theorem dX9_byteAt_47 : decode cX9_byteAt 47 = .ok (.iconst 0, 1) := by decide +kernel
theorem dX9_byteAt_48 : decode cX9_byteAt 48 = .ok (.ireturn, 1) := by decide +kernel
theorem dX9_wrong_0 : decode cX9_wrong 0 = .ok (.aload_n 0, 1) := by decide +kernel
theorem dX9_wrong_1 : decode cX9_wrong 1 = .ok (.aload_n 0, 1) := by decide +kernel
theorem dX9_wrong_2 : decode cX9_wrong 2 = .ok (.getfield 239, 3) := by decide +kernel
theorem dX9_wrong_5 : decode cX9_wrong 5 = .ok (.ifCond .ge 10, 3) := by decide +kernel
theorem dX9_wrong_8 : decode cX9_wrong 8 = .ok (.aload_n 0, 1) := by decide +kernel
theorem dX9_wrong_9 : decode cX9_wrong 9 = .ok (.getfield 230, 3) := by decide +kernel
theorem dX9_wrong_12 : decode cX9_wrong 12 = .ok (.goto 7, 3) := by decide +kernel
theorem dX9_wrong_15 : decode cX9_wrong 15 = .ok (.aload_n 0, 1) := by decide +kernel
theorem dX9_wrong_16 : decode cX9_wrong 16 = .ok (.getfield 239, 3) := by decide +kernel
theorem dX9_wrong_19 : decode cX9_wrong 19 = .ok (.putfield 239, 3) := by decide +kernel
theorem dX9_wrong_22 : decode cX9_wrong 22 = .ok (.iconst 0, 1) := by decide +kernel
theorem dX9_wrong_23 : decode cX9_wrong 23 = .ok (.ireturn, 1) := by decide +kernel
theorem dX9_takes_0 : decode cX9_takes 0 = .ok (.aload_n 0, 1) := by decide +kernel
theorem dX9_takes_1 : decode cX9_takes 1 = .ok (.getfield 239, 3) := by decide +kernel
theorem dX9_takes_4 : decode cX9_takes 4 = .ok (.ifCond .ge 11, 3) := by decide +kernel
theorem dX9_takes_7 : decode cX9_takes 7 = .ok (.aload_n 0, 1) := by decide +kernel
theorem dX9_takes_8 : decode cX9_takes 8 = .ok (.invokevirtual 242, 3) := by decide +kernel
theorem dX9_takes_11 : decode cX9_takes 11 = .ok (.iload_n 1, 1) := by decide +kernel
theorem dX9_takes_12 : decode cX9_takes 12 = .ok (.if_icmp .eq 5, 3) := by decide +kernel
theorem dX9_takes_15 : decode cX9_takes 15 = .ok (.iconst 0, 1) := by decide +kernel
theorem dX9_takes_16 : decode cX9_takes 16 = .ok (.ireturn, 1) := by decide +kernel
theorem dX9_takes_17 : decode cX9_takes 17 = .ok (.aload_n 0, 1) := by decide +kernel
theorem dX9_takes_18 : decode cX9_takes 18 = .ok (.dup, 1) := by decide +kernel
theorem dX9_takes_19 : decode cX9_takes 19 = .ok (.getfield 230, 3) := by decide +kernel
theorem dX9_takes_22 : decode cX9_takes 22 = .ok (.iconst 1, 1) := by decide +kernel
theorem dX9_takes_23 : decode cX9_takes 23 = .ok (.iadd, 1) := by decide +kernel
theorem dX9_takes_24 : decode cX9_takes 24 = .ok (.putfield 230, 3) := by decide +kernel
theorem dX9_takes_27 : decode cX9_takes 27 = .ok (.iconst 1, 1) := by decide +kernel
theorem dX9_takes_28 : decode cX9_takes 28 = .ok (.ireturn, 1) := by decide +kernel
theorem dX9_either_0 : decode cX9_either 0 = .ok (.aload_n 0, 1) := by decide +kernel
theorem dX9_either_1 : decode cX9_either 1 = .ok (.invokevirtual 246, 3) := by decide +kernel
theorem dX9_either_4 : decode cX9_either 4 = .ok (.istore_n 1, 1) := by decide +kernel
theorem dX9_either_5 : decode cX9_either 5 = .ok (.aload_n 0, 1) := by decide +kernel
theorem dX9_either_6 : decode cX9_either 6 = .ok (.bipush 124, 2) := by decide +kernel
theorem dX9_either_8 : decode cX9_either 8 = .ok (.invokevirtual 249, 3) := by decide +kernel
theorem dX9_either_11 : decode cX9_either 11 = .ok (.ifCond .eq 25, 3) := by decide +kernel
theorem dX9_either_14 : decode cX9_either 14 = .ok (.aload_n 0, 1) := by decide +kernel
theorem dX9_either_15 : decode cX9_either 15 = .ok (.invokevirtual 246, 3) := by decide +kernel
theorem dX9_either_18 : decode cX9_either 18 = .ok (.istore_n 2, 1) := by decide +kernel
theorem dX9_either_19 : decode cX9_either 19 = .ok (.iload_n 1, 1) := by decide +kernel
theorem dX9_either_20 : decode cX9_either 20 = .ok (.ifCond .ne 7, 3) := by decide +kernel
theorem dX9_either_23 : decode cX9_either 23 = .ok (.iload_n 2, 1) := by decide +kernel
theorem dX9_either_24 : decode cX9_either 24 = .ok (.ifCond .eq 7, 3) := by decide +kernel
theorem dX9_either_27 : decode cX9_either 27 = .ok (.iconst 1, 1) := by decide +kernel
theorem dX9_either_28 : decode cX9_either 28 = .ok (.goto 4, 3) := by decide +kernel
theorem dX9_either_31 : decode cX9_either 31 = .ok (.iconst 0, 1) := by decide +kernel
theorem dX9_either_32 : decode cX9_either 32 = .ok (.istore_n 1, 1) := by decide +kernel
theorem dX9_either_33 : decode cX9_either 33 = .ok (.goto (-28), 3) := by decide +kernel
theorem dX9_either_36 : decode cX9_either 36 = .ok (.iload_n 1, 1) := by decide +kernel
theorem dX9_either_37 : decode cX9_either 37 = .ok (.ireturn, 1) := by decide +kernel
theorem dX9_both_0 : decode cX9_both 0 = .ok (.aload_n 0, 1) := by decide +kernel
theorem dX9_both_1 : decode cX9_both 1 = .ok (.invokevirtual 252, 3) := by decide +kernel
theorem dX9_both_4 : decode cX9_both 4 = .ok (.istore_n 1, 1) := by decide +kernel
theorem dX9_both_5 : decode cX9_both 5 = .ok (.aload_n 0, 1) := by decide +kernel
theorem dX9_both_6 : decode cX9_both 6 = .ok (.bipush 38, 2) := by decide +kernel
theorem dX9_both_8 : decode cX9_both 8 = .ok (.invokevirtual 249, 3) := by decide +kernel
theorem dX9_both_11 : decode cX9_both 11 = .ok (.ifCond .eq 25, 3) := by decide +kernel
theorem dX9_both_14 : decode cX9_both 14 = .ok (.aload_n 0, 1) := by decide +kernel
theorem dX9_both_15 : decode cX9_both 15 = .ok (.invokevirtual 252, 3) := by decide +kernel
theorem dX9_both_18 : decode cX9_both 18 = .ok (.istore_n 2, 1) := by decide +kernel
theorem dX9_both_19 : decode cX9_both 19 = .ok (.iload_n 1, 1) := by decide +kernel
theorem dX9_both_20 : decode cX9_both 20 = .ok (.ifCond .eq 11, 3) := by decide +kernel
theorem dX9_both_23 : decode cX9_both 23 = .ok (.iload_n 2, 1) := by decide +kernel
theorem dX9_both_24 : decode cX9_both 24 = .ok (.ifCond .eq 7, 3) := by decide +kernel
theorem dX9_both_27 : decode cX9_both 27 = .ok (.iconst 1, 1) := by decide +kernel
theorem dX9_both_28 : decode cX9_both 28 = .ok (.goto 4, 3) := by decide +kernel
theorem dX9_both_31 : decode cX9_both 31 = .ok (.iconst 0, 1) := by decide +kernel
theorem dX9_both_32 : decode cX9_both 32 = .ok (.istore_n 1, 1) := by decide +kernel
theorem dX9_both_33 : decode cX9_both 33 = .ok (.goto (-28), 3) := by decide +kernel
theorem dX9_both_36 : decode cX9_both 36 = .ok (.iload_n 1, 1) := by decide +kernel
theorem dX9_both_37 : decode cX9_both 37 = .ok (.ireturn, 1) := by decide +kernel
theorem dX9_compared_0 : decode cX9_compared 0 = .ok (.aload_n 0, 1) := by decide +kernel
theorem dX9_compared_1 : decode cX9_compared 1 = .ok (.invokevirtual 255, 3) := by decide +kernel
theorem dX9_compared_4 : decode cX9_compared 4 = .ok (.istore_n 1, 1) := by decide +kernel
theorem dX9_compared_5 : decode cX9_compared 5 = .ok (.aload_n 0, 1) := by decide +kernel
theorem dX9_compared_6 : decode cX9_compared 6 = .ok (.invokevirtual 242, 3) := by decide +kernel
theorem dX9_compared_9 : decode cX9_compared 9 = .ok (.istore_n 2, 1) := by decide +kernel
theorem dX9_compared_10 : decode cX9_compared 10 = .ok (.aload_n 0, 1) := by decide +kernel
theorem dX9_compared_11 : decode cX9_compared 11 = .ok (.getfield 239, 3) := by decide +kernel
theorem dX9_compared_14 : decode cX9_compared 14 = .ok (.ifCond .ge 21, 3) := by decide +kernel
theorem dX9_compared_17 : decode cX9_compared 17 = .ok (.iload_n 2, 1) := by decide +kernel
theorem dX9_compared_18 : decode cX9_compared 18 = .ok (.bipush 60, 2) := by decide +kernel
theorem dX9_compared_20 : decode cX9_compared 20 = .ok (.if_icmp .eq 17, 3) := by decide +kernel
theorem dX9_compared_23 : decode cX9_compared 23 = .ok (.iload_n 2, 1) := by decide +kernel
theorem dX9_compared_24 : decode cX9_compared 24 = .ok (.bipush 61, 2) := by decide +kernel
theorem dX9_compared_26 : decode cX9_compared 26 = .ok (.if_icmp .eq 11, 3) := by decide +kernel
theorem dX9_compared_29 : decode cX9_compared 29 = .ok (.iload_n 2, 1) := by decide +kernel
theorem dX9_compared_30 : decode cX9_compared 30 = .ok (.bipush 62, 2) := by decide +kernel
theorem dX9_compared_32 : decode cX9_compared 32 = .ok (.if_icmp .eq 5, 3) := by decide +kernel
theorem dX9_compared_35 : decode cX9_compared 35 = .ok (.iload_n 1, 1) := by decide +kernel
theorem dX9_compared_36 : decode cX9_compared 36 = .ok (.ireturn, 1) := by decide +kernel
theorem dX9_compared_37 : decode cX9_compared 37 = .ok (.aload_n 0, 1) := by decide +kernel
theorem dX9_compared_38 : decode cX9_compared 38 = .ok (.dup, 1) := by decide +kernel
theorem dX9_compared_39 : decode cX9_compared 39 = .ok (.getfield 230, 3) := by decide +kernel
theorem dX9_compared_42 : decode cX9_compared 42 = .ok (.iconst 1, 1) := by decide +kernel
theorem dX9_compared_43 : decode cX9_compared 43 = .ok (.iadd, 1) := by decide +kernel
theorem dX9_compared_44 : decode cX9_compared 44 = .ok (.putfield 230, 3) := by decide +kernel
theorem dX9_compared_47 : decode cX9_compared 47 = .ok (.aload_n 0, 1) := by decide +kernel
theorem dX9_compared_48 : decode cX9_compared 48 = .ok (.invokevirtual 255, 3) := by decide +kernel
theorem dX9_compared_51 : decode cX9_compared 51 = .ok (.istore_n 3, 1) := by decide +kernel
theorem dX9_compared_52 : decode cX9_compared 52 = .ok (.iload_n 2, 1) := by decide +kernel
theorem dX9_compared_53 : decode cX9_compared 53 = .ok (.bipush 60, 2) := by decide +kernel
theorem dX9_compared_55 : decode cX9_compared 55 = .ok (.if_icmp .ne 11, 3) := by decide +kernel
theorem dX9_compared_58 : decode cX9_compared 58 = .ok (.iload_n 1, 1) := by decide +kernel
theorem dX9_compared_59 : decode cX9_compared 59 = .ok (.iload_n 3, 1) := by decide +kernel
theorem dX9_compared_60 : decode cX9_compared 60 = .ok (.if_icmp .ge 29, 3) := by decide +kernel
theorem dX9_compared_63 : decode cX9_compared 63 = .ok (.goto 22, 3) := by decide +kernel
theorem dX9_compared_66 : decode cX9_compared 66 = .ok (.iload_n 2, 1) := by decide +kernel
theorem dX9_compared_67 : decode cX9_compared 67 = .ok (.bipush 61, 2) := by decide +kernel
theorem dX9_compared_69 : decode cX9_compared 69 = .ok (.if_icmp .ne 11, 3) := by decide +kernel
theorem dX9_compared_72 : decode cX9_compared 72 = .ok (.iload_n 1, 1) := by decide +kernel
theorem dX9_compared_73 : decode cX9_compared 73 = .ok (.iload_n 3, 1) := by decide +kernel
theorem dX9_compared_74 : decode cX9_compared 74 = .ok (.if_icmp .ne 15, 3) := by decide +kernel
theorem dX9_compared_77 : decode cX9_compared 77 = .ok (.goto 8, 3) := by decide +kernel
theorem dX9_compared_80 : decode cX9_compared 80 = .ok (.iload_n 1, 1) := by decide +kernel
theorem dX9_compared_81 : decode cX9_compared 81 = .ok (.iload_n 3, 1) := by decide +kernel
theorem dX9_compared_82 : decode cX9_compared 82 = .ok (.if_icmp .le 7, 3) := by decide +kernel
theorem dX9_compared_85 : decode cX9_compared 85 = .ok (.iconst 1, 1) := by decide +kernel
theorem dX9_compared_86 : decode cX9_compared 86 = .ok (.goto 4, 3) := by decide +kernel
theorem dX9_compared_89 : decode cX9_compared 89 = .ok (.iconst 0, 1) := by decide +kernel
theorem dX9_compared_90 : decode cX9_compared 90 = .ok (.ireturn, 1) := by decide +kernel
theorem dX9_sums_0 : decode cX9_sums 0 = .ok (.aload_n 0, 1) := by decide +kernel
theorem dX9_sums_1 : decode cX9_sums 1 = .ok (.invokevirtual 258, 3) := by decide +kernel
theorem dX9_sums_4 : decode cX9_sums 4 = .ok (.istore_n 1, 1) := by decide +kernel
theorem dX9_sums_5 : decode cX9_sums 5 = .ok (.aload_n 0, 1) := by decide +kernel
theorem dX9_sums_6 : decode cX9_sums 6 = .ok (.getfield 239, 3) := by decide +kernel
theorem dX9_sums_9 : decode cX9_sums 9 = .ok (.ifCond .ge 68, 3) := by decide +kernel
theorem dX9_sums_12 : decode cX9_sums 12 = .ok (.aload_n 0, 1) := by decide +kernel
theorem dX9_sums_13 : decode cX9_sums 13 = .ok (.invokevirtual 242, 3) := by decide +kernel
theorem dX9_sums_16 : decode cX9_sums 16 = .ok (.bipush 43, 2) := by decide +kernel
theorem dX9_sums_18 : decode cX9_sums 18 = .ok (.if_icmp .eq 12, 3) := by decide +kernel
theorem dX9_sums_21 : decode cX9_sums 21 = .ok (.aload_n 0, 1) := by decide +kernel
theorem dX9_sums_22 : decode cX9_sums 22 = .ok (.invokevirtual 242, 3) := by decide +kernel
theorem dX9_sums_25 : decode cX9_sums 25 = .ok (.bipush 45, 2) := by decide +kernel
theorem dX9_sums_27 : decode cX9_sums 27 = .ok (.if_icmp .ne 50, 3) := by decide +kernel
theorem dX9_sums_30 : decode cX9_sums 30 = .ok (.aload_n 0, 1) := by decide +kernel
theorem dX9_sums_31 : decode cX9_sums 31 = .ok (.invokevirtual 242, 3) := by decide +kernel
theorem dX9_sums_34 : decode cX9_sums 34 = .ok (.bipush 43, 2) := by decide +kernel
theorem dX9_sums_36 : decode cX9_sums 36 = .ok (.if_icmp .ne 7, 3) := by decide +kernel
theorem dX9_sums_39 : decode cX9_sums 39 = .ok (.iconst 1, 1) := by decide +kernel
theorem dX9_sums_40 : decode cX9_sums 40 = .ok (.goto 4, 3) := by decide +kernel
theorem dX9_sums_43 : decode cX9_sums 43 = .ok (.iconst 0, 1) := by decide +kernel
theorem dX9_sums_44 : decode cX9_sums 44 = .ok (.istore_n 2, 1) := by decide +kernel
theorem dX9_sums_45 : decode cX9_sums 45 = .ok (.aload_n 0, 1) := by decide +kernel
theorem dX9_sums_46 : decode cX9_sums 46 = .ok (.dup, 1) := by decide +kernel
theorem dX9_sums_47 : decode cX9_sums 47 = .ok (.getfield 230, 3) := by decide +kernel
theorem dX9_sums_50 : decode cX9_sums 50 = .ok (.iconst 1, 1) := by decide +kernel
theorem dX9_sums_51 : decode cX9_sums 51 = .ok (.iadd, 1) := by decide +kernel
theorem dX9_sums_52 : decode cX9_sums 52 = .ok (.putfield 230, 3) := by decide +kernel
theorem dX9_sums_55 : decode cX9_sums 55 = .ok (.aload_n 0, 1) := by decide +kernel
theorem dX9_sums_56 : decode cX9_sums 56 = .ok (.invokevirtual 258, 3) := by decide +kernel
theorem dX9_sums_59 : decode cX9_sums 59 = .ok (.istore_n 3, 1) := by decide +kernel
theorem dX9_sums_60 : decode cX9_sums 60 = .ok (.iload_n 2, 1) := by decide +kernel
theorem dX9_sums_61 : decode cX9_sums 61 = .ok (.ifCond .eq 9, 3) := by decide +kernel
theorem dX9_sums_64 : decode cX9_sums 64 = .ok (.iload_n 1, 1) := by decide +kernel
theorem dX9_sums_65 : decode cX9_sums 65 = .ok (.iload_n 3, 1) := by decide +kernel
theorem dX9_sums_66 : decode cX9_sums 66 = .ok (.iadd, 1) := by decide +kernel
theorem dX9_sums_67 : decode cX9_sums 67 = .ok (.goto 6, 3) := by decide +kernel
theorem dX9_sums_70 : decode cX9_sums 70 = .ok (.iload_n 1, 1) := by decide +kernel
theorem dX9_sums_71 : decode cX9_sums 71 = .ok (.iload_n 3, 1) := by decide +kernel
theorem dX9_sums_72 : decode cX9_sums 72 = .ok (.isub, 1) := by decide +kernel
theorem dX9_sums_73 : decode cX9_sums 73 = .ok (.istore_n 1, 1) := by decide +kernel
theorem dX9_sums_74 : decode cX9_sums 74 = .ok (.goto (-69), 3) := by decide +kernel
theorem dX9_sums_77 : decode cX9_sums 77 = .ok (.iload_n 1, 1) := by decide +kernel
theorem dX9_sums_78 : decode cX9_sums 78 = .ok (.ireturn, 1) := by decide +kernel
theorem dX9_product_0 : decode cX9_product 0 = .ok (.aload_n 0, 1) := by decide +kernel
theorem dX9_product_1 : decode cX9_product 1 = .ok (.invokevirtual 261, 3) := by decide +kernel
theorem dX9_product_4 : decode cX9_product 4 = .ok (.istore_n 1, 1) := by decide +kernel
theorem dX9_product_5 : decode cX9_product 5 = .ok (.aload_n 0, 1) := by decide +kernel
theorem dX9_product_6 : decode cX9_product 6 = .ok (.invokevirtual 242, 3) := by decide +kernel
theorem dX9_product_9 : decode cX9_product 9 = .ok (.istore_n 2, 1) := by decide +kernel
theorem dX9_product_10 : decode cX9_product 10 = .ok (.aload_n 0, 1) := by decide +kernel
theorem dX9_product_11 : decode cX9_product 11 = .ok (.getfield 239, 3) := by decide +kernel
theorem dX9_product_14 : decode cX9_product 14 = .ok (.ifCond .ge 80, 3) := by decide +kernel
theorem dX9_product_17 : decode cX9_product 17 = .ok (.iload_n 2, 1) := by decide +kernel
theorem dX9_product_18 : decode cX9_product 18 = .ok (.bipush 42, 2) := by decide +kernel
theorem dX9_product_20 : decode cX9_product 20 = .ok (.if_icmp .eq 15, 3) := by decide +kernel
theorem dX9_product_23 : decode cX9_product 23 = .ok (.iload_n 2, 1) := by decide +kernel
theorem dX9_product_24 : decode cX9_product 24 = .ok (.bipush 47, 2) := by decide +kernel
theorem dX9_product_26 : decode cX9_product 26 = .ok (.if_icmp .eq 9, 3) := by decide +kernel
theorem dX9_product_29 : decode cX9_product 29 = .ok (.iload_n 2, 1) := by decide +kernel
theorem dX9_product_30 : decode cX9_product 30 = .ok (.bipush 37, 2) := by decide +kernel
theorem dX9_product_32 : decode cX9_product 32 = .ok (.if_icmp .ne 62, 3) := by decide +kernel
theorem dX9_product_35 : decode cX9_product 35 = .ok (.aload_n 0, 1) := by decide +kernel
theorem dX9_product_36 : decode cX9_product 36 = .ok (.dup, 1) := by decide +kernel
theorem dX9_product_37 : decode cX9_product 37 = .ok (.getfield 230, 3) := by decide +kernel
theorem dX9_product_40 : decode cX9_product 40 = .ok (.iconst 1, 1) := by decide +kernel
theorem dX9_product_41 : decode cX9_product 41 = .ok (.iadd, 1) := by decide +kernel
theorem dX9_product_42 : decode cX9_product 42 = .ok (.putfield 230, 3) := by decide +kernel
theorem dX9_product_45 : decode cX9_product 45 = .ok (.aload_n 0, 1) := by decide +kernel
theorem dX9_product_46 : decode cX9_product 46 = .ok (.invokevirtual 261, 3) := by decide +kernel
theorem dX9_product_49 : decode cX9_product 49 = .ok (.istore_n 3, 1) := by decide +kernel
theorem dX9_product_50 : decode cX9_product 50 = .ok (.iload_n 2, 1) := by decide +kernel
theorem dX9_product_51 : decode cX9_product 51 = .ok (.bipush 42, 2) := by decide +kernel
theorem dX9_product_53 : decode cX9_product 53 = .ok (.if_icmp .ne 9, 3) := by decide +kernel
theorem dX9_product_56 : decode cX9_product 56 = .ok (.iload_n 1, 1) := by decide +kernel
theorem dX9_product_57 : decode cX9_product 57 = .ok (.iload_n 3, 1) := by decide +kernel
theorem dX9_product_58 : decode cX9_product 58 = .ok (.imul, 1) := by decide +kernel
theorem dX9_product_59 : decode cX9_product 59 = .ok (.goto 26, 3) := by decide +kernel
theorem dX9_product_62 : decode cX9_product 62 = .ok (.iload_n 3, 1) := by decide +kernel
theorem dX9_product_63 : decode cX9_product 63 = .ok (.ifCond .ne 7, 3) := by decide +kernel
theorem dX9_product_66 : decode cX9_product 66 = .ok (.iconst 0, 1) := by decide +kernel
theorem dX9_product_67 : decode cX9_product 67 = .ok (.goto 18, 3) := by decide +kernel
theorem dX9_product_70 : decode cX9_product 70 = .ok (.iload_n 2, 1) := by decide +kernel
theorem dX9_product_71 : decode cX9_product 71 = .ok (.bipush 47, 2) := by decide +kernel
theorem dX9_product_73 : decode cX9_product 73 = .ok (.if_icmp .ne 9, 3) := by decide +kernel
theorem dX9_product_76 : decode cX9_product 76 = .ok (.iload_n 1, 1) := by decide +kernel
theorem dX9_product_77 : decode cX9_product 77 = .ok (.iload_n 3, 1) := by decide +kernel
theorem dX9_product_78 : decode cX9_product 78 = .ok (.idiv, 1) := by decide +kernel
theorem dX9_product_79 : decode cX9_product 79 = .ok (.goto 6, 3) := by decide +kernel
theorem dX9_product_82 : decode cX9_product 82 = .ok (.iload_n 1, 1) := by decide +kernel
theorem dX9_product_83 : decode cX9_product 83 = .ok (.iload_n 3, 1) := by decide +kernel
theorem dX9_product_84 : decode cX9_product 84 = .ok (.irem, 1) := by decide +kernel
theorem dX9_product_85 : decode cX9_product 85 = .ok (.istore_n 1, 1) := by decide +kernel
theorem dX9_product_86 : decode cX9_product 86 = .ok (.aload_n 0, 1) := by decide +kernel
theorem dX9_product_87 : decode cX9_product 87 = .ok (.invokevirtual 242, 3) := by decide +kernel
theorem dX9_product_90 : decode cX9_product 90 = .ok (.istore_n 2, 1) := by decide +kernel
theorem dX9_product_91 : decode cX9_product 91 = .ok (.goto (-81), 3) := by decide +kernel
theorem dX9_product_94 : decode cX9_product 94 = .ok (.iload_n 1, 1) := by decide +kernel
theorem dX9_product_95 : decode cX9_product 95 = .ok (.ireturn, 1) := by decide +kernel
theorem dX9_nameOf_0 : decode cX9_nameOf 0 = .ok (.iload_n 0, 1) := by decide +kernel
theorem dX9_nameOf_1 : decode cX9_nameOf 1 = .ok (.tableswitch 105 101 118 #[91, 105, 105, 105, 105, 105, 105, 102, 105, 93, 105, 99, 105, 87, 95, 97, 105, 89], 87) := by decide +kernel
theorem dX9_nameOf_88 : decode cX9_nameOf 88 = .ok (.iconst 0, 1) := by decide +kernel
theorem dX9_nameOf_89 : decode cX9_nameOf 89 = .ok (.ireturn, 1) := by decide +kernel
theorem dX9_nameOf_90 : decode cX9_nameOf 90 = .ok (.iconst 1, 1) := by decide +kernel
theorem dX9_nameOf_91 : decode cX9_nameOf 91 = .ok (.ireturn, 1) := by decide +kernel
theorem dX9_nameOf_92 : decode cX9_nameOf 92 = .ok (.iconst 2, 1) := by decide +kernel
theorem dX9_nameOf_93 : decode cX9_nameOf 93 = .ok (.ireturn, 1) := by decide +kernel
theorem dX9_nameOf_94 : decode cX9_nameOf 94 = .ok (.iconst 3, 1) := by decide +kernel
theorem dX9_nameOf_95 : decode cX9_nameOf 95 = .ok (.ireturn, 1) := by decide +kernel
theorem dX9_nameOf_96 : decode cX9_nameOf 96 = .ok (.iconst 4, 1) := by decide +kernel
theorem dX9_nameOf_97 : decode cX9_nameOf 97 = .ok (.ireturn, 1) := by decide +kernel
theorem dX9_nameOf_98 : decode cX9_nameOf 98 = .ok (.iconst 5, 1) := by decide +kernel
theorem dX9_nameOf_99 : decode cX9_nameOf 99 = .ok (.ireturn, 1) := by decide +kernel
theorem dX9_nameOf_100 : decode cX9_nameOf 100 = .ok (.bipush 6, 2) := by decide +kernel
theorem dX9_nameOf_102 : decode cX9_nameOf 102 = .ok (.ireturn, 1) := by decide +kernel
theorem dX9_nameOf_103 : decode cX9_nameOf 103 = .ok (.bipush 7, 2) := by decide +kernel
theorem dX9_nameOf_105 : decode cX9_nameOf 105 = .ok (.ireturn, 1) := by decide +kernel
theorem dX9_nameOf_106 : decode cX9_nameOf 106 = .ok (.iconst (-1), 1) := by decide +kernel
theorem dX9_nameOf_107 : decode cX9_nameOf 107 = .ok (.ireturn, 1) := by decide +kernel
theorem dX9_one_0 : decode cX9_one 0 = .ok (.aload_n 0, 1) := by decide +kernel
theorem dX9_one_1 : decode cX9_one 1 = .ok (.getfield 239, 3) := by decide +kernel
theorem dX9_one_4 : decode cX9_one 4 = .ok (.ifCond .lt 5, 3) := by decide +kernel
theorem dX9_one_7 : decode cX9_one 7 = .ok (.iconst 0, 1) := by decide +kernel
theorem dX9_one_8 : decode cX9_one 8 = .ok (.ireturn, 1) := by decide +kernel
theorem dX9_one_9 : decode cX9_one 9 = .ok (.aload_n 0, 1) := by decide +kernel
theorem dX9_one_10 : decode cX9_one 10 = .ok (.invokevirtual 242, 3) := by decide +kernel
theorem dX9_one_13 : decode cX9_one 13 = .ok (.istore_n 1, 1) := by decide +kernel
theorem dX9_one_14 : decode cX9_one 14 = .ok (.iload_n 1, 1) := by decide +kernel
theorem dX9_one_15 : decode cX9_one 15 = .ok (.bipush 33, 2) := by decide +kernel
theorem dX9_one_17 : decode cX9_one 17 = .ok (.if_icmp .eq 15, 3) := by decide +kernel
theorem dX9_one_20 : decode cX9_one 20 = .ok (.iload_n 1, 1) := by decide +kernel
theorem dX9_one_21 : decode cX9_one 21 = .ok (.bipush 45, 2) := by decide +kernel
theorem dX9_one_23 : decode cX9_one 23 = .ok (.if_icmp .eq 9, 3) := by decide +kernel
theorem dX9_one_26 : decode cX9_one 26 = .ok (.iload_n 1, 1) := by decide +kernel
theorem dX9_one_27 : decode cX9_one 27 = .ok (.bipush 40, 2) := by decide +kernel
theorem dX9_one_29 : decode cX9_one 29 = .ok (.if_icmp .ne 116, 3) := by decide +kernel
theorem dX9_one_32 : decode cX9_one 32 = .ok (.aload_n 0, 1) := by decide +kernel
theorem dX9_one_33 : decode cX9_one 33 = .ok (.getfield 264, 3) := by decide +kernel
theorem dX9_one_36 : decode cX9_one 36 = .ok (.bipush 6, 2) := by decide +kernel
theorem dX9_one_38 : decode cX9_one 38 = .ok (.if_icmp .ne 8, 3) := by decide +kernel
theorem dX9_one_41 : decode cX9_one 41 = .ok (.aload_n 0, 1) := by decide +kernel
theorem dX9_one_42 : decode cX9_one 42 = .ok (.invokevirtual 267, 3) := by decide +kernel
theorem dX9_one_45 : decode cX9_one 45 = .ok (.ireturn, 1) := by decide +kernel
theorem dX9_one_46 : decode cX9_one 46 = .ok (.aload_n 0, 1) := by decide +kernel
theorem dX9_one_47 : decode cX9_one 47 = .ok (.dup, 1) := by decide +kernel
theorem dX9_one_48 : decode cX9_one 48 = .ok (.getfield 264, 3) := by decide +kernel
theorem dX9_one_51 : decode cX9_one 51 = .ok (.iconst 1, 1) := by decide +kernel
theorem dX9_one_52 : decode cX9_one 52 = .ok (.iadd, 1) := by decide +kernel
theorem dX9_one_53 : decode cX9_one 53 = .ok (.putfield 264, 3) := by decide +kernel
theorem dX9_one_56 : decode cX9_one 56 = .ok (.aload_n 0, 1) := by decide +kernel
theorem dX9_one_57 : decode cX9_one 57 = .ok (.dup, 1) := by decide +kernel
theorem dX9_one_58 : decode cX9_one 58 = .ok (.getfield 230, 3) := by decide +kernel
theorem dX9_one_61 : decode cX9_one 61 = .ok (.iconst 1, 1) := by decide +kernel
theorem dX9_one_62 : decode cX9_one 62 = .ok (.iadd, 1) := by decide +kernel
theorem dX9_one_63 : decode cX9_one 63 = .ok (.putfield 230, 3) := by decide +kernel
theorem dX9_one_66 : decode cX9_one 66 = .ok (.iload_n 1, 1) := by decide +kernel
theorem dX9_one_67 : decode cX9_one 67 = .ok (.bipush 40, 2) := by decide +kernel
theorem dX9_one_69 : decode cX9_one 69 = .ok (.if_icmp .ne 10, 3) := by decide +kernel
theorem dX9_one_72 : decode cX9_one 72 = .ok (.aload_n 0, 1) := by decide +kernel
theorem dX9_one_73 : decode cX9_one 73 = .ok (.invokevirtual 270, 3) := by decide +kernel
theorem dX9_one_76 : decode cX9_one 76 = .ok (.goto 7, 3) := by decide +kernel
theorem dX9_one_79 : decode cX9_one 79 = .ok (.aload_n 0, 1) := by decide +kernel
theorem dX9_one_80 : decode cX9_one 80 = .ok (.invokevirtual 261, 3) := by decide +kernel
theorem dX9_one_83 : decode cX9_one 83 = .ok (.istore_n 2, 1) := by decide +kernel
theorem dX9_one_84 : decode cX9_one 84 = .ok (.iload_n 1, 1) := by decide +kernel
theorem dX9_one_85 : decode cX9_one 85 = .ok (.bipush 40, 2) := by decide +kernel
theorem dX9_one_87 : decode cX9_one 87 = .ok (.if_icmp .ne 17, 3) := by decide +kernel
theorem dX9_one_90 : decode cX9_one 90 = .ok (.aload_n 0, 1) := by decide +kernel
theorem dX9_one_91 : decode cX9_one 91 = .ok (.bipush 41, 2) := by decide +kernel
theorem dX9_one_93 : decode cX9_one 93 = .ok (.invokevirtual 249, 3) := by decide +kernel
theorem dX9_one_96 : decode cX9_one 96 = .ok (.ifCond .ne 8, 3) := by decide +kernel
theorem dX9_one_99 : decode cX9_one 99 = .ok (.aload_n 0, 1) := by decide +kernel
theorem dX9_one_100 : decode cX9_one 100 = .ok (.invokevirtual 267, 3) := by decide +kernel
theorem dX9_one_103 : decode cX9_one 103 = .ok (.ireturn, 1) := by decide +kernel
theorem dX9_one_104 : decode cX9_one 104 = .ok (.aload_n 0, 1) := by decide +kernel
theorem dX9_one_105 : decode cX9_one 105 = .ok (.dup, 1) := by decide +kernel
theorem dX9_one_106 : decode cX9_one 106 = .ok (.getfield 264, 3) := by decide +kernel
theorem dX9_one_109 : decode cX9_one 109 = .ok (.iconst 1, 1) := by decide +kernel
theorem dX9_one_110 : decode cX9_one 110 = .ok (.isub, 1) := by decide +kernel
theorem dX9_one_111 : decode cX9_one 111 = .ok (.putfield 264, 3) := by decide +kernel
theorem dX9_one_114 : decode cX9_one 114 = .ok (.iload_n 1, 1) := by decide +kernel
theorem dX9_one_115 : decode cX9_one 115 = .ok (.bipush 40, 2) := by decide +kernel
theorem dX9_one_117 : decode cX9_one 117 = .ok (.if_icmp .ne 7, 3) := by decide +kernel
theorem dX9_one_120 : decode cX9_one 120 = .ok (.iload_n 2, 1) := by decide +kernel
theorem dX9_one_121 : decode cX9_one 121 = .ok (.goto 23, 3) := by decide +kernel
theorem dX9_one_124 : decode cX9_one 124 = .ok (.iload_n 1, 1) := by decide +kernel
theorem dX9_one_125 : decode cX9_one 125 = .ok (.bipush 45, 2) := by decide +kernel
theorem dX9_one_127 : decode cX9_one 127 = .ok (.if_icmp .ne 8, 3) := by decide +kernel
theorem dX9_one_130 : decode cX9_one 130 = .ok (.iload_n 2, 1) := by decide +kernel
theorem dX9_one_131 : decode cX9_one 131 = .ok (.ineg, 1) := by decide +kernel
theorem dX9_one_132 : decode cX9_one 132 = .ok (.goto 12, 3) := by decide +kernel
theorem dX9_one_135 : decode cX9_one 135 = .ok (.iload_n 2, 1) := by decide +kernel
theorem dX9_one_136 : decode cX9_one 136 = .ok (.ifCond .ne 7, 3) := by decide +kernel
theorem dX9_one_139 : decode cX9_one 139 = .ok (.iconst 1, 1) := by decide +kernel
theorem dX9_one_140 : decode cX9_one 140 = .ok (.goto 4, 3) := by decide +kernel
theorem dX9_one_143 : decode cX9_one 143 = .ok (.iconst 0, 1) := by decide +kernel
theorem dX9_one_144 : decode cX9_one 144 = .ok (.ireturn, 1) := by decide +kernel
theorem dX9_one_145 : decode cX9_one 145 = .ok (.iload_n 1, 1) := by decide +kernel
theorem dX9_one_146 : decode cX9_one 146 = .ok (.invokestatic 273, 3) := by decide +kernel
theorem dX9_one_149 : decode cX9_one 149 = .ok (.istore_n 2, 1) := by decide +kernel
theorem dX9_one_150 : decode cX9_one 150 = .ok (.iload_n 2, 1) := by decide +kernel
theorem dX9_one_151 : decode cX9_one 151 = .ok (.ifCond .lt 20, 3) := by decide +kernel
theorem dX9_one_154 : decode cX9_one 154 = .ok (.aload_n 0, 1) := by decide +kernel
theorem dX9_one_155 : decode cX9_one 155 = .ok (.dup, 1) := by decide +kernel
theorem dX9_one_156 : decode cX9_one 156 = .ok (.getfield 230, 3) := by decide +kernel
theorem dX9_one_159 : decode cX9_one 159 = .ok (.iconst 1, 1) := by decide +kernel
theorem dX9_one_160 : decode cX9_one 160 = .ok (.iadd, 1) := by decide +kernel
theorem dX9_one_161 : decode cX9_one 161 = .ok (.putfield 230, 3) := by decide +kernel
theorem dX9_one_164 : decode cX9_one 164 = .ok (.aload_n 0, 1) := by decide +kernel
theorem dX9_one_165 : decode cX9_one 165 = .ok (.getfield 40, 3) := by decide +kernel
theorem dX9_one_168 : decode cX9_one 168 = .ok (.iload_n 2, 1) := by decide +kernel
theorem dX9_one_169 : decode cX9_one 169 = .ok (.iaload, 1) := by decide +kernel
theorem dX9_one_170 : decode cX9_one 170 = .ok (.ireturn, 1) := by decide +kernel
theorem dX9_one_171 : decode cX9_one 171 = .ok (.iconst 0, 1) := by decide +kernel
theorem dX9_one_172 : decode cX9_one 172 = .ok (.istore_n 3, 1) := by decide +kernel
theorem dX9_one_173 : decode cX9_one 173 = .ok (.iconst 0, 1) := by decide +kernel
theorem dX9_one_174 : decode cX9_one 174 = .ok (.istore 4, 2) := by decide +kernel
theorem dX9_one_176 : decode cX9_one 176 = .ok (.iload 4, 2) := by decide +kernel
theorem dX9_one_178 : decode cX9_one 178 = .ok (.iconst 4, 1) := by decide +kernel
theorem dX9_one_179 : decode cX9_one 179 = .ok (.if_icmp .ge 50, 3) := by decide +kernel
theorem dX9_one_182 : decode cX9_one 182 = .ok (.aload_n 0, 1) := by decide +kernel
theorem dX9_one_183 : decode cX9_one 183 = .ok (.invokevirtual 242, 3) := by decide +kernel
theorem dX9_one_186 : decode cX9_one 186 = .ok (.bipush 48, 2) := by decide +kernel
theorem dX9_one_188 : decode cX9_one 188 = .ok (.if_icmp .lt 41, 3) := by decide +kernel
theorem dX9_one_191 : decode cX9_one 191 = .ok (.aload_n 0, 1) := by decide +kernel
theorem dX9_one_192 : decode cX9_one 192 = .ok (.invokevirtual 242, 3) := by decide +kernel
theorem dX9_one_195 : decode cX9_one 195 = .ok (.bipush 57, 2) := by decide +kernel
theorem dX9_one_197 : decode cX9_one 197 = .ok (.if_icmp .gt 32, 3) := by decide +kernel
theorem dX9_one_200 : decode cX9_one 200 = .ok (.bipush 10, 2) := by decide +kernel
theorem dX9_one_202 : decode cX9_one 202 = .ok (.iload_n 3, 1) := by decide +kernel
theorem dX9_one_203 : decode cX9_one 203 = .ok (.imul, 1) := by decide +kernel
theorem dX9_one_204 : decode cX9_one 204 = .ok (.aload_n 0, 1) := by decide +kernel
theorem dX9_one_205 : decode cX9_one 205 = .ok (.invokevirtual 242, 3) := by decide +kernel
theorem dX9_one_208 : decode cX9_one 208 = .ok (.iadd, 1) := by decide +kernel
theorem dX9_one_209 : decode cX9_one 209 = .ok (.bipush 48, 2) := by decide +kernel
theorem dX9_one_211 : decode cX9_one 211 = .ok (.isub, 1) := by decide +kernel
theorem dX9_one_212 : decode cX9_one 212 = .ok (.istore_n 3, 1) := by decide +kernel
theorem dX9_one_213 : decode cX9_one 213 = .ok (.iinc 4 1, 3) := by decide +kernel
theorem dX9_one_216 : decode cX9_one 216 = .ok (.aload_n 0, 1) := by decide +kernel
theorem dX9_one_217 : decode cX9_one 217 = .ok (.dup, 1) := by decide +kernel
theorem dX9_one_218 : decode cX9_one 218 = .ok (.getfield 230, 3) := by decide +kernel
theorem dX9_one_221 : decode cX9_one 221 = .ok (.iconst 1, 1) := by decide +kernel
theorem dX9_one_222 : decode cX9_one 222 = .ok (.iadd, 1) := by decide +kernel
theorem dX9_one_223 : decode cX9_one 223 = .ok (.putfield 230, 3) := by decide +kernel
theorem dX9_one_226 : decode cX9_one 226 = .ok (.goto (-50), 3) := by decide +kernel
theorem dX9_one_229 : decode cX9_one 229 = .ok (.iload 4, 2) := by decide +kernel
theorem dX9_one_231 : decode cX9_one 231 = .ok (.ifCond .ne 10, 3) := by decide +kernel
theorem dX9_one_234 : decode cX9_one 234 = .ok (.aload_n 0, 1) := by decide +kernel
theorem dX9_one_235 : decode cX9_one 235 = .ok (.invokevirtual 267, 3) := by decide +kernel
theorem dX9_one_238 : decode cX9_one 238 = .ok (.goto 4, 3) := by decide +kernel
theorem dX9_one_241 : decode cX9_one 241 = .ok (.iload_n 3, 1) := by decide +kernel
theorem dX9_one_242 : decode cX9_one 242 = .ok (.ireturn, 1) := by decide +kernel
theorem dX9_workOut_0 : decode cX9_workOut 0 = .ok (.aload_n 0, 1) := by decide +kernel
theorem dX9_workOut_1 : decode cX9_workOut 1 = .ok (.iload_n 1, 1) := by decide +kernel
theorem dX9_workOut_2 : decode cX9_workOut 2 = .ok (.putfield 236, 3) := by decide +kernel
theorem dX9_workOut_5 : decode cX9_workOut 5 = .ok (.aload_n 0, 1) := by decide +kernel
theorem dX9_workOut_6 : decode cX9_workOut 6 = .ok (.iconst 0, 1) := by decide +kernel
theorem dX9_workOut_7 : decode cX9_workOut 7 = .ok (.putfield 230, 3) := by decide +kernel
theorem dX9_workOut_10 : decode cX9_workOut 10 = .ok (.aload_n 0, 1) := by decide +kernel
theorem dX9_workOut_11 : decode cX9_workOut 11 = .ok (.iload_n 2, 1) := by decide +kernel
theorem dX9_workOut_12 : decode cX9_workOut 12 = .ok (.putfield 233, 3) := by decide +kernel
theorem dX9_workOut_15 : decode cX9_workOut 15 = .ok (.aload_n 0, 1) := by decide +kernel
theorem dX9_workOut_16 : decode cX9_workOut 16 = .ok (.iconst (-1), 1) := by decide +kernel
theorem dX9_workOut_17 : decode cX9_workOut 17 = .ok (.putfield 239, 3) := by decide +kernel
theorem dX9_workOut_20 : decode cX9_workOut 20 = .ok (.aload_n 0, 1) := by decide +kernel
theorem dX9_workOut_21 : decode cX9_workOut 21 = .ok (.iconst 0, 1) := by decide +kernel
theorem dX9_workOut_22 : decode cX9_workOut 22 = .ok (.putfield 264, 3) := by decide +kernel
theorem dX9_workOut_25 : decode cX9_workOut 25 = .ok (.iconst 0, 1) := by decide +kernel
theorem dX9_workOut_26 : decode cX9_workOut 26 = .ok (.istore_n 3, 1) := by decide +kernel
theorem dX9_workOut_27 : decode cX9_workOut 27 = .ok (.iconst 0, 1) := by decide +kernel
theorem dX9_workOut_28 : decode cX9_workOut 28 = .ok (.istore 4, 2) := by decide +kernel
theorem dX9_workOut_30 : decode cX9_workOut 30 = .ok (.iconst 1, 1) := by decide +kernel
theorem dX9_workOut_31 : decode cX9_workOut 31 = .ok (.istore 5, 2) := by decide +kernel
theorem dX9_workOut_33 : decode cX9_workOut 33 = .ok (.iload 5, 2) := by decide +kernel
theorem dX9_workOut_35 : decode cX9_workOut 35 = .ok (.ifCond .eq 72, 3) := by decide +kernel
theorem dX9_workOut_38 : decode cX9_workOut 38 = .ok (.aload_n 0, 1) := by decide +kernel
theorem dX9_workOut_39 : decode cX9_workOut 39 = .ok (.invokevirtual 270, 3) := by decide +kernel
theorem dX9_workOut_42 : decode cX9_workOut 42 = .ok (.istore 6, 2) := by decide +kernel
theorem dX9_workOut_44 : decode cX9_workOut 44 = .ok (.iconst 1, 1) := by decide +kernel
theorem dX9_workOut_45 : decode cX9_workOut 45 = .ok (.istore 7, 2) := by decide +kernel
theorem dX9_workOut_47 : decode cX9_workOut 47 = .ok (.aload_n 0, 1) := by decide +kernel
theorem dX9_workOut_48 : decode cX9_workOut 48 = .ok (.bipush 63, 2) := by decide +kernel
theorem dX9_workOut_50 : decode cX9_workOut 50 = .ok (.invokevirtual 249, 3) := by decide +kernel
theorem dX9_workOut_53 : decode cX9_workOut 53 = .ok (.ifCond .eq 21, 3) := by decide +kernel
theorem dX9_workOut_56 : decode cX9_workOut 56 = .ok (.iload 6, 2) := by decide +kernel
theorem dX9_workOut_58 : decode cX9_workOut 58 = .ok (.ifCond .eq 7, 3) := by decide +kernel
theorem dX9_workOut_61 : decode cX9_workOut 61 = .ok (.iconst 1, 1) := by decide +kernel
theorem dX9_workOut_62 : decode cX9_workOut 62 = .ok (.goto 4, 3) := by decide +kernel
theorem dX9_workOut_65 : decode cX9_workOut 65 = .ok (.iconst 0, 1) := by decide +kernel
theorem dX9_workOut_66 : decode cX9_workOut 66 = .ok (.istore 7, 2) := by decide +kernel
theorem dX9_workOut_68 : decode cX9_workOut 68 = .ok (.aload_n 0, 1) := by decide +kernel
theorem dX9_workOut_69 : decode cX9_workOut 69 = .ok (.invokevirtual 270, 3) := by decide +kernel
theorem dX9_workOut_72 : decode cX9_workOut 72 = .ok (.istore 6, 2) := by decide +kernel
theorem dX9_workOut_74 : decode cX9_workOut 74 = .ok (.aload_n 0, 1) := by decide +kernel
theorem dX9_workOut_75 : decode cX9_workOut 75 = .ok (.getfield 239, 3) := by decide +kernel
theorem dX9_workOut_78 : decode cX9_workOut 78 = .ok (.ifCond .ge 18, 3) := by decide +kernel
theorem dX9_workOut_81 : decode cX9_workOut 81 = .ok (.iload 7, 2) := by decide +kernel
theorem dX9_workOut_83 : decode cX9_workOut 83 = .ok (.ifCond .eq 13, 3) := by decide +kernel
theorem dX9_workOut_86 : decode cX9_workOut 86 = .ok (.iload_n 3, 1) := by decide +kernel
theorem dX9_workOut_87 : decode cX9_workOut 87 = .ok (.ifCond .ne 9, 3) := by decide +kernel
theorem dX9_workOut_90 : decode cX9_workOut 90 = .ok (.iconst 1, 1) := by decide +kernel
theorem dX9_workOut_91 : decode cX9_workOut 91 = .ok (.istore_n 3, 1) := by decide +kernel
theorem dX9_workOut_92 : decode cX9_workOut 92 = .ok (.iload 6, 2) := by decide +kernel
theorem dX9_workOut_94 : decode cX9_workOut 94 = .ok (.istore 4, 2) := by decide +kernel
theorem dX9_workOut_96 : decode cX9_workOut 96 = .ok (.aload_n 0, 1) := by decide +kernel
theorem dX9_workOut_97 : decode cX9_workOut 97 = .ok (.bipush 59, 2) := by decide +kernel
theorem dX9_workOut_99 : decode cX9_workOut 99 = .ok (.invokevirtual 249, 3) := by decide +kernel
theorem dX9_workOut_102 : decode cX9_workOut 102 = .ok (.istore 5, 2) := by decide +kernel
theorem dX9_workOut_104 : decode cX9_workOut 104 = .ok (.goto (-71), 3) := by decide +kernel
theorem dX9_workOut_107 : decode cX9_workOut 107 = .ok (.aload_n 0, 1) := by decide +kernel
theorem dX9_workOut_108 : decode cX9_workOut 108 = .ok (.getfield 239, 3) := by decide +kernel
theorem dX9_workOut_111 : decode cX9_workOut 111 = .ok (.ifCond .ge 19, 3) := by decide +kernel
theorem dX9_workOut_114 : decode cX9_workOut 114 = .ok (.aload_n 0, 1) := by decide +kernel
theorem dX9_workOut_115 : decode cX9_workOut 115 = .ok (.getfield 230, 3) := by decide +kernel
theorem dX9_workOut_118 : decode cX9_workOut 118 = .ok (.aload_n 0, 1) := by decide +kernel
theorem dX9_workOut_119 : decode cX9_workOut 119 = .ok (.getfield 233, 3) := by decide +kernel
theorem dX9_workOut_122 : decode cX9_workOut 122 = .ok (.if_icmp .ge 8, 3) := by decide +kernel
theorem dX9_workOut_125 : decode cX9_workOut 125 = .ok (.aload_n 0, 1) := by decide +kernel
theorem dX9_workOut_126 : decode cX9_workOut 126 = .ok (.invokevirtual 267, 3) := by decide +kernel
theorem dX9_workOut_129 : decode cX9_workOut 129 = .ok (.ireturn, 1) := by decide +kernel
theorem dX9_workOut_130 : decode cX9_workOut 130 = .ok (.iload 4, 2) := by decide +kernel
theorem dX9_workOut_132 : decode cX9_workOut 132 = .ok (.ireturn, 1) := by decide +kernel
theorem dX9_law_0 : decode cX9_law 0 = .ok (.aload_n 0, 1) := by decide +kernel
theorem dX9_law_1 : decode cX9_law 1 = .ok (.iconst (-1), 1) := by decide +kernel
theorem dX9_law_2 : decode cX9_law 2 = .ok (.aload_n 0, 1) := by decide +kernel
theorem dX9_law_3 : decode cX9_law 3 = .ok (.getfield 227, 3) := by decide +kernel
theorem dX9_law_6 : decode cX9_law 6 = .ok (.invokevirtual 277, 3) := by decide +kernel
theorem dX9_law_9 : decode cX9_law 9 = .ok (.istore_n 1, 1) := by decide +kernel
theorem dX9_law_10 : decode cX9_law 10 = .ok (.aload_n 0, 1) := by decide +kernel
theorem dX9_law_11 : decode cX9_law 11 = .ok (.getfield 227, 3) := by decide +kernel
theorem dX9_law_14 : decode cX9_law 14 = .ok (.istore_n 2, 1) := by decide +kernel
theorem dX9_law_15 : decode cX9_law 15 = .ok (.aload_n 0, 1) := by decide +kernel
theorem dX9_law_16 : decode cX9_law 16 = .ok (.iconst 0, 1) := by decide +kernel
theorem dX9_law_17 : decode cX9_law 17 = .ok (.putfield 227, 3) := by decide +kernel
theorem dX9_law_20 : decode cX9_law 20 = .ok (.aload_n 0, 1) := by decide +kernel
theorem dX9_law_21 : decode cX9_law 21 = .ok (.getfield 239, 3) := by decide +kernel
theorem dX9_law_24 : decode cX9_law 24 = .ok (.ifCond .lt 11, 3) := by decide +kernel
theorem dX9_law_27 : decode cX9_law 27 = .ok (.bipush (-100), 2) := by decide +kernel
theorem dX9_law_29 : decode cX9_law 29 = .ok (.aload_n 0, 1) := by decide +kernel
theorem dX9_law_30 : decode cX9_law 30 = .ok (.getfield 239, 3) := by decide +kernel
theorem dX9_law_33 : decode cX9_law 33 = .ok (.isub, 1) := by decide +kernel
theorem dX9_law_34 : decode cX9_law 34 = .ok (.ireturn, 1) := by decide +kernel
theorem dX9_law_35 : decode cX9_law 35 = .ok (.iconst 0, 1) := by decide +kernel
theorem dX9_law_36 : decode cX9_law 36 = .ok (.istore_n 3, 1) := by decide +kernel
theorem dX9_law_37 : decode cX9_law 37 = .ok (.iload_n 3, 1) := by decide +kernel
theorem dX9_law_38 : decode cX9_law 38 = .ok (.iload_n 2, 1) := by decide +kernel
theorem dX9_law_39 : decode cX9_law 39 = .ok (.if_icmp .ge 21, 3) := by decide +kernel
theorem dX9_law_42 : decode cX9_law 42 = .ok (.aload_n 0, 1) := by decide +kernel
theorem dX9_law_43 : decode cX9_law 43 = .ok (.getfield 37, 3) := by decide +kernel
theorem dX9_law_46 : decode cX9_law 46 = .ok (.iload_n 3, 1) := by decide +kernel
theorem dX9_law_47 : decode cX9_law 47 = .ok (.aload_n 0, 1) := by decide +kernel
theorem dX9_law_48 : decode cX9_law 48 = .ok (.getfield 34, 3) := by decide +kernel
theorem dX9_law_51 : decode cX9_law 51 = .ok (.iload_n 3, 1) := by decide +kernel
theorem dX9_law_52 : decode cX9_law 52 = .ok (.iaload, 1) := by decide +kernel
theorem dX9_law_53 : decode cX9_law 53 = .ok (.iastore, 1) := by decide +kernel
theorem dX9_law_54 : decode cX9_law 54 = .ok (.iinc 3 1, 3) := by decide +kernel
theorem dX9_law_57 : decode cX9_law 57 = .ok (.goto (-20), 3) := by decide +kernel
theorem dX9_law_60 : decode cX9_law 60 = .ok (.aload_n 0, 1) := by decide +kernel
theorem dX9_law_61 : decode cX9_law 61 = .ok (.iload_n 2, 1) := by decide +kernel
theorem dX9_law_62 : decode cX9_law 62 = .ok (.putfield 143, 3) := by decide +kernel
theorem dX9_law_65 : decode cX9_law 65 = .ok (.iconst 1, 1) := by decide +kernel
theorem dX9_law_66 : decode cX9_law 66 = .ok (.ireturn, 1) := by decide +kernel
theorem dX9_plain_0 : decode cX9_plain 0 = .ok (.aload_n 0, 1) := by decide +kernel
theorem dX9_plain_1 : decode cX9_plain 1 = .ok (.aload_n 0, 1) := by decide +kernel
theorem dX9_plain_2 : decode cX9_plain 2 = .ok (.getfield 205, 3) := by decide +kernel
theorem dX9_plain_5 : decode cX9_plain 5 = .ok (.putfield 280, 3) := by decide +kernel
theorem dX9_plain_8 : decode cX9_plain 8 = .ok (.aload_n 0, 1) := by decide +kernel
theorem dX9_plain_9 : decode cX9_plain 9 = .ok (.aload_n 0, 1) := by decide +kernel
theorem dX9_plain_10 : decode cX9_plain 10 = .ok (.getfield 147, 3) := by decide +kernel
theorem dX9_plain_13 : decode cX9_plain 13 = .ok (.putfield 283, 3) := by decide +kernel
theorem dX9_plain_16 : decode cX9_plain 16 = .ok (.aload_n 0, 1) := by decide +kernel
theorem dX9_plain_17 : decode cX9_plain 17 = .ok (.iconst (-1), 1) := by decide +kernel
theorem dX9_plain_18 : decode cX9_plain 18 = .ok (.putfield 286, 3) := by decide +kernel
theorem dX9_plain_21 : decode cX9_plain 21 = .ok (.iconst 0, 1) := by decide +kernel
theorem dX9_plain_22 : decode cX9_plain 22 = .ok (.istore_n 1, 1) := by decide +kernel
theorem dX9_plain_23 : decode cX9_plain 23 = .ok (.iload_n 1, 1) := by decide +kernel
theorem dX9_plain_24 : decode cX9_plain 24 = .ok (.aload_n 0, 1) := by decide +kernel
theorem dX9_plain_25 : decode cX9_plain 25 = .ok (.getfield 166, 3) := by decide +kernel
theorem dX9_plain_28 : decode cX9_plain 28 = .ok (.if_icmp .ge 16, 3) := by decide +kernel
theorem dX9_plain_31 : decode cX9_plain 31 = .ok (.aload_n 0, 1) := by decide +kernel
theorem dX9_plain_32 : decode cX9_plain 32 = .ok (.getfield 61, 3) := by decide +kernel
theorem dX9_plain_35 : decode cX9_plain 35 = .ok (.iload_n 1, 1) := by decide +kernel
theorem dX9_plain_36 : decode cX9_plain 36 = .ok (.iload_n 1, 1) := by decide +kernel
theorem dX9_plain_37 : decode cX9_plain 37 = .ok (.iastore, 1) := by decide +kernel
theorem dX9_plain_38 : decode cX9_plain 38 = .ok (.iinc 1 1, 3) := by decide +kernel
theorem dX9_plain_41 : decode cX9_plain 41 = .ok (.goto (-18), 3) := by decide +kernel
theorem dX9_plain_44 : decode cX9_plain 44 = .ok (.return_, 1) := by decide +kernel
theorem dX9_isThere_0 : decode cX9_isThere 0 = .ok (.iload_n 1, 1) := by decide +kernel
theorem dX9_isThere_1 : decode cX9_isThere 1 = .ok (.aload_n 0, 1) := by decide +kernel
theorem dX9_isThere_2 : decode cX9_isThere 2 = .ok (.getfield 286, 3) := by decide +kernel
theorem dX9_isThere_5 : decode cX9_isThere 5 = .ok (.if_icmp .eq 23, 3) := by decide +kernel
theorem dX9_isThere_8 : decode cX9_isThere 8 = .ok (.aload_n 0, 1) := by decide +kernel
theorem dX9_isThere_9 : decode cX9_isThere 9 = .ok (.getfield 9, 3) := by decide +kernel
theorem dX9_isThere_12 : decode cX9_isThere 12 = .ok (.bipush 20, 2) := by decide +kernel
theorem dX9_isThere_14 : decode cX9_isThere 14 = .ok (.iload_n 1, 1) := by decide +kernel
theorem dX9_isThere_15 : decode cX9_isThere 15 = .ok (.iadd, 1) := by decide +kernel
theorem dX9_isThere_16 : decode cX9_isThere 16 = .ok (.iaload, 1) := by decide +kernel
theorem dX9_isThere_17 : decode cX9_isThere 17 = .ok (.aload_n 0, 1) := by decide +kernel
theorem dX9_isThere_18 : decode cX9_isThere 18 = .ok (.getfield 289, 3) := by decide +kernel
theorem dX9_isThere_21 : decode cX9_isThere 21 = .ok (.if_icmp .gt 7, 3) := by decide +kernel
theorem dX9_isThere_24 : decode cX9_isThere 24 = .ok (.iconst 1, 1) := by decide +kernel
theorem dX9_isThere_25 : decode cX9_isThere 25 = .ok (.goto 4, 3) := by decide +kernel
theorem dX9_isThere_28 : decode cX9_isThere 28 = .ok (.iconst 0, 1) := by decide +kernel
theorem dX9_isThere_29 : decode cX9_isThere 29 = .ok (.ireturn, 1) := by decide +kernel
theorem dX9_knows_0 : decode cX9_knows 0 = .ok (.aload_n 0, 1) := by decide +kernel
theorem dX9_knows_1 : decode cX9_knows 1 = .ok (.getfield 31, 3) := by decide +kernel
theorem dX9_knows_4 : decode cX9_knows 4 = .ok (.iload_n 2, 1) := by decide +kernel
theorem dX9_knows_5 : decode cX9_knows 5 = .ok (.iaload, 1) := by decide +kernel
theorem dX9_knows_6 : decode cX9_knows 6 = .ok (.iload_n 1, 1) := by decide +kernel
theorem dX9_knows_7 : decode cX9_knows 7 = .ok (.ishr, 1) := by decide +kernel
theorem dX9_knows_8 : decode cX9_knows 8 = .ok (.iconst 1, 1) := by decide +kernel
theorem dX9_knows_9 : decode cX9_knows 9 = .ok (.iand, 1) := by decide +kernel
theorem dX9_knows_10 : decode cX9_knows 10 = .ok (.iconst 1, 1) := by decide +kernel
theorem dX9_knows_11 : decode cX9_knows 11 = .ok (.if_icmp .ne 7, 3) := by decide +kernel
theorem dX9_knows_14 : decode cX9_knows 14 = .ok (.iconst 1, 1) := by decide +kernel
theorem dX9_knows_15 : decode cX9_knows 15 = .ok (.goto 4, 3) := by decide +kernel
theorem dX9_knows_18 : decode cX9_knows 18 = .ok (.iconst 0, 1) := by decide +kernel
theorem dX9_knows_19 : decode cX9_knows 19 = .ok (.ireturn, 1) := by decide +kernel
theorem dX9_isSaid_0 : decode cX9_isSaid 0 = .ok (.aload_n 0, 1) := by decide +kernel
theorem dX9_isSaid_1 : decode cX9_isSaid 1 = .ok (.getfield 52, 3) := by decide +kernel
theorem dX9_isSaid_4 : decode cX9_isSaid 4 = .ok (.iload_n 1, 1) := by decide +kernel
theorem dX9_isSaid_5 : decode cX9_isSaid 5 = .ok (.iaload, 1) := by decide +kernel
theorem dX9_isSaid_6 : decode cX9_isSaid 6 = .ok (.bipush (-2), 2) := by decide +kernel
theorem dX9_isSaid_8 : decode cX9_isSaid 8 = .ok (.if_icmp .eq 7, 3) := by decide +kernel
theorem dX9_isSaid_11 : decode cX9_isSaid 11 = .ok (.iconst 1, 1) := by decide +kernel
theorem dX9_isSaid_12 : decode cX9_isSaid 12 = .ok (.goto 4, 3) := by decide +kernel
theorem dX9_isSaid_15 : decode cX9_isSaid 15 = .ok (.iconst 0, 1) := by decide +kernel
theorem dX9_isSaid_16 : decode cX9_isSaid 16 = .ok (.ireturn, 1) := by decide +kernel
theorem dX9_unsaid_0 : decode cX9_unsaid 0 = .ok (.iconst 0, 1) := by decide +kernel
theorem dX9_unsaid_1 : decode cX9_unsaid 1 = .ok (.istore_n 3, 1) := by decide +kernel
theorem dX9_unsaid_2 : decode cX9_unsaid 2 = .ok (.iconst 0, 1) := by decide +kernel
theorem dX9_unsaid_3 : decode cX9_unsaid 3 = .ok (.istore 4, 2) := by decide +kernel
theorem dX9_unsaid_5 : decode cX9_unsaid 5 = .ok (.iload 4, 2) := by decide +kernel
theorem dX9_unsaid_7 : decode cX9_unsaid 7 = .ok (.aload_n 0, 1) := by decide +kernel
theorem dX9_unsaid_8 : decode cX9_unsaid 8 = .ok (.getfield 169, 3) := by decide +kernel
theorem dX9_unsaid_11 : decode cX9_unsaid 11 = .ok (.if_icmp .ge 47, 3) := by decide +kernel
theorem dX9_unsaid_14 : decode cX9_unsaid 14 = .ok (.iload_n 3, 1) := by decide +kernel
theorem dX9_unsaid_15 : decode cX9_unsaid 15 = .ok (.aload_n 0, 1) := by decide +kernel
theorem dX9_unsaid_16 : decode cX9_unsaid 16 = .ok (.getfield 25, 3) := by decide +kernel
theorem dX9_unsaid_19 : decode cX9_unsaid 19 = .ok (.iload 4, 2) := by decide +kernel
theorem dX9_unsaid_21 : decode cX9_unsaid 21 = .ok (.iaload, 1) := by decide +kernel
theorem dX9_unsaid_22 : decode cX9_unsaid 22 = .ok (.iload_n 2, 1) := by decide +kernel
theorem dX9_unsaid_23 : decode cX9_unsaid 23 = .ok (.if_icmp .ne 26, 3) := by decide +kernel
theorem dX9_unsaid_26 : decode cX9_unsaid 26 = .ok (.aload_n 0, 1) := by decide +kernel
theorem dX9_unsaid_27 : decode cX9_unsaid 27 = .ok (.iload_n 1, 1) := by decide +kernel
theorem dX9_unsaid_28 : decode cX9_unsaid 28 = .ok (.iload 4, 2) := by decide +kernel
theorem dX9_unsaid_30 : decode cX9_unsaid 30 = .ok (.invokevirtual 292, 3) := by decide +kernel
theorem dX9_unsaid_33 : decode cX9_unsaid 33 = .ok (.ifCond .eq 16, 3) := by decide +kernel
theorem dX9_unsaid_36 : decode cX9_unsaid 36 = .ok (.aload_n 0, 1) := by decide +kernel
theorem dX9_unsaid_37 : decode cX9_unsaid 37 = .ok (.iload 4, 2) := by decide +kernel
theorem dX9_unsaid_39 : decode cX9_unsaid 39 = .ok (.invokevirtual 296, 3) := by decide +kernel
theorem dX9_unsaid_42 : decode cX9_unsaid 42 = .ok (.ifCond .ne 7, 3) := by decide +kernel
theorem dX9_unsaid_45 : decode cX9_unsaid 45 = .ok (.iconst 1, 1) := by decide +kernel
theorem dX9_unsaid_46 : decode cX9_unsaid 46 = .ok (.goto 4, 3) := by decide +kernel
theorem dX9_unsaid_49 : decode cX9_unsaid 49 = .ok (.iconst 0, 1) := by decide +kernel
theorem dX9_unsaid_50 : decode cX9_unsaid 50 = .ok (.iadd, 1) := by decide +kernel
theorem dX9_unsaid_51 : decode cX9_unsaid 51 = .ok (.istore_n 3, 1) := by decide +kernel
theorem dX9_unsaid_52 : decode cX9_unsaid 52 = .ok (.iinc 4 1, 3) := by decide +kernel
theorem dX9_unsaid_55 : decode cX9_unsaid 55 = .ok (.goto (-50), 3) := by decide +kernel
theorem dX9_unsaid_58 : decode cX9_unsaid 58 = .ok (.iload_n 3, 1) := by decide +kernel
theorem dX9_unsaid_59 : decode cX9_unsaid 59 = .ok (.ireturn, 1) := by decide +kernel
theorem dX9_wishOf_0 : decode cX9_wishOf 0 = .ok (.aload_n 0, 1) := by decide +kernel
theorem dX9_wishOf_1 : decode cX9_wishOf 1 = .ok (.getfield 9, 3) := by decide +kernel
theorem dX9_wishOf_4 : decode cX9_wishOf 4 = .ok (.bipush 36, 2) := by decide +kernel
theorem dX9_wishOf_6 : decode cX9_wishOf 6 = .ok (.iload_n 2, 1) := by decide +kernel
theorem dX9_wishOf_7 : decode cX9_wishOf 7 = .ok (.iadd, 1) := by decide +kernel
theorem dX9_wishOf_8 : decode cX9_wishOf 8 = .ok (.iaload, 1) := by decide +kernel
theorem dX9_wishOf_9 : decode cX9_wishOf 9 = .ok (.istore 7, 2) := by decide +kernel
theorem dX9_wishOf_11 : decode cX9_wishOf 11 = .ok (.aload_n 0, 1) := by decide +kernel
theorem dX9_wishOf_12 : decode cX9_wishOf 12 = .ok (.getfield 9, 3) := by decide +kernel
theorem dX9_wishOf_15 : decode cX9_wishOf 15 = .ok (.bipush 10, 2) := by decide +kernel
theorem dX9_wishOf_17 : decode cX9_wishOf 17 = .ok (.iload_n 1, 1) := by decide +kernel
theorem dX9_wishOf_18 : decode cX9_wishOf 18 = .ok (.iadd, 1) := by decide +kernel
theorem dX9_wishOf_19 : decode cX9_wishOf 19 = .ok (.iaload, 1) := by decide +kernel
theorem dX9_wishOf_20 : decode cX9_wishOf 20 = .ok (.istore 8, 2) := by decide +kernel
theorem dX9_wishOf_22 : decode cX9_wishOf 22 = .ok (.aload_n 0, 1) := by decide +kernel
theorem dX9_wishOf_23 : decode cX9_wishOf 23 = .ok (.getfield 143, 3) := by decide +kernel
theorem dX9_wishOf_26 : decode cX9_wishOf 26 = .ok (.ifCond .ge 19, 3) := by decide +kernel
theorem dX9_wishOf_29 : decode cX9_wishOf 29 = .ok (.bipush 10, 2) := by decide +kernel
theorem dX9_wishOf_31 : decode cX9_wishOf 31 = .ok (.iload_n 3, 1) := by decide +kernel
theorem dX9_wishOf_32 : decode cX9_wishOf 32 = .ok (.imul, 1) := by decide +kernel
theorem dX9_wishOf_33 : decode cX9_wishOf 33 = .ok (.iload 7, 2) := by decide +kernel
theorem dX9_wishOf_35 : decode cX9_wishOf 35 = .ok (.iadd, 1) := by decide +kernel
theorem dX9_wishOf_36 : decode cX9_wishOf 36 = .ok (.iload 8, 2) := by decide +kernel
theorem dX9_wishOf_38 : decode cX9_wishOf 38 = .ok (.iadd, 1) := by decide +kernel
theorem dX9_wishOf_39 : decode cX9_wishOf 39 = .ok (.iconst 5, 1) := by decide +kernel
theorem dX9_wishOf_40 : decode cX9_wishOf 40 = .ok (.iload 4, 2) := by decide +kernel
theorem dX9_wishOf_42 : decode cX9_wishOf 42 = .ok (.imul, 1) := by decide +kernel
theorem dX9_wishOf_43 : decode cX9_wishOf 43 = .ok (.isub, 1) := by decide +kernel
theorem dX9_wishOf_44 : decode cX9_wishOf 44 = .ok (.ireturn, 1) := by decide +kernel
theorem dX9_wishOf_45 : decode cX9_wishOf 45 = .ok (.aload_n 0, 1) := by decide +kernel
theorem dX9_wishOf_46 : decode cX9_wishOf 46 = .ok (.getfield 40, 3) := by decide +kernel
theorem dX9_wishOf_49 : decode cX9_wishOf 49 = .ok (.iconst 0, 1) := by decide +kernel
theorem dX9_wishOf_50 : decode cX9_wishOf 50 = .ok (.aload_n 0, 1) := by decide +kernel
theorem dX9_wishOf_51 : decode cX9_wishOf 51 = .ok (.getfield 9, 3) := by decide +kernel
theorem dX9_wishOf_54 : decode cX9_wishOf 54 = .ok (.iload_n 1, 1) := by decide +kernel
theorem dX9_wishOf_55 : decode cX9_wishOf 55 = .ok (.iaload, 1) := by decide +kernel
theorem dX9_wishOf_56 : decode cX9_wishOf 56 = .ok (.iastore, 1) := by decide +kernel
theorem dX9_wishOf_57 : decode cX9_wishOf 57 = .ok (.aload_n 0, 1) := by decide +kernel
theorem dX9_wishOf_58 : decode cX9_wishOf 58 = .ok (.getfield 40, 3) := by decide +kernel
theorem dX9_wishOf_61 : decode cX9_wishOf 61 = .ok (.iconst 1, 1) := by decide +kernel
theorem dX9_wishOf_62 : decode cX9_wishOf 62 = .ok (.iload 8, 2) := by decide +kernel
theorem dX9_wishOf_64 : decode cX9_wishOf 64 = .ok (.iastore, 1) := by decide +kernel
theorem dX9_wishOf_65 : decode cX9_wishOf 65 = .ok (.aload_n 0, 1) := by decide +kernel
theorem dX9_wishOf_66 : decode cX9_wishOf 66 = .ok (.getfield 40, 3) := by decide +kernel
theorem dX9_wishOf_69 : decode cX9_wishOf 69 = .ok (.iconst 2, 1) := by decide +kernel
theorem dX9_wishOf_70 : decode cX9_wishOf 70 = .ok (.iload 7, 2) := by decide +kernel
theorem dX9_wishOf_72 : decode cX9_wishOf 72 = .ok (.iastore, 1) := by decide +kernel
theorem dX9_wishOf_73 : decode cX9_wishOf 73 = .ok (.aload_n 0, 1) := by decide +kernel
theorem dX9_wishOf_74 : decode cX9_wishOf 74 = .ok (.getfield 40, 3) := by decide +kernel
theorem dX9_wishOf_77 : decode cX9_wishOf 77 = .ok (.iconst 3, 1) := by decide +kernel
theorem dX9_wishOf_78 : decode cX9_wishOf 78 = .ok (.iload_n 3, 1) := by decide +kernel
theorem dX9_wishOf_79 : decode cX9_wishOf 79 = .ok (.iastore, 1) := by decide +kernel
theorem dX9_wishOf_80 : decode cX9_wishOf 80 = .ok (.aload_n 0, 1) := by decide +kernel
theorem dX9_wishOf_81 : decode cX9_wishOf 81 = .ok (.getfield 40, 3) := by decide +kernel
theorem dX9_wishOf_84 : decode cX9_wishOf 84 = .ok (.iconst 4, 1) := by decide +kernel
theorem dX9_wishOf_85 : decode cX9_wishOf 85 = .ok (.iload 4, 2) := by decide +kernel
theorem dX9_wishOf_87 : decode cX9_wishOf 87 = .ok (.iastore, 1) := by decide +kernel
theorem dX9_wishOf_88 : decode cX9_wishOf 88 = .ok (.aload_n 0, 1) := by decide +kernel
theorem dX9_wishOf_89 : decode cX9_wishOf 89 = .ok (.getfield 40, 3) := by decide +kernel
theorem dX9_wishOf_92 : decode cX9_wishOf 92 = .ok (.iconst 5, 1) := by decide +kernel
theorem dX9_wishOf_93 : decode cX9_wishOf 93 = .ok (.iload 5, 2) := by decide +kernel
theorem dX9_wishOf_95 : decode cX9_wishOf 95 = .ok (.iastore, 1) := by decide +kernel
theorem dX9_wishOf_96 : decode cX9_wishOf 96 = .ok (.aload_n 0, 1) := by decide +kernel
theorem dX9_wishOf_97 : decode cX9_wishOf 97 = .ok (.getfield 40, 3) := by decide +kernel
theorem dX9_wishOf_100 : decode cX9_wishOf 100 = .ok (.bipush 6, 2) := by decide +kernel
theorem dX9_wishOf_102 : decode cX9_wishOf 102 = .ok (.iload_n 1, 1) := by decide +kernel
theorem dX9_wishOf_103 : decode cX9_wishOf 103 = .ok (.iastore, 1) := by decide +kernel
theorem dX9_wishOf_104 : decode cX9_wishOf 104 = .ok (.aload_n 0, 1) := by decide +kernel
theorem dX9_wishOf_105 : decode cX9_wishOf 105 = .ok (.getfield 40, 3) := by decide +kernel
theorem dX9_wishOf_108 : decode cX9_wishOf 108 = .ok (.bipush 7, 2) := by decide +kernel
theorem dX9_wishOf_110 : decode cX9_wishOf 110 = .ok (.iload 6, 2) := by decide +kernel
theorem dX9_wishOf_112 : decode cX9_wishOf 112 = .ok (.iastore, 1) := by decide +kernel
theorem dX9_wishOf_113 : decode cX9_wishOf 113 = .ok (.aload_n 0, 1) := by decide +kernel
theorem dX9_wishOf_114 : decode cX9_wishOf 114 = .ok (.iconst 0, 1) := by decide +kernel
theorem dX9_wishOf_115 : decode cX9_wishOf 115 = .ok (.aload_n 0, 1) := by decide +kernel
theorem dX9_wishOf_116 : decode cX9_wishOf 116 = .ok (.getfield 143, 3) := by decide +kernel
theorem dX9_wishOf_119 : decode cX9_wishOf 119 = .ok (.invokevirtual 277, 3) := by decide +kernel
theorem dX9_wishOf_122 : decode cX9_wishOf 122 = .ok (.ireturn, 1) := by decide +kernel
theorem dX9_wishes_0 : decode cX9_wishes 0 = .ok (.aload_n 0, 1) := by decide +kernel
theorem dX9_wishes_1 : decode cX9_wishes 1 = .ok (.iload_n 1, 1) := by decide +kernel
theorem dX9_wishes_2 : decode cX9_wishes 2 = .ok (.invokevirtual 299, 3) := by decide +kernel
theorem dX9_wishes_5 : decode cX9_wishes 5 = .ok (.ifCond .eq 16, 3) := by decide +kernel
theorem dX9_wishes_8 : decode cX9_wishes 8 = .ok (.aload_n 0, 1) := by decide +kernel
theorem dX9_wishes_9 : decode cX9_wishes 9 = .ok (.getfield 46, 3) := by decide +kernel
theorem dX9_wishes_12 : decode cX9_wishes 12 = .ok (.iload_n 1, 1) := by decide +kernel
theorem dX9_wishes_13 : decode cX9_wishes 13 = .ok (.iaload, 1) := by decide +kernel
theorem dX9_wishes_14 : decode cX9_wishes 14 = .ok (.ifCond .le 7, 3) := by decide +kernel
theorem dX9_wishes_17 : decode cX9_wishes 17 = .ok (.iconst 1, 1) := by decide +kernel
theorem dX9_wishes_18 : decode cX9_wishes 18 = .ok (.goto 4, 3) := by decide +kernel
theorem dX9_wishes_21 : decode cX9_wishes 21 = .ok (.iconst 0, 1) := by decide +kernel
theorem dX9_wishes_22 : decode cX9_wishes 22 = .ok (.ireturn, 1) := by decide +kernel
theorem dX9_mostWishing_0 : decode cX9_mostWishing 0 = .ok (.iconst (-1), 1) := by decide +kernel
theorem dX9_mostWishing_1 : decode cX9_mostWishing 1 = .ok (.istore_n 3, 1) := by decide +kernel
theorem dX9_mostWishing_2 : decode cX9_mostWishing 2 = .ok (.iconst 0, 1) := by decide +kernel
theorem dX9_mostWishing_3 : decode cX9_mostWishing 3 = .ok (.istore 4, 2) := by decide +kernel
theorem dX9_mostWishing_5 : decode cX9_mostWishing 5 = .ok (.iload 4, 2) := by decide +kernel
theorem dX9_mostWishing_7 : decode cX9_mostWishing 7 = .ok (.aload_n 0, 1) := by decide +kernel
theorem dX9_mostWishing_8 : decode cX9_mostWishing 8 = .ok (.getfield 159, 3) := by decide +kernel
theorem dX9_mostWishing_11 : decode cX9_mostWishing 11 = .ok (.if_icmp .ge 56, 3) := by decide +kernel
theorem dX9_mostWishing_14 : decode cX9_mostWishing 14 = .ok (.aload_n 0, 1) := by decide +kernel
theorem dX9_mostWishing_15 : decode cX9_mostWishing 15 = .ok (.iload 4, 2) := by decide +kernel
theorem dX9_mostWishing_17 : decode cX9_mostWishing 17 = .ok (.invokevirtual 302, 3) := by decide +kernel
theorem dX9_mostWishing_20 : decode cX9_mostWishing 20 = .ok (.ifCond .eq 41, 3) := by decide +kernel
theorem dX9_mostWishing_23 : decode cX9_mostWishing 23 = .ok (.iload_n 1, 1) := by decide +kernel
theorem dX9_mostWishing_24 : decode cX9_mostWishing 24 = .ok (.ifCond .ne 14, 3) := by decide +kernel
theorem dX9_mostWishing_27 : decode cX9_mostWishing 27 = .ok (.aload_n 0, 1) := by decide +kernel
theorem dX9_mostWishing_28 : decode cX9_mostWishing 28 = .ok (.getfield 9, 3) := by decide +kernel
theorem dX9_mostWishing_31 : decode cX9_mostWishing 31 = .ok (.iload 4, 2) := by decide +kernel
theorem dX9_mostWishing_33 : decode cX9_mostWishing 33 = .ok (.iaload, 1) := by decide +kernel
theorem dX9_mostWishing_34 : decode cX9_mostWishing 34 = .ok (.iload_n 2, 1) := by decide +kernel
theorem dX9_mostWishing_35 : decode cX9_mostWishing 35 = .ok (.if_icmp .ge 26, 3) := by decide +kernel
theorem dX9_mostWishing_38 : decode cX9_mostWishing 38 = .ok (.iload_n 3, 1) := by decide +kernel
theorem dX9_mostWishing_39 : decode cX9_mostWishing 39 = .ok (.ifCond .lt 19, 3) := by decide +kernel
theorem dX9_mostWishing_42 : decode cX9_mostWishing 42 = .ok (.aload_n 0, 1) := by decide +kernel
theorem dX9_mostWishing_43 : decode cX9_mostWishing 43 = .ok (.getfield 46, 3) := by decide +kernel
theorem dX9_mostWishing_46 : decode cX9_mostWishing 46 = .ok (.iload 4, 2) := by decide +kernel
theorem dX9_mostWishing_48 : decode cX9_mostWishing 48 = .ok (.iaload, 1) := by decide +kernel
theorem dX9_mostWishing_49 : decode cX9_mostWishing 49 = .ok (.aload_n 0, 1) := by decide +kernel
theorem dX9_mostWishing_50 : decode cX9_mostWishing 50 = .ok (.getfield 46, 3) := by decide +kernel
theorem dX9_mostWishing_53 : decode cX9_mostWishing 53 = .ok (.iload_n 3, 1) := by decide +kernel
theorem dX9_mostWishing_54 : decode cX9_mostWishing 54 = .ok (.iaload, 1) := by decide +kernel
theorem dX9_mostWishing_55 : decode cX9_mostWishing 55 = .ok (.if_icmp .le 6, 3) := by decide +kernel
theorem dX9_mostWishing_58 : decode cX9_mostWishing 58 = .ok (.iload 4, 2) := by decide +kernel
theorem dX9_mostWishing_60 : decode cX9_mostWishing 60 = .ok (.istore_n 3, 1) := by decide +kernel
theorem dX9_mostWishing_61 : decode cX9_mostWishing 61 = .ok (.iinc 4 1, 3) := by decide +kernel
theorem dX9_mostWishing_64 : decode cX9_mostWishing 64 = .ok (.goto (-59), 3) := by decide +kernel
theorem dX9_mostWishing_67 : decode cX9_mostWishing 67 = .ok (.iload_n 3, 1) := by decide +kernel
theorem dX9_mostWishing_68 : decode cX9_mostWishing 68 = .ok (.ireturn, 1) := by decide +kernel
theorem dX9_byTurns_0 : decode cX9_byTurns 0 = .ok (.iconst 1, 1) := by decide +kernel
theorem dX9_byTurns_1 : decode cX9_byTurns 1 = .ok (.istore_n 1, 1) := by decide +kernel
theorem dX9_byTurns_2 : decode cX9_byTurns 2 = .ok (.iload_n 1, 1) := by decide +kernel
theorem dX9_byTurns_3 : decode cX9_byTurns 3 = .ok (.aload_n 0, 1) := by decide +kernel
theorem dX9_byTurns_4 : decode cX9_byTurns 4 = .ok (.getfield 159, 3) := by decide +kernel
theorem dX9_byTurns_7 : decode cX9_byTurns 7 = .ok (.if_icmp .gt 31, 3) := by decide +kernel
theorem dX9_byTurns_10 : decode cX9_byTurns 10 = .ok (.aload_n 0, 1) := by decide +kernel
theorem dX9_byTurns_11 : decode cX9_byTurns 11 = .ok (.getfield 305, 3) := by decide +kernel
theorem dX9_byTurns_14 : decode cX9_byTurns 14 = .ok (.iload_n 1, 1) := by decide +kernel
theorem dX9_byTurns_15 : decode cX9_byTurns 15 = .ok (.iadd, 1) := by decide +kernel
theorem dX9_byTurns_16 : decode cX9_byTurns 16 = .ok (.aload_n 0, 1) := by decide +kernel
theorem dX9_byTurns_17 : decode cX9_byTurns 17 = .ok (.getfield 159, 3) := by decide +kernel
theorem dX9_byTurns_20 : decode cX9_byTurns 20 = .ok (.irem, 1) := by decide +kernel
theorem dX9_byTurns_21 : decode cX9_byTurns 21 = .ok (.istore_n 2, 1) := by decide +kernel
theorem dX9_byTurns_22 : decode cX9_byTurns 22 = .ok (.aload_n 0, 1) := by decide +kernel
theorem dX9_byTurns_23 : decode cX9_byTurns 23 = .ok (.iload_n 2, 1) := by decide +kernel
theorem dX9_byTurns_24 : decode cX9_byTurns 24 = .ok (.invokevirtual 302, 3) := by decide +kernel
theorem dX9_byTurns_27 : decode cX9_byTurns 27 = .ok (.ifCond .eq 5, 3) := by decide +kernel
theorem dX9_byTurns_30 : decode cX9_byTurns 30 = .ok (.iload_n 2, 1) := by decide +kernel
theorem dX9_byTurns_31 : decode cX9_byTurns 31 = .ok (.ireturn, 1) := by decide +kernel
theorem dX9_byTurns_32 : decode cX9_byTurns 32 = .ok (.iinc 1 1, 3) := by decide +kernel
theorem dX9_byTurns_35 : decode cX9_byTurns 35 = .ok (.goto (-33), 3) := by decide +kernel
theorem dX9_byTurns_38 : decode cX9_byTurns 38 = .ok (.iconst (-1), 1) := by decide +kernel
theorem dX9_byTurns_39 : decode cX9_byTurns 39 = .ok (.ireturn, 1) := by decide +kernel
theorem dX9_leastSpoken_0 : decode cX9_leastSpoken 0 = .ok (.iconst (-1), 1) := by decide +kernel
theorem dX9_leastSpoken_1 : decode cX9_leastSpoken 1 = .ok (.istore_n 1, 1) := by decide +kernel
theorem dX9_leastSpoken_2 : decode cX9_leastSpoken 2 = .ok (.iconst 0, 1) := by decide +kernel
theorem dX9_leastSpoken_3 : decode cX9_leastSpoken 3 = .ok (.istore_n 2, 1) := by decide +kernel
theorem dX9_leastSpoken_4 : decode cX9_leastSpoken 4 = .ok (.iload_n 2, 1) := by decide +kernel
theorem dX9_leastSpoken_5 : decode cX9_leastSpoken 5 = .ok (.aload_n 0, 1) := by decide +kernel
theorem dX9_leastSpoken_6 : decode cX9_leastSpoken 6 = .ok (.getfield 159, 3) := by decide +kernel
theorem dX9_leastSpoken_9 : decode cX9_leastSpoken 9 = .ok (.if_icmp .ge 82, 3) := by decide +kernel
theorem dX9_leastSpoken_12 : decode cX9_leastSpoken 12 = .ok (.iload_n 1, 1) := by decide +kernel
theorem dX9_leastSpoken_13 : decode cX9_leastSpoken 13 = .ok (.ifCond .lt 22, 3) := by decide +kernel
theorem dX9_leastSpoken_16 : decode cX9_leastSpoken 16 = .ok (.aload_n 0, 1) := by decide +kernel
theorem dX9_leastSpoken_17 : decode cX9_leastSpoken 17 = .ok (.getfield 43, 3) := by decide +kernel
theorem dX9_leastSpoken_20 : decode cX9_leastSpoken 20 = .ok (.iload_n 2, 1) := by decide +kernel
theorem dX9_leastSpoken_21 : decode cX9_leastSpoken 21 = .ok (.iaload, 1) := by decide +kernel
theorem dX9_leastSpoken_22 : decode cX9_leastSpoken 22 = .ok (.aload_n 0, 1) := by decide +kernel
theorem dX9_leastSpoken_23 : decode cX9_leastSpoken 23 = .ok (.getfield 43, 3) := by decide +kernel
theorem dX9_leastSpoken_26 : decode cX9_leastSpoken 26 = .ok (.iload_n 1, 1) := by decide +kernel
theorem dX9_leastSpoken_27 : decode cX9_leastSpoken 27 = .ok (.iaload, 1) := by decide +kernel
theorem dX9_leastSpoken_28 : decode cX9_leastSpoken 28 = .ok (.if_icmp .ne 7, 3) := by decide +kernel
theorem dX9_leastSpoken_31 : decode cX9_leastSpoken 31 = .ok (.iconst 1, 1) := by decide +kernel
theorem dX9_leastSpoken_32 : decode cX9_leastSpoken 32 = .ok (.goto 4, 3) := by decide +kernel
theorem dX9_leastSpoken_35 : decode cX9_leastSpoken 35 = .ok (.iconst 0, 1) := by decide +kernel
theorem dX9_leastSpoken_36 : decode cX9_leastSpoken 36 = .ok (.istore_n 3, 1) := by decide +kernel
theorem dX9_leastSpoken_37 : decode cX9_leastSpoken 37 = .ok (.aload_n 0, 1) := by decide +kernel
theorem dX9_leastSpoken_38 : decode cX9_leastSpoken 38 = .ok (.iload_n 2, 1) := by decide +kernel
theorem dX9_leastSpoken_39 : decode cX9_leastSpoken 39 = .ok (.invokevirtual 302, 3) := by decide +kernel
theorem dX9_leastSpoken_42 : decode cX9_leastSpoken 42 = .ok (.ifCond .eq 43, 3) := by decide +kernel
theorem dX9_leastSpoken_45 : decode cX9_leastSpoken 45 = .ok (.iload_n 1, 1) := by decide +kernel
theorem dX9_leastSpoken_46 : decode cX9_leastSpoken 46 = .ok (.ifCond .lt 37, 3) := by decide +kernel
theorem dX9_leastSpoken_49 : decode cX9_leastSpoken 49 = .ok (.aload_n 0, 1) := by decide +kernel
theorem dX9_leastSpoken_50 : decode cX9_leastSpoken 50 = .ok (.getfield 43, 3) := by decide +kernel
theorem dX9_leastSpoken_53 : decode cX9_leastSpoken 53 = .ok (.iload_n 2, 1) := by decide +kernel
theorem dX9_leastSpoken_54 : decode cX9_leastSpoken 54 = .ok (.iaload, 1) := by decide +kernel
theorem dX9_leastSpoken_55 : decode cX9_leastSpoken 55 = .ok (.aload_n 0, 1) := by decide +kernel
theorem dX9_leastSpoken_56 : decode cX9_leastSpoken 56 = .ok (.getfield 43, 3) := by decide +kernel
theorem dX9_leastSpoken_59 : decode cX9_leastSpoken 59 = .ok (.iload_n 1, 1) := by decide +kernel
theorem dX9_leastSpoken_60 : decode cX9_leastSpoken 60 = .ok (.iaload, 1) := by decide +kernel
theorem dX9_leastSpoken_61 : decode cX9_leastSpoken 61 = .ok (.if_icmp .lt 22, 3) := by decide +kernel
theorem dX9_leastSpoken_64 : decode cX9_leastSpoken 64 = .ok (.iload_n 3, 1) := by decide +kernel
theorem dX9_leastSpoken_65 : decode cX9_leastSpoken 65 = .ok (.ifCond .eq 20, 3) := by decide +kernel
theorem dX9_leastSpoken_68 : decode cX9_leastSpoken 68 = .ok (.aload_n 0, 1) := by decide +kernel
theorem dX9_leastSpoken_69 : decode cX9_leastSpoken 69 = .ok (.getfield 46, 3) := by decide +kernel
theorem dX9_leastSpoken_72 : decode cX9_leastSpoken 72 = .ok (.iload_n 2, 1) := by decide +kernel
theorem dX9_leastSpoken_73 : decode cX9_leastSpoken 73 = .ok (.iaload, 1) := by decide +kernel
theorem dX9_leastSpoken_74 : decode cX9_leastSpoken 74 = .ok (.aload_n 0, 1) := by decide +kernel
theorem dX9_leastSpoken_75 : decode cX9_leastSpoken 75 = .ok (.getfield 46, 3) := by decide +kernel
theorem dX9_leastSpoken_78 : decode cX9_leastSpoken 78 = .ok (.iload_n 1, 1) := by decide +kernel
theorem dX9_leastSpoken_79 : decode cX9_leastSpoken 79 = .ok (.iaload, 1) := by decide +kernel
theorem dX9_leastSpoken_80 : decode cX9_leastSpoken 80 = .ok (.if_icmp .le 5, 3) := by decide +kernel
theorem dX9_leastSpoken_83 : decode cX9_leastSpoken 83 = .ok (.iload_n 2, 1) := by decide +kernel
theorem dX9_leastSpoken_84 : decode cX9_leastSpoken 84 = .ok (.istore_n 1, 1) := by decide +kernel
theorem dX9_leastSpoken_85 : decode cX9_leastSpoken 85 = .ok (.iinc 2 1, 3) := by decide +kernel
theorem dX9_leastSpoken_88 : decode cX9_leastSpoken 88 = .ok (.goto (-84), 3) := by decide +kernel
theorem dX9_leastSpoken_91 : decode cX9_leastSpoken 91 = .ok (.iload_n 1, 1) := by decide +kernel
theorem dX9_leastSpoken_92 : decode cX9_leastSpoken 92 = .ok (.ireturn, 1) := by decide +kernel
theorem dX9_chiefLast_0 : decode cX9_chiefLast 0 = .ok (.iconst (-1), 1) := by decide +kernel
theorem dX9_chiefLast_1 : decode cX9_chiefLast 1 = .ok (.istore_n 1, 1) := by decide +kernel
theorem dX9_chiefLast_2 : decode cX9_chiefLast 2 = .ok (.iconst 0, 1) := by decide +kernel
theorem dX9_chiefLast_3 : decode cX9_chiefLast 3 = .ok (.istore_n 2, 1) := by decide +kernel
theorem dX9_chiefLast_4 : decode cX9_chiefLast 4 = .ok (.iload_n 2, 1) := by decide +kernel
theorem dX9_chiefLast_5 : decode cX9_chiefLast 5 = .ok (.aload_n 0, 1) := by decide +kernel
theorem dX9_chiefLast_6 : decode cX9_chiefLast 6 = .ok (.getfield 159, 3) := by decide +kernel
theorem dX9_chiefLast_9 : decode cX9_chiefLast 9 = .ok (.if_icmp .ge 38, 3) := by decide +kernel
theorem dX9_chiefLast_12 : decode cX9_chiefLast 12 = .ok (.aload_n 0, 1) := by decide +kernel
theorem dX9_chiefLast_13 : decode cX9_chiefLast 13 = .ok (.iload_n 2, 1) := by decide +kernel
theorem dX9_chiefLast_14 : decode cX9_chiefLast 14 = .ok (.invokevirtual 299, 3) := by decide +kernel
theorem dX9_chiefLast_17 : decode cX9_chiefLast 17 = .ok (.ifCond .eq 22, 3) := by decide +kernel
theorem dX9_chiefLast_20 : decode cX9_chiefLast 20 = .ok (.aload_n 0, 1) := by decide +kernel
theorem dX9_chiefLast_21 : decode cX9_chiefLast 21 = .ok (.getfield 9, 3) := by decide +kernel
theorem dX9_chiefLast_24 : decode cX9_chiefLast 24 = .ok (.iload_n 2, 1) := by decide +kernel
theorem dX9_chiefLast_25 : decode cX9_chiefLast 25 = .ok (.iaload, 1) := by decide +kernel
theorem dX9_chiefLast_26 : decode cX9_chiefLast 26 = .ok (.iload_n 1, 1) := by decide +kernel
theorem dX9_chiefLast_27 : decode cX9_chiefLast 27 = .ok (.if_icmp .le 12, 3) := by decide +kernel
theorem dX9_chiefLast_30 : decode cX9_chiefLast 30 = .ok (.aload_n 0, 1) := by decide +kernel
theorem dX9_chiefLast_31 : decode cX9_chiefLast 31 = .ok (.getfield 9, 3) := by decide +kernel
theorem dX9_chiefLast_34 : decode cX9_chiefLast 34 = .ok (.iload_n 2, 1) := by decide +kernel
theorem dX9_chiefLast_35 : decode cX9_chiefLast 35 = .ok (.iaload, 1) := by decide +kernel
theorem dX9_chiefLast_36 : decode cX9_chiefLast 36 = .ok (.goto 4, 3) := by decide +kernel
theorem dX9_chiefLast_39 : decode cX9_chiefLast 39 = .ok (.iload_n 1, 1) := by decide +kernel
theorem dX9_chiefLast_40 : decode cX9_chiefLast 40 = .ok (.istore_n 1, 1) := by decide +kernel
theorem dX9_chiefLast_41 : decode cX9_chiefLast 41 = .ok (.iinc 2 1, 3) := by decide +kernel
theorem dX9_chiefLast_44 : decode cX9_chiefLast 44 = .ok (.goto (-40), 3) := by decide +kernel
theorem dX9_chiefLast_47 : decode cX9_chiefLast 47 = .ok (.aload_n 0, 1) := by decide +kernel
theorem dX9_chiefLast_48 : decode cX9_chiefLast 48 = .ok (.iconst 0, 1) := by decide +kernel
theorem dX9_chiefLast_49 : decode cX9_chiefLast 49 = .ok (.iload_n 1, 1) := by decide +kernel
theorem dX9_chiefLast_50 : decode cX9_chiefLast 50 = .ok (.invokevirtual 308, 3) := by decide +kernel
theorem dX9_chiefLast_53 : decode cX9_chiefLast 53 = .ok (.istore_n 2, 1) := by decide +kernel
theorem dX9_chiefLast_54 : decode cX9_chiefLast 54 = .ok (.iload_n 2, 1) := by decide +kernel
theorem dX9_chiefLast_55 : decode cX9_chiefLast 55 = .ok (.ifCond .ge 12, 3) := by decide +kernel
theorem dX9_chiefLast_58 : decode cX9_chiefLast 58 = .ok (.aload_n 0, 1) := by decide +kernel
theorem dX9_chiefLast_59 : decode cX9_chiefLast 59 = .ok (.iconst 1, 1) := by decide +kernel
theorem dX9_chiefLast_60 : decode cX9_chiefLast 60 = .ok (.iload_n 1, 1) := by decide +kernel
theorem dX9_chiefLast_61 : decode cX9_chiefLast 61 = .ok (.invokevirtual 308, 3) := by decide +kernel
theorem dX9_chiefLast_64 : decode cX9_chiefLast 64 = .ok (.goto 4, 3) := by decide +kernel
theorem dX9_chiefLast_67 : decode cX9_chiefLast 67 = .ok (.iload_n 2, 1) := by decide +kernel
theorem dX9_chiefLast_68 : decode cX9_chiefLast 68 = .ok (.ireturn, 1) := by decide +kernel
theorem dX9_nextSpeaker_0 : decode cX9_nextSpeaker 0 = .ok (.aload_n 0, 1) := by decide +kernel
theorem dX9_nextSpeaker_1 : decode cX9_nextSpeaker 1 = .ok (.getfield 280, 3) := by decide +kernel
theorem dX9_nextSpeaker_4 : decode cX9_nextSpeaker 4 = .ok (.tableswitch 77 1 4 #[32, 37, 42, 72], 32) := by decide +kernel
theorem dX9_nextSpeaker_36 : decode cX9_nextSpeaker 36 = .ok (.aload_n 0, 1) := by decide +kernel
theorem dX9_nextSpeaker_37 : decode cX9_nextSpeaker 37 = .ok (.invokevirtual 312, 3) := by decide +kernel
theorem dX9_nextSpeaker_40 : decode cX9_nextSpeaker 40 = .ok (.ireturn, 1) := by decide +kernel
theorem dX9_nextSpeaker_41 : decode cX9_nextSpeaker 41 = .ok (.aload_n 0, 1) := by decide +kernel
theorem dX9_nextSpeaker_42 : decode cX9_nextSpeaker 42 = .ok (.invokevirtual 315, 3) := by decide +kernel
theorem dX9_nextSpeaker_45 : decode cX9_nextSpeaker 45 = .ok (.ireturn, 1) := by decide +kernel
theorem dX9_nextSpeaker_46 : decode cX9_nextSpeaker 46 = .ok (.aload_n 0, 1) := by decide +kernel
theorem dX9_nextSpeaker_47 : decode cX9_nextSpeaker 47 = .ok (.getfield 305, 3) := by decide +kernel
theorem dX9_nextSpeaker_50 : decode cX9_nextSpeaker 50 = .ok (.ifCond .lt 21, 3) := by decide +kernel
theorem dX9_nextSpeaker_53 : decode cX9_nextSpeaker 53 = .ok (.aload_n 0, 1) := by decide +kernel
theorem dX9_nextSpeaker_54 : decode cX9_nextSpeaker 54 = .ok (.aload_n 0, 1) := by decide +kernel
theorem dX9_nextSpeaker_55 : decode cX9_nextSpeaker 55 = .ok (.getfield 305, 3) := by decide +kernel
theorem dX9_nextSpeaker_58 : decode cX9_nextSpeaker 58 = .ok (.invokevirtual 302, 3) := by decide +kernel
theorem dX9_nextSpeaker_61 : decode cX9_nextSpeaker 61 = .ok (.ifCond .eq 10, 3) := by decide +kernel
theorem dX9_nextSpeaker_64 : decode cX9_nextSpeaker 64 = .ok (.aload_n 0, 1) := by decide +kernel
theorem dX9_nextSpeaker_65 : decode cX9_nextSpeaker 65 = .ok (.getfield 305, 3) := by decide +kernel
theorem dX9_nextSpeaker_68 : decode cX9_nextSpeaker 68 = .ok (.goto 7, 3) := by decide +kernel
theorem dX9_nextSpeaker_71 : decode cX9_nextSpeaker 71 = .ok (.aload_n 0, 1) := by decide +kernel
theorem dX9_nextSpeaker_72 : decode cX9_nextSpeaker 72 = .ok (.invokevirtual 312, 3) := by decide +kernel
theorem dX9_nextSpeaker_75 : decode cX9_nextSpeaker 75 = .ok (.ireturn, 1) := by decide +kernel
theorem dX9_nextSpeaker_76 : decode cX9_nextSpeaker 76 = .ok (.aload_n 0, 1) := by decide +kernel
theorem dX9_nextSpeaker_77 : decode cX9_nextSpeaker 77 = .ok (.invokevirtual 318, 3) := by decide +kernel
theorem dX9_nextSpeaker_80 : decode cX9_nextSpeaker 80 = .ok (.ireturn, 1) := by decide +kernel
theorem dX9_nextSpeaker_81 : decode cX9_nextSpeaker 81 = .ok (.aload_n 0, 1) := by decide +kernel
theorem dX9_nextSpeaker_82 : decode cX9_nextSpeaker 82 = .ok (.iconst 1, 1) := by decide +kernel
theorem dX9_nextSpeaker_83 : decode cX9_nextSpeaker 83 = .ok (.iconst 0, 1) := by decide +kernel
theorem dX9_nextSpeaker_84 : decode cX9_nextSpeaker 84 = .ok (.invokevirtual 308, 3) := by decide +kernel
theorem dX9_nextSpeaker_87 : decode cX9_nextSpeaker 87 = .ok (.ireturn, 1) := by decide +kernel
theorem dX9_stopper_0 : decode cX9_stopper 0 = .ok (.iconst 0, 1) := by decide +kernel
theorem dX9_stopper_1 : decode cX9_stopper 1 = .ok (.istore_n 2, 1) := by decide +kernel
theorem dX9_stopper_2 : decode cX9_stopper 2 = .ok (.iload_n 2, 1) := by decide +kernel
theorem dX9_stopper_3 : decode cX9_stopper 3 = .ok (.aload_n 0, 1) := by decide +kernel
theorem dX9_stopper_4 : decode cX9_stopper 4 = .ok (.getfield 159, 3) := by decide +kernel
theorem dX9_stopper_7 : decode cX9_stopper 7 = .ok (.if_icmp .ge 82, 3) := by decide +kernel
theorem dX9_stopper_10 : decode cX9_stopper 10 = .ok (.iload_n 2, 1) := by decide +kernel
theorem dX9_stopper_11 : decode cX9_stopper 11 = .ok (.iload_n 1, 1) := by decide +kernel
theorem dX9_stopper_12 : decode cX9_stopper 12 = .ok (.if_icmp .eq 53, 3) := by decide +kernel
theorem dX9_stopper_15 : decode cX9_stopper 15 = .ok (.aload_n 0, 1) := by decide +kernel
theorem dX9_stopper_16 : decode cX9_stopper 16 = .ok (.iload_n 2, 1) := by decide +kernel
theorem dX9_stopper_17 : decode cX9_stopper 17 = .ok (.invokevirtual 299, 3) := by decide +kernel
theorem dX9_stopper_20 : decode cX9_stopper 20 = .ok (.ifCond .eq 45, 3) := by decide +kernel
theorem dX9_stopper_23 : decode cX9_stopper 23 = .ok (.aload_n 0, 1) := by decide +kernel
theorem dX9_stopper_24 : decode cX9_stopper 24 = .ok (.getfield 9, 3) := by decide +kernel
theorem dX9_stopper_27 : decode cX9_stopper 27 = .ok (.bipush 10, 2) := by decide +kernel
theorem dX9_stopper_29 : decode cX9_stopper 29 = .ok (.iload_n 2, 1) := by decide +kernel
theorem dX9_stopper_30 : decode cX9_stopper 30 = .ok (.iadd, 1) := by decide +kernel
theorem dX9_stopper_31 : decode cX9_stopper 31 = .ok (.iaload, 1) := by decide +kernel
theorem dX9_stopper_32 : decode cX9_stopper 32 = .ok (.aload_n 0, 1) := by decide +kernel
theorem dX9_stopper_33 : decode cX9_stopper 33 = .ok (.getfield 9, 3) := by decide +kernel
theorem dX9_stopper_36 : decode cX9_stopper 36 = .ok (.bipush 10, 2) := by decide +kernel
theorem dX9_stopper_38 : decode cX9_stopper 38 = .ok (.iload_n 1, 1) := by decide +kernel
theorem dX9_stopper_39 : decode cX9_stopper 39 = .ok (.iadd, 1) := by decide +kernel
theorem dX9_stopper_40 : decode cX9_stopper 40 = .ok (.iaload, 1) := by decide +kernel
theorem dX9_stopper_41 : decode cX9_stopper 41 = .ok (.iconst 3, 1) := by decide +kernel
theorem dX9_stopper_42 : decode cX9_stopper 42 = .ok (.iadd, 1) := by decide +kernel
theorem dX9_stopper_43 : decode cX9_stopper 43 = .ok (.if_icmp .lt 22, 3) := by decide +kernel
theorem dX9_stopper_46 : decode cX9_stopper 46 = .ok (.aload_n 0, 1) := by decide +kernel
theorem dX9_stopper_47 : decode cX9_stopper 47 = .ok (.getfield 46, 3) := by decide +kernel
theorem dX9_stopper_50 : decode cX9_stopper 50 = .ok (.iload_n 2, 1) := by decide +kernel
theorem dX9_stopper_51 : decode cX9_stopper 51 = .ok (.iaload, 1) := by decide +kernel
theorem dX9_stopper_52 : decode cX9_stopper 52 = .ok (.aload_n 0, 1) := by decide +kernel
theorem dX9_stopper_53 : decode cX9_stopper 53 = .ok (.getfield 46, 3) := by decide +kernel
theorem dX9_stopper_56 : decode cX9_stopper 56 = .ok (.iload_n 1, 1) := by decide +kernel
theorem dX9_stopper_57 : decode cX9_stopper 57 = .ok (.iaload, 1) := by decide +kernel
theorem dX9_stopper_58 : decode cX9_stopper 58 = .ok (.if_icmp .le 7, 3) := by decide +kernel
theorem dX9_stopper_61 : decode cX9_stopper 61 = .ok (.iconst 1, 1) := by decide +kernel
theorem dX9_stopper_62 : decode cX9_stopper 62 = .ok (.goto 4, 3) := by decide +kernel
theorem dX9_stopper_65 : decode cX9_stopper 65 = .ok (.iconst 0, 1) := by decide +kernel
theorem dX9_stopper_66 : decode cX9_stopper 66 = .ok (.istore_n 3, 1) := by decide +kernel
theorem dX9_stopper_67 : decode cX9_stopper 67 = .ok (.iload_n 3, 1) := by decide +kernel
theorem dX9_stopper_68 : decode cX9_stopper 68 = .ok (.ifCond .eq 15, 3) := by decide +kernel
theorem dX9_stopper_71 : decode cX9_stopper 71 = .ok (.aload_n 0, 1) := by decide +kernel
theorem dX9_stopper_72 : decode cX9_stopper 72 = .ok (.getfield 49, 3) := by decide +kernel
theorem dX9_stopper_75 : decode cX9_stopper 75 = .ok (.iload_n 1, 1) := by decide +kernel
theorem dX9_stopper_76 : decode cX9_stopper 76 = .ok (.iaload, 1) := by decide +kernel
theorem dX9_stopper_77 : decode cX9_stopper 77 = .ok (.iload_n 2, 1) := by decide +kernel
theorem dX9_stopper_78 : decode cX9_stopper 78 = .ok (.if_icmp .eq 5, 3) := by decide +kernel
theorem dX9_stopper_81 : decode cX9_stopper 81 = .ok (.iload_n 2, 1) := by decide +kernel
theorem dX9_stopper_82 : decode cX9_stopper 82 = .ok (.ireturn, 1) := by decide +kernel
theorem dX9_stopper_83 : decode cX9_stopper 83 = .ok (.iinc 2 1, 3) := by decide +kernel
theorem dX9_stopper_86 : decode cX9_stopper 86 = .ok (.goto (-84), 3) := by decide +kernel
theorem dX9_stopper_89 : decode cX9_stopper 89 = .ok (.bipush (-2), 2) := by decide +kernel
theorem dX9_stopper_91 : decode cX9_stopper 91 = .ok (.ireturn, 1) := by decide +kernel
theorem dX9_saysNew_0 : decode cX9_saysNew 0 = .ok (.iconst 0, 1) := by decide +kernel
theorem dX9_saysNew_1 : decode cX9_saysNew 1 = .ok (.istore 4, 2) := by decide +kernel
theorem dX9_saysNew_3 : decode cX9_saysNew 3 = .ok (.iconst 0, 1) := by decide +kernel
theorem dX9_saysNew_4 : decode cX9_saysNew 4 = .ok (.istore 5, 2) := by decide +kernel
theorem dX9_saysNew_6 : decode cX9_saysNew 6 = .ok (.iconst 0, 1) := by decide +kernel
theorem dX9_saysNew_7 : decode cX9_saysNew 7 = .ok (.istore 6, 2) := by decide +kernel
theorem dX9_saysNew_9 : decode cX9_saysNew 9 = .ok (.iload 6, 2) := by decide +kernel
theorem dX9_saysNew_11 : decode cX9_saysNew 11 = .ok (.aload_n 0, 1) := by decide +kernel
theorem dX9_saysNew_12 : decode cX9_saysNew 12 = .ok (.getfield 169, 3) := by decide +kernel
theorem dX9_saysNew_15 : decode cX9_saysNew 15 = .ok (.if_icmp .ge 76, 3) := by decide +kernel
theorem dX9_saysNew_18 : decode cX9_saysNew 18 = .ok (.iload 5, 2) := by decide +kernel
theorem dX9_saysNew_20 : decode cX9_saysNew 20 = .ok (.iload_n 3, 1) := by decide +kernel
theorem dX9_saysNew_21 : decode cX9_saysNew 21 = .ok (.if_icmp .ge 64, 3) := by decide +kernel
theorem dX9_saysNew_24 : decode cX9_saysNew 24 = .ok (.aload_n 0, 1) := by decide +kernel
theorem dX9_saysNew_25 : decode cX9_saysNew 25 = .ok (.getfield 25, 3) := by decide +kernel
theorem dX9_saysNew_28 : decode cX9_saysNew 28 = .ok (.iload 6, 2) := by decide +kernel
theorem dX9_saysNew_30 : decode cX9_saysNew 30 = .ok (.iaload, 1) := by decide +kernel
theorem dX9_saysNew_31 : decode cX9_saysNew 31 = .ok (.iload_n 2, 1) := by decide +kernel
theorem dX9_saysNew_32 : decode cX9_saysNew 32 = .ok (.if_icmp .ne 53, 3) := by decide +kernel
theorem dX9_saysNew_35 : decode cX9_saysNew 35 = .ok (.aload_n 0, 1) := by decide +kernel
theorem dX9_saysNew_36 : decode cX9_saysNew 36 = .ok (.iload_n 1, 1) := by decide +kernel
theorem dX9_saysNew_37 : decode cX9_saysNew 37 = .ok (.iload 6, 2) := by decide +kernel
theorem dX9_saysNew_39 : decode cX9_saysNew 39 = .ok (.invokevirtual 292, 3) := by decide +kernel
theorem dX9_saysNew_42 : decode cX9_saysNew 42 = .ok (.ifCond .eq 43, 3) := by decide +kernel
theorem dX9_saysNew_45 : decode cX9_saysNew 45 = .ok (.aload_n 0, 1) := by decide +kernel
theorem dX9_saysNew_46 : decode cX9_saysNew 46 = .ok (.iload 6, 2) := by decide +kernel
theorem dX9_saysNew_48 : decode cX9_saysNew 48 = .ok (.invokevirtual 296, 3) := by decide +kernel
theorem dX9_saysNew_51 : decode cX9_saysNew 51 = .ok (.ifCond .ne 34, 3) := by decide +kernel
theorem dX9_saysNew_54 : decode cX9_saysNew 54 = .ok (.aload_n 0, 1) := by decide +kernel
theorem dX9_saysNew_55 : decode cX9_saysNew 55 = .ok (.getfield 52, 3) := by decide +kernel
theorem dX9_saysNew_58 : decode cX9_saysNew 58 = .ok (.iload 6, 2) := by decide +kernel
theorem dX9_saysNew_60 : decode cX9_saysNew 60 = .ok (.iload_n 1, 1) := by decide +kernel
theorem dX9_saysNew_61 : decode cX9_saysNew 61 = .ok (.iastore, 1) := by decide +kernel
theorem dX9_saysNew_62 : decode cX9_saysNew 62 = .ok (.aload_n 0, 1) := by decide +kernel
theorem dX9_saysNew_63 : decode cX9_saysNew 63 = .ok (.getfield 55, 3) := by decide +kernel
theorem dX9_saysNew_66 : decode cX9_saysNew 66 = .ok (.iload 6, 2) := by decide +kernel
theorem dX9_saysNew_68 : decode cX9_saysNew 68 = .ok (.aload_n 0, 1) := by decide +kernel
theorem dX9_saysNew_69 : decode cX9_saysNew 69 = .ok (.getfield 321, 3) := by decide +kernel
theorem dX9_saysNew_72 : decode cX9_saysNew 72 = .ok (.iastore, 1) := by decide +kernel
theorem dX9_saysNew_73 : decode cX9_saysNew 73 = .ok (.iload 4, 2) := by decide +kernel
theorem dX9_saysNew_75 : decode cX9_saysNew 75 = .ok (.iconst 1, 1) := by decide +kernel
theorem dX9_saysNew_76 : decode cX9_saysNew 76 = .ok (.iload 6, 2) := by decide +kernel
theorem dX9_saysNew_78 : decode cX9_saysNew 78 = .ok (.ishl, 1) := by decide +kernel
theorem dX9_saysNew_79 : decode cX9_saysNew 79 = .ok (.ior, 1) := by decide +kernel
theorem dX9_saysNew_80 : decode cX9_saysNew 80 = .ok (.istore 4, 2) := by decide +kernel
theorem dX9_saysNew_82 : decode cX9_saysNew 82 = .ok (.iinc 5 1, 3) := by decide +kernel
theorem dX9_saysNew_85 : decode cX9_saysNew 85 = .ok (.iinc 6 1, 3) := by decide +kernel
theorem dX9_saysNew_88 : decode cX9_saysNew 88 = .ok (.goto (-79), 3) := by decide +kernel
theorem dX9_saysNew_91 : decode cX9_saysNew 91 = .ok (.iload 4, 2) := by decide +kernel
theorem dX9_saysNew_93 : decode cX9_saysNew 93 = .ok (.ireturn, 1) := by decide +kernel
theorem dX9_saysAgain_0 : decode cX9_saysAgain 0 = .ok (.iconst 0, 1) := by decide +kernel
theorem dX9_saysAgain_1 : decode cX9_saysAgain 1 = .ok (.istore_n 3, 1) := by decide +kernel
theorem dX9_saysAgain_2 : decode cX9_saysAgain 2 = .ok (.iload_n 3, 1) := by decide +kernel
theorem dX9_saysAgain_3 : decode cX9_saysAgain 3 = .ok (.aload_n 0, 1) := by decide +kernel
theorem dX9_saysAgain_4 : decode cX9_saysAgain 4 = .ok (.getfield 169, 3) := by decide +kernel
theorem dX9_saysAgain_7 : decode cX9_saysAgain 7 = .ok (.if_icmp .ge 38, 3) := by decide +kernel
theorem dX9_saysAgain_10 : decode cX9_saysAgain 10 = .ok (.aload_n 0, 1) := by decide +kernel
theorem dX9_saysAgain_11 : decode cX9_saysAgain 11 = .ok (.getfield 25, 3) := by decide +kernel
theorem dX9_saysAgain_14 : decode cX9_saysAgain 14 = .ok (.iload_n 3, 1) := by decide +kernel
theorem dX9_saysAgain_15 : decode cX9_saysAgain 15 = .ok (.iaload, 1) := by decide +kernel
theorem dX9_saysAgain_16 : decode cX9_saysAgain 16 = .ok (.iload_n 2, 1) := by decide +kernel
theorem dX9_saysAgain_17 : decode cX9_saysAgain 17 = .ok (.if_icmp .ne 22, 3) := by decide +kernel
theorem dX9_saysAgain_20 : decode cX9_saysAgain 20 = .ok (.aload_n 0, 1) := by decide +kernel
theorem dX9_saysAgain_21 : decode cX9_saysAgain 21 = .ok (.iload_n 1, 1) := by decide +kernel
theorem dX9_saysAgain_22 : decode cX9_saysAgain 22 = .ok (.iload_n 3, 1) := by decide +kernel
theorem dX9_saysAgain_23 : decode cX9_saysAgain 23 = .ok (.invokevirtual 292, 3) := by decide +kernel
theorem dX9_saysAgain_26 : decode cX9_saysAgain 26 = .ok (.ifCond .eq 13, 3) := by decide +kernel
theorem dX9_saysAgain_29 : decode cX9_saysAgain 29 = .ok (.aload_n 0, 1) := by decide +kernel
theorem dX9_saysAgain_30 : decode cX9_saysAgain 30 = .ok (.iload_n 3, 1) := by decide +kernel
theorem dX9_saysAgain_31 : decode cX9_saysAgain 31 = .ok (.invokevirtual 296, 3) := by decide +kernel
theorem dX9_saysAgain_34 : decode cX9_saysAgain 34 = .ok (.ifCond .eq 5, 3) := by decide +kernel
theorem dX9_saysAgain_37 : decode cX9_saysAgain 37 = .ok (.iload_n 3, 1) := by decide +kernel
theorem dX9_saysAgain_38 : decode cX9_saysAgain 38 = .ok (.ireturn, 1) := by decide +kernel
theorem dX9_saysAgain_39 : decode cX9_saysAgain 39 = .ok (.iinc 3 1, 3) := by decide +kernel
theorem dX9_saysAgain_42 : decode cX9_saysAgain 42 = .ok (.goto (-40), 3) := by decide +kernel
theorem dX9_saysAgain_45 : decode cX9_saysAgain 45 = .ok (.bipush (-2), 2) := by decide +kernel
theorem dX9_saysAgain_47 : decode cX9_saysAgain 47 = .ok (.ireturn, 1) := by decide +kernel
theorem dX9_speaks_0 : decode cX9_speaks 0 = .ok (.aload_n 0, 1) := by decide +kernel
theorem dX9_speaks_1 : decode cX9_speaks 1 = .ok (.iload_n 1, 1) := by decide +kernel
theorem dX9_speaks_2 : decode cX9_speaks 2 = .ok (.iload_n 2, 1) := by decide +kernel
theorem dX9_speaks_3 : decode cX9_speaks 3 = .ok (.invokevirtual 324, 3) := by decide +kernel
theorem dX9_speaks_6 : decode cX9_speaks 6 = .ok (.istore_n 3, 1) := by decide +kernel
theorem dX9_speaks_7 : decode cX9_speaks 7 = .ok (.iconst 1, 1) := by decide +kernel
theorem dX9_speaks_8 : decode cX9_speaks 8 = .ok (.iload_n 3, 1) := by decide +kernel
theorem dX9_speaks_9 : decode cX9_speaks 9 = .ok (.iadd, 1) := by decide +kernel
theorem dX9_speaks_10 : decode cX9_speaks 10 = .ok (.aload_n 0, 1) := by decide +kernel
theorem dX9_speaks_11 : decode cX9_speaks 11 = .ok (.getfield 283, 3) := by decide +kernel
theorem dX9_speaks_14 : decode cX9_speaks 14 = .ok (.if_icmp .le 10, 3) := by decide +kernel
theorem dX9_speaks_17 : decode cX9_speaks 17 = .ok (.aload_n 0, 1) := by decide +kernel
theorem dX9_speaks_18 : decode cX9_speaks 18 = .ok (.getfield 283, 3) := by decide +kernel
theorem dX9_speaks_21 : decode cX9_speaks 21 = .ok (.goto 6, 3) := by decide +kernel
theorem dX9_speaks_24 : decode cX9_speaks 24 = .ok (.iconst 1, 1) := by decide +kernel
theorem dX9_speaks_25 : decode cX9_speaks 25 = .ok (.iload_n 3, 1) := by decide +kernel
theorem dX9_speaks_26 : decode cX9_speaks 26 = .ok (.iadd, 1) := by decide +kernel
theorem dX9_speaks_27 : decode cX9_speaks 27 = .ok (.istore 4, 2) := by decide +kernel
theorem dX9_speaks_29 : decode cX9_speaks 29 = .ok (.aload_n 0, 1) := by decide +kernel
theorem dX9_speaks_30 : decode cX9_speaks 30 = .ok (.getfield 208, 3) := by decide +kernel
theorem dX9_speaks_33 : decode cX9_speaks 33 = .ok (.iconst 1, 1) := by decide +kernel
theorem dX9_speaks_34 : decode cX9_speaks 34 = .ok (.if_icmp .ne 14, 3) := by decide +kernel
theorem dX9_speaks_37 : decode cX9_speaks 37 = .ok (.iconst 2, 1) := by decide +kernel
theorem dX9_speaks_38 : decode cX9_speaks 38 = .ok (.iload 4, 2) := by decide +kernel
theorem dX9_speaks_40 : decode cX9_speaks 40 = .ok (.imul, 1) := by decide +kernel
theorem dX9_speaks_41 : decode cX9_speaks 41 = .ok (.iconst 2, 1) := by decide +kernel
theorem dX9_speaks_42 : decode cX9_speaks 42 = .ok (.iadd, 1) := by decide +kernel
theorem dX9_speaks_43 : decode cX9_speaks 43 = .ok (.iconst 3, 1) := by decide +kernel
theorem dX9_speaks_44 : decode cX9_speaks 44 = .ok (.idiv, 1) := by decide +kernel
theorem dX9_speaks_45 : decode cX9_speaks 45 = .ok (.goto 5, 3) := by decide +kernel
theorem dX9_speaks_48 : decode cX9_speaks 48 = .ok (.iload 4, 2) := by decide +kernel
theorem dX9_speaks_50 : decode cX9_speaks 50 = .ok (.istore 4, 2) := by decide +kernel
theorem dX9_speaks_52 : decode cX9_speaks 52 = .ok (.iload_n 3, 1) := by decide +kernel
theorem dX9_speaks_53 : decode cX9_speaks 53 = .ok (.aload_n 0, 1) := by decide +kernel
theorem dX9_speaks_54 : decode cX9_speaks 54 = .ok (.getfield 283, 3) := by decide +kernel
theorem dX9_speaks_57 : decode cX9_speaks 57 = .ok (.iconst 1, 1) := by decide +kernel
theorem dX9_speaks_58 : decode cX9_speaks 58 = .ok (.isub, 1) := by decide +kernel
theorem dX9_speaks_59 : decode cX9_speaks 59 = .ok (.if_icmp .ge 7, 3) := by decide +kernel
theorem dX9_speaks_62 : decode cX9_speaks 62 = .ok (.iload_n 3, 1) := by decide +kernel
theorem dX9_speaks_63 : decode cX9_speaks 63 = .ok (.goto 9, 3) := by decide +kernel
theorem dX9_speaks_66 : decode cX9_speaks 66 = .ok (.aload_n 0, 1) := by decide +kernel
theorem dX9_speaks_67 : decode cX9_speaks 67 = .ok (.getfield 283, 3) := by decide +kernel
theorem dX9_speaks_70 : decode cX9_speaks 70 = .ok (.iconst 1, 1) := by decide +kernel
theorem dX9_speaks_71 : decode cX9_speaks 71 = .ok (.isub, 1) := by decide +kernel
theorem dX9_speaks_72 : decode cX9_speaks 72 = .ok (.istore 5, 2) := by decide +kernel
theorem dX9_speaks_74 : decode cX9_speaks 74 = .ok (.aload_n 0, 1) := by decide +kernel
theorem dX9_speaks_75 : decode cX9_speaks 75 = .ok (.iload_n 1, 1) := by decide +kernel
theorem dX9_speaks_76 : decode cX9_speaks 76 = .ok (.invokevirtual 327, 3) := by decide +kernel
theorem dX9_speaks_79 : decode cX9_speaks 79 = .ok (.istore 6, 2) := by decide +kernel
theorem dX9_speaks_81 : decode cX9_speaks 81 = .ok (.iload 6, 2) := by decide +kernel
theorem dX9_speaks_83 : decode cX9_speaks 83 = .ok (.ifCond .lt 20, 3) := by decide +kernel
theorem dX9_speaks_86 : decode cX9_speaks 86 = .ok (.iconst 1, 1) := by decide +kernel
theorem dX9_speaks_87 : decode cX9_speaks 87 = .ok (.istore 4, 2) := by decide +kernel
theorem dX9_speaks_89 : decode cX9_speaks 89 = .ok (.iload 5, 2) := by decide +kernel
theorem dX9_speaks_91 : decode cX9_speaks 91 = .ok (.iconst 1, 1) := by decide +kernel
theorem dX9_speaks_92 : decode cX9_speaks 92 = .ok (.if_icmp .le 7, 3) := by decide +kernel
theorem dX9_speaks_95 : decode cX9_speaks 95 = .ok (.iconst 1, 1) := by decide +kernel
theorem dX9_speaks_96 : decode cX9_speaks 96 = .ok (.goto 5, 3) := by decide +kernel
theorem dX9_speaks_99 : decode cX9_speaks 99 = .ok (.iload 5, 2) := by decide +kernel
theorem dX9_speaks_101 : decode cX9_speaks 101 = .ok (.istore 5, 2) := by decide +kernel
theorem dX9_speaks_103 : decode cX9_speaks 103 = .ok (.aload_n 0, 1) := by decide +kernel
theorem dX9_speaks_104 : decode cX9_speaks 104 = .ok (.getfield 49, 3) := by decide +kernel
theorem dX9_speaks_107 : decode cX9_speaks 107 = .ok (.iload_n 1, 1) := by decide +kernel
theorem dX9_speaks_108 : decode cX9_speaks 108 = .ok (.iload 6, 2) := by decide +kernel
theorem dX9_speaks_110 : decode cX9_speaks 110 = .ok (.iastore, 1) := by decide +kernel
theorem dX9_speaks_111 : decode cX9_speaks 111 = .ok (.aload_n 0, 1) := by decide +kernel
theorem dX9_speaks_112 : decode cX9_speaks 112 = .ok (.getfield 64, 3) := by decide +kernel
theorem dX9_speaks_115 : decode cX9_speaks 115 = .ok (.aload_n 0, 1) := by decide +kernel
theorem dX9_speaks_116 : decode cX9_speaks 116 = .ok (.getfield 321, 3) := by decide +kernel
theorem dX9_speaks_119 : decode cX9_speaks 119 = .ok (.iload_n 1, 1) := by decide +kernel
theorem dX9_speaks_120 : decode cX9_speaks 120 = .ok (.iastore, 1) := by decide +kernel
theorem dX9_speaks_121 : decode cX9_speaks 121 = .ok (.aload_n 0, 1) := by decide +kernel
theorem dX9_speaks_122 : decode cX9_speaks 122 = .ok (.getfield 67, 3) := by decide +kernel
theorem dX9_speaks_125 : decode cX9_speaks 125 = .ok (.aload_n 0, 1) := by decide +kernel
theorem dX9_speaks_126 : decode cX9_speaks 126 = .ok (.getfield 321, 3) := by decide +kernel
theorem dX9_speaks_129 : decode cX9_speaks 129 = .ok (.iload_n 2, 1) := by decide +kernel
theorem dX9_speaks_130 : decode cX9_speaks 130 = .ok (.iastore, 1) := by decide +kernel
theorem dX9_speaks_131 : decode cX9_speaks 131 = .ok (.aload_n 0, 1) := by decide +kernel
theorem dX9_speaks_132 : decode cX9_speaks 132 = .ok (.getfield 70, 3) := by decide +kernel
theorem dX9_speaks_135 : decode cX9_speaks 135 = .ok (.aload_n 0, 1) := by decide +kernel
theorem dX9_speaks_136 : decode cX9_speaks 136 = .ok (.getfield 321, 3) := by decide +kernel
theorem dX9_speaks_139 : decode cX9_speaks 139 = .ok (.aload_n 0, 1) := by decide +kernel
theorem dX9_speaks_140 : decode cX9_speaks 140 = .ok (.getfield 289, 3) := by decide +kernel
theorem dX9_speaks_143 : decode cX9_speaks 143 = .ok (.iastore, 1) := by decide +kernel
theorem dX9_speaks_144 : decode cX9_speaks 144 = .ok (.aload_n 0, 1) := by decide +kernel
theorem dX9_speaks_145 : decode cX9_speaks 145 = .ok (.getfield 73, 3) := by decide +kernel
theorem dX9_speaks_148 : decode cX9_speaks 148 = .ok (.aload_n 0, 1) := by decide +kernel
theorem dX9_speaks_149 : decode cX9_speaks 149 = .ok (.getfield 321, 3) := by decide +kernel
theorem dX9_speaks_152 : decode cX9_speaks 152 = .ok (.iload 4, 2) := by decide +kernel
theorem dX9_speaks_154 : decode cX9_speaks 154 = .ok (.iastore, 1) := by decide +kernel
theorem dX9_speaks_155 : decode cX9_speaks 155 = .ok (.aload_n 0, 1) := by decide +kernel
theorem dX9_speaks_156 : decode cX9_speaks 156 = .ok (.getfield 76, 3) := by decide +kernel
theorem dX9_speaks_159 : decode cX9_speaks 159 = .ok (.aload_n 0, 1) := by decide +kernel
theorem dX9_speaks_160 : decode cX9_speaks 160 = .ok (.getfield 321, 3) := by decide +kernel
theorem dX9_speaks_163 : decode cX9_speaks 163 = .ok (.aload_n 0, 1) := by decide +kernel
theorem dX9_speaks_164 : decode cX9_speaks 164 = .ok (.iload_n 1, 1) := by decide +kernel
theorem dX9_speaks_165 : decode cX9_speaks 165 = .ok (.iload_n 2, 1) := by decide +kernel
theorem dX9_speaks_166 : decode cX9_speaks 166 = .ok (.iload 5, 2) := by decide +kernel
theorem dX9_speaks_168 : decode cX9_speaks 168 = .ok (.invokevirtual 330, 3) := by decide +kernel
theorem dX9_speaks_171 : decode cX9_speaks 171 = .ok (.iastore, 1) := by decide +kernel
theorem dX9_speaks_172 : decode cX9_speaks 172 = .ok (.aload_n 0, 1) := by decide +kernel
theorem dX9_speaks_173 : decode cX9_speaks 173 = .ok (.getfield 79, 3) := by decide +kernel
theorem dX9_speaks_176 : decode cX9_speaks 176 = .ok (.aload_n 0, 1) := by decide +kernel
theorem dX9_speaks_177 : decode cX9_speaks 177 = .ok (.getfield 321, 3) := by decide +kernel
theorem dX9_speaks_180 : decode cX9_speaks 180 = .ok (.aload_n 0, 1) := by decide +kernel
theorem dX9_speaks_181 : decode cX9_speaks 181 = .ok (.getfield 76, 3) := by decide +kernel
theorem dX9_speaks_184 : decode cX9_speaks 184 = .ok (.aload_n 0, 1) := by decide +kernel
theorem dX9_speaks_185 : decode cX9_speaks 185 = .ok (.getfield 321, 3) := by decide +kernel
theorem dX9_speaks_188 : decode cX9_speaks 188 = .ok (.iaload, 1) := by decide +kernel
theorem dX9_speaks_189 : decode cX9_speaks 189 = .ok (.ifCond .ne 12, 3) := by decide +kernel
theorem dX9_speaks_192 : decode cX9_speaks 192 = .ok (.aload_n 0, 1) := by decide +kernel
theorem dX9_speaks_193 : decode cX9_speaks 193 = .ok (.iload_n 1, 1) := by decide +kernel
theorem dX9_speaks_194 : decode cX9_speaks 194 = .ok (.iload_n 2, 1) := by decide +kernel
theorem dX9_speaks_195 : decode cX9_speaks 195 = .ok (.invokevirtual 334, 3) := by decide +kernel
theorem dX9_speaks_198 : decode cX9_speaks 198 = .ok (.goto 5, 3) := by decide +kernel
theorem dX9_speaks_201 : decode cX9_speaks 201 = .ok (.bipush (-2), 2) := by decide +kernel
theorem dX9_speaks_203 : decode cX9_speaks 203 = .ok (.iastore, 1) := by decide +kernel
theorem dX9_speaks_204 : decode cX9_speaks 204 = .ok (.aload_n 0, 1) := by decide +kernel
theorem dX9_speaks_205 : decode cX9_speaks 205 = .ok (.getfield 82, 3) := by decide +kernel
theorem dX9_speaks_208 : decode cX9_speaks 208 = .ok (.aload_n 0, 1) := by decide +kernel
theorem dX9_speaks_209 : decode cX9_speaks 209 = .ok (.getfield 321, 3) := by decide +kernel
theorem dX9_speaks_212 : decode cX9_speaks 212 = .ok (.iload 6, 2) := by decide +kernel
theorem dX9_speaks_214 : decode cX9_speaks 214 = .ok (.iastore, 1) := by decide +kernel
theorem dX9_speaks_215 : decode cX9_speaks 215 = .ok (.aload_n 0, 1) := by decide +kernel
theorem dX9_speaks_216 : decode cX9_speaks 216 = .ok (.dup, 1) := by decide +kernel
theorem dX9_speaks_217 : decode cX9_speaks 217 = .ok (.getfield 321, 3) := by decide +kernel
theorem dX9_speaks_220 : decode cX9_speaks 220 = .ok (.iconst 1, 1) := by decide +kernel
theorem dX9_speaks_221 : decode cX9_speaks 221 = .ok (.iadd, 1) := by decide +kernel
theorem dX9_speaks_222 : decode cX9_speaks 222 = .ok (.putfield 321, 3) := by decide +kernel
theorem dX9_speaks_225 : decode cX9_speaks 225 = .ok (.aload_n 0, 1) := by decide +kernel
theorem dX9_speaks_226 : decode cX9_speaks 226 = .ok (.getfield 43, 3) := by decide +kernel
theorem dX9_speaks_229 : decode cX9_speaks 229 = .ok (.iload_n 1, 1) := by decide +kernel
theorem dX9_speaks_230 : decode cX9_speaks 230 = .ok (.dup2, 1) := by decide +kernel
theorem dX9_speaks_231 : decode cX9_speaks 231 = .ok (.iaload, 1) := by decide +kernel
theorem dX9_speaks_232 : decode cX9_speaks 232 = .ok (.iconst 1, 1) := by decide +kernel
theorem dX9_speaks_233 : decode cX9_speaks 233 = .ok (.iadd, 1) := by decide +kernel
theorem dX9_speaks_234 : decode cX9_speaks 234 = .ok (.iastore, 1) := by decide +kernel
theorem dX9_speaks_235 : decode cX9_speaks 235 = .ok (.aload_n 0, 1) := by decide +kernel
theorem dX9_speaks_236 : decode cX9_speaks 236 = .ok (.iload_n 1, 1) := by decide +kernel
theorem dX9_speaks_237 : decode cX9_speaks 237 = .ok (.putfield 305, 3) := by decide +kernel
theorem dX9_speaks_240 : decode cX9_speaks 240 = .ok (.aload_n 0, 1) := by decide +kernel
theorem dX9_speaks_241 : decode cX9_speaks 241 = .ok (.dup, 1) := by decide +kernel
theorem dX9_speaks_242 : decode cX9_speaks 242 = .ok (.getfield 289, 3) := by decide +kernel
theorem dX9_speaks_245 : decode cX9_speaks 245 = .ok (.iload 4, 2) := by decide +kernel
theorem dX9_speaks_247 : decode cX9_speaks 247 = .ok (.iadd, 1) := by decide +kernel
theorem dX9_speaks_248 : decode cX9_speaks 248 = .ok (.putfield 289, 3) := by decide +kernel
theorem dX9_speaks_251 : decode cX9_speaks 251 = .ok (.aload_n 0, 1) := by decide +kernel
theorem dX9_speaks_252 : decode cX9_speaks 252 = .ok (.getfield 58, 3) := by decide +kernel
theorem dX9_speaks_255 : decode cX9_speaks 255 = .ok (.iload_n 2, 1) := by decide +kernel
theorem dX9_speaks_256 : decode cX9_speaks 256 = .ok (.dup2, 1) := by decide +kernel
theorem dX9_speaks_257 : decode cX9_speaks 257 = .ok (.iaload, 1) := by decide +kernel
theorem dX9_speaks_258 : decode cX9_speaks 258 = .ok (.iload 4, 2) := by decide +kernel
theorem dX9_speaks_260 : decode cX9_speaks 260 = .ok (.iadd, 1) := by decide +kernel
theorem dX9_speaks_261 : decode cX9_speaks 261 = .ok (.iastore, 1) := by decide +kernel
theorem dX9_speaks_262 : decode cX9_speaks 262 = .ok (.return_, 1) := by decide +kernel
theorem dX9_putsPaper_0 : decode cX9_putsPaper 0 = .ok (.iconst 0, 1) := by decide +kernel
theorem dX9_putsPaper_1 : decode cX9_putsPaper 1 = .ok (.istore_n 2, 1) := by decide +kernel
theorem dX9_putsPaper_2 : decode cX9_putsPaper 2 = .ok (.iload_n 2, 1) := by decide +kernel
theorem dX9_putsPaper_3 : decode cX9_putsPaper 3 = .ok (.aload_n 0, 1) := by decide +kernel
theorem dX9_putsPaper_4 : decode cX9_putsPaper 4 = .ok (.getfield 169, 3) := by decide +kernel
theorem dX9_putsPaper_7 : decode cX9_putsPaper 7 = .ok (.if_icmp .ge 74, 3) := by decide +kernel
theorem dX9_putsPaper_10 : decode cX9_putsPaper 10 = .ok (.iconst 0, 1) := by decide +kernel
theorem dX9_putsPaper_11 : decode cX9_putsPaper 11 = .ok (.istore_n 3, 1) := by decide +kernel
theorem dX9_putsPaper_12 : decode cX9_putsPaper 12 = .ok (.iload_n 3, 1) := by decide +kernel
theorem dX9_putsPaper_13 : decode cX9_putsPaper 13 = .ok (.aload_n 0, 1) := by decide +kernel
theorem dX9_putsPaper_14 : decode cX9_putsPaper 14 = .ok (.getfield 159, 3) := by decide +kernel
theorem dX9_putsPaper_17 : decode cX9_putsPaper 17 = .ok (.if_icmp .ge 58, 3) := by decide +kernel
theorem dX9_putsPaper_20 : decode cX9_putsPaper 20 = .ok (.aload_n 0, 1) := by decide +kernel
theorem dX9_putsPaper_21 : decode cX9_putsPaper 21 = .ok (.getfield 25, 3) := by decide +kernel
theorem dX9_putsPaper_24 : decode cX9_putsPaper 24 = .ok (.iload_n 2, 1) := by decide +kernel
theorem dX9_putsPaper_25 : decode cX9_putsPaper 25 = .ok (.iaload, 1) := by decide +kernel
theorem dX9_putsPaper_26 : decode cX9_putsPaper 26 = .ok (.iload_n 1, 1) := by decide +kernel
theorem dX9_putsPaper_27 : decode cX9_putsPaper 27 = .ok (.if_icmp .ne 42, 3) := by decide +kernel
theorem dX9_putsPaper_30 : decode cX9_putsPaper 30 = .ok (.aload_n 0, 1) := by decide +kernel
theorem dX9_putsPaper_31 : decode cX9_putsPaper 31 = .ok (.iload_n 2, 1) := by decide +kernel
theorem dX9_putsPaper_32 : decode cX9_putsPaper 32 = .ok (.invokevirtual 296, 3) := by decide +kernel
theorem dX9_putsPaper_35 : decode cX9_putsPaper 35 = .ok (.ifCond .ne 34, 3) := by decide +kernel
theorem dX9_putsPaper_38 : decode cX9_putsPaper 38 = .ok (.aload_n 0, 1) := by decide +kernel
theorem dX9_putsPaper_39 : decode cX9_putsPaper 39 = .ok (.iload_n 3, 1) := by decide +kernel
theorem dX9_putsPaper_40 : decode cX9_putsPaper 40 = .ok (.invokevirtual 299, 3) := by decide +kernel
theorem dX9_putsPaper_43 : decode cX9_putsPaper 43 = .ok (.ifCond .eq 26, 3) := by decide +kernel
theorem dX9_putsPaper_46 : decode cX9_putsPaper 46 = .ok (.aload_n 0, 1) := by decide +kernel
theorem dX9_putsPaper_47 : decode cX9_putsPaper 47 = .ok (.iload_n 3, 1) := by decide +kernel
theorem dX9_putsPaper_48 : decode cX9_putsPaper 48 = .ok (.iload_n 2, 1) := by decide +kernel
theorem dX9_putsPaper_49 : decode cX9_putsPaper 49 = .ok (.invokevirtual 292, 3) := by decide +kernel
theorem dX9_putsPaper_52 : decode cX9_putsPaper 52 = .ok (.ifCond .eq 17, 3) := by decide +kernel
theorem dX9_putsPaper_55 : decode cX9_putsPaper 55 = .ok (.aload_n 0, 1) := by decide +kernel
theorem dX9_putsPaper_56 : decode cX9_putsPaper 56 = .ok (.getfield 52, 3) := by decide +kernel
theorem dX9_putsPaper_59 : decode cX9_putsPaper 59 = .ok (.iload_n 2, 1) := by decide +kernel
theorem dX9_putsPaper_60 : decode cX9_putsPaper 60 = .ok (.iconst (-1), 1) := by decide +kernel
theorem dX9_putsPaper_61 : decode cX9_putsPaper 61 = .ok (.iastore, 1) := by decide +kernel
theorem dX9_putsPaper_62 : decode cX9_putsPaper 62 = .ok (.aload_n 0, 1) := by decide +kernel
theorem dX9_putsPaper_63 : decode cX9_putsPaper 63 = .ok (.getfield 55, 3) := by decide +kernel
theorem dX9_putsPaper_66 : decode cX9_putsPaper 66 = .ok (.iload_n 2, 1) := by decide +kernel
theorem dX9_putsPaper_67 : decode cX9_putsPaper 67 = .ok (.iconst (-1), 1) := by decide +kernel
theorem dX9_putsPaper_68 : decode cX9_putsPaper 68 = .ok (.iastore, 1) := by decide +kernel
theorem dX9_putsPaper_69 : decode cX9_putsPaper 69 = .ok (.iinc 3 1, 3) := by decide +kernel
theorem dX9_putsPaper_72 : decode cX9_putsPaper 72 = .ok (.goto (-60), 3) := by decide +kernel
theorem dX9_putsPaper_75 : decode cX9_putsPaper 75 = .ok (.iinc 2 1, 3) := by decide +kernel
theorem dX9_putsPaper_78 : decode cX9_putsPaper 78 = .ok (.goto (-76), 3) := by decide +kernel
theorem dX9_putsPaper_81 : decode cX9_putsPaper 81 = .ok (.return_, 1) := by decide +kernel
theorem dX9_oneThing_0 : decode cX9_oneThing 0 = .ok (.aload_n 0, 1) := by decide +kernel
theorem dX9_oneThing_1 : decode cX9_oneThing 1 = .ok (.getfield 280, 3) := by decide +kernel
theorem dX9_oneThing_4 : decode cX9_oneThing 4 = .ok (.iconst 5, 1) := by decide +kernel
theorem dX9_oneThing_5 : decode cX9_oneThing 5 = .ok (.if_icmp .ne 8, 3) := by decide +kernel
theorem dX9_oneThing_8 : decode cX9_oneThing 8 = .ok (.aload_n 0, 1) := by decide +kernel
theorem dX9_oneThing_9 : decode cX9_oneThing 9 = .ok (.iload_n 1, 1) := by decide +kernel
theorem dX9_oneThing_10 : decode cX9_oneThing 10 = .ok (.invokevirtual 337, 3) := by decide +kernel
theorem dX9_oneThing_13 : decode cX9_oneThing 13 = .ok (.iconst 0, 1) := by decide +kernel
theorem dX9_oneThing_14 : decode cX9_oneThing 14 = .ok (.istore_n 2, 1) := by decide +kernel
theorem dX9_oneThing_15 : decode cX9_oneThing 15 = .ok (.iload_n 2, 1) := by decide +kernel
theorem dX9_oneThing_16 : decode cX9_oneThing 16 = .ok (.aload_n 0, 1) := by decide +kernel
theorem dX9_oneThing_17 : decode cX9_oneThing 17 = .ok (.getfield 159, 3) := by decide +kernel
theorem dX9_oneThing_20 : decode cX9_oneThing 20 = .ok (.if_icmp .ge 16, 3) := by decide +kernel
theorem dX9_oneThing_23 : decode cX9_oneThing 23 = .ok (.aload_n 0, 1) := by decide +kernel
theorem dX9_oneThing_24 : decode cX9_oneThing 24 = .ok (.getfield 43, 3) := by decide +kernel
theorem dX9_oneThing_27 : decode cX9_oneThing 27 = .ok (.iload_n 2, 1) := by decide +kernel
theorem dX9_oneThing_28 : decode cX9_oneThing 28 = .ok (.iconst 0, 1) := by decide +kernel
theorem dX9_oneThing_29 : decode cX9_oneThing 29 = .ok (.iastore, 1) := by decide +kernel
theorem dX9_oneThing_30 : decode cX9_oneThing 30 = .ok (.iinc 2 1, 3) := by decide +kernel
theorem dX9_oneThing_33 : decode cX9_oneThing 33 = .ok (.goto (-18), 3) := by decide +kernel
theorem dX9_oneThing_36 : decode cX9_oneThing 36 = .ok (.iconst 1, 1) := by decide +kernel
theorem dX9_oneThing_37 : decode cX9_oneThing 37 = .ok (.istore_n 2, 1) := by decide +kernel
theorem dX9_oneThing_38 : decode cX9_oneThing 38 = .ok (.iload_n 2, 1) := by decide +kernel
theorem dX9_oneThing_39 : decode cX9_oneThing 39 = .ok (.ifCond .eq 123, 3) := by decide +kernel
theorem dX9_oneThing_42 : decode cX9_oneThing 42 = .ok (.aload_n 0, 1) := by decide +kernel
theorem dX9_oneThing_43 : decode cX9_oneThing 43 = .ok (.getfield 58, 3) := by decide +kernel
theorem dX9_oneThing_46 : decode cX9_oneThing 46 = .ok (.iload_n 1, 1) := by decide +kernel
theorem dX9_oneThing_47 : decode cX9_oneThing 47 = .ok (.iaload, 1) := by decide +kernel
theorem dX9_oneThing_48 : decode cX9_oneThing 48 = .ok (.bipush 60, 2) := by decide +kernel
theorem dX9_oneThing_50 : decode cX9_oneThing 50 = .ok (.if_icmp .ge 112, 3) := by decide +kernel
theorem dX9_oneThing_53 : decode cX9_oneThing 53 = .ok (.aload_n 0, 1) := by decide +kernel
theorem dX9_oneThing_54 : decode cX9_oneThing 54 = .ok (.getfield 321, 3) := by decide +kernel
theorem dX9_oneThing_57 : decode cX9_oneThing 57 = .ok (.sipush 200, 3) := by decide +kernel
theorem dX9_oneThing_60 : decode cX9_oneThing 60 = .ok (.if_icmp .ge 102, 3) := by decide +kernel
theorem dX9_oneThing_63 : decode cX9_oneThing 63 = .ok (.iconst 0, 1) := by decide +kernel
theorem dX9_oneThing_64 : decode cX9_oneThing 64 = .ok (.istore_n 3, 1) := by decide +kernel
theorem dX9_oneThing_65 : decode cX9_oneThing 65 = .ok (.iload_n 3, 1) := by decide +kernel
theorem dX9_oneThing_66 : decode cX9_oneThing 66 = .ok (.aload_n 0, 1) := by decide +kernel
theorem dX9_oneThing_67 : decode cX9_oneThing 67 = .ok (.getfield 159, 3) := by decide +kernel
theorem dX9_oneThing_70 : decode cX9_oneThing 70 = .ok (.if_icmp .ge 64, 3) := by decide +kernel
theorem dX9_oneThing_73 : decode cX9_oneThing 73 = .ok (.aload_n 0, 1) := by decide +kernel
theorem dX9_oneThing_74 : decode cX9_oneThing 74 = .ok (.getfield 46, 3) := by decide +kernel
theorem dX9_oneThing_77 : decode cX9_oneThing 77 = .ok (.iload_n 3, 1) := by decide +kernel
theorem dX9_oneThing_78 : decode cX9_oneThing 78 = .ok (.aload_n 0, 1) := by decide +kernel
theorem dX9_oneThing_79 : decode cX9_oneThing 79 = .ok (.iload_n 3, 1) := by decide +kernel
theorem dX9_oneThing_80 : decode cX9_oneThing 80 = .ok (.invokevirtual 299, 3) := by decide +kernel
theorem dX9_oneThing_83 : decode cX9_oneThing 83 = .ok (.ifCond .eq 43, 3) := by decide +kernel
theorem dX9_oneThing_86 : decode cX9_oneThing 86 = .ok (.aload_n 0, 1) := by decide +kernel
theorem dX9_oneThing_87 : decode cX9_oneThing 87 = .ok (.iload_n 3, 1) := by decide +kernel
theorem dX9_oneThing_88 : decode cX9_oneThing 88 = .ok (.iload_n 1, 1) := by decide +kernel
theorem dX9_oneThing_89 : decode cX9_oneThing 89 = .ok (.aload_n 0, 1) := by decide +kernel
theorem dX9_oneThing_90 : decode cX9_oneThing 90 = .ok (.iload_n 3, 1) := by decide +kernel
theorem dX9_oneThing_91 : decode cX9_oneThing 91 = .ok (.iload_n 1, 1) := by decide +kernel
theorem dX9_oneThing_92 : decode cX9_oneThing 92 = .ok (.invokevirtual 324, 3) := by decide +kernel
theorem dX9_oneThing_95 : decode cX9_oneThing 95 = .ok (.aload_n 0, 1) := by decide +kernel
theorem dX9_oneThing_96 : decode cX9_oneThing 96 = .ok (.getfield 43, 3) := by decide +kernel
theorem dX9_oneThing_99 : decode cX9_oneThing 99 = .ok (.iload_n 3, 1) := by decide +kernel
theorem dX9_oneThing_100 : decode cX9_oneThing 100 = .ok (.iaload, 1) := by decide +kernel
theorem dX9_oneThing_101 : decode cX9_oneThing 101 = .ok (.aload_n 0, 1) := by decide +kernel
theorem dX9_oneThing_102 : decode cX9_oneThing 102 = .ok (.getfield 58, 3) := by decide +kernel
theorem dX9_oneThing_105 : decode cX9_oneThing 105 = .ok (.iload_n 1, 1) := by decide +kernel
theorem dX9_oneThing_106 : decode cX9_oneThing 106 = .ok (.iaload, 1) := by decide +kernel
theorem dX9_oneThing_107 : decode cX9_oneThing 107 = .ok (.iload_n 3, 1) := by decide +kernel
theorem dX9_oneThing_108 : decode cX9_oneThing 108 = .ok (.aload_n 0, 1) := by decide +kernel
theorem dX9_oneThing_109 : decode cX9_oneThing 109 = .ok (.getfield 305, 3) := by decide +kernel
theorem dX9_oneThing_112 : decode cX9_oneThing 112 = .ok (.if_icmp .ne 7, 3) := by decide +kernel
theorem dX9_oneThing_115 : decode cX9_oneThing 115 = .ok (.iconst 1, 1) := by decide +kernel
theorem dX9_oneThing_116 : decode cX9_oneThing 116 = .ok (.goto 4, 3) := by decide +kernel
theorem dX9_oneThing_119 : decode cX9_oneThing 119 = .ok (.iconst 0, 1) := by decide +kernel
theorem dX9_oneThing_120 : decode cX9_oneThing 120 = .ok (.invokevirtual 341, 3) := by decide +kernel
theorem dX9_oneThing_123 : decode cX9_oneThing 123 = .ok (.goto 4, 3) := by decide +kernel
theorem dX9_oneThing_126 : decode cX9_oneThing 126 = .ok (.iconst 0, 1) := by decide +kernel
theorem dX9_oneThing_127 : decode cX9_oneThing 127 = .ok (.iastore, 1) := by decide +kernel
theorem dX9_oneThing_128 : decode cX9_oneThing 128 = .ok (.iinc 3 1, 3) := by decide +kernel
theorem dX9_oneThing_131 : decode cX9_oneThing 131 = .ok (.goto (-66), 3) := by decide +kernel
theorem dX9_oneThing_134 : decode cX9_oneThing 134 = .ok (.aload_n 0, 1) := by decide +kernel
theorem dX9_oneThing_135 : decode cX9_oneThing 135 = .ok (.invokevirtual 345, 3) := by decide +kernel
theorem dX9_oneThing_138 : decode cX9_oneThing 138 = .ok (.istore_n 3, 1) := by decide +kernel
theorem dX9_oneThing_139 : decode cX9_oneThing 139 = .ok (.iload_n 3, 1) := by decide +kernel
theorem dX9_oneThing_140 : decode cX9_oneThing 140 = .ok (.ifCond .lt 7, 3) := by decide +kernel
theorem dX9_oneThing_143 : decode cX9_oneThing 143 = .ok (.iconst 1, 1) := by decide +kernel
theorem dX9_oneThing_144 : decode cX9_oneThing 144 = .ok (.goto 4, 3) := by decide +kernel
theorem dX9_oneThing_147 : decode cX9_oneThing 147 = .ok (.iconst 0, 1) := by decide +kernel
theorem dX9_oneThing_148 : decode cX9_oneThing 148 = .ok (.istore_n 2, 1) := by decide +kernel
theorem dX9_oneThing_149 : decode cX9_oneThing 149 = .ok (.iload_n 2, 1) := by decide +kernel
theorem dX9_oneThing_150 : decode cX9_oneThing 150 = .ok (.ifCond .eq 9, 3) := by decide +kernel
theorem dX9_oneThing_153 : decode cX9_oneThing 153 = .ok (.aload_n 0, 1) := by decide +kernel
theorem dX9_oneThing_154 : decode cX9_oneThing 154 = .ok (.iload_n 3, 1) := by decide +kernel
theorem dX9_oneThing_155 : decode cX9_oneThing 155 = .ok (.iload_n 1, 1) := by decide +kernel
theorem dX9_oneThing_156 : decode cX9_oneThing 156 = .ok (.invokevirtual 348, 3) := by decide +kernel
theorem dX9_oneThing_159 : decode cX9_oneThing 159 = .ok (.goto (-121), 3) := by decide +kernel
theorem dX9_oneThing_162 : decode cX9_oneThing 162 = .ok (.return_, 1) := by decide +kernel
theorem dX9_meets_0 : decode cX9_meets 0 = .ok (.aload_n 0, 1) := by decide +kernel
theorem dX9_meets_1 : decode cX9_meets 1 = .ok (.iconst 0, 1) := by decide +kernel
theorem dX9_meets_2 : decode cX9_meets 2 = .ok (.putfield 289, 3) := by decide +kernel
theorem dX9_meets_5 : decode cX9_meets 5 = .ok (.aload_n 0, 1) := by decide +kernel
theorem dX9_meets_6 : decode cX9_meets 6 = .ok (.iconst 0, 1) := by decide +kernel
theorem dX9_meets_7 : decode cX9_meets 7 = .ok (.putfield 321, 3) := by decide +kernel
theorem dX9_meets_10 : decode cX9_meets 10 = .ok (.aload_n 0, 1) := by decide +kernel
theorem dX9_meets_11 : decode cX9_meets 11 = .ok (.iconst (-1), 1) := by decide +kernel
theorem dX9_meets_12 : decode cX9_meets 12 = .ok (.putfield 305, 3) := by decide +kernel
theorem dX9_meets_15 : decode cX9_meets 15 = .ok (.iconst 0, 1) := by decide +kernel
theorem dX9_meets_16 : decode cX9_meets 16 = .ok (.istore_n 1, 1) := by decide +kernel
theorem dX9_meets_17 : decode cX9_meets 17 = .ok (.iload_n 1, 1) := by decide +kernel
theorem dX9_meets_18 : decode cX9_meets 18 = .ok (.aload_n 0, 1) := by decide +kernel
theorem dX9_meets_19 : decode cX9_meets 19 = .ok (.getfield 159, 3) := by decide +kernel
theorem dX9_meets_22 : decode cX9_meets 22 = .ok (.if_icmp .ge 17, 3) := by decide +kernel
theorem dX9_meets_25 : decode cX9_meets 25 = .ok (.aload_n 0, 1) := by decide +kernel
theorem dX9_meets_26 : decode cX9_meets 26 = .ok (.getfield 49, 3) := by decide +kernel
theorem dX9_meets_29 : decode cX9_meets 29 = .ok (.iload_n 1, 1) := by decide +kernel
theorem dX9_meets_30 : decode cX9_meets 30 = .ok (.bipush (-2), 2) := by decide +kernel
theorem dX9_meets_32 : decode cX9_meets 32 = .ok (.iastore, 1) := by decide +kernel
theorem dX9_meets_33 : decode cX9_meets 33 = .ok (.iinc 1 1, 3) := by decide +kernel
theorem dX9_meets_36 : decode cX9_meets 36 = .ok (.goto (-19), 3) := by decide +kernel
theorem dX9_meets_39 : decode cX9_meets 39 = .ok (.iconst 0, 1) := by decide +kernel
theorem dX9_meets_40 : decode cX9_meets 40 = .ok (.istore_n 1, 1) := by decide +kernel
theorem dX9_meets_41 : decode cX9_meets 41 = .ok (.iload_n 1, 1) := by decide +kernel
theorem dX9_meets_42 : decode cX9_meets 42 = .ok (.aload_n 0, 1) := by decide +kernel
theorem dX9_meets_43 : decode cX9_meets 43 = .ok (.getfield 169, 3) := by decide +kernel
theorem dX9_meets_46 : decode cX9_meets 46 = .ok (.if_icmp .ge 25, 3) := by decide +kernel
theorem dX9_meets_49 : decode cX9_meets 49 = .ok (.aload_n 0, 1) := by decide +kernel
theorem dX9_meets_50 : decode cX9_meets 50 = .ok (.getfield 52, 3) := by decide +kernel
theorem dX9_meets_53 : decode cX9_meets 53 = .ok (.iload_n 1, 1) := by decide +kernel
theorem dX9_meets_54 : decode cX9_meets 54 = .ok (.bipush (-2), 2) := by decide +kernel
theorem dX9_meets_56 : decode cX9_meets 56 = .ok (.iastore, 1) := by decide +kernel
theorem dX9_meets_57 : decode cX9_meets 57 = .ok (.aload_n 0, 1) := by decide +kernel
theorem dX9_meets_58 : decode cX9_meets 58 = .ok (.getfield 55, 3) := by decide +kernel
theorem dX9_meets_61 : decode cX9_meets 61 = .ok (.iload_n 1, 1) := by decide +kernel
theorem dX9_meets_62 : decode cX9_meets 62 = .ok (.bipush (-2), 2) := by decide +kernel
theorem dX9_meets_64 : decode cX9_meets 64 = .ok (.iastore, 1) := by decide +kernel
theorem dX9_meets_65 : decode cX9_meets 65 = .ok (.iinc 1 1, 3) := by decide +kernel
theorem dX9_meets_68 : decode cX9_meets 68 = .ok (.goto (-27), 3) := by decide +kernel
theorem dX9_meets_71 : decode cX9_meets 71 = .ok (.iconst 0, 1) := by decide +kernel
theorem dX9_meets_72 : decode cX9_meets 72 = .ok (.istore_n 1, 1) := by decide +kernel
theorem dX9_meets_73 : decode cX9_meets 73 = .ok (.iload_n 1, 1) := by decide +kernel
theorem dX9_meets_74 : decode cX9_meets 74 = .ok (.aload_n 0, 1) := by decide +kernel
theorem dX9_meets_75 : decode cX9_meets 75 = .ok (.getfield 166, 3) := by decide +kernel
theorem dX9_meets_78 : decode cX9_meets 78 = .ok (.if_icmp .ge 16, 3) := by decide +kernel
theorem dX9_meets_81 : decode cX9_meets 81 = .ok (.aload_n 0, 1) := by decide +kernel
theorem dX9_meets_82 : decode cX9_meets 82 = .ok (.getfield 58, 3) := by decide +kernel
theorem dX9_meets_85 : decode cX9_meets 85 = .ok (.iload_n 1, 1) := by decide +kernel
theorem dX9_meets_86 : decode cX9_meets 86 = .ok (.iconst 0, 1) := by decide +kernel
theorem dX9_meets_87 : decode cX9_meets 87 = .ok (.iastore, 1) := by decide +kernel
theorem dX9_meets_88 : decode cX9_meets 88 = .ok (.iinc 1 1, 3) := by decide +kernel
theorem dX9_meets_91 : decode cX9_meets 91 = .ok (.goto (-18), 3) := by decide +kernel
theorem dX9_meets_94 : decode cX9_meets 94 = .ok (.iconst 0, 1) := by decide +kernel
theorem dX9_meets_95 : decode cX9_meets 95 = .ok (.istore_n 1, 1) := by decide +kernel
theorem dX9_meets_96 : decode cX9_meets 96 = .ok (.iload_n 1, 1) := by decide +kernel
theorem dX9_meets_97 : decode cX9_meets 97 = .ok (.aload_n 0, 1) := by decide +kernel
theorem dX9_meets_98 : decode cX9_meets 98 = .ok (.getfield 166, 3) := by decide +kernel
theorem dX9_meets_101 : decode cX9_meets 101 = .ok (.if_icmp .ge 19, 3) := by decide +kernel
theorem dX9_meets_104 : decode cX9_meets 104 = .ok (.aload_n 0, 1) := by decide +kernel
theorem dX9_meets_105 : decode cX9_meets 105 = .ok (.aload_n 0, 1) := by decide +kernel
theorem dX9_meets_106 : decode cX9_meets 106 = .ok (.getfield 61, 3) := by decide +kernel
theorem dX9_meets_109 : decode cX9_meets 109 = .ok (.iload_n 1, 1) := by decide +kernel
theorem dX9_meets_110 : decode cX9_meets 110 = .ok (.iaload, 1) := by decide +kernel
theorem dX9_meets_111 : decode cX9_meets 111 = .ok (.invokevirtual 352, 3) := by decide +kernel
theorem dX9_meets_114 : decode cX9_meets 114 = .ok (.iinc 1 1, 3) := by decide +kernel
theorem dX9_meets_117 : decode cX9_meets 117 = .ok (.goto (-21), 3) := by decide +kernel
theorem dX9_meets_120 : decode cX9_meets 120 = .ok (.return_, 1) := by decide +kernel
theorem dX9_comesTo_0 : decode cX9_comesTo 0 = .ok (.aload_n 0, 1) := by decide +kernel
theorem dX9_comesTo_1 : decode cX9_comesTo 1 = .ok (.getfield 9, 3) := by decide +kernel
theorem dX9_comesTo_4 : decode cX9_comesTo 4 = .ok (.bipush 30, 2) := by decide +kernel
theorem dX9_comesTo_6 : decode cX9_comesTo 6 = .ok (.iload_n 1, 1) := by decide +kernel
theorem dX9_comesTo_7 : decode cX9_comesTo 7 = .ok (.iadd, 1) := by decide +kernel
theorem dX9_comesTo_8 : decode cX9_comesTo 8 = .ok (.iaload, 1) := by decide +kernel
theorem dX9_comesTo_9 : decode cX9_comesTo 9 = .ok (.istore_n 2, 1) := by decide +kernel
theorem dX9_comesTo_10 : decode cX9_comesTo 10 = .ok (.iconst 0, 1) := by decide +kernel
theorem dX9_comesTo_11 : decode cX9_comesTo 11 = .ok (.istore_n 3, 1) := by decide +kernel
theorem dX9_comesTo_12 : decode cX9_comesTo 12 = .ok (.iload_n 3, 1) := by decide +kernel
theorem dX9_comesTo_13 : decode cX9_comesTo 13 = .ok (.aload_n 0, 1) := by decide +kernel
theorem dX9_comesTo_14 : decode cX9_comesTo 14 = .ok (.getfield 169, 3) := by decide +kernel
theorem dX9_comesTo_17 : decode cX9_comesTo 17 = .ok (.if_icmp .ge 40, 3) := by decide +kernel
theorem dX9_comesTo_20 : decode cX9_comesTo 20 = .ok (.iload_n 2, 1) := by decide +kernel
theorem dX9_comesTo_21 : decode cX9_comesTo 21 = .ok (.aload_n 0, 1) := by decide +kernel
theorem dX9_comesTo_22 : decode cX9_comesTo 22 = .ok (.getfield 25, 3) := by decide +kernel
theorem dX9_comesTo_25 : decode cX9_comesTo 25 = .ok (.iload_n 3, 1) := by decide +kernel
theorem dX9_comesTo_26 : decode cX9_comesTo 26 = .ok (.iaload, 1) := by decide +kernel
theorem dX9_comesTo_27 : decode cX9_comesTo 27 = .ok (.iload_n 1, 1) := by decide +kernel
theorem dX9_comesTo_28 : decode cX9_comesTo 28 = .ok (.if_icmp .ne 20, 3) := by decide +kernel
theorem dX9_comesTo_31 : decode cX9_comesTo 31 = .ok (.aload_n 0, 1) := by decide +kernel
theorem dX9_comesTo_32 : decode cX9_comesTo 32 = .ok (.iload_n 3, 1) := by decide +kernel
theorem dX9_comesTo_33 : decode cX9_comesTo 33 = .ok (.invokevirtual 296, 3) := by decide +kernel
theorem dX9_comesTo_36 : decode cX9_comesTo 36 = .ok (.ifCond .eq 12, 3) := by decide +kernel
theorem dX9_comesTo_39 : decode cX9_comesTo 39 = .ok (.aload_n 0, 1) := by decide +kernel
theorem dX9_comesTo_40 : decode cX9_comesTo 40 = .ok (.getfield 28, 3) := by decide +kernel
theorem dX9_comesTo_43 : decode cX9_comesTo 43 = .ok (.iload_n 3, 1) := by decide +kernel
theorem dX9_comesTo_44 : decode cX9_comesTo 44 = .ok (.iaload, 1) := by decide +kernel
theorem dX9_comesTo_45 : decode cX9_comesTo 45 = .ok (.goto 4, 3) := by decide +kernel
theorem dX9_comesTo_48 : decode cX9_comesTo 48 = .ok (.iconst 0, 1) := by decide +kernel
theorem dX9_comesTo_49 : decode cX9_comesTo 49 = .ok (.iadd, 1) := by decide +kernel
theorem dX9_comesTo_50 : decode cX9_comesTo 50 = .ok (.istore_n 2, 1) := by decide +kernel
theorem dX9_comesTo_51 : decode cX9_comesTo 51 = .ok (.iinc 3 1, 3) := by decide +kernel
theorem dX9_comesTo_54 : decode cX9_comesTo 54 = .ok (.goto (-42), 3) := by decide +kernel
theorem dX9_comesTo_57 : decode cX9_comesTo 57 = .ok (.iload_n 2, 1) := by decide +kernel
theorem dX9_comesTo_58 : decode cX9_comesTo 58 = .ok (.ireturn, 1) := by decide +kernel
theorem dX9_decided_0 : decode cX9_decided 0 = .ok (.iconst 0, 1) := by decide +kernel
theorem dX9_decided_1 : decode cX9_decided 1 = .ok (.istore_n 1, 1) := by decide +kernel
theorem dX9_decided_2 : decode cX9_decided 2 = .ok (.iconst 0, 1) := by decide +kernel
theorem dX9_decided_3 : decode cX9_decided 3 = .ok (.istore_n 2, 1) := by decide +kernel
theorem dX9_decided_4 : decode cX9_decided 4 = .ok (.iload_n 2, 1) := by decide +kernel
theorem dX9_decided_5 : decode cX9_decided 5 = .ok (.aload_n 0, 1) := by decide +kernel
theorem dX9_decided_6 : decode cX9_decided 6 = .ok (.getfield 166, 3) := by decide +kernel
theorem dX9_decided_9 : decode cX9_decided 9 = .ok (.if_icmp .ge 27, 3) := by decide +kernel
theorem dX9_decided_12 : decode cX9_decided 12 = .ok (.iload_n 1, 1) := by decide +kernel
theorem dX9_decided_13 : decode cX9_decided 13 = .ok (.aload_n 0, 1) := by decide +kernel
theorem dX9_decided_14 : decode cX9_decided 14 = .ok (.iload_n 2, 1) := by decide +kernel
theorem dX9_decided_15 : decode cX9_decided 15 = .ok (.invokevirtual 355, 3) := by decide +kernel
theorem dX9_decided_18 : decode cX9_decided 18 = .ok (.ifCond .le 9, 3) := by decide +kernel
theorem dX9_decided_21 : decode cX9_decided 21 = .ok (.iconst 1, 1) := by decide +kernel
theorem dX9_decided_22 : decode cX9_decided 22 = .ok (.iload_n 2, 1) := by decide +kernel
theorem dX9_decided_23 : decode cX9_decided 23 = .ok (.ishl, 1) := by decide +kernel
theorem dX9_decided_24 : decode cX9_decided 24 = .ok (.goto 4, 3) := by decide +kernel
theorem dX9_decided_27 : decode cX9_decided 27 = .ok (.iconst 0, 1) := by decide +kernel
theorem dX9_decided_28 : decode cX9_decided 28 = .ok (.ior, 1) := by decide +kernel
theorem dX9_decided_29 : decode cX9_decided 29 = .ok (.istore_n 1, 1) := by decide +kernel
theorem dX9_decided_30 : decode cX9_decided 30 = .ok (.iinc 2 1, 3) := by decide +kernel
theorem dX9_decided_33 : decode cX9_decided 33 = .ok (.goto (-29), 3) := by decide +kernel
theorem dX9_decided_36 : decode cX9_decided 36 = .ok (.iload_n 1, 1) := by decide +kernel
theorem dX9_decided_37 : decode cX9_decided 37 = .ok (.ireturn, 1) := by decide +kernel
theorem dX9_isKnown_0 : decode cX9_isKnown 0 = .ok (.aload_n 0, 1) := by decide +kernel
theorem dX9_isKnown_1 : decode cX9_isKnown 1 = .ok (.getfield 31, 3) := by decide +kernel
theorem dX9_isKnown_4 : decode cX9_isKnown 4 = .ok (.iload_n 1, 1) := by decide +kernel
theorem dX9_isKnown_5 : decode cX9_isKnown 5 = .ok (.iaload, 1) := by decide +kernel
theorem dX9_isKnown_6 : decode cX9_isKnown 6 = .ok (.iconst 1, 1) := by decide +kernel
theorem dX9_isKnown_7 : decode cX9_isKnown 7 = .ok (.aload_n 0, 1) := by decide +kernel
theorem dX9_isKnown_8 : decode cX9_isKnown 8 = .ok (.getfield 159, 3) := by decide +kernel
theorem dX9_isKnown_11 : decode cX9_isKnown 11 = .ok (.ishl, 1) := by decide +kernel
theorem dX9_isKnown_12 : decode cX9_isKnown 12 = .ok (.iconst 1, 1) := by decide +kernel
theorem dX9_isKnown_13 : decode cX9_isKnown 13 = .ok (.isub, 1) := by decide +kernel
theorem dX9_isKnown_14 : decode cX9_isKnown 14 = .ok (.iand, 1) := by decide +kernel
theorem dX9_isKnown_15 : decode cX9_isKnown 15 = .ok (.ifCond .eq 7, 3) := by decide +kernel
theorem dX9_isKnown_18 : decode cX9_isKnown 18 = .ok (.iconst 1, 1) := by decide +kernel
theorem dX9_isKnown_19 : decode cX9_isKnown 19 = .ok (.goto 4, 3) := by decide +kernel
theorem dX9_isKnown_22 : decode cX9_isKnown 22 = .ok (.iconst 0, 1) := by decide +kernel
theorem dX9_isKnown_23 : decode cX9_isKnown 23 = .ok (.ireturn, 1) := by decide +kernel
theorem dX9_shouldBe_0 : decode cX9_shouldBe 0 = .ok (.iconst 0, 1) := by decide +kernel
theorem dX9_shouldBe_1 : decode cX9_shouldBe 1 = .ok (.istore_n 1, 1) := by decide +kernel
theorem dX9_shouldBe_2 : decode cX9_shouldBe 2 = .ok (.iconst 0, 1) := by decide +kernel
theorem dX9_shouldBe_3 : decode cX9_shouldBe 3 = .ok (.istore_n 2, 1) := by decide +kernel
theorem dX9_shouldBe_4 : decode cX9_shouldBe 4 = .ok (.iload_n 2, 1) := by decide +kernel
theorem dX9_shouldBe_5 : decode cX9_shouldBe 5 = .ok (.aload_n 0, 1) := by decide +kernel
theorem dX9_shouldBe_6 : decode cX9_shouldBe 6 = .ok (.getfield 166, 3) := by decide +kernel
theorem dX9_shouldBe_9 : decode cX9_shouldBe 9 = .ok (.if_icmp .ge 85, 3) := by decide +kernel
theorem dX9_shouldBe_12 : decode cX9_shouldBe 12 = .ok (.aload_n 0, 1) := by decide +kernel
theorem dX9_shouldBe_13 : decode cX9_shouldBe 13 = .ok (.getfield 9, 3) := by decide +kernel
theorem dX9_shouldBe_16 : decode cX9_shouldBe 16 = .ok (.bipush 30, 2) := by decide +kernel
theorem dX9_shouldBe_18 : decode cX9_shouldBe 18 = .ok (.iload_n 2, 1) := by decide +kernel
theorem dX9_shouldBe_19 : decode cX9_shouldBe 19 = .ok (.iadd, 1) := by decide +kernel
theorem dX9_shouldBe_20 : decode cX9_shouldBe 20 = .ok (.iaload, 1) := by decide +kernel
theorem dX9_shouldBe_21 : decode cX9_shouldBe 21 = .ok (.istore_n 3, 1) := by decide +kernel
theorem dX9_shouldBe_22 : decode cX9_shouldBe 22 = .ok (.iconst 0, 1) := by decide +kernel
theorem dX9_shouldBe_23 : decode cX9_shouldBe 23 = .ok (.istore 4, 2) := by decide +kernel
theorem dX9_shouldBe_25 : decode cX9_shouldBe 25 = .ok (.iload 4, 2) := by decide +kernel
theorem dX9_shouldBe_27 : decode cX9_shouldBe 27 = .ok (.aload_n 0, 1) := by decide +kernel
theorem dX9_shouldBe_28 : decode cX9_shouldBe 28 = .ok (.getfield 169, 3) := by decide +kernel
theorem dX9_shouldBe_31 : decode cX9_shouldBe 31 = .ok (.if_icmp .ge 43, 3) := by decide +kernel
theorem dX9_shouldBe_34 : decode cX9_shouldBe 34 = .ok (.iload_n 3, 1) := by decide +kernel
theorem dX9_shouldBe_35 : decode cX9_shouldBe 35 = .ok (.aload_n 0, 1) := by decide +kernel
theorem dX9_shouldBe_36 : decode cX9_shouldBe 36 = .ok (.getfield 25, 3) := by decide +kernel
theorem dX9_shouldBe_39 : decode cX9_shouldBe 39 = .ok (.iload 4, 2) := by decide +kernel
theorem dX9_shouldBe_41 : decode cX9_shouldBe 41 = .ok (.iaload, 1) := by decide +kernel
theorem dX9_shouldBe_42 : decode cX9_shouldBe 42 = .ok (.iload_n 2, 1) := by decide +kernel
theorem dX9_shouldBe_43 : decode cX9_shouldBe 43 = .ok (.if_icmp .ne 22, 3) := by decide +kernel
theorem dX9_shouldBe_46 : decode cX9_shouldBe 46 = .ok (.aload_n 0, 1) := by decide +kernel
theorem dX9_shouldBe_47 : decode cX9_shouldBe 47 = .ok (.iload 4, 2) := by decide +kernel
theorem dX9_shouldBe_49 : decode cX9_shouldBe 49 = .ok (.invokevirtual 358, 3) := by decide +kernel
theorem dX9_shouldBe_52 : decode cX9_shouldBe 52 = .ok (.ifCond .eq 13, 3) := by decide +kernel
theorem dX9_shouldBe_55 : decode cX9_shouldBe 55 = .ok (.aload_n 0, 1) := by decide +kernel
theorem dX9_shouldBe_56 : decode cX9_shouldBe 56 = .ok (.getfield 28, 3) := by decide +kernel
theorem dX9_shouldBe_59 : decode cX9_shouldBe 59 = .ok (.iload 4, 2) := by decide +kernel
theorem dX9_shouldBe_61 : decode cX9_shouldBe 61 = .ok (.iaload, 1) := by decide +kernel
theorem dX9_shouldBe_62 : decode cX9_shouldBe 62 = .ok (.goto 4, 3) := by decide +kernel
theorem dX9_shouldBe_65 : decode cX9_shouldBe 65 = .ok (.iconst 0, 1) := by decide +kernel
theorem dX9_shouldBe_66 : decode cX9_shouldBe 66 = .ok (.iadd, 1) := by decide +kernel
theorem dX9_shouldBe_67 : decode cX9_shouldBe 67 = .ok (.istore_n 3, 1) := by decide +kernel
theorem dX9_shouldBe_68 : decode cX9_shouldBe 68 = .ok (.iinc 4 1, 3) := by decide +kernel
theorem dX9_shouldBe_71 : decode cX9_shouldBe 71 = .ok (.goto (-46), 3) := by decide +kernel
theorem dX9_shouldBe_74 : decode cX9_shouldBe 74 = .ok (.iload_n 1, 1) := by decide +kernel
theorem dX9_shouldBe_75 : decode cX9_shouldBe 75 = .ok (.iload_n 3, 1) := by decide +kernel
theorem dX9_shouldBe_76 : decode cX9_shouldBe 76 = .ok (.ifCond .le 9, 3) := by decide +kernel
theorem dX9_shouldBe_79 : decode cX9_shouldBe 79 = .ok (.iconst 1, 1) := by decide +kernel
theorem dX9_shouldBe_80 : decode cX9_shouldBe 80 = .ok (.iload_n 2, 1) := by decide +kernel
theorem dX9_shouldBe_81 : decode cX9_shouldBe 81 = .ok (.ishl, 1) := by decide +kernel
theorem dX9_shouldBe_82 : decode cX9_shouldBe 82 = .ok (.goto 4, 3) := by decide +kernel
theorem dX9_shouldBe_85 : decode cX9_shouldBe 85 = .ok (.iconst 0, 1) := by decide +kernel
theorem dX9_shouldBe_86 : decode cX9_shouldBe 86 = .ok (.ior, 1) := by decide +kernel
theorem dX9_shouldBe_87 : decode cX9_shouldBe 87 = .ok (.istore_n 1, 1) := by decide +kernel
theorem dX9_shouldBe_88 : decode cX9_shouldBe 88 = .ok (.iinc 2 1, 3) := by decide +kernel
theorem dX9_shouldBe_91 : decode cX9_shouldBe 91 = .ok (.goto (-87), 3) := by decide +kernel
theorem dX9_shouldBe_94 : decode cX9_shouldBe 94 = .ok (.iload_n 1, 1) := by decide +kernel
theorem dX9_shouldBe_95 : decode cX9_shouldBe 95 = .ok (.ireturn, 1) := by decide +kernel
theorem dX9_bitsOf_0 : decode cX9_bitsOf 0 = .ok (.iconst 0, 1) := by decide +kernel
theorem dX9_bitsOf_1 : decode cX9_bitsOf 1 = .ok (.istore_n 1, 1) := by decide +kernel
theorem dX9_bitsOf_2 : decode cX9_bitsOf 2 = .ok (.iload_n 0, 1) := by decide +kernel
theorem dX9_bitsOf_3 : decode cX9_bitsOf 3 = .ok (.istore_n 2, 1) := by decide +kernel
theorem dX9_bitsOf_4 : decode cX9_bitsOf 4 = .ok (.iload_n 2, 1) := by decide +kernel
theorem dX9_bitsOf_5 : decode cX9_bitsOf 5 = .ok (.ifCond .eq 15, 3) := by decide +kernel
theorem dX9_bitsOf_8 : decode cX9_bitsOf 8 = .ok (.iinc 1 1, 3) := by decide +kernel
theorem dX9_bitsOf_11 : decode cX9_bitsOf 11 = .ok (.iload_n 2, 1) := by decide +kernel
theorem dX9_bitsOf_12 : decode cX9_bitsOf 12 = .ok (.iload_n 2, 1) := by decide +kernel
theorem dX9_bitsOf_13 : decode cX9_bitsOf 13 = .ok (.iconst 1, 1) := by decide +kernel
theorem dX9_bitsOf_14 : decode cX9_bitsOf 14 = .ok (.isub, 1) := by decide +kernel
theorem dX9_bitsOf_15 : decode cX9_bitsOf 15 = .ok (.iand, 1) := by decide +kernel
theorem dX9_bitsOf_16 : decode cX9_bitsOf 16 = .ok (.istore_n 2, 1) := by decide +kernel
theorem dX9_bitsOf_17 : decode cX9_bitsOf 17 = .ok (.goto (-13), 3) := by decide +kernel
theorem dX9_bitsOf_20 : decode cX9_bitsOf 20 = .ok (.iload_n 1, 1) := by decide +kernel
theorem dX9_bitsOf_21 : decode cX9_bitsOf 21 = .ok (.ireturn, 1) := by decide +kernel
theorem dX9_wrongMany_0 : decode cX9_wrongMany 0 = .ok (.aload_n 0, 1) := by decide +kernel
theorem dX9_wrongMany_1 : decode cX9_wrongMany 1 = .ok (.invokevirtual 361, 3) := by decide +kernel
theorem dX9_wrongMany_4 : decode cX9_wrongMany 4 = .ok (.aload_n 0, 1) := by decide +kernel
theorem dX9_wrongMany_5 : decode cX9_wrongMany 5 = .ok (.invokevirtual 364, 3) := by decide +kernel
theorem dX9_wrongMany_8 : decode cX9_wrongMany 8 = .ok (.ixor, 1) := by decide +kernel
theorem dX9_wrongMany_9 : decode cX9_wrongMany 9 = .ok (.invokestatic 367, 3) := by decide +kernel
theorem dX9_wrongMany_12 : decode cX9_wrongMany 12 = .ok (.ireturn, 1) := by decide +kernel
theorem dX9_thereFor_0 : decode cX9_thereFor 0 = .ok (.aload_n 0, 1) := by decide +kernel
theorem dX9_thereFor_1 : decode cX9_thereFor 1 = .ok (.getfield 289, 3) := by decide +kernel
theorem dX9_thereFor_4 : decode cX9_thereFor 4 = .ok (.aload_n 0, 1) := by decide +kernel
theorem dX9_thereFor_5 : decode cX9_thereFor 5 = .ok (.getfield 9, 3) := by decide +kernel
theorem dX9_thereFor_8 : decode cX9_thereFor 8 = .ok (.bipush 20, 2) := by decide +kernel
theorem dX9_thereFor_10 : decode cX9_thereFor 10 = .ok (.iload_n 1, 1) := by decide +kernel
theorem dX9_thereFor_11 : decode cX9_thereFor 11 = .ok (.iadd, 1) := by decide +kernel
theorem dX9_thereFor_12 : decode cX9_thereFor 12 = .ok (.iaload, 1) := by decide +kernel
theorem dX9_thereFor_13 : decode cX9_thereFor 13 = .ok (.if_icmp .le 20, 3) := by decide +kernel
theorem dX9_thereFor_16 : decode cX9_thereFor 16 = .ok (.aload_n 0, 1) := by decide +kernel
theorem dX9_thereFor_17 : decode cX9_thereFor 17 = .ok (.getfield 289, 3) := by decide +kernel
theorem dX9_thereFor_20 : decode cX9_thereFor 20 = .ok (.aload_n 0, 1) := by decide +kernel
theorem dX9_thereFor_21 : decode cX9_thereFor 21 = .ok (.getfield 9, 3) := by decide +kernel
theorem dX9_thereFor_24 : decode cX9_thereFor 24 = .ok (.bipush 20, 2) := by decide +kernel
theorem dX9_thereFor_26 : decode cX9_thereFor 26 = .ok (.iload_n 1, 1) := by decide +kernel
theorem dX9_thereFor_27 : decode cX9_thereFor 27 = .ok (.iadd, 1) := by decide +kernel
theorem dX9_thereFor_28 : decode cX9_thereFor 28 = .ok (.iaload, 1) := by decide +kernel
theorem dX9_thereFor_29 : decode cX9_thereFor 29 = .ok (.isub, 1) := by decide +kernel
theorem dX9_thereFor_30 : decode cX9_thereFor 30 = .ok (.goto 4, 3) := by decide +kernel
theorem dX9_thereFor_33 : decode cX9_thereFor 33 = .ok (.iconst 0, 1) := by decide +kernel
theorem dX9_thereFor_34 : decode cX9_thereFor 34 = .ok (.ireturn, 1) := by decide +kernel
theorem dX9_cost_0 : decode cX9_cost 0 = .ok (.iconst 0, 1) := by decide +kernel
theorem dX9_cost_1 : decode cX9_cost 1 = .ok (.istore_n 1, 1) := by decide +kernel
theorem dX9_cost_2 : decode cX9_cost 2 = .ok (.iconst 0, 1) := by decide +kernel
theorem dX9_cost_3 : decode cX9_cost 3 = .ok (.istore_n 2, 1) := by decide +kernel
theorem dX9_cost_4 : decode cX9_cost 4 = .ok (.iload_n 2, 1) := by decide +kernel
theorem dX9_cost_5 : decode cX9_cost 5 = .ok (.aload_n 0, 1) := by decide +kernel
theorem dX9_cost_6 : decode cX9_cost 6 = .ok (.getfield 159, 3) := by decide +kernel
theorem dX9_cost_9 : decode cX9_cost 9 = .ok (.if_icmp .ge 24, 3) := by decide +kernel
theorem dX9_cost_12 : decode cX9_cost 12 = .ok (.iload_n 1, 1) := by decide +kernel
theorem dX9_cost_13 : decode cX9_cost 13 = .ok (.aload_n 0, 1) := by decide +kernel
theorem dX9_cost_14 : decode cX9_cost 14 = .ok (.getfield 22, 3) := by decide +kernel
theorem dX9_cost_17 : decode cX9_cost 17 = .ok (.iload_n 2, 1) := by decide +kernel
theorem dX9_cost_18 : decode cX9_cost 18 = .ok (.iaload, 1) := by decide +kernel
theorem dX9_cost_19 : decode cX9_cost 19 = .ok (.aload_n 0, 1) := by decide +kernel
theorem dX9_cost_20 : decode cX9_cost 20 = .ok (.iload_n 2, 1) := by decide +kernel
theorem dX9_cost_21 : decode cX9_cost 21 = .ok (.invokevirtual 370, 3) := by decide +kernel
theorem dX9_cost_24 : decode cX9_cost 24 = .ok (.imul, 1) := by decide +kernel
theorem dX9_cost_25 : decode cX9_cost 25 = .ok (.iadd, 1) := by decide +kernel
theorem dX9_cost_26 : decode cX9_cost 26 = .ok (.istore_n 1, 1) := by decide +kernel
theorem dX9_cost_27 : decode cX9_cost 27 = .ok (.iinc 2 1, 3) := by decide +kernel
theorem dX9_cost_30 : decode cX9_cost 30 = .ok (.goto (-26), 3) := by decide +kernel
theorem dX9_cost_33 : decode cX9_cost 33 = .ok (.iload_n 1, 1) := by decide +kernel
theorem dX9_cost_34 : decode cX9_cost 34 = .ok (.ireturn, 1) := by decide +kernel
theorem dX9_heldBack_0 : decode cX9_heldBack 0 = .ok (.iconst 0, 1) := by decide +kernel
theorem dX9_heldBack_1 : decode cX9_heldBack 1 = .ok (.istore_n 1, 1) := by decide +kernel
theorem dX9_heldBack_2 : decode cX9_heldBack 2 = .ok (.iconst 0, 1) := by decide +kernel
theorem dX9_heldBack_3 : decode cX9_heldBack 3 = .ok (.istore_n 2, 1) := by decide +kernel
theorem dX9_heldBack_4 : decode cX9_heldBack 4 = .ok (.iload_n 2, 1) := by decide +kernel
theorem dX9_heldBack_5 : decode cX9_heldBack 5 = .ok (.aload_n 0, 1) := by decide +kernel
theorem dX9_heldBack_6 : decode cX9_heldBack 6 = .ok (.getfield 169, 3) := by decide +kernel
theorem dX9_heldBack_9 : decode cX9_heldBack 9 = .ok (.if_icmp .ge 60, 3) := by decide +kernel
theorem dX9_heldBack_12 : decode cX9_heldBack 12 = .ok (.iconst 0, 1) := by decide +kernel
theorem dX9_heldBack_13 : decode cX9_heldBack 13 = .ok (.istore_n 3, 1) := by decide +kernel
theorem dX9_heldBack_14 : decode cX9_heldBack 14 = .ok (.iload_n 3, 1) := by decide +kernel
theorem dX9_heldBack_15 : decode cX9_heldBack 15 = .ok (.aload_n 0, 1) := by decide +kernel
theorem dX9_heldBack_16 : decode cX9_heldBack 16 = .ok (.getfield 159, 3) := by decide +kernel
theorem dX9_heldBack_19 : decode cX9_heldBack 19 = .ok (.if_icmp .ge 44, 3) := by decide +kernel
theorem dX9_heldBack_22 : decode cX9_heldBack 22 = .ok (.iload_n 1, 1) := by decide +kernel
theorem dX9_heldBack_23 : decode cX9_heldBack 23 = .ok (.aload_n 0, 1) := by decide +kernel
theorem dX9_heldBack_24 : decode cX9_heldBack 24 = .ok (.iload_n 2, 1) := by decide +kernel
theorem dX9_heldBack_25 : decode cX9_heldBack 25 = .ok (.invokevirtual 296, 3) := by decide +kernel
theorem dX9_heldBack_28 : decode cX9_heldBack 28 = .ok (.ifCond .ne 26, 3) := by decide +kernel
theorem dX9_heldBack_31 : decode cX9_heldBack 31 = .ok (.aload_n 0, 1) := by decide +kernel
theorem dX9_heldBack_32 : decode cX9_heldBack 32 = .ok (.iload_n 3, 1) := by decide +kernel
theorem dX9_heldBack_33 : decode cX9_heldBack 33 = .ok (.iload_n 2, 1) := by decide +kernel
theorem dX9_heldBack_34 : decode cX9_heldBack 34 = .ok (.invokevirtual 292, 3) := by decide +kernel
theorem dX9_heldBack_37 : decode cX9_heldBack 37 = .ok (.ifCond .eq 17, 3) := by decide +kernel
theorem dX9_heldBack_40 : decode cX9_heldBack 40 = .ok (.aload_n 0, 1) := by decide +kernel
theorem dX9_heldBack_41 : decode cX9_heldBack 41 = .ok (.iload_n 3, 1) := by decide +kernel
theorem dX9_heldBack_42 : decode cX9_heldBack 42 = .ok (.invokevirtual 299, 3) := by decide +kernel
theorem dX9_heldBack_45 : decode cX9_heldBack 45 = .ok (.ifCond .eq 9, 3) := by decide +kernel
theorem dX9_heldBack_48 : decode cX9_heldBack 48 = .ok (.iconst 1, 1) := by decide +kernel
theorem dX9_heldBack_49 : decode cX9_heldBack 49 = .ok (.iload_n 2, 1) := by decide +kernel
theorem dX9_heldBack_50 : decode cX9_heldBack 50 = .ok (.ishl, 1) := by decide +kernel
theorem dX9_heldBack_51 : decode cX9_heldBack 51 = .ok (.goto 4, 3) := by decide +kernel
theorem dX9_heldBack_54 : decode cX9_heldBack 54 = .ok (.iconst 0, 1) := by decide +kernel
theorem dX9_heldBack_55 : decode cX9_heldBack 55 = .ok (.ior, 1) := by decide +kernel
theorem dX9_heldBack_56 : decode cX9_heldBack 56 = .ok (.istore_n 1, 1) := by decide +kernel
theorem dX9_heldBack_57 : decode cX9_heldBack 57 = .ok (.iinc 3 1, 3) := by decide +kernel
theorem dX9_heldBack_60 : decode cX9_heldBack 60 = .ok (.goto (-46), 3) := by decide +kernel
theorem dX9_heldBack_63 : decode cX9_heldBack 63 = .ok (.iinc 2 1, 3) := by decide +kernel
theorem dX9_heldBack_66 : decode cX9_heldBack 66 = .ok (.goto (-62), 3) := by decide +kernel
theorem dX9_heldBack_69 : decode cX9_heldBack 69 = .ok (.iload_n 1, 1) := by decide +kernel
theorem dX9_heldBack_70 : decode cX9_heldBack 70 = .ok (.ireturn, 1) := by decide +kernel
theorem dX9_isAlone_0 : decode cX9_isAlone 0 = .ok (.aload_n 0, 1) := by decide +kernel
theorem dX9_isAlone_1 : decode cX9_isAlone 1 = .ok (.getfield 31, 3) := by decide +kernel
theorem dX9_isAlone_4 : decode cX9_isAlone 4 = .ok (.iload_n 1, 1) := by decide +kernel
theorem dX9_isAlone_5 : decode cX9_isAlone 5 = .ok (.iaload, 1) := by decide +kernel
theorem dX9_isAlone_6 : decode cX9_isAlone 6 = .ok (.iconst 1, 1) := by decide +kernel
theorem dX9_isAlone_7 : decode cX9_isAlone 7 = .ok (.aload_n 0, 1) := by decide +kernel
theorem dX9_isAlone_8 : decode cX9_isAlone 8 = .ok (.getfield 159, 3) := by decide +kernel
theorem dX9_isAlone_11 : decode cX9_isAlone 11 = .ok (.ishl, 1) := by decide +kernel
theorem dX9_isAlone_12 : decode cX9_isAlone 12 = .ok (.iconst 1, 1) := by decide +kernel
theorem dX9_isAlone_13 : decode cX9_isAlone 13 = .ok (.isub, 1) := by decide +kernel
theorem dX9_isAlone_14 : decode cX9_isAlone 14 = .ok (.iand, 1) := by decide +kernel
theorem dX9_isAlone_15 : decode cX9_isAlone 15 = .ok (.invokestatic 367, 3) := by decide +kernel
theorem dX9_isAlone_18 : decode cX9_isAlone 18 = .ok (.iconst 1, 1) := by decide +kernel
theorem dX9_isAlone_19 : decode cX9_isAlone 19 = .ok (.if_icmp .ne 7, 3) := by decide +kernel
theorem dX9_isAlone_22 : decode cX9_isAlone 22 = .ok (.iconst 1, 1) := by decide +kernel
theorem dX9_isAlone_23 : decode cX9_isAlone 23 = .ok (.goto 4, 3) := by decide +kernel
theorem dX9_isAlone_26 : decode cX9_isAlone 26 = .ok (.iconst 0, 1) := by decide +kernel
theorem dX9_isAlone_27 : decode cX9_isAlone 27 = .ok (.ireturn, 1) := by decide +kernel
theorem dX9_aloneSaid_0 : decode cX9_aloneSaid 0 = .ok (.iconst 0, 1) := by decide +kernel
theorem dX9_aloneSaid_1 : decode cX9_aloneSaid 1 = .ok (.istore_n 2, 1) := by decide +kernel
theorem dX9_aloneSaid_2 : decode cX9_aloneSaid 2 = .ok (.iconst 0, 1) := by decide +kernel
theorem dX9_aloneSaid_3 : decode cX9_aloneSaid 3 = .ok (.istore_n 3, 1) := by decide +kernel
theorem dX9_aloneSaid_4 : decode cX9_aloneSaid 4 = .ok (.iload_n 3, 1) := by decide +kernel
theorem dX9_aloneSaid_5 : decode cX9_aloneSaid 5 = .ok (.aload_n 0, 1) := by decide +kernel
theorem dX9_aloneSaid_6 : decode cX9_aloneSaid 6 = .ok (.getfield 169, 3) := by decide +kernel
theorem dX9_aloneSaid_9 : decode cX9_aloneSaid 9 = .ok (.if_icmp .ge 37, 3) := by decide +kernel
theorem dX9_aloneSaid_12 : decode cX9_aloneSaid 12 = .ok (.iload_n 2, 1) := by decide +kernel
theorem dX9_aloneSaid_13 : decode cX9_aloneSaid 13 = .ok (.aload_n 0, 1) := by decide +kernel
theorem dX9_aloneSaid_14 : decode cX9_aloneSaid 14 = .ok (.iload_n 3, 1) := by decide +kernel
theorem dX9_aloneSaid_15 : decode cX9_aloneSaid 15 = .ok (.invokevirtual 373, 3) := by decide +kernel
theorem dX9_aloneSaid_18 : decode cX9_aloneSaid 18 = .ok (.ifCond .eq 19, 3) := by decide +kernel
theorem dX9_aloneSaid_21 : decode cX9_aloneSaid 21 = .ok (.iload_n 1, 1) := by decide +kernel
theorem dX9_aloneSaid_22 : decode cX9_aloneSaid 22 = .ok (.ifCond .ne 11, 3) := by decide +kernel
theorem dX9_aloneSaid_25 : decode cX9_aloneSaid 25 = .ok (.aload_n 0, 1) := by decide +kernel
theorem dX9_aloneSaid_26 : decode cX9_aloneSaid 26 = .ok (.iload_n 3, 1) := by decide +kernel
theorem dX9_aloneSaid_27 : decode cX9_aloneSaid 27 = .ok (.invokevirtual 296, 3) := by decide +kernel
theorem dX9_aloneSaid_30 : decode cX9_aloneSaid 30 = .ok (.ifCond .eq 7, 3) := by decide +kernel
theorem dX9_aloneSaid_33 : decode cX9_aloneSaid 33 = .ok (.iconst 1, 1) := by decide +kernel
theorem dX9_aloneSaid_34 : decode cX9_aloneSaid 34 = .ok (.goto 4, 3) := by decide +kernel
theorem dX9_aloneSaid_37 : decode cX9_aloneSaid 37 = .ok (.iconst 0, 1) := by decide +kernel
theorem dX9_aloneSaid_38 : decode cX9_aloneSaid 38 = .ok (.iadd, 1) := by decide +kernel
theorem dX9_aloneSaid_39 : decode cX9_aloneSaid 39 = .ok (.istore_n 2, 1) := by decide +kernel
theorem dX9_aloneSaid_40 : decode cX9_aloneSaid 40 = .ok (.iinc 3 1, 3) := by decide +kernel
theorem dX9_aloneSaid_43 : decode cX9_aloneSaid 43 = .ok (.goto (-39), 3) := by decide +kernel
theorem dX9_aloneSaid_46 : decode cX9_aloneSaid 46 = .ok (.iload_n 2, 1) := by decide +kernel
theorem dX9_aloneSaid_47 : decode cX9_aloneSaid 47 = .ok (.ireturn, 1) := by decide +kernel
theorem dX9_shed_0 : decode cX9_shed 0 = .ok (.iconst 0, 1) := by decide +kernel
theorem dX9_shed_1 : decode cX9_shed 1 = .ok (.istore_n 1, 1) := by decide +kernel
theorem dX9_shed_2 : decode cX9_shed 2 = .ok (.iconst 1, 1) := by decide +kernel
theorem dX9_shed_3 : decode cX9_shed 3 = .ok (.istore_n 2, 1) := by decide +kernel
theorem dX9_shed_4 : decode cX9_shed 4 = .ok (.iload_n 2, 1) := by decide +kernel
theorem dX9_shed_5 : decode cX9_shed 5 = .ok (.aload_n 0, 1) := by decide +kernel
theorem dX9_shed_6 : decode cX9_shed 6 = .ok (.getfield 166, 3) := by decide +kernel
theorem dX9_shed_9 : decode cX9_shed 9 = .ok (.if_icmp .ge 68, 3) := by decide +kernel
theorem dX9_shed_12 : decode cX9_shed 12 = .ok (.sipush 1000, 3) := by decide +kernel
theorem dX9_shed_15 : decode cX9_shed 15 = .ok (.aload_n 0, 1) := by decide +kernel
theorem dX9_shed_16 : decode cX9_shed 16 = .ok (.getfield 58, 3) := by decide +kernel
theorem dX9_shed_19 : decode cX9_shed 19 = .ok (.iload_n 2, 1) := by decide +kernel
theorem dX9_shed_20 : decode cX9_shed 20 = .ok (.iaload, 1) := by decide +kernel
theorem dX9_shed_21 : decode cX9_shed 21 = .ok (.imul, 1) := by decide +kernel
theorem dX9_shed_22 : decode cX9_shed 22 = .ok (.aload_n 0, 1) := by decide +kernel
theorem dX9_shed_23 : decode cX9_shed 23 = .ok (.getfield 9, 3) := by decide +kernel
theorem dX9_shed_26 : decode cX9_shed 26 = .ok (.bipush 30, 2) := by decide +kernel
theorem dX9_shed_28 : decode cX9_shed 28 = .ok (.iload_n 2, 1) := by decide +kernel
theorem dX9_shed_29 : decode cX9_shed 29 = .ok (.iadd, 1) := by decide +kernel
theorem dX9_shed_30 : decode cX9_shed 30 = .ok (.iaload, 1) := by decide +kernel
theorem dX9_shed_31 : decode cX9_shed 31 = .ok (.invokestatic 376, 3) := by decide +kernel
theorem dX9_shed_34 : decode cX9_shed 34 = .ok (.iconst 1, 1) := by decide +kernel
theorem dX9_shed_35 : decode cX9_shed 35 = .ok (.iadd, 1) := by decide +kernel
theorem dX9_shed_36 : decode cX9_shed 36 = .ok (.idiv, 1) := by decide +kernel
theorem dX9_shed_37 : decode cX9_shed 37 = .ok (.sipush 1000, 3) := by decide +kernel
theorem dX9_shed_40 : decode cX9_shed 40 = .ok (.aload_n 0, 1) := by decide +kernel
theorem dX9_shed_41 : decode cX9_shed 41 = .ok (.getfield 58, 3) := by decide +kernel
theorem dX9_shed_44 : decode cX9_shed 44 = .ok (.iload_n 1, 1) := by decide +kernel
theorem dX9_shed_45 : decode cX9_shed 45 = .ok (.iaload, 1) := by decide +kernel
theorem dX9_shed_46 : decode cX9_shed 46 = .ok (.imul, 1) := by decide +kernel
theorem dX9_shed_47 : decode cX9_shed 47 = .ok (.aload_n 0, 1) := by decide +kernel
theorem dX9_shed_48 : decode cX9_shed 48 = .ok (.getfield 9, 3) := by decide +kernel
theorem dX9_shed_51 : decode cX9_shed 51 = .ok (.bipush 30, 2) := by decide +kernel
theorem dX9_shed_53 : decode cX9_shed 53 = .ok (.iload_n 1, 1) := by decide +kernel
theorem dX9_shed_54 : decode cX9_shed 54 = .ok (.iadd, 1) := by decide +kernel
theorem dX9_shed_55 : decode cX9_shed 55 = .ok (.iaload, 1) := by decide +kernel
theorem dX9_shed_56 : decode cX9_shed 56 = .ok (.invokestatic 376, 3) := by decide +kernel
theorem dX9_shed_59 : decode cX9_shed 59 = .ok (.iconst 1, 1) := by decide +kernel
theorem dX9_shed_60 : decode cX9_shed 60 = .ok (.iadd, 1) := by decide +kernel
theorem dX9_shed_61 : decode cX9_shed 61 = .ok (.idiv, 1) := by decide +kernel
theorem dX9_shed_62 : decode cX9_shed 62 = .ok (.if_icmp .le 7, 3) := by decide +kernel
theorem dX9_shed_65 : decode cX9_shed 65 = .ok (.iload_n 2, 1) := by decide +kernel
theorem dX9_shed_66 : decode cX9_shed 66 = .ok (.goto 4, 3) := by decide +kernel
theorem dX9_shed_69 : decode cX9_shed 69 = .ok (.iload_n 1, 1) := by decide +kernel
theorem dX9_shed_70 : decode cX9_shed 70 = .ok (.istore_n 1, 1) := by decide +kernel
theorem dX9_shed_71 : decode cX9_shed 71 = .ok (.iinc 2 1, 3) := by decide +kernel
theorem dX9_shed_74 : decode cX9_shed 74 = .ok (.goto (-70), 3) := by decide +kernel
theorem dX9_shed_77 : decode cX9_shed 77 = .ok (.iload_n 1, 1) := by decide +kernel
theorem dX9_shed_78 : decode cX9_shed 78 = .ok (.ireturn, 1) := by decide +kernel
theorem dX9_keepsRows_0 : decode cX9_keepsRows 0 = .ok (.aload_n 0, 1) := by decide +kernel
theorem dX9_keepsRows_1 : decode cX9_keepsRows 1 = .ok (.aload_n 0, 1) := by decide +kernel
theorem dX9_keepsRows_2 : decode cX9_keepsRows 2 = .ok (.getfield 321, 3) := by decide +kernel
theorem dX9_keepsRows_5 : decode cX9_keepsRows 5 = .ok (.putfield 150, 3) := by decide +kernel
theorem dX9_keepsRows_8 : decode cX9_keepsRows 8 = .ok (.aload_n 0, 1) := by decide +kernel
theorem dX9_keepsRows_9 : decode cX9_keepsRows 9 = .ok (.aload_n 0, 1) := by decide +kernel
theorem dX9_keepsRows_10 : decode cX9_keepsRows 10 = .ok (.getfield 159, 3) := by decide +kernel
theorem dX9_keepsRows_13 : decode cX9_keepsRows 13 = .ok (.putfield 379, 3) := by decide +kernel
theorem dX9_keepsRows_16 : decode cX9_keepsRows 16 = .ok (.aload_n 0, 1) := by decide +kernel
theorem dX9_keepsRows_17 : decode cX9_keepsRows 17 = .ok (.aload_n 0, 1) := by decide +kernel
theorem dX9_keepsRows_18 : decode cX9_keepsRows 18 = .ok (.getfield 166, 3) := by decide +kernel
theorem dX9_keepsRows_21 : decode cX9_keepsRows 21 = .ok (.putfield 382, 3) := by decide +kernel
theorem dX9_keepsRows_24 : decode cX9_keepsRows 24 = .ok (.aload_n 0, 1) := by decide +kernel
theorem dX9_keepsRows_25 : decode cX9_keepsRows 25 = .ok (.aload_n 0, 1) := by decide +kernel
theorem dX9_keepsRows_26 : decode cX9_keepsRows 26 = .ok (.getfield 169, 3) := by decide +kernel
theorem dX9_keepsRows_29 : decode cX9_keepsRows 29 = .ok (.putfield 385, 3) := by decide +kernel
theorem dX9_keepsRows_32 : decode cX9_keepsRows 32 = .ok (.iconst 0, 1) := by decide +kernel
theorem dX9_keepsRows_33 : decode cX9_keepsRows 33 = .ok (.istore_n 1, 1) := by decide +kernel
theorem dX9_keepsRows_34 : decode cX9_keepsRows 34 = .ok (.iload_n 1, 1) := by decide +kernel
theorem dX9_keepsRows_35 : decode cX9_keepsRows 35 = .ok (.aload_n 0, 1) := by decide +kernel
theorem dX9_keepsRows_36 : decode cX9_keepsRows 36 = .ok (.getfield 321, 3) := by decide +kernel
theorem dX9_keepsRows_39 : decode cX9_keepsRows 39 = .ok (.if_icmp .ge 93, 3) := by decide +kernel
theorem dX9_keepsRows_42 : decode cX9_keepsRows 42 = .ok (.aload_n 0, 1) := by decide +kernel
theorem dX9_keepsRows_43 : decode cX9_keepsRows 43 = .ok (.getfield 88, 3) := by decide +kernel
theorem dX9_keepsRows_46 : decode cX9_keepsRows 46 = .ok (.iload_n 1, 1) := by decide +kernel
theorem dX9_keepsRows_47 : decode cX9_keepsRows 47 = .ok (.aload_n 0, 1) := by decide +kernel
theorem dX9_keepsRows_48 : decode cX9_keepsRows 48 = .ok (.getfield 64, 3) := by decide +kernel
theorem dX9_keepsRows_51 : decode cX9_keepsRows 51 = .ok (.iload_n 1, 1) := by decide +kernel
theorem dX9_keepsRows_52 : decode cX9_keepsRows 52 = .ok (.iaload, 1) := by decide +kernel
theorem dX9_keepsRows_53 : decode cX9_keepsRows 53 = .ok (.iastore, 1) := by decide +kernel
theorem dX9_keepsRows_54 : decode cX9_keepsRows 54 = .ok (.aload_n 0, 1) := by decide +kernel
theorem dX9_keepsRows_55 : decode cX9_keepsRows 55 = .ok (.getfield 91, 3) := by decide +kernel
theorem dX9_keepsRows_58 : decode cX9_keepsRows 58 = .ok (.iload_n 1, 1) := by decide +kernel
theorem dX9_keepsRows_59 : decode cX9_keepsRows 59 = .ok (.aload_n 0, 1) := by decide +kernel
theorem dX9_keepsRows_60 : decode cX9_keepsRows 60 = .ok (.getfield 67, 3) := by decide +kernel
theorem dX9_keepsRows_63 : decode cX9_keepsRows 63 = .ok (.iload_n 1, 1) := by decide +kernel
theorem dX9_keepsRows_64 : decode cX9_keepsRows 64 = .ok (.iaload, 1) := by decide +kernel
theorem dX9_keepsRows_65 : decode cX9_keepsRows 65 = .ok (.iastore, 1) := by decide +kernel
theorem dX9_keepsRows_66 : decode cX9_keepsRows 66 = .ok (.aload_n 0, 1) := by decide +kernel
theorem dX9_keepsRows_67 : decode cX9_keepsRows 67 = .ok (.getfield 94, 3) := by decide +kernel
theorem dX9_keepsRows_70 : decode cX9_keepsRows 70 = .ok (.iload_n 1, 1) := by decide +kernel
theorem dX9_keepsRows_71 : decode cX9_keepsRows 71 = .ok (.aload_n 0, 1) := by decide +kernel
theorem dX9_keepsRows_72 : decode cX9_keepsRows 72 = .ok (.getfield 70, 3) := by decide +kernel
theorem dX9_keepsRows_75 : decode cX9_keepsRows 75 = .ok (.iload_n 1, 1) := by decide +kernel
theorem dX9_keepsRows_76 : decode cX9_keepsRows 76 = .ok (.iaload, 1) := by decide +kernel
theorem dX9_keepsRows_77 : decode cX9_keepsRows 77 = .ok (.iastore, 1) := by decide +kernel
theorem dX9_keepsRows_78 : decode cX9_keepsRows 78 = .ok (.aload_n 0, 1) := by decide +kernel
theorem dX9_keepsRows_79 : decode cX9_keepsRows 79 = .ok (.getfield 97, 3) := by decide +kernel
theorem dX9_keepsRows_82 : decode cX9_keepsRows 82 = .ok (.iload_n 1, 1) := by decide +kernel
theorem dX9_keepsRows_83 : decode cX9_keepsRows 83 = .ok (.aload_n 0, 1) := by decide +kernel
theorem dX9_keepsRows_84 : decode cX9_keepsRows 84 = .ok (.getfield 73, 3) := by decide +kernel
theorem dX9_keepsRows_87 : decode cX9_keepsRows 87 = .ok (.iload_n 1, 1) := by decide +kernel
theorem dX9_keepsRows_88 : decode cX9_keepsRows 88 = .ok (.iaload, 1) := by decide +kernel
theorem dX9_keepsRows_89 : decode cX9_keepsRows 89 = .ok (.iastore, 1) := by decide +kernel
theorem dX9_keepsRows_90 : decode cX9_keepsRows 90 = .ok (.aload_n 0, 1) := by decide +kernel
theorem dX9_keepsRows_91 : decode cX9_keepsRows 91 = .ok (.getfield 100, 3) := by decide +kernel
theorem dX9_keepsRows_94 : decode cX9_keepsRows 94 = .ok (.iload_n 1, 1) := by decide +kernel
theorem dX9_keepsRows_95 : decode cX9_keepsRows 95 = .ok (.aload_n 0, 1) := by decide +kernel
theorem dX9_keepsRows_96 : decode cX9_keepsRows 96 = .ok (.getfield 76, 3) := by decide +kernel
theorem dX9_keepsRows_99 : decode cX9_keepsRows 99 = .ok (.iload_n 1, 1) := by decide +kernel
theorem dX9_keepsRows_100 : decode cX9_keepsRows 100 = .ok (.iaload, 1) := by decide +kernel
theorem dX9_keepsRows_101 : decode cX9_keepsRows 101 = .ok (.iastore, 1) := by decide +kernel
theorem dX9_keepsRows_102 : decode cX9_keepsRows 102 = .ok (.aload_n 0, 1) := by decide +kernel
theorem dX9_keepsRows_103 : decode cX9_keepsRows 103 = .ok (.getfield 103, 3) := by decide +kernel
theorem dX9_keepsRows_106 : decode cX9_keepsRows 106 = .ok (.iload_n 1, 1) := by decide +kernel
theorem dX9_keepsRows_107 : decode cX9_keepsRows 107 = .ok (.aload_n 0, 1) := by decide +kernel
theorem dX9_keepsRows_108 : decode cX9_keepsRows 108 = .ok (.getfield 79, 3) := by decide +kernel
theorem dX9_keepsRows_111 : decode cX9_keepsRows 111 = .ok (.iload_n 1, 1) := by decide +kernel
theorem dX9_keepsRows_112 : decode cX9_keepsRows 112 = .ok (.iaload, 1) := by decide +kernel
theorem dX9_keepsRows_113 : decode cX9_keepsRows 113 = .ok (.iastore, 1) := by decide +kernel
theorem dX9_keepsRows_114 : decode cX9_keepsRows 114 = .ok (.aload_n 0, 1) := by decide +kernel
theorem dX9_keepsRows_115 : decode cX9_keepsRows 115 = .ok (.getfield 106, 3) := by decide +kernel
theorem dX9_keepsRows_118 : decode cX9_keepsRows 118 = .ok (.iload_n 1, 1) := by decide +kernel
theorem dX9_keepsRows_119 : decode cX9_keepsRows 119 = .ok (.aload_n 0, 1) := by decide +kernel
theorem dX9_keepsRows_120 : decode cX9_keepsRows 120 = .ok (.getfield 82, 3) := by decide +kernel
theorem dX9_keepsRows_123 : decode cX9_keepsRows 123 = .ok (.iload_n 1, 1) := by decide +kernel
theorem dX9_keepsRows_124 : decode cX9_keepsRows 124 = .ok (.iaload, 1) := by decide +kernel
theorem dX9_keepsRows_125 : decode cX9_keepsRows 125 = .ok (.iastore, 1) := by decide +kernel
theorem dX9_keepsRows_126 : decode cX9_keepsRows 126 = .ok (.iinc 1 1, 3) := by decide +kernel
theorem dX9_keepsRows_129 : decode cX9_keepsRows 129 = .ok (.goto (-95), 3) := by decide +kernel
theorem dX9_keepsRows_132 : decode cX9_keepsRows 132 = .ok (.iconst 0, 1) := by decide +kernel
theorem dX9_keepsRows_133 : decode cX9_keepsRows 133 = .ok (.istore_n 1, 1) := by decide +kernel
theorem dX9_keepsRows_134 : decode cX9_keepsRows 134 = .ok (.iload_n 1, 1) := by decide +kernel
theorem dX9_keepsRows_135 : decode cX9_keepsRows 135 = .ok (.aload_n 0, 1) := by decide +kernel
theorem dX9_keepsRows_136 : decode cX9_keepsRows 136 = .ok (.getfield 166, 3) := by decide +kernel
theorem dX9_keepsRows_139 : decode cX9_keepsRows 139 = .ok (.if_icmp .ge 32, 3) := by decide +kernel
theorem dX9_keepsRows_142 : decode cX9_keepsRows 142 = .ok (.aload_n 0, 1) := by decide +kernel
theorem dX9_keepsRows_143 : decode cX9_keepsRows 143 = .ok (.getfield 109, 3) := by decide +kernel
theorem dX9_keepsRows_146 : decode cX9_keepsRows 146 = .ok (.iload_n 1, 1) := by decide +kernel
theorem dX9_keepsRows_147 : decode cX9_keepsRows 147 = .ok (.aload_n 0, 1) := by decide +kernel
theorem dX9_keepsRows_148 : decode cX9_keepsRows 148 = .ok (.getfield 58, 3) := by decide +kernel
theorem dX9_keepsRows_151 : decode cX9_keepsRows 151 = .ok (.iload_n 1, 1) := by decide +kernel
theorem dX9_keepsRows_152 : decode cX9_keepsRows 152 = .ok (.iaload, 1) := by decide +kernel
theorem dX9_keepsRows_153 : decode cX9_keepsRows 153 = .ok (.iastore, 1) := by decide +kernel
theorem dX9_keepsRows_154 : decode cX9_keepsRows 154 = .ok (.aload_n 0, 1) := by decide +kernel
theorem dX9_keepsRows_155 : decode cX9_keepsRows 155 = .ok (.getfield 112, 3) := by decide +kernel
theorem dX9_keepsRows_158 : decode cX9_keepsRows 158 = .ok (.iload_n 1, 1) := by decide +kernel
theorem dX9_keepsRows_159 : decode cX9_keepsRows 159 = .ok (.aload_n 0, 1) := by decide +kernel
theorem dX9_keepsRows_160 : decode cX9_keepsRows 160 = .ok (.iload_n 1, 1) := by decide +kernel
theorem dX9_keepsRows_161 : decode cX9_keepsRows 161 = .ok (.invokevirtual 355, 3) := by decide +kernel
theorem dX9_keepsRows_164 : decode cX9_keepsRows 164 = .ok (.iastore, 1) := by decide +kernel
theorem dX9_keepsRows_165 : decode cX9_keepsRows 165 = .ok (.iinc 1 1, 3) := by decide +kernel
theorem dX9_keepsRows_168 : decode cX9_keepsRows 168 = .ok (.goto (-34), 3) := by decide +kernel
theorem dX9_keepsRows_171 : decode cX9_keepsRows 171 = .ok (.iconst 0, 1) := by decide +kernel
theorem dX9_keepsRows_172 : decode cX9_keepsRows 172 = .ok (.istore_n 1, 1) := by decide +kernel
theorem dX9_keepsRows_173 : decode cX9_keepsRows 173 = .ok (.iload_n 1, 1) := by decide +kernel
theorem dX9_keepsRows_174 : decode cX9_keepsRows 174 = .ok (.aload_n 0, 1) := by decide +kernel
theorem dX9_keepsRows_175 : decode cX9_keepsRows 175 = .ok (.getfield 169, 3) := by decide +kernel
theorem dX9_keepsRows_178 : decode cX9_keepsRows 178 = .ok (.if_icmp .ge 33, 3) := by decide +kernel
theorem dX9_keepsRows_181 : decode cX9_keepsRows 181 = .ok (.aload_n 0, 1) := by decide +kernel
theorem dX9_keepsRows_182 : decode cX9_keepsRows 182 = .ok (.getfield 115, 3) := by decide +kernel
theorem dX9_keepsRows_185 : decode cX9_keepsRows 185 = .ok (.iload_n 1, 1) := by decide +kernel
theorem dX9_keepsRows_186 : decode cX9_keepsRows 186 = .ok (.aload_n 0, 1) := by decide +kernel
theorem dX9_keepsRows_187 : decode cX9_keepsRows 187 = .ok (.getfield 52, 3) := by decide +kernel
theorem dX9_keepsRows_190 : decode cX9_keepsRows 190 = .ok (.iload_n 1, 1) := by decide +kernel
theorem dX9_keepsRows_191 : decode cX9_keepsRows 191 = .ok (.iaload, 1) := by decide +kernel
theorem dX9_keepsRows_192 : decode cX9_keepsRows 192 = .ok (.iastore, 1) := by decide +kernel
theorem dX9_keepsRows_193 : decode cX9_keepsRows 193 = .ok (.aload_n 0, 1) := by decide +kernel
theorem dX9_keepsRows_194 : decode cX9_keepsRows 194 = .ok (.getfield 118, 3) := by decide +kernel
theorem dX9_keepsRows_197 : decode cX9_keepsRows 197 = .ok (.iload_n 1, 1) := by decide +kernel
theorem dX9_keepsRows_198 : decode cX9_keepsRows 198 = .ok (.aload_n 0, 1) := by decide +kernel
theorem dX9_keepsRows_199 : decode cX9_keepsRows 199 = .ok (.getfield 55, 3) := by decide +kernel
theorem dX9_keepsRows_202 : decode cX9_keepsRows 202 = .ok (.iload_n 1, 1) := by decide +kernel
theorem dX9_keepsRows_203 : decode cX9_keepsRows 203 = .ok (.iaload, 1) := by decide +kernel
theorem dX9_keepsRows_204 : decode cX9_keepsRows 204 = .ok (.iastore, 1) := by decide +kernel
theorem dX9_keepsRows_205 : decode cX9_keepsRows 205 = .ok (.iinc 1 1, 3) := by decide +kernel
theorem dX9_keepsRows_208 : decode cX9_keepsRows 208 = .ok (.goto (-35), 3) := by decide +kernel
theorem dX9_keepsRows_211 : decode cX9_keepsRows 211 = .ok (.iconst 0, 1) := by decide +kernel
theorem dX9_keepsRows_212 : decode cX9_keepsRows 212 = .ok (.istore_n 1, 1) := by decide +kernel
theorem dX9_keepsRows_213 : decode cX9_keepsRows 213 = .ok (.iload_n 1, 1) := by decide +kernel
theorem dX9_keepsRows_214 : decode cX9_keepsRows 214 = .ok (.aload_n 0, 1) := by decide +kernel
theorem dX9_keepsRows_215 : decode cX9_keepsRows 215 = .ok (.getfield 159, 3) := by decide +kernel
theorem dX9_keepsRows_218 : decode cX9_keepsRows 218 = .ok (.if_icmp .ge 20, 3) := by decide +kernel
theorem dX9_keepsRows_221 : decode cX9_keepsRows 221 = .ok (.aload_n 0, 1) := by decide +kernel
theorem dX9_keepsRows_222 : decode cX9_keepsRows 222 = .ok (.getfield 121, 3) := by decide +kernel
theorem dX9_keepsRows_225 : decode cX9_keepsRows 225 = .ok (.iload_n 1, 1) := by decide +kernel
theorem dX9_keepsRows_226 : decode cX9_keepsRows 226 = .ok (.aload_n 0, 1) := by decide +kernel
theorem dX9_keepsRows_227 : decode cX9_keepsRows 227 = .ok (.iload_n 1, 1) := by decide +kernel
theorem dX9_keepsRows_228 : decode cX9_keepsRows 228 = .ok (.invokevirtual 370, 3) := by decide +kernel
theorem dX9_keepsRows_231 : decode cX9_keepsRows 231 = .ok (.iastore, 1) := by decide +kernel
theorem dX9_keepsRows_232 : decode cX9_keepsRows 232 = .ok (.iinc 1 1, 3) := by decide +kernel
theorem dX9_keepsRows_235 : decode cX9_keepsRows 235 = .ok (.goto (-22), 3) := by decide +kernel
theorem dX9_keepsRows_238 : decode cX9_keepsRows 238 = .ok (.return_, 1) := by decide +kernel
theorem dX9_isOrder_0 : decode cX9_isOrder 0 = .ok (.iconst 0, 1) := by decide +kernel
theorem dX9_isOrder_1 : decode cX9_isOrder 1 = .ok (.istore_n 2, 1) := by decide +kernel
theorem dX9_isOrder_2 : decode cX9_isOrder 2 = .ok (.iload_n 1, 1) := by decide +kernel
theorem dX9_isOrder_3 : decode cX9_isOrder 3 = .ok (.istore_n 3, 1) := by decide +kernel
theorem dX9_isOrder_4 : decode cX9_isOrder 4 = .ok (.aload_n 0, 1) := by decide +kernel
theorem dX9_isOrder_5 : decode cX9_isOrder 5 = .ok (.getfield 166, 3) := by decide +kernel
theorem dX9_isOrder_8 : decode cX9_isOrder 8 = .ok (.iconst 1, 1) := by decide +kernel
theorem dX9_isOrder_9 : decode cX9_isOrder 9 = .ok (.isub, 1) := by decide +kernel
theorem dX9_isOrder_10 : decode cX9_isOrder 10 = .ok (.istore 4, 2) := by decide +kernel
theorem dX9_isOrder_12 : decode cX9_isOrder 12 = .ok (.iload 4, 2) := by decide +kernel
theorem dX9_isOrder_14 : decode cX9_isOrder 14 = .ok (.ifCond .lt 63, 3) := by decide +kernel
theorem dX9_isOrder_17 : decode cX9_isOrder 17 = .ok (.iload_n 3, 1) := by decide +kernel
theorem dX9_isOrder_18 : decode cX9_isOrder 18 = .ok (.bipush 10, 2) := by decide +kernel
theorem dX9_isOrder_20 : decode cX9_isOrder 20 = .ok (.irem, 1) := by decide +kernel
theorem dX9_isOrder_21 : decode cX9_isOrder 21 = .ok (.iconst 1, 1) := by decide +kernel
theorem dX9_isOrder_22 : decode cX9_isOrder 22 = .ok (.isub, 1) := by decide +kernel
theorem dX9_isOrder_23 : decode cX9_isOrder 23 = .ok (.istore 5, 2) := by decide +kernel
theorem dX9_isOrder_25 : decode cX9_isOrder 25 = .ok (.iload_n 3, 1) := by decide +kernel
theorem dX9_isOrder_26 : decode cX9_isOrder 26 = .ok (.ifCond .le 22, 3) := by decide +kernel
theorem dX9_isOrder_29 : decode cX9_isOrder 29 = .ok (.aload_n 0, 1) := by decide +kernel
theorem dX9_isOrder_30 : decode cX9_isOrder 30 = .ok (.iload 5, 2) := by decide +kernel
theorem dX9_isOrder_32 : decode cX9_isOrder 32 = .ok (.invokevirtual 219, 3) := by decide +kernel
theorem dX9_isOrder_35 : decode cX9_isOrder 35 = .ok (.ifCond .eq 13, 3) := by decide +kernel
theorem dX9_isOrder_38 : decode cX9_isOrder 38 = .ok (.iload_n 2, 1) := by decide +kernel
theorem dX9_isOrder_39 : decode cX9_isOrder 39 = .ok (.iload 5, 2) := by decide +kernel
theorem dX9_isOrder_41 : decode cX9_isOrder 41 = .ok (.ishr, 1) := by decide +kernel
theorem dX9_isOrder_42 : decode cX9_isOrder 42 = .ok (.iconst 1, 1) := by decide +kernel
theorem dX9_isOrder_43 : decode cX9_isOrder 43 = .ok (.iand, 1) := by decide +kernel
theorem dX9_isOrder_44 : decode cX9_isOrder 44 = .ok (.iconst 1, 1) := by decide +kernel
theorem dX9_isOrder_45 : decode cX9_isOrder 45 = .ok (.if_icmp .ne 5, 3) := by decide +kernel
theorem dX9_isOrder_48 : decode cX9_isOrder 48 = .ok (.iconst 0, 1) := by decide +kernel
theorem dX9_isOrder_49 : decode cX9_isOrder 49 = .ok (.ireturn, 1) := by decide +kernel
theorem dX9_isOrder_50 : decode cX9_isOrder 50 = .ok (.iload_n 2, 1) := by decide +kernel
theorem dX9_isOrder_51 : decode cX9_isOrder 51 = .ok (.iconst 1, 1) := by decide +kernel
theorem dX9_isOrder_52 : decode cX9_isOrder 52 = .ok (.iload 5, 2) := by decide +kernel
theorem dX9_isOrder_54 : decode cX9_isOrder 54 = .ok (.ishl, 1) := by decide +kernel
theorem dX9_isOrder_55 : decode cX9_isOrder 55 = .ok (.ior, 1) := by decide +kernel
theorem dX9_isOrder_56 : decode cX9_isOrder 56 = .ok (.istore_n 2, 1) := by decide +kernel
theorem dX9_isOrder_57 : decode cX9_isOrder 57 = .ok (.aload_n 0, 1) := by decide +kernel
theorem dX9_isOrder_58 : decode cX9_isOrder 58 = .ok (.getfield 61, 3) := by decide +kernel
theorem dX9_isOrder_61 : decode cX9_isOrder 61 = .ok (.iload 4, 2) := by decide +kernel
theorem dX9_isOrder_63 : decode cX9_isOrder 63 = .ok (.iload 5, 2) := by decide +kernel
theorem dX9_isOrder_65 : decode cX9_isOrder 65 = .ok (.iastore, 1) := by decide +kernel
theorem dX9_isOrder_66 : decode cX9_isOrder 66 = .ok (.iload_n 3, 1) := by decide +kernel
theorem dX9_isOrder_67 : decode cX9_isOrder 67 = .ok (.bipush 10, 2) := by decide +kernel
theorem dX9_isOrder_69 : decode cX9_isOrder 69 = .ok (.idiv, 1) := by decide +kernel
theorem dX9_isOrder_70 : decode cX9_isOrder 70 = .ok (.istore_n 3, 1) := by decide +kernel
theorem dX9_isOrder_71 : decode cX9_isOrder 71 = .ok (.iinc 4 (-1), 3) := by decide +kernel
theorem dX9_isOrder_74 : decode cX9_isOrder 74 = .ok (.goto (-62), 3) := by decide +kernel
theorem dX9_isOrder_77 : decode cX9_isOrder 77 = .ok (.iload_n 3, 1) := by decide +kernel
theorem dX9_isOrder_78 : decode cX9_isOrder 78 = .ok (.ifCond .ne 7, 3) := by decide +kernel
theorem dX9_isOrder_81 : decode cX9_isOrder 81 = .ok (.iconst 1, 1) := by decide +kernel
theorem dX9_isOrder_82 : decode cX9_isOrder 82 = .ok (.goto 4, 3) := by decide +kernel
theorem dX9_isOrder_85 : decode cX9_isOrder 85 = .ok (.iconst 0, 1) := by decide +kernel
theorem dX9_isOrder_86 : decode cX9_isOrder 86 = .ok (.ireturn, 1) := by decide +kernel
theorem dX9_isTable_0 : decode cX9_isTable 0 = .ok (.aload_n 0, 1) := by decide +kernel
theorem dX9_isTable_1 : decode cX9_isTable 1 = .ok (.getfield 159, 3) := by decide +kernel
theorem dX9_isTable_4 : decode cX9_isTable 4 = .ok (.ifCond .le 14, 3) := by decide +kernel
theorem dX9_isTable_7 : decode cX9_isTable 7 = .ok (.aload_n 0, 1) := by decide +kernel
theorem dX9_isTable_8 : decode cX9_isTable 8 = .ok (.getfield 166, 3) := by decide +kernel
theorem dX9_isTable_11 : decode cX9_isTable 11 = .ok (.ifCond .le 7, 3) := by decide +kernel
theorem dX9_isTable_14 : decode cX9_isTable 14 = .ok (.iconst 1, 1) := by decide +kernel
theorem dX9_isTable_15 : decode cX9_isTable 15 = .ok (.goto 4, 3) := by decide +kernel
theorem dX9_isTable_18 : decode cX9_isTable 18 = .ok (.iconst 0, 1) := by decide +kernel
theorem dX9_isTable_19 : decode cX9_isTable 19 = .ok (.ireturn, 1) := by decide +kernel
theorem dX9_meet_0 : decode cX9_meet 0 = .ok (.aload_n 0, 1) := by decide +kernel
theorem dX9_meet_1 : decode cX9_meet 1 = .ok (.invokevirtual 388, 3) := by decide +kernel
theorem dX9_meet_4 : decode cX9_meet 4 = .ok (.iload_n 1, 1) := by decide +kernel
theorem dX9_meet_5 : decode cX9_meet 5 = .ok (.ifCond .eq 13, 3) := by decide +kernel
theorem dX9_meet_8 : decode cX9_meet 8 = .ok (.aload_n 0, 1) := by decide +kernel
theorem dX9_meet_9 : decode cX9_meet 9 = .ok (.iload_n 1, 1) := by decide +kernel
theorem dX9_meet_10 : decode cX9_meet 10 = .ok (.invokevirtual 391, 3) := by decide +kernel
theorem dX9_meet_13 : decode cX9_meet 13 = .ok (.ifCond .ne 5, 3) := by decide +kernel
theorem dX9_meet_16 : decode cX9_meet 16 = .ok (.iconst (-1), 1) := by decide +kernel
theorem dX9_meet_17 : decode cX9_meet 17 = .ok (.ireturn, 1) := by decide +kernel
theorem dX9_meet_18 : decode cX9_meet 18 = .ok (.aload_n 0, 1) := by decide +kernel
theorem dX9_meet_19 : decode cX9_meet 19 = .ok (.invokevirtual 394, 3) := by decide +kernel
theorem dX9_meet_22 : decode cX9_meet 22 = .ok (.ifCond .ne 6, 3) := by decide +kernel
theorem dX9_meet_25 : decode cX9_meet 25 = .ok (.bipush (-5), 2) := by decide +kernel
theorem dX9_meet_27 : decode cX9_meet 27 = .ok (.ireturn, 1) := by decide +kernel
theorem dX9_meet_28 : decode cX9_meet 28 = .ok (.aload_n 0, 1) := by decide +kernel
theorem dX9_meet_29 : decode cX9_meet 29 = .ok (.invokevirtual 398, 3) := by decide +kernel
theorem dX9_meet_32 : decode cX9_meet 32 = .ok (.aload_n 0, 1) := by decide +kernel
theorem dX9_meet_33 : decode cX9_meet 33 = .ok (.invokevirtual 401, 3) := by decide +kernel
theorem dX9_meet_36 : decode cX9_meet 36 = .ok (.aload_n 0, 1) := by decide +kernel
theorem dX9_meet_37 : decode cX9_meet 37 = .ok (.getfield 85, 3) := by decide +kernel
theorem dX9_meet_40 : decode cX9_meet 40 = .ok (.iconst 0, 1) := by decide +kernel
theorem dX9_meet_41 : decode cX9_meet 41 = .ok (.aload_n 0, 1) := by decide +kernel
theorem dX9_meet_42 : decode cX9_meet 42 = .ok (.getfield 289, 3) := by decide +kernel
theorem dX9_meet_45 : decode cX9_meet 45 = .ok (.iastore, 1) := by decide +kernel
theorem dX9_meet_46 : decode cX9_meet 46 = .ok (.aload_n 0, 1) := by decide +kernel
theorem dX9_meet_47 : decode cX9_meet 47 = .ok (.getfield 85, 3) := by decide +kernel
theorem dX9_meet_50 : decode cX9_meet 50 = .ok (.iconst 1, 1) := by decide +kernel
theorem dX9_meet_51 : decode cX9_meet 51 = .ok (.aload_n 0, 1) := by decide +kernel
theorem dX9_meet_52 : decode cX9_meet 52 = .ok (.getfield 321, 3) := by decide +kernel
theorem dX9_meet_55 : decode cX9_meet 55 = .ok (.iastore, 1) := by decide +kernel
theorem dX9_meet_56 : decode cX9_meet 56 = .ok (.aload_n 0, 1) := by decide +kernel
theorem dX9_meet_57 : decode cX9_meet 57 = .ok (.getfield 85, 3) := by decide +kernel
theorem dX9_meet_60 : decode cX9_meet 60 = .ok (.iconst 2, 1) := by decide +kernel
theorem dX9_meet_61 : decode cX9_meet 61 = .ok (.aload_n 0, 1) := by decide +kernel
theorem dX9_meet_62 : decode cX9_meet 62 = .ok (.invokevirtual 361, 3) := by decide +kernel
theorem dX9_meet_65 : decode cX9_meet 65 = .ok (.iastore, 1) := by decide +kernel
theorem dX9_meet_66 : decode cX9_meet 66 = .ok (.aload_n 0, 1) := by decide +kernel
theorem dX9_meet_67 : decode cX9_meet 67 = .ok (.getfield 85, 3) := by decide +kernel
theorem dX9_meet_70 : decode cX9_meet 70 = .ok (.iconst 3, 1) := by decide +kernel
theorem dX9_meet_71 : decode cX9_meet 71 = .ok (.aload_n 0, 1) := by decide +kernel
theorem dX9_meet_72 : decode cX9_meet 72 = .ok (.invokevirtual 404, 3) := by decide +kernel
theorem dX9_meet_75 : decode cX9_meet 75 = .ok (.iastore, 1) := by decide +kernel
theorem dX9_meet_76 : decode cX9_meet 76 = .ok (.aload_n 0, 1) := by decide +kernel
theorem dX9_meet_77 : decode cX9_meet 77 = .ok (.getfield 85, 3) := by decide +kernel
theorem dX9_meet_80 : decode cX9_meet 80 = .ok (.iconst 4, 1) := by decide +kernel
theorem dX9_meet_81 : decode cX9_meet 81 = .ok (.aload_n 0, 1) := by decide +kernel
theorem dX9_meet_82 : decode cX9_meet 82 = .ok (.invokevirtual 361, 3) := by decide +kernel
theorem dX9_meet_85 : decode cX9_meet 85 = .ok (.aload_n 0, 1) := by decide +kernel
theorem dX9_meet_86 : decode cX9_meet 86 = .ok (.invokevirtual 364, 3) := by decide +kernel
theorem dX9_meet_89 : decode cX9_meet 89 = .ok (.ixor, 1) := by decide +kernel
theorem dX9_meet_90 : decode cX9_meet 90 = .ok (.iastore, 1) := by decide +kernel
theorem dX9_meet_91 : decode cX9_meet 91 = .ok (.aload_n 0, 1) := by decide +kernel
theorem dX9_meet_92 : decode cX9_meet 92 = .ok (.getfield 85, 3) := by decide +kernel
theorem dX9_meet_95 : decode cX9_meet 95 = .ok (.iconst 5, 1) := by decide +kernel
theorem dX9_meet_96 : decode cX9_meet 96 = .ok (.aload_n 0, 1) := by decide +kernel
theorem dX9_meet_97 : decode cX9_meet 97 = .ok (.iconst 0, 1) := by decide +kernel
theorem dX9_meet_98 : decode cX9_meet 98 = .ok (.invokevirtual 407, 3) := by decide +kernel
theorem dX9_meet_101 : decode cX9_meet 101 = .ok (.iastore, 1) := by decide +kernel
theorem dX9_meet_102 : decode cX9_meet 102 = .ok (.aload_n 0, 1) := by decide +kernel
theorem dX9_meet_103 : decode cX9_meet 103 = .ok (.getfield 85, 3) := by decide +kernel
theorem dX9_meet_106 : decode cX9_meet 106 = .ok (.bipush 6, 2) := by decide +kernel
theorem dX9_meet_108 : decode cX9_meet 108 = .ok (.aload_n 0, 1) := by decide +kernel
theorem dX9_meet_109 : decode cX9_meet 109 = .ok (.iconst 1, 1) := by decide +kernel
theorem dX9_meet_110 : decode cX9_meet 110 = .ok (.invokevirtual 407, 3) := by decide +kernel
theorem dX9_meet_113 : decode cX9_meet 113 = .ok (.iastore, 1) := by decide +kernel
theorem dX9_meet_114 : decode cX9_meet 114 = .ok (.aload_n 0, 1) := by decide +kernel
theorem dX9_meet_115 : decode cX9_meet 115 = .ok (.getfield 85, 3) := by decide +kernel
theorem dX9_meet_118 : decode cX9_meet 118 = .ok (.bipush 7, 2) := by decide +kernel
theorem dX9_meet_120 : decode cX9_meet 120 = .ok (.aload_n 0, 1) := by decide +kernel
theorem dX9_meet_121 : decode cX9_meet 121 = .ok (.invokevirtual 411, 3) := by decide +kernel
theorem dX9_meet_124 : decode cX9_meet 124 = .ok (.iastore, 1) := by decide +kernel
theorem dX9_meet_125 : decode cX9_meet 125 = .ok (.aload_n 0, 1) := by decide +kernel
theorem dX9_meet_126 : decode cX9_meet 126 = .ok (.getfield 85, 3) := by decide +kernel
theorem dX9_meet_129 : decode cX9_meet 129 = .ok (.bipush 8, 2) := by decide +kernel
theorem dX9_meet_131 : decode cX9_meet 131 = .ok (.aload_n 0, 1) := by decide +kernel
theorem dX9_meet_132 : decode cX9_meet 132 = .ok (.invokevirtual 414, 3) := by decide +kernel
theorem dX9_meet_135 : decode cX9_meet 135 = .ok (.iastore, 1) := by decide +kernel
theorem dX9_meet_136 : decode cX9_meet 136 = .ok (.aload_n 0, 1) := by decide +kernel
theorem dX9_meet_137 : decode cX9_meet 137 = .ok (.getfield 85, 3) := by decide +kernel
theorem dX9_meet_140 : decode cX9_meet 140 = .ok (.bipush 9, 2) := by decide +kernel
theorem dX9_meet_142 : decode cX9_meet 142 = .ok (.iconst 0, 1) := by decide +kernel
theorem dX9_meet_143 : decode cX9_meet 143 = .ok (.iastore, 1) := by decide +kernel
theorem dX9_meet_144 : decode cX9_meet 144 = .ok (.iconst 0, 1) := by decide +kernel
theorem dX9_meet_145 : decode cX9_meet 145 = .ok (.istore_n 2, 1) := by decide +kernel
theorem dX9_meet_146 : decode cX9_meet 146 = .ok (.iload_n 2, 1) := by decide +kernel
theorem dX9_meet_147 : decode cX9_meet 147 = .ok (.aload_n 0, 1) := by decide +kernel
theorem dX9_meet_148 : decode cX9_meet 148 = .ok (.getfield 159, 3) := by decide +kernel
theorem dX9_meet_151 : decode cX9_meet 151 = .ok (.if_icmp .ge 48, 3) := by decide +kernel
theorem dX9_meet_154 : decode cX9_meet 154 = .ok (.aload_n 0, 1) := by decide +kernel
theorem dX9_meet_155 : decode cX9_meet 155 = .ok (.iload_n 2, 1) := by decide +kernel
theorem dX9_meet_156 : decode cX9_meet 156 = .ok (.putfield 286, 3) := by decide +kernel
theorem dX9_meet_159 : decode cX9_meet 159 = .ok (.aload_n 0, 1) := by decide +kernel
theorem dX9_meet_160 : decode cX9_meet 160 = .ok (.invokevirtual 398, 3) := by decide +kernel
theorem dX9_meet_163 : decode cX9_meet 163 = .ok (.aload_n 0, 1) := by decide +kernel
theorem dX9_meet_164 : decode cX9_meet 164 = .ok (.getfield 85, 3) := by decide +kernel
theorem dX9_meet_167 : decode cX9_meet 167 = .ok (.bipush 9, 2) := by decide +kernel
theorem dX9_meet_169 : decode cX9_meet 169 = .ok (.dup2, 1) := by decide +kernel
theorem dX9_meet_170 : decode cX9_meet 170 = .ok (.iaload, 1) := by decide +kernel
theorem dX9_meet_171 : decode cX9_meet 171 = .ok (.aload_n 0, 1) := by decide +kernel
theorem dX9_meet_172 : decode cX9_meet 172 = .ok (.invokevirtual 361, 3) := by decide +kernel
theorem dX9_meet_175 : decode cX9_meet 175 = .ok (.aload_n 0, 1) := by decide +kernel
theorem dX9_meet_176 : decode cX9_meet 176 = .ok (.getfield 85, 3) := by decide +kernel
theorem dX9_meet_179 : decode cX9_meet 179 = .ok (.iconst 2, 1) := by decide +kernel
theorem dX9_meet_180 : decode cX9_meet 180 = .ok (.iaload, 1) := by decide +kernel
theorem dX9_meet_181 : decode cX9_meet 181 = .ok (.if_icmp .eq 9, 3) := by decide +kernel
theorem dX9_meet_184 : decode cX9_meet 184 = .ok (.iconst 1, 1) := by decide +kernel
theorem dX9_meet_185 : decode cX9_meet 185 = .ok (.iload_n 2, 1) := by decide +kernel
theorem dX9_meet_186 : decode cX9_meet 186 = .ok (.ishl, 1) := by decide +kernel
theorem dX9_meet_187 : decode cX9_meet 187 = .ok (.goto 4, 3) := by decide +kernel
theorem dX9_meet_190 : decode cX9_meet 190 = .ok (.iconst 0, 1) := by decide +kernel
theorem dX9_meet_191 : decode cX9_meet 191 = .ok (.ior, 1) := by decide +kernel
theorem dX9_meet_192 : decode cX9_meet 192 = .ok (.iastore, 1) := by decide +kernel
theorem dX9_meet_193 : decode cX9_meet 193 = .ok (.iinc 2 1, 3) := by decide +kernel
theorem dX9_meet_196 : decode cX9_meet 196 = .ok (.goto (-50), 3) := by decide +kernel
theorem dX9_meet_199 : decode cX9_meet 199 = .ok (.aload_n 0, 1) := by decide +kernel
theorem dX9_meet_200 : decode cX9_meet 200 = .ok (.getfield 85, 3) := by decide +kernel
theorem dX9_meet_203 : decode cX9_meet 203 = .ok (.iconst 0, 1) := by decide +kernel
theorem dX9_meet_204 : decode cX9_meet 204 = .ok (.iaload, 1) := by decide +kernel
theorem dX9_meet_205 : decode cX9_meet 205 = .ok (.ireturn, 1) := by decide +kernel
theorem dX9_told_0 : decode cX9_told 0 = .ok (.iload_n 1, 1) := by decide +kernel
theorem dX9_told_1 : decode cX9_told 1 = .ok (.i2l, 1) := by decide +kernel
theorem dX9_told_2 : decode cX9_told 2 = .ok (.lconst 0, 1) := by decide +kernel
theorem dX9_told_3 : decode cX9_told 3 = .ok (.ldc2_w 172, 3) := by decide +kernel
theorem dX9_told_6 : decode cX9_told 6 = .ok (.invokestatic 162, 3) := by decide +kernel
theorem dX9_told_9 : decode cX9_told 9 = .ok (.ifCond .ne 7, 3) := by decide +kernel
theorem dX9_told_12 : decode cX9_told 12 = .ok (.iconst (-1), 1) := by decide +kernel
theorem dX9_told_13 : decode cX9_told 13 = .ok (.goto 21, 3) := by decide +kernel
theorem dX9_told_16 : decode cX9_told 16 = .ok (.aload_n 0, 1) := by decide +kernel
theorem dX9_told_17 : decode cX9_told 17 = .ok (.getfield 150, 3) := by decide +kernel
theorem dX9_told_20 : decode cX9_told 20 = .ok (.ifCond .ge 8, 3) := by decide +kernel
theorem dX9_told_23 : decode cX9_told 23 = .ok (.bipush (-5), 2) := by decide +kernel
theorem dX9_told_25 : decode cX9_told 25 = .ok (.goto 9, 3) := by decide +kernel
theorem dX9_told_28 : decode cX9_told 28 = .ok (.aload_n 0, 1) := by decide +kernel
theorem dX9_told_29 : decode cX9_told 29 = .ok (.getfield 85, 3) := by decide +kernel
theorem dX9_told_32 : decode cX9_told 32 = .ok (.iload_n 1, 1) := by decide +kernel
theorem dX9_told_33 : decode cX9_told 33 = .ok (.iaload, 1) := by decide +kernel
theorem dX9_told_34 : decode cX9_told 34 = .ok (.ireturn, 1) := by decide +kernel
theorem dX9_saying_0 : decode cX9_saying 0 = .ok (.iload_n 2, 1) := by decide +kernel
theorem dX9_saying_1 : decode cX9_saying 1 = .ok (.i2l, 1) := by decide +kernel
theorem dX9_saying_2 : decode cX9_saying 2 = .ok (.lconst 0, 1) := by decide +kernel
theorem dX9_saying_3 : decode cX9_saying 3 = .ok (.ldc2_w 417, 3) := by decide +kernel
theorem dX9_saying_6 : decode cX9_saying 6 = .ok (.invokestatic 162, 3) := by decide +kernel
theorem dX9_saying_9 : decode cX9_saying 9 = .ok (.ifCond .ne 5, 3) := by decide +kernel
theorem dX9_saying_12 : decode cX9_saying 12 = .ok (.iconst (-1), 1) := by decide +kernel
theorem dX9_saying_13 : decode cX9_saying 13 = .ok (.ireturn, 1) := by decide +kernel
theorem dX9_saying_14 : decode cX9_saying 14 = .ok (.aload_n 0, 1) := by decide +kernel
theorem dX9_saying_15 : decode cX9_saying 15 = .ok (.getfield 150, 3) := by decide +kernel
theorem dX9_saying_18 : decode cX9_saying 18 = .ok (.ifCond .ge 6, 3) := by decide +kernel
theorem dX9_saying_21 : decode cX9_saying 21 = .ok (.bipush (-5), 2) := by decide +kernel
theorem dX9_saying_23 : decode cX9_saying 23 = .ok (.ireturn, 1) := by decide +kernel
theorem dX9_saying_24 : decode cX9_saying 24 = .ok (.iload_n 1, 1) := by decide +kernel
theorem dX9_saying_25 : decode cX9_saying 25 = .ok (.i2l, 1) := by decide +kernel
theorem dX9_saying_26 : decode cX9_saying 26 = .ok (.lconst 0, 1) := by decide +kernel
