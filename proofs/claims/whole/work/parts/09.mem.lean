/-! THE CELLS: what the two constructors make; the memory; rules with the program text beside them -/
def shF : Sh := [(11, 6), (9, 17), (0, 10), (0, 10), (0, 10), (0, 10), (0, 6), (0, 6), (0, 20), (0, 20), (0, 20), (0, 3), (0, 10), (0, 6), (5, 9), (0, 120), (0, 128), (0, 128), (0, 128), (4, 6), (0, 40), (0, 40), (0, 40), (0, 40), (7, 11), (0, 10), (0, 6), (0, 6), (0, 10), (6, 19), (0, 1400), (0, 6), (0, 20), (0, 20), (0, 10), (0, 10), (0, 10), (0, 8), (0, 10), (0, 10), (0, 10), (6, 19), (0, 1400), (0, 6), (0, 20), (0, 20), (0, 10), (0, 10), (0, 10), (0, 8), (0, 10), (0, 10), (0, 10), (10, 5), (0, 6), (0, 9), (0, 3), (6, 19), (0, 1400), (0, 6), (0, 20), (0, 20), (0, 10), (0, 10), (0, 10), (0, 8), (0, 10), (0, 10), (0, 10), (3, 6), (0, 24), (0, 50), (2, 6), (8, 4), (1, 60), (8, 4), (1, 60), (8, 4), (1, 60), (8, 4), (1, 60), (8, 4), (1, 60), (8, 4), (1, 60), (12, 76), (0, 42), (0, 40), (0, 40), (0, 40), (0, 10), (0, 20), (0, 20), (0, 20), (0, 120), (0, 120), (0, 8), (0, 10), (0, 10), (0, 10), (0, 20), (0, 20), (0, 6), (0, 6), (0, 200), (0, 200), (0, 200), (0, 200), (0, 200), (0, 200), (0, 200), (0, 10), (0, 200), (0, 200), (0, 200), (0, 200), (0, 200), (0, 200), (0, 200), (0, 6), (0, 6), (0, 20), (0, 20), (0, 10), (0, 50), (0, 24), (0, 6), (0, 6), (1, 360), (1, 60)]
theorem shF_len : shF.length = 130 := by decide +kernel
theorem s_0 : shF[0]? = some (11, 6) := rfl
theorem s_1 : shF[1]? = some (9, 17) := rfl
theorem s_2 : shF[2]? = some (0, 10) := rfl
theorem s_3 : shF[3]? = some (0, 10) := rfl
theorem s_4 : shF[4]? = some (0, 10) := rfl
theorem s_5 : shF[5]? = some (0, 10) := rfl
theorem s_6 : shF[6]? = some (0, 6) := rfl
theorem s_7 : shF[7]? = some (0, 6) := rfl
theorem s_8 : shF[8]? = some (0, 20) := rfl
theorem s_9 : shF[9]? = some (0, 20) := rfl
theorem s_10 : shF[10]? = some (0, 20) := rfl
theorem s_11 : shF[11]? = some (0, 3) := rfl
theorem s_12 : shF[12]? = some (0, 10) := rfl
theorem s_13 : shF[13]? = some (0, 6) := rfl
theorem s_14 : shF[14]? = some (5, 9) := rfl
theorem s_15 : shF[15]? = some (0, 120) := rfl
theorem s_16 : shF[16]? = some (0, 128) := rfl
theorem s_17 : shF[17]? = some (0, 128) := rfl
theorem s_18 : shF[18]? = some (0, 128) := rfl
theorem s_19 : shF[19]? = some (4, 6) := rfl
theorem s_20 : shF[20]? = some (0, 40) := rfl
theorem s_21 : shF[21]? = some (0, 40) := rfl
theorem s_22 : shF[22]? = some (0, 40) := rfl
theorem s_23 : shF[23]? = some (0, 40) := rfl
theorem s_24 : shF[24]? = some (7, 11) := rfl
theorem s_25 : shF[25]? = some (0, 10) := rfl
theorem s_26 : shF[26]? = some (0, 6) := rfl
theorem s_27 : shF[27]? = some (0, 6) := rfl
theorem s_28 : shF[28]? = some (0, 10) := rfl
theorem s_29 : shF[29]? = some (6, 19) := rfl
theorem s_30 : shF[30]? = some (0, 1400) := rfl
theorem s_31 : shF[31]? = some (0, 6) := rfl
theorem s_32 : shF[32]? = some (0, 20) := rfl
theorem s_33 : shF[33]? = some (0, 20) := rfl
theorem s_34 : shF[34]? = some (0, 10) := rfl
theorem s_35 : shF[35]? = some (0, 10) := rfl
theorem s_36 : shF[36]? = some (0, 10) := rfl
theorem s_37 : shF[37]? = some (0, 8) := rfl
theorem s_38 : shF[38]? = some (0, 10) := rfl
theorem s_39 : shF[39]? = some (0, 10) := rfl
theorem s_40 : shF[40]? = some (0, 10) := rfl
theorem s_41 : shF[41]? = some (6, 19) := rfl
theorem s_42 : shF[42]? = some (0, 1400) := rfl
theorem s_43 : shF[43]? = some (0, 6) := rfl
theorem s_44 : shF[44]? = some (0, 20) := rfl
theorem s_45 : shF[45]? = some (0, 20) := rfl
theorem s_46 : shF[46]? = some (0, 10) := rfl
theorem s_47 : shF[47]? = some (0, 10) := rfl
theorem s_48 : shF[48]? = some (0, 10) := rfl
theorem s_49 : shF[49]? = some (0, 8) := rfl
theorem s_50 : shF[50]? = some (0, 10) := rfl
theorem s_51 : shF[51]? = some (0, 10) := rfl
theorem s_52 : shF[52]? = some (0, 10) := rfl
theorem s_53 : shF[53]? = some (10, 5) := rfl
theorem s_54 : shF[54]? = some (0, 6) := rfl
theorem s_55 : shF[55]? = some (0, 9) := rfl
theorem s_56 : shF[56]? = some (0, 3) := rfl
theorem s_57 : shF[57]? = some (6, 19) := rfl
theorem s_58 : shF[58]? = some (0, 1400) := rfl
theorem s_59 : shF[59]? = some (0, 6) := rfl
theorem s_60 : shF[60]? = some (0, 20) := rfl
theorem s_61 : shF[61]? = some (0, 20) := rfl
theorem s_62 : shF[62]? = some (0, 10) := rfl
theorem s_63 : shF[63]? = some (0, 10) := rfl
theorem s_64 : shF[64]? = some (0, 10) := rfl
theorem s_65 : shF[65]? = some (0, 8) := rfl
theorem s_66 : shF[66]? = some (0, 10) := rfl
theorem s_67 : shF[67]? = some (0, 10) := rfl
theorem s_68 : shF[68]? = some (0, 10) := rfl
theorem s_69 : shF[69]? = some (3, 6) := rfl
theorem s_70 : shF[70]? = some (0, 24) := rfl
theorem s_71 : shF[71]? = some (0, 50) := rfl
theorem s_72 : shF[72]? = some (2, 6) := rfl
theorem s_73 : shF[73]? = some (8, 4) := rfl
theorem s_74 : shF[74]? = some (1, 60) := rfl
theorem s_75 : shF[75]? = some (8, 4) := rfl
theorem s_76 : shF[76]? = some (1, 60) := rfl
theorem s_77 : shF[77]? = some (8, 4) := rfl
theorem s_78 : shF[78]? = some (1, 60) := rfl
theorem s_79 : shF[79]? = some (8, 4) := rfl
theorem s_80 : shF[80]? = some (1, 60) := rfl
theorem s_81 : shF[81]? = some (8, 4) := rfl
theorem s_82 : shF[82]? = some (1, 60) := rfl
theorem s_83 : shF[83]? = some (8, 4) := rfl
theorem s_84 : shF[84]? = some (1, 60) := rfl
theorem s_85 : shF[85]? = some (12, 76) := rfl
theorem s_86 : shF[86]? = some (0, 42) := rfl
theorem s_87 : shF[87]? = some (0, 40) := rfl
theorem s_88 : shF[88]? = some (0, 40) := rfl
theorem s_89 : shF[89]? = some (0, 40) := rfl
theorem s_90 : shF[90]? = some (0, 10) := rfl
theorem s_91 : shF[91]? = some (0, 20) := rfl
theorem s_92 : shF[92]? = some (0, 20) := rfl
theorem s_93 : shF[93]? = some (0, 20) := rfl
theorem s_94 : shF[94]? = some (0, 120) := rfl
theorem s_95 : shF[95]? = some (0, 120) := rfl
theorem s_96 : shF[96]? = some (0, 8) := rfl
theorem s_97 : shF[97]? = some (0, 10) := rfl
theorem s_98 : shF[98]? = some (0, 10) := rfl
theorem s_99 : shF[99]? = some (0, 10) := rfl
theorem s_100 : shF[100]? = some (0, 20) := rfl
theorem s_101 : shF[101]? = some (0, 20) := rfl
theorem s_102 : shF[102]? = some (0, 6) := rfl
theorem s_103 : shF[103]? = some (0, 6) := rfl
theorem s_104 : shF[104]? = some (0, 200) := rfl
theorem s_105 : shF[105]? = some (0, 200) := rfl
theorem s_106 : shF[106]? = some (0, 200) := rfl
theorem s_107 : shF[107]? = some (0, 200) := rfl
theorem s_108 : shF[108]? = some (0, 200) := rfl
theorem s_109 : shF[109]? = some (0, 200) := rfl
theorem s_110 : shF[110]? = some (0, 200) := rfl
theorem s_111 : shF[111]? = some (0, 10) := rfl
theorem s_112 : shF[112]? = some (0, 200) := rfl
theorem s_113 : shF[113]? = some (0, 200) := rfl
theorem s_114 : shF[114]? = some (0, 200) := rfl
theorem s_115 : shF[115]? = some (0, 200) := rfl
theorem s_116 : shF[116]? = some (0, 200) := rfl
theorem s_117 : shF[117]? = some (0, 200) := rfl
theorem s_118 : shF[118]? = some (0, 200) := rfl
theorem s_119 : shF[119]? = some (0, 6) := rfl
theorem s_120 : shF[120]? = some (0, 6) := rfl
theorem s_121 : shF[121]? = some (0, 20) := rfl
theorem s_122 : shF[122]? = some (0, 20) := rfl
theorem s_123 : shF[123]? = some (0, 10) := rfl
theorem s_124 : shF[124]? = some (0, 50) := rfl
theorem s_125 : shF[125]? = some (0, 24) := rfl
theorem s_126 : shF[126]? = some (0, 6) := rfl
theorem s_127 : shF[127]? = some (0, 6) := rfl
theorem s_128 : shF[128]? = some (1, 360) := rfl
theorem s_129 : shF[129]? = some (1, 60) := rfl
def cC (b : Bool) : Nat := if b then 18 else 17
def cD (b : Bool) : Nat := if b then 17 else 18
def rT (b : Bool) : List (List (Option Nat)) := [[some 1, some 19, some 24, some 53, some 69, some 72], [some 2, some 3, some 4, some 5, some 6, some 7, some 8, some 9, some 10, some 11, some 12, some 13, some 14, none, none, none, none], [], [], [], [], [], [], [], [], [], [], [], [], [some 15, some 16, none, some (cC b), some (cD b), none, none, none, none], [], [], [], [], [some 20, some 21, some 22, some 23, none, none], [], [], [], [], [some 29, some 25, some 26, none, some 1, some 41, some 27, some 28, none, none, none], [], [], [], [], [some 30, some 31, some 32, some 33, some 34, some 35, some 36, none, none, none, some 1, some 37, some 38, some 39, some 40, none, none, none, none], [], [], [], [], [], [], [], [], [], [], [], [some 42, some 43, some 44, some 45, some 46, some 47, some 48, none, none, none, some 1, some 49, some 50, some 51, some 52, none, none, none, none], [], [], [], [], [], [], [], [], [], [], [], [some 1, some 57, some 54, some 55, some 56], [], [], [], [some 58, some 59, some 60, some 61, some 62, some 63, some 64, none, none, none, some 1, some 65, some 66, some 67, some 68, none, none, none, none], [], [], [], [], [], [], [], [], [], [], [], [some 70, none, none, some 71, none, none], [], [], [some 73, some 75, some 77, some 79, some 81, some 83], [none, none, none, some 74], [], [none, none, none, some 76], [], [none, none, none, some 78], [], [none, none, none, some 80], [], [none, none, none, some 82], [], [none, none, none, some 84], [], [some 86, some 87, some 88, some 89, none, none, none, some 90, none, none, some 91, some 92, some 93, none, none, none, some 94, none, some 95, none, none, none, none, none, none, some 96, none, none, none, none, none, none, some 97, some 98, some 99, some 100, some 101, some 102, some 103, some 104, some 105, some 106, some 107, some 108, some 109, some 110, none, none, none, none, some 111, some 112, some 113, some 114, some 115, some 116, some 117, some 118, some 119, some 120, some 121, some 122, some 123, none, none, none, none, some 124, some 125, none, none, none, some 126, some 127, some 128, some 129], [], [], [], [], [], [], [], [], [], [], [], [], [], [], [], [], [], [], [], [], [], [], [], [], [], [], [], [], [], [], [], [], [], [], [], [], [], [], [], [], [], [], [], []]
def rF (b : Bool) : UR := fun a k => ((rT b).getD a []).getD k none
theorem r_0_0 (b : Bool) : rF b 0 0 = some 1 := rfl
theorem r_0_1 (b : Bool) : rF b 0 1 = some 19 := rfl
theorem r_0_2 (b : Bool) : rF b 0 2 = some 24 := rfl
theorem r_0_3 (b : Bool) : rF b 0 3 = some 53 := rfl
theorem r_0_4 (b : Bool) : rF b 0 4 = some 69 := rfl
theorem r_0_5 (b : Bool) : rF b 0 5 = some 72 := rfl
theorem r_1_0 (b : Bool) : rF b 1 0 = some 2 := rfl
theorem r_1_1 (b : Bool) : rF b 1 1 = some 3 := rfl
theorem r_1_2 (b : Bool) : rF b 1 2 = some 4 := rfl
theorem r_1_3 (b : Bool) : rF b 1 3 = some 5 := rfl
theorem r_1_4 (b : Bool) : rF b 1 4 = some 6 := rfl
theorem r_1_5 (b : Bool) : rF b 1 5 = some 7 := rfl
theorem r_1_6 (b : Bool) : rF b 1 6 = some 8 := rfl
theorem r_1_7 (b : Bool) : rF b 1 7 = some 9 := rfl
theorem r_1_8 (b : Bool) : rF b 1 8 = some 10 := rfl
theorem r_1_9 (b : Bool) : rF b 1 9 = some 11 := rfl
theorem r_1_10 (b : Bool) : rF b 1 10 = some 12 := rfl
theorem r_1_11 (b : Bool) : rF b 1 11 = some 13 := rfl
theorem r_1_12 (b : Bool) : rF b 1 12 = some 14 := rfl
theorem r_14_0 (b : Bool) : rF b 14 0 = some 15 := rfl
theorem r_14_1 (b : Bool) : rF b 14 1 = some 16 := rfl
theorem r_19_0 (b : Bool) : rF b 19 0 = some 20 := rfl
theorem r_19_1 (b : Bool) : rF b 19 1 = some 21 := rfl
theorem r_19_2 (b : Bool) : rF b 19 2 = some 22 := rfl
theorem r_19_3 (b : Bool) : rF b 19 3 = some 23 := rfl
theorem r_24_0 (b : Bool) : rF b 24 0 = some 29 := rfl
theorem r_24_1 (b : Bool) : rF b 24 1 = some 25 := rfl
theorem r_24_2 (b : Bool) : rF b 24 2 = some 26 := rfl
theorem r_24_4 (b : Bool) : rF b 24 4 = some 1 := rfl
theorem r_24_5 (b : Bool) : rF b 24 5 = some 41 := rfl
theorem r_24_6 (b : Bool) : rF b 24 6 = some 27 := rfl
theorem r_24_7 (b : Bool) : rF b 24 7 = some 28 := rfl
theorem r_29_0 (b : Bool) : rF b 29 0 = some 30 := rfl
theorem r_29_1 (b : Bool) : rF b 29 1 = some 31 := rfl
theorem r_29_2 (b : Bool) : rF b 29 2 = some 32 := rfl
theorem r_29_3 (b : Bool) : rF b 29 3 = some 33 := rfl
theorem r_29_4 (b : Bool) : rF b 29 4 = some 34 := rfl
theorem r_29_5 (b : Bool) : rF b 29 5 = some 35 := rfl
theorem r_29_6 (b : Bool) : rF b 29 6 = some 36 := rfl
theorem r_29_10 (b : Bool) : rF b 29 10 = some 1 := rfl
theorem r_29_11 (b : Bool) : rF b 29 11 = some 37 := rfl
theorem r_29_12 (b : Bool) : rF b 29 12 = some 38 := rfl
theorem r_29_13 (b : Bool) : rF b 29 13 = some 39 := rfl
theorem r_29_14 (b : Bool) : rF b 29 14 = some 40 := rfl
theorem r_41_0 (b : Bool) : rF b 41 0 = some 42 := rfl
theorem r_41_1 (b : Bool) : rF b 41 1 = some 43 := rfl
theorem r_41_2 (b : Bool) : rF b 41 2 = some 44 := rfl
theorem r_41_3 (b : Bool) : rF b 41 3 = some 45 := rfl
theorem r_41_4 (b : Bool) : rF b 41 4 = some 46 := rfl
theorem r_41_5 (b : Bool) : rF b 41 5 = some 47 := rfl
theorem r_41_6 (b : Bool) : rF b 41 6 = some 48 := rfl
theorem r_41_10 (b : Bool) : rF b 41 10 = some 1 := rfl
theorem r_41_11 (b : Bool) : rF b 41 11 = some 49 := rfl
theorem r_41_12 (b : Bool) : rF b 41 12 = some 50 := rfl
theorem r_41_13 (b : Bool) : rF b 41 13 = some 51 := rfl
theorem r_41_14 (b : Bool) : rF b 41 14 = some 52 := rfl
theorem r_53_0 (b : Bool) : rF b 53 0 = some 1 := rfl
theorem r_53_1 (b : Bool) : rF b 53 1 = some 57 := rfl
theorem r_53_2 (b : Bool) : rF b 53 2 = some 54 := rfl
theorem r_53_3 (b : Bool) : rF b 53 3 = some 55 := rfl
theorem r_53_4 (b : Bool) : rF b 53 4 = some 56 := rfl
theorem r_57_0 (b : Bool) : rF b 57 0 = some 58 := rfl
theorem r_57_1 (b : Bool) : rF b 57 1 = some 59 := rfl
theorem r_57_2 (b : Bool) : rF b 57 2 = some 60 := rfl
theorem r_57_3 (b : Bool) : rF b 57 3 = some 61 := rfl
theorem r_57_4 (b : Bool) : rF b 57 4 = some 62 := rfl
theorem r_57_5 (b : Bool) : rF b 57 5 = some 63 := rfl
theorem r_57_6 (b : Bool) : rF b 57 6 = some 64 := rfl
theorem r_57_10 (b : Bool) : rF b 57 10 = some 1 := rfl
theorem r_57_11 (b : Bool) : rF b 57 11 = some 65 := rfl
theorem r_57_12 (b : Bool) : rF b 57 12 = some 66 := rfl
theorem r_57_13 (b : Bool) : rF b 57 13 = some 67 := rfl
theorem r_57_14 (b : Bool) : rF b 57 14 = some 68 := rfl
theorem r_69_0 (b : Bool) : rF b 69 0 = some 70 := rfl
theorem r_69_3 (b : Bool) : rF b 69 3 = some 71 := rfl
theorem r_72_0 (b : Bool) : rF b 72 0 = some 73 := rfl
theorem r_72_1 (b : Bool) : rF b 72 1 = some 75 := rfl
theorem r_72_2 (b : Bool) : rF b 72 2 = some 77 := rfl
theorem r_72_3 (b : Bool) : rF b 72 3 = some 79 := rfl
theorem r_72_4 (b : Bool) : rF b 72 4 = some 81 := rfl
theorem r_72_5 (b : Bool) : rF b 72 5 = some 83 := rfl
theorem r_73_3 (b : Bool) : rF b 73 3 = some 74 := rfl
theorem r_75_3 (b : Bool) : rF b 75 3 = some 76 := rfl
theorem r_77_3 (b : Bool) : rF b 77 3 = some 78 := rfl
theorem r_79_3 (b : Bool) : rF b 79 3 = some 80 := rfl
theorem r_81_3 (b : Bool) : rF b 81 3 = some 82 := rfl
theorem r_83_3 (b : Bool) : rF b 83 3 = some 84 := rfl
theorem r_85_0 (b : Bool) : rF b 85 0 = some 86 := rfl
theorem r_85_1 (b : Bool) : rF b 85 1 = some 87 := rfl
theorem r_85_2 (b : Bool) : rF b 85 2 = some 88 := rfl
theorem r_85_3 (b : Bool) : rF b 85 3 = some 89 := rfl
theorem r_85_7 (b : Bool) : rF b 85 7 = some 90 := rfl
theorem r_85_10 (b : Bool) : rF b 85 10 = some 91 := rfl
theorem r_85_11 (b : Bool) : rF b 85 11 = some 92 := rfl
theorem r_85_12 (b : Bool) : rF b 85 12 = some 93 := rfl
theorem r_85_16 (b : Bool) : rF b 85 16 = some 94 := rfl
theorem r_85_18 (b : Bool) : rF b 85 18 = some 95 := rfl
theorem r_85_25 (b : Bool) : rF b 85 25 = some 96 := rfl
theorem r_85_32 (b : Bool) : rF b 85 32 = some 97 := rfl
theorem r_85_33 (b : Bool) : rF b 85 33 = some 98 := rfl
theorem r_85_34 (b : Bool) : rF b 85 34 = some 99 := rfl
theorem r_85_35 (b : Bool) : rF b 85 35 = some 100 := rfl
theorem r_85_36 (b : Bool) : rF b 85 36 = some 101 := rfl
theorem r_85_37 (b : Bool) : rF b 85 37 = some 102 := rfl
theorem r_85_38 (b : Bool) : rF b 85 38 = some 103 := rfl
theorem r_85_39 (b : Bool) : rF b 85 39 = some 104 := rfl
theorem r_85_40 (b : Bool) : rF b 85 40 = some 105 := rfl
theorem r_85_41 (b : Bool) : rF b 85 41 = some 106 := rfl
theorem r_85_42 (b : Bool) : rF b 85 42 = some 107 := rfl
theorem r_85_43 (b : Bool) : rF b 85 43 = some 108 := rfl
theorem r_85_44 (b : Bool) : rF b 85 44 = some 109 := rfl
theorem r_85_45 (b : Bool) : rF b 85 45 = some 110 := rfl
theorem r_85_50 (b : Bool) : rF b 85 50 = some 111 := rfl
theorem r_85_51 (b : Bool) : rF b 85 51 = some 112 := rfl
theorem r_85_52 (b : Bool) : rF b 85 52 = some 113 := rfl
theorem r_85_53 (b : Bool) : rF b 85 53 = some 114 := rfl
theorem r_85_54 (b : Bool) : rF b 85 54 = some 115 := rfl
theorem r_85_55 (b : Bool) : rF b 85 55 = some 116 := rfl
theorem r_85_56 (b : Bool) : rF b 85 56 = some 117 := rfl
theorem r_85_57 (b : Bool) : rF b 85 57 = some 118 := rfl
theorem r_85_58 (b : Bool) : rF b 85 58 = some 119 := rfl
theorem r_85_59 (b : Bool) : rF b 85 59 = some 120 := rfl
theorem r_85_60 (b : Bool) : rF b 85 60 = some 121 := rfl
theorem r_85_61 (b : Bool) : rF b 85 61 = some 122 := rfl
theorem r_85_62 (b : Bool) : rF b 85 62 = some 123 := rfl
theorem r_85_67 (b : Bool) : rF b 85 67 = some 124 := rfl
theorem r_85_68 (b : Bool) : rF b 85 68 = some 125 := rfl
theorem r_85_72 (b : Bool) : rF b 85 72 = some 126 := rfl
theorem r_85_73 (b : Bool) : rF b 85 73 = some 127 := rfl
theorem r_85_74 (b : Bool) : rF b 85 74 = some 128 := rfl
theorem r_85_75 (b : Bool) : rF b 85 75 = some 129 := rfl
theorem r_14_3 (b : Bool) : rF b 14 3 = some (cC b) := rfl
theorem r_14_4 (b : Bool) : rF b 14 4 = some (cD b) := rfl
theorem s_cC (b : Bool) : shF[cC b]? = some (0, 128) := by cases b <;> rfl
theorem s_cD (b : Bool) : shF[cD b]? = some (0, 128) := by cases b <;> rfl
theorem r_swap (b : Bool) : uR (uR (rF b) 14 3 (some (cD b))) 14 4 (some (cC b)) = rF (!b) := by
  funext a k
  by_cases h : a = 14
  · subst h
    by_cases h4 : k = 4
    · subst h4; cases b <;> rfl
    · by_cases h3 : k = 3
      · subst h3; cases b <;> rfl
      · simp only [uR, if_pos, va_up, if_neg h4, if_neg h3]
        match k, h3, h4 with
        | 0, _, _ => cases b <;> rfl
        | 1, _, _ => cases b <;> rfl
        | 2, _, _ => cases b <;> rfl
        | k + 5, _, _ =>
          show ([some 15, some 16, none, some (cC b), some (cD b), none, none, none, none] : List (Option Nat)).getD (k + 5) none = ([some 15, some 16, none, some (cC !b), some (cD !b), none, none, none, none] : List (Option Nat)).getD (k + 5) none
          rfl
  · rw [uR_other h, uR_other h]
    show ((rT b).getD a []).getD k none = ((rT !b).getD a []).getD k none
    rcases Nat.lt_or_gt_of_ne h with h | h
    · match a, h with
      | 0, _ => rfl
      | 1, _ => rfl
      | 2, _ => rfl
      | 3, _ => rfl
      | 4, _ => rfl
      | 5, _ => rfl
      | 6, _ => rfl
      | 7, _ => rfl
      | 8, _ => rfl
      | 9, _ => rfl
      | 10, _ => rfl
      | 11, _ => rfl
      | 12, _ => rfl
      | 13, _ => rfl
    · obtain ⟨n, rfl⟩ := Nat.exists_eq_add_of_lt h
      rw [show 14 + n + 1 = n + 15 by omega]
      rfl
/-- a meeting, a shelf -/
def MA (a : Nat) : Prop := a = 29 ∨ a = 41 ∨ a = 57
def SA (s : Nat) : Prop := s = 73 ∨ s = 75 ∨ s = 77 ∨ s = 79 ∨ s = 81 ∨ s = 83
theorem sM_0 {a : Nat} (h : MA a) : shF[a]? = some (6, 19) := by rcases h with rfl | rfl | rfl <;> rfl
theorem sM_1 {a : Nat} (h : MA a) : shF[a + 1]? = some (0, 1400) := by rcases h with rfl | rfl | rfl <;> rfl
theorem sM_2 {a : Nat} (h : MA a) : shF[a + 2]? = some (0, 6) := by rcases h with rfl | rfl | rfl <;> rfl
theorem sM_3 {a : Nat} (h : MA a) : shF[a + 3]? = some (0, 20) := by rcases h with rfl | rfl | rfl <;> rfl
theorem sM_4 {a : Nat} (h : MA a) : shF[a + 4]? = some (0, 20) := by rcases h with rfl | rfl | rfl <;> rfl
theorem sM_5 {a : Nat} (h : MA a) : shF[a + 5]? = some (0, 10) := by rcases h with rfl | rfl | rfl <;> rfl
theorem sM_6 {a : Nat} (h : MA a) : shF[a + 6]? = some (0, 10) := by rcases h with rfl | rfl | rfl <;> rfl
theorem sM_7 {a : Nat} (h : MA a) : shF[a + 7]? = some (0, 10) := by rcases h with rfl | rfl | rfl <;> rfl
theorem sM_8 {a : Nat} (h : MA a) : shF[a + 8]? = some (0, 8) := by rcases h with rfl | rfl | rfl <;> rfl
theorem sM_9 {a : Nat} (h : MA a) : shF[a + 9]? = some (0, 10) := by rcases h with rfl | rfl | rfl <;> rfl
theorem sM_10 {a : Nat} (h : MA a) : shF[a + 10]? = some (0, 10) := by rcases h with rfl | rfl | rfl <;> rfl
theorem sM_11 {a : Nat} (h : MA a) : shF[a + 11]? = some (0, 10) := by rcases h with rfl | rfl | rfl <;> rfl
theorem rM_0 {a : Nat} (h : MA a) (b : Bool) : rF b a 0 = some (a + 1) := by rcases h with rfl | rfl | rfl <;> rfl
theorem rM_1 {a : Nat} (h : MA a) (b : Bool) : rF b a 1 = some (a + 2) := by rcases h with rfl | rfl | rfl <;> rfl
theorem rM_2 {a : Nat} (h : MA a) (b : Bool) : rF b a 2 = some (a + 3) := by rcases h with rfl | rfl | rfl <;> rfl
theorem rM_3 {a : Nat} (h : MA a) (b : Bool) : rF b a 3 = some (a + 4) := by rcases h with rfl | rfl | rfl <;> rfl
theorem rM_4 {a : Nat} (h : MA a) (b : Bool) : rF b a 4 = some (a + 5) := by rcases h with rfl | rfl | rfl <;> rfl
theorem rM_5 {a : Nat} (h : MA a) (b : Bool) : rF b a 5 = some (a + 6) := by rcases h with rfl | rfl | rfl <;> rfl
theorem rM_6 {a : Nat} (h : MA a) (b : Bool) : rF b a 6 = some (a + 7) := by rcases h with rfl | rfl | rfl <;> rfl
theorem rM_10 {a : Nat} (h : MA a) (b : Bool) : rF b a 10 = some 1 := by rcases h with rfl | rfl | rfl <;> rfl
theorem rM_11 {a : Nat} (h : MA a) (b : Bool) : rF b a 11 = some (a + 8) := by rcases h with rfl | rfl | rfl <;> rfl
theorem rM_12 {a : Nat} (h : MA a) (b : Bool) : rF b a 12 = some (a + 9) := by rcases h with rfl | rfl | rfl <;> rfl
theorem rM_13 {a : Nat} (h : MA a) (b : Bool) : rF b a 13 = some (a + 10) := by rcases h with rfl | rfl | rfl <;> rfl
theorem rM_14 {a : Nat} (h : MA a) (b : Bool) : rF b a 14 = some (a + 11) := by rcases h with rfl | rfl | rfl <;> rfl
theorem sS_0 {s : Nat} (h : SA s) : shF[s]? = some (8, 4) := by rcases h with rfl | rfl | rfl | rfl | rfl | rfl <;> rfl
theorem sS_1 {s : Nat} (h : SA s) : shF[s + 1]? = some (1, 60) := by rcases h with rfl | rfl | rfl | rfl | rfl | rfl <;> rfl
theorem rS_3 {s : Nat} (h : SA s) (b : Bool) : rF b s 3 = some (s + 1) := by rcases h with rfl | rfl | rfl | rfl | rfl | rfl <;> rfl
theorem r_shelf (b : Bool) : ∀ i, i < 6 → rF b 72 i = some (73 + 2 * i) := by
  intro i hi
  match i, hi with
  | 0, _ => rfl
  | 1, _ => rfl
  | 2, _ => rfl
  | 3, _ => rfl
  | 4, _ => rfl
  | 5, _ => rfl
theorem SA_of {i : Nat} (hi : i < 6) : SA (73 + 2 * i) := by
  unfold SA
  omega
/-- ints, longs, whether the law's two rows have changed places -/
abbrev Mem : Type := UI × UL × Bool
def gI (m : Mem) (a i : Nat) : Int32 := m.1 a i
def gJ (m : Mem) (a i : Nat) : Int64 := m.2.1 a i
def sI (m : Mem) (a i : Nat) (x : Int32) : Mem := (uI m.1 a i x, m.2)
def sJ (m : Mem) (a i : Nat) (x : Int64) : Mem := (m.1, uL m.2.1 a i x, m.2.2)
abbrev ix (i : Int32) : Nat := i.toNatClampNeg
def ck {T : Type} (i : Int32) (n : Nat) (k : Option T) : Option T := if i < 0 ∨ n ≤ i.toNatClampNeg then none else k
def ckS {T : Type} (a : Nat) (i : Int32) (k : Option T) : Option T := match shF[a]? with
  | some (0, n) => ck i n k
  | _ => none
def bnd {α T : Type} (x : α) (k : α → Option T) : Option T := k x
def dv {T : Type} (y : Int32) (k : Option T) : Option T := if y = 0 then none else k
def bz {T : Type} (v : Int32) (k : Option T) : Option T := if v &&& 1 = v then k else none
def up {S T : Type} (x : Option T) : Option (S ⊕ T) := x.map Sum.inr
def sw {T : Type} (x : Int32) : List (Int32 × Option T) → Option T → Option T
  | [], d => d
  | q :: l, d => if x = q.1 then q.2 else sw x l d
theorem ck_s {T : Type} {i : Int32} {n : Nat} {k : Option T} {t : T} (h : ck i n k = some t) : vp_in i n ∧ k = some t := by
  unfold ck at h
  split at h
  · cases h
  · next hc => exact ⟨hc, h⟩
theorem ckS_s {T : Type} {a : Nat} {i : Int32} {k : Option T} {t : T} (h : ckS a i k = some t) : ∃ n, shF[a]? = some (0, n) ∧ vp_in i n ∧ k = some t := by
  unfold ckS at h
  split at h
  · next n hn => exact ⟨n, hn, ck_s h⟩
  · cases h
theorem dv_s {T : Type} {y : Int32} {k : Option T} {t : T} (h : dv y k = some t) : ¬ y = 0 ∧ k = some t := by
  unfold dv at h
  split at h
  · cases h
  · next hc => exact ⟨hc, h⟩
theorem bz_s {T : Type} {v : Int32} {k : Option T} {t : T} (h : bz v k = some t) : v &&& 1 = v ∧ k = some t := by
  unfold bz at h
  split at h
  · next hc => exact ⟨hc, h⟩
  · cases h
theorem up_s {S T : Type} {x : Option T} {t : S ⊕ T} (h : up x = some t) : ∃ r, x = some r ∧ t = .inr r := by
  obtain ⟨r, h1, h2⟩ := Option.map_eq_some_iff.mp h
  exact ⟨r, h1, h2.symm⟩
/-- a loop: the body goes on with a new state, or ends -/
def itr {S T : Type} (body : S → Option (S ⊕ T)) : Nat → S → Option T
  | 0, _ => none
  | n + 1, s => match body s with
    | none => none
    | some (.inl s') => itr body n s'
    | some (.inr r) => some r
noncomputable def wh {S T : Type} (body : S → Option (S ⊕ T)) (s : S) : Option T := @dite _ (∃ n r, itr body n s = some r) (Classical.propDecidable _) (fun h => some h.choose_spec.choose) (fun _ => none)
theorem itr_up {S T : Type} {body : S → Option (S ⊕ T)} : ∀ {n : Nat} {s : S} {r : T}, itr body n s = some r → ∀ k, itr body (n + k) s = some r := by
  intro n
  induction n with
  | zero => intro s r h; cases h
  | succ n ih =>
    intro s r h k
    rw [show n + 1 + k = (n + k) + 1 by omega]
    unfold itr at h ⊢
    split at h
    · cases h
    · exact ih h k
    · exact h
theorem itr_one {S T : Type} {body : S → Option (S ⊕ T)} {n n' : Nat} {s : S} {r r' : T} (h : itr body n s = some r) (h' : itr body n' s = some r') : r = r' := by
  have h1 := itr_up h n'
  have h2 := itr_up h' n
  rw [Nat.add_comm] at h2
  exact Option.some.inj (h1.symm.trans h2)
theorem wh_of {S T : Type} {body : S → Option (S ⊕ T)} {n : Nat} {s : S} {r : T} (h : itr body n s = some r) : wh body s = some r := by
  unfold wh
  have hx : ∃ n r, itr body n s = some r := ⟨n, r, h⟩
  rw [dif_pos hx]
  exact congrArg some (itr_one hx.choose_spec.choose_spec h)
theorem wh_to {S T : Type} {body : S → Option (S ⊕ T)} {s : S} {r : T} (h : wh body s = some r) : ∃ n, itr body n s = some r := by
  unfold wh at h
  by_cases hx : ∃ n r, itr body n s = some r
  · rw [dif_pos hx] at h
    exact ⟨_, (Option.some.inj h) ▸ hx.choose_spec.choose_spec⟩
  · rw [dif_neg hx] at h
    cases h
theorem wh_done {S T : Type} {body : S → Option (S ⊕ T)} {s : S} {r : T} (h : body s = some (.inr r)) : wh body s = some r := wh_of (n := 1) (by unfold itr; rw [h])
theorem wh_next {S T : Type} {body : S → Option (S ⊕ T)} {s s' : S} {r : T} (h : body s = some (.inl s')) (k : wh body s' = some r) : wh body s = some r := by
  obtain ⟨n, hn⟩ := wh_to k
  exact wh_of (n := n + 1) (by unfold itr; rw [h]; exact hn)
/-- what holds where a loop stands -/
def pS {S T : Type} (A : S → Prop) (B : T → Prop) : S ⊕ T → Prop
  | .inl s => A s
  | .inr r => B r
theorem wh_ok {S T : Type} {body : S → Option (S ⊕ T)} {A : S → Prop} {B : T → Prop} (hb : ∀ s t, body s = some t → pS A B t → A s) {s : S} {r : T} (h : wh body s = some r) (hr : B r) : A s := by
  obtain ⟨n, hn⟩ := wh_to h
  clear h
  induction n generalizing s with
  | zero => cases hn
  | succ n ih =>
    unfold itr at hn
    split at hn
    · cases hn
    · next s' e => exact hb s _ e (ih hn)
    · next r' e => cases hn; exact hb s _ e hr
def msk {α : Type} : List Bool → List (Option α) → List (Option α)
  | b :: bs, x :: xs => (if b then x else none) :: msk bs xs
  | _, _ => []
theorem msk_at {α : Type} : ∀ {bs : List Bool} {L : List (Option α)} {i : Nat} {v : α}, (msk bs L)[i]? = some (some v) → L[i]? = some (some v) := by
  intro bs
  induction bs with
  | nil => intro L i v h; simp [msk] at h
  | cons b t ih =>
    intro L i v h
    cases L with
    | nil => simp [msk] at h
    | cons x xs =>
      cases i with
      | zero =>
        cases b with
        | false => simp [msk] at h
        | true => simpa [msk] using h
      | succ j =>
        have h1 : (msk t xs)[j]? = some (some v) := by simpa [msk] using h
        simpa using ih h1
abbrev WpM (g : Gx) (d : Nat) (mi : Mi) (pc : Nat) (L : List (Option Value)) (st : List Value) (m : Mem) (Z : En) : Prop := Wp g d mi pc L st 0 0 shF m.1 m.2.1 (rF m.2.2) Z
def qI (t : Int32 × Mem) : Option Value → Sh → UI → UL → UR → Prop := fun v sh u w r => v = some (.int t.1) ∧ sh = shF ∧ u = t.2.1 ∧ w = t.2.2.1 ∧ r = rF t.2.2.2
def qL (t : Int64 × Mem) : Option Value → Sh → UI → UL → UR → Prop := fun v sh u w r => v = some (.long t.1) ∧ sh = shF ∧ u = t.2.1 ∧ w = t.2.2.1 ∧ r = rF t.2.2.2
def qR (t : Nat × Mem) : Option Value → Sh → UI → UL → UR → Prop := fun v sh u w r => v = some (.ref t.1) ∧ sh = shF ∧ u = t.2.1 ∧ w = t.2.2.1 ∧ r = rF t.2.2.2
def qV (t : Mem) : Option Value → Sh → UI → UL → UR → Prop := fun v sh u w r => v = none ∧ sh = shF ∧ u = t.1 ∧ w = t.2.1 ∧ r = rF t.2.2
def qK (a : Nat) (t : Mem) : Option Value → Sh → UI → UL → UR → Prop := fun v sh u w r => v = some (.ref a) ∧ sh = shF ∧ u = t.1 ∧ w = t.2.1 ∧ r = rF t.2.2
abbrev Qy : Type := Option Value → Sh → UI → UL → UR → Prop
def pI (Q : Qy) (t : Int32 × Mem) : Prop := Q (some (.int t.1)) shF t.2.1 t.2.2.1 (rF t.2.2.2)
def pL (Q : Qy) (t : Int64 × Mem) : Prop := Q (some (.long t.1)) shF t.2.1 t.2.2.1 (rF t.2.2.2)
def pR (Q : Qy) (t : Nat × Mem) : Prop := Q (some (.ref t.1)) shF t.2.1 t.2.2.1 (rF t.2.2.2)
def pV (Q : Qy) (t : Mem) : Prop := Q none shF t.1 t.2.1 (rF t.2.2)
def pK (a : Nat) (Q : Qy) (t : Mem) : Prop := Q (some (.ref a)) shF t.1 t.2.1 (rF t.2.2)
abbrev MxM (g : Gx) (d : Nat) (mi : Mi) (args : List Value) (m : Mem) (Q : Qy) : Prop := Mx g d mi args shF m.1 m.2.1 (rF m.2.2) Q
section
variable {g : Gx} {d : Nat} {mi : Mi} {pc pc' : Nat} {L : List (Option Value)} {st : List Value} {m : Mem} {Z : En} {Q : Qy} {T : Type} {t : T}
theorem wm_mask {L' : List (Option Value)} (bs : List Bool) (hL : msk bs L = L') (k : WpM g d mi pc L' st m Z) : WpM g d mi pc L st m Z := by
  subst hL
  exact wp_forget (fun i v h => msk_at h) k
theorem wm_getI {a c n k idx : Nat} {fin : Bool} (hd : decode (miC mi) pc = .ok (.getfield idx, 3)) (hs : shF[a]? = some (c + 3, n)) (hf : FOk (miY mi).cls idx c n k fin) (ht : isInt (tyOf c k) = true) (hp : pc + 3 = pc') (kk : WpM g d mi pc' L (.int (gI m a k) :: st) m Z) : WpM g d mi pc L (.ref a :: st) m Z := wp_getI hd hs hf ht hp kk
theorem wm_getR {a c n k idx b : Nat} {fin : Bool} (hd : decode (miC mi) pc = .ok (.getfield idx, 3)) (hs : shF[a]? = some (c + 3, n)) (hf : FOk (miY mi).cls idx c n k fin) (ht : isInt (tyOf c k) = false) (hr : ∀ b' : Bool, rF b' a k = some b) (hp : pc + 3 = pc') (kk : WpM g d mi pc' L (.ref b :: st) m Z) : WpM g d mi pc L (.ref a :: st) m Z := wp_getR hd hs hf ht (hr _) hp kk
/-- the law's two rows -/
theorem wm_getC {a c n k idx : Nat} {f : Bool → Nat} {fin : Bool} (hd : decode (miC mi) pc = .ok (.getfield idx, 3)) (hs : shF[a]? = some (c + 3, n)) (hf : FOk (miY mi).cls idx c n k fin) (ht : isInt (tyOf c k) = false) (hr : ∀ b' : Bool, rF b' a k = some (f b')) (hp : pc + 3 = pc') (kk : WpM g d mi pc' L (.ref (f m.2.2) :: st) m Z) : WpM g d mi pc L (.ref a :: st) m Z := wp_getR hd hs hf ht (hr _) hp kk
theorem wm_putI {a c n k idx : Nat} {x : Int32} {K : Mem → Option T} (hd : decode (miC mi) pc = .ok (.putfield idx, 3)) (hs : shF[a]? = some (c + 3, n)) (hf : FOk (miY mi).cls idx c n k false) (ht : tyOf c k = .int) (hp : pc + 3 = pc') (h : bnd (sI m a k x) K = some t) (kk : ∀ m1, K m1 = some t → WpM g d mi pc' L st m1 Z) : WpM g d mi pc L (.int x :: .ref a :: st) m Z :=
  wp_putI hd hs hf (by rw [ht]; rfl) (by rw [ht]; exact ⟨rfl, rfl⟩) hp (kk (sI m a k x) h)
theorem wm_putZ {a c n k idx : Nat} {x : Int32} {K : Mem → Option T} (hd : decode (miC mi) pc = .ok (.putfield idx, 3)) (hs : shF[a]? = some (c + 3, n)) (hf : FOk (miY mi).cls idx c n k false) (ht : tyOf c k = .boolean) (hx : narrow .boolean (.int x) = .int x ∧ fits .boolean (.int x) = true) (hp : pc + 3 = pc') (h : bnd (sI m a k x) K = some t) (kk : ∀ m1, K m1 = some t → WpM g d mi pc' L st m1 Z) : WpM g d mi pc L (.int x :: .ref a :: st) m Z :=
  wp_putI hd hs hf (by rw [ht]; rfl) (by rw [ht]; exact hx) hp (kk (sI m a k x) h)
theorem wm_iald {a n : Nat} {i : Int32} {K : Option T} (hd : decode (miC mi) pc = .ok (.iaload, 1)) (hs : shF[a]? = some (0, n)) (hp : pc + 1 = pc') (h : ck i n K = some t) (kk : K = some t → WpM g d mi pc' L (.int (gI m a (ix i)) :: st) m Z) : WpM g d mi pc L (.int i :: .ref a :: st) m Z :=
  wp_iald hd hs (ck_s h).1 hp (kk (ck_s h).2)
theorem wm_ialdS {a : Nat} {i : Int32} {K : Option T} (hd : decode (miC mi) pc = .ok (.iaload, 1)) (hp : pc + 1 = pc') (h : ckS a i K = some t) (kk : K = some t → WpM g d mi pc' L (.int (gI m a (ix i)) :: st) m Z) : WpM g d mi pc L (.int i :: .ref a :: st) m Z := by
  obtain ⟨n, h1, h2, h3⟩ := ckS_s h
  exact wp_iald hd h1 h2 hp (kk h3)
theorem wm_lald {a n : Nat} {i : Int32} {K : Option T} (hd : decode (miC mi) pc = .ok (.laload, 1)) (hs : shF[a]? = some (1, n)) (hp : pc + 1 = pc') (h : ck i n K = some t) (kk : K = some t → WpM g d mi pc' L (.long (gJ m a (ix i)) :: st) m Z) : WpM g d mi pc L (.int i :: .ref a :: st) m Z :=
  wp_lald hd hs (ck_s h).1 hp (kk (ck_s h).2)
theorem wm_iast {a n : Nat} {i x : Int32} {K : Mem → Option T} (hd : decode (miC mi) pc = .ok (.iastore, 1)) (hs : shF[a]? = some (0, n)) (hp : pc + 1 = pc') (h : ck i n (bnd (sI m a (ix i) x) K) = some t) (kk : ∀ m1, K m1 = some t → WpM g d mi pc' L st m1 Z) : WpM g d mi pc L (.int x :: .int i :: .ref a :: st) m Z :=
  wp_iast hd hs (ck_s h).1 hp (kk (sI m a (ix i) x) (ck_s h).2)
theorem wm_iastS {a : Nat} {i x : Int32} {K : Mem → Option T} (hd : decode (miC mi) pc = .ok (.iastore, 1)) (hp : pc + 1 = pc') (h : ckS a i (bnd (sI m a (ix i) x) K) = some t) (kk : ∀ m1, K m1 = some t → WpM g d mi pc' L st m1 Z) : WpM g d mi pc L (.int x :: .int i :: .ref a :: st) m Z := by
  obtain ⟨n, h1, h2, h3⟩ := ckS_s h
  exact wp_iast hd h1 h2 hp (kk (sI m a (ix i) x) h3)
theorem wm_last {a n : Nat} {i : Int32} {x : Int64} {K : Mem → Option T} (hd : decode (miC mi) pc = .ok (.lastore, 1)) (hs : shF[a]? = some (1, n)) (hp : pc + 1 = pc') (h : ck i n (bnd (sJ m a (ix i) x) K) = some t) (kk : ∀ m1, K m1 = some t → WpM g d mi pc' L st m1 Z) : WpM g d mi pc L (.long x :: .int i :: .ref a :: st) m Z :=
  wp_last hd hs (ck_s h).1 hp (kk (sJ m a (ix i) x) (ck_s h).2)
theorem wm_shelf {i : Int32} {K : Nat → Option T} (hd : decode (miC mi) pc = .ok (.aaload, 1)) (hp : pc + 1 = pc') (h : ck i 6 (bnd (73 + 2 * ix i) K) = some t) (kk : ∀ s, SA s → K s = some t → WpM g d mi pc' L (.ref s :: st) m Z) : WpM g d mi pc L (.int i :: .ref 72 :: st) m Z := by
  have hi : i.toNatClampNeg < 6 := Nat.not_le.mp fun q => (ck_s h).1 (Or.inr q)
  exact wp_aald hd s_72 (ck_s h).1 (r_shelf _ _ hi) hp (kk _ (SA_of hi) (ck_s h).2)
theorem wm_ti {j : Nat} {C n : String} {xs : List Int32} {i : Int32} {K : Option T} (hd : decode (miC mi) pc = .ok (.iaload, 1)) (hj : stA[j]? = some (C, n, xs)) (hp : pc + 1 = pc') (h : ck i xs.length K = some t) (kk : K = some t → WpM g d mi pc' L (.int (xs.getD (ix i) 0) :: st) m Z) : WpM g d mi pc L (.int i :: .ref (1000 + j) :: st) m Z :=
  wp_ti hd hj (ck_s h).1 rfl hp (kk (ck_s h).2)
theorem wm_sld {i : Int32} {K : Option T} (hd : decode (miC mi) pc = .ok (.iaload, 1)) (hp : pc + 1 = pc') (h : ck i (gN g) K = some t) (kk : K = some t → WpM g d mi pc' L (.int (gX g (ix i)) :: st) m Z) : WpM g d mi pc L (.int i :: .ref 1100 :: st) m Z :=
  wp_sld hd (ck_s h).1 hp (kk (ck_s h).2)
theorem wm_idiv {x y : Int32} {K : Option T} (hd : decode (miC mi) pc = .ok (.idiv, 1)) (hp : pc + 1 = pc') (h : dv y K = some t) (kk : K = some t → WpM g d mi pc' L (.int (x / y) :: st) m Z) : WpM g d mi pc L (.int y :: .int x :: st) m Z := wp_idiv hd (dv_s h).1 hp (kk (dv_s h).2)
theorem wm_irem {x y : Int32} {K : Option T} (hd : decode (miC mi) pc = .ok (.irem, 1)) (hp : pc + 1 = pc') (h : dv y K = some t) (kk : K = some t → WpM g d mi pc' L (.int (x - x / y * y) :: st) m Z) : WpM g d mi pc L (.int y :: .int x :: st) m Z := wp_irem hd (dv_s h).1 hp (kk (dv_s h).2)
/-- a name for the number on top; for a long -/
theorem wm_nm {x : Int32} {K : Int32 → Option T} (h : bnd x K = some t) (kk : ∀ y, K y = some t → WpM g d mi pc L (.int y :: st) m Z) : WpM g d mi pc L (.int x :: st) m Z := kk x h
theorem wm_nmL {x : Int64} {K : Int64 → Option T} (h : bnd x K = some t) (kk : ∀ y, K y = some t → WpM g d mi pc L (.long y :: st) m Z) : WpM g d mi pc L (.long x :: st) m Z := kk x h

theorem wm_if_eq {x : Int32} {off : Int} {A B : Option T} (tgt : Nat) (hd : decode (miC mi) pc = .ok (.ifCond .eq off, 3)) (ht : (pc : Int) + off = (tgt : Int)) (hp : pc + 3 = pc') (h : (if x = 0 then A else B) = some t) (kt : A = some t → WpM g d mi tgt L st m Z) (kf : B = some t → WpM g d mi pc' L st m Z) : WpM g d mi pc L (.int x :: st) m Z :=
  wp_if_eq tgt hd ht hp (fun c => kt ((if_pos c).symm.trans h)) (fun c => kf ((if_neg c).symm.trans h))
theorem wm_icmp_eq {x y : Int32} {off : Int} {A B : Option T} (tgt : Nat) (hd : decode (miC mi) pc = .ok (.if_icmp .eq off, 3)) (ht : (pc : Int) + off = (tgt : Int)) (hp : pc + 3 = pc') (h : (if x = y then A else B) = some t) (kt : A = some t → WpM g d mi tgt L st m Z) (kf : B = some t → WpM g d mi pc' L st m Z) : WpM g d mi pc L (.int y :: .int x :: st) m Z :=
  wp_icmp_eq tgt hd ht hp (fun c => kt ((if_pos c).symm.trans h)) (fun c => kf ((if_neg c).symm.trans h))
theorem wm_if_ne {x : Int32} {off : Int} {A B : Option T} (tgt : Nat) (hd : decode (miC mi) pc = .ok (.ifCond .ne off, 3)) (ht : (pc : Int) + off = (tgt : Int)) (hp : pc + 3 = pc') (h : (if ¬ x = 0 then A else B) = some t) (kt : A = some t → WpM g d mi tgt L st m Z) (kf : B = some t → WpM g d mi pc' L st m Z) : WpM g d mi pc L (.int x :: st) m Z :=
  wp_if_ne tgt hd ht hp (fun c => kt ((if_pos c).symm.trans h)) (fun c => kf ((if_neg c).symm.trans h))
theorem wm_icmp_ne {x y : Int32} {off : Int} {A B : Option T} (tgt : Nat) (hd : decode (miC mi) pc = .ok (.if_icmp .ne off, 3)) (ht : (pc : Int) + off = (tgt : Int)) (hp : pc + 3 = pc') (h : (if ¬ x = y then A else B) = some t) (kt : A = some t → WpM g d mi tgt L st m Z) (kf : B = some t → WpM g d mi pc' L st m Z) : WpM g d mi pc L (.int y :: .int x :: st) m Z :=
  wp_icmp_ne tgt hd ht hp (fun c => kt ((if_pos c).symm.trans h)) (fun c => kf ((if_neg c).symm.trans h))
theorem wm_if_lt {x : Int32} {off : Int} {A B : Option T} (tgt : Nat) (hd : decode (miC mi) pc = .ok (.ifCond .lt off, 3)) (ht : (pc : Int) + off = (tgt : Int)) (hp : pc + 3 = pc') (h : (if x < 0 then A else B) = some t) (kt : A = some t → WpM g d mi tgt L st m Z) (kf : B = some t → WpM g d mi pc' L st m Z) : WpM g d mi pc L (.int x :: st) m Z :=
  wp_if_lt tgt hd ht hp (fun c => kt ((if_pos c).symm.trans h)) (fun c => kf ((if_neg c).symm.trans h))
theorem wm_icmp_lt {x y : Int32} {off : Int} {A B : Option T} (tgt : Nat) (hd : decode (miC mi) pc = .ok (.if_icmp .lt off, 3)) (ht : (pc : Int) + off = (tgt : Int)) (hp : pc + 3 = pc') (h : (if x < y then A else B) = some t) (kt : A = some t → WpM g d mi tgt L st m Z) (kf : B = some t → WpM g d mi pc' L st m Z) : WpM g d mi pc L (.int y :: .int x :: st) m Z :=
  wp_icmp_lt tgt hd ht hp (fun c => kt ((if_pos c).symm.trans h)) (fun c => kf ((if_neg c).symm.trans h))
theorem wm_if_ge {x : Int32} {off : Int} {A B : Option T} (tgt : Nat) (hd : decode (miC mi) pc = .ok (.ifCond .ge off, 3)) (ht : (pc : Int) + off = (tgt : Int)) (hp : pc + 3 = pc') (h : (if 0 ≤ x then A else B) = some t) (kt : A = some t → WpM g d mi tgt L st m Z) (kf : B = some t → WpM g d mi pc' L st m Z) : WpM g d mi pc L (.int x :: st) m Z :=
  wp_if_ge tgt hd ht hp (fun c => kt ((if_pos c).symm.trans h)) (fun c => kf ((if_neg c).symm.trans h))
theorem wm_icmp_ge {x y : Int32} {off : Int} {A B : Option T} (tgt : Nat) (hd : decode (miC mi) pc = .ok (.if_icmp .ge off, 3)) (ht : (pc : Int) + off = (tgt : Int)) (hp : pc + 3 = pc') (h : (if y ≤ x then A else B) = some t) (kt : A = some t → WpM g d mi tgt L st m Z) (kf : B = some t → WpM g d mi pc' L st m Z) : WpM g d mi pc L (.int y :: .int x :: st) m Z :=
  wp_icmp_ge tgt hd ht hp (fun c => kt ((if_pos c).symm.trans h)) (fun c => kf ((if_neg c).symm.trans h))
theorem wm_if_gt {x : Int32} {off : Int} {A B : Option T} (tgt : Nat) (hd : decode (miC mi) pc = .ok (.ifCond .gt off, 3)) (ht : (pc : Int) + off = (tgt : Int)) (hp : pc + 3 = pc') (h : (if 0 < x then A else B) = some t) (kt : A = some t → WpM g d mi tgt L st m Z) (kf : B = some t → WpM g d mi pc' L st m Z) : WpM g d mi pc L (.int x :: st) m Z :=
  wp_if_gt tgt hd ht hp (fun c => kt ((if_pos c).symm.trans h)) (fun c => kf ((if_neg c).symm.trans h))
theorem wm_icmp_gt {x y : Int32} {off : Int} {A B : Option T} (tgt : Nat) (hd : decode (miC mi) pc = .ok (.if_icmp .gt off, 3)) (ht : (pc : Int) + off = (tgt : Int)) (hp : pc + 3 = pc') (h : (if y < x then A else B) = some t) (kt : A = some t → WpM g d mi tgt L st m Z) (kf : B = some t → WpM g d mi pc' L st m Z) : WpM g d mi pc L (.int y :: .int x :: st) m Z :=
  wp_icmp_gt tgt hd ht hp (fun c => kt ((if_pos c).symm.trans h)) (fun c => kf ((if_neg c).symm.trans h))
theorem wm_if_le {x : Int32} {off : Int} {A B : Option T} (tgt : Nat) (hd : decode (miC mi) pc = .ok (.ifCond .le off, 3)) (ht : (pc : Int) + off = (tgt : Int)) (hp : pc + 3 = pc') (h : (if x ≤ 0 then A else B) = some t) (kt : A = some t → WpM g d mi tgt L st m Z) (kf : B = some t → WpM g d mi pc' L st m Z) : WpM g d mi pc L (.int x :: st) m Z :=
  wp_if_le tgt hd ht hp (fun c => kt ((if_pos c).symm.trans h)) (fun c => kf ((if_neg c).symm.trans h))
theorem wm_icmp_le {x y : Int32} {off : Int} {A B : Option T} (tgt : Nat) (hd : decode (miC mi) pc = .ok (.if_icmp .le off, 3)) (ht : (pc : Int) + off = (tgt : Int)) (hp : pc + 3 = pc') (h : (if x ≤ y then A else B) = some t) (kt : A = some t → WpM g d mi tgt L st m Z) (kf : B = some t → WpM g d mi pc' L st m Z) : WpM g d mi pc L (.int y :: .int x :: st) m Z :=
  wp_icmp_le tgt hd ht hp (fun c => kt ((if_pos c).symm.trans h)) (fun c => kf ((if_neg c).symm.trans h))
def swG (t : T) (P : Nat → Prop) : List (Int32 × Nat) → List (Int32 × Option T) → Prop
  | q :: l, q' :: l' => (q'.2 = some t → P q.2) ∧ swG t P l l'
  | _, _ => True
/-- one switch: the case that x is, else the default -/
def swH (x : Int32) (P : Nat → Prop) (td : Nat) : List (Int32 × Nat) → Prop
  | [] => P td
  | q :: l => (x = q.1 → P q.2) ∧ (¬ x = q.1 → swH x P td l)
theorem swG_H {x : Int32} {P : Nat → Prop} {td : Nat} {D : Option T} (hD : D = some t → P td) : ∀ {cs : List (Int32 × Nat)} {cs' : List (Int32 × Option T)}, cs.map (·.1) = cs'.map (·.1) → sw x cs' D = some t → swG t P cs cs' → swH x P td cs
  | [], [], _, h, _ => hD h
  | [], q' :: l', he, _, _ => by cases he
  | q :: l, [], he, _, _ => by cases he
  | q :: l, q' :: l', he, h, hg => by
    have e1 : q.1 = q'.1 := (List.cons.inj he).1
    unfold sw at h
    refine ⟨fun c => ?_, fun c => ?_⟩
    · rw [if_pos (c.trans e1)] at h
      exact hg.1 h
    · rw [if_neg (fun z => c (z.trans e1.symm))] at h
      exact swG_H hD (List.cons.inj he).2 h hg.2
theorem swH_at {x : Int32} {P : Nat → Prop} {td : Nat} : ∀ {cs : List (Int32 × Nat)}, swH x P td cs → ∀ q ∈ cs, x = q.1 → ∃ q2 ∈ cs, x = q2.1 ∧ P q2.2
  | [], _, _, hq, _ => by cases hq
  | a :: l, h, q, hq, hx => by
    by_cases hc : x = a.1
    · exact ⟨a, List.mem_cons_self, hc, h.1 hc⟩
    · rcases List.mem_cons.mp hq with rfl | h1
      · exact absurd hx hc
      · obtain ⟨q2, a1, a2, a3⟩ := swH_at (h.2 hc) q h1 hx
        exact ⟨q2, List.mem_cons_of_mem _ a1, a2, a3⟩
theorem swH_no {x : Int32} {P : Nat → Prop} {td : Nat} : ∀ {cs : List (Int32 × Nat)}, swH x P td cs → (∀ q ∈ cs, ¬ x = q.1) → P td
  | [], h, _ => h
  | a :: l, h, hn => swH_no (h.2 (hn a List.mem_cons_self)) (fun q hq => hn q (List.mem_cons_of_mem _ hq))
theorem swH_K {x : Int32} {P : Nat → Prop} {td : Nat} {cs0 : List (Int32 × Nat)} (h0 : swH x P td cs0) (hf : ∀ q ∈ cs0, ∀ q2 ∈ cs0, q.1 = q2.1 → q.2 = q2.2) : ∀ {cs : List (Int32 × Nat)}, (∀ q ∈ cs, q ∈ cs0) → swK x cs P
  | [], _ => trivial
  | a :: l, hs => ⟨fun hx => by
      obtain ⟨q2, b1, b2, b3⟩ := swH_at h0 a (hs a List.mem_cons_self) hx
      rw [hf a (hs a List.mem_cons_self) q2 b1 (hx.symm.trans b2)]
      exact b3, swH_K h0 hf (fun q hq => hs q (List.mem_cons_of_mem _ hq))⟩
theorem swH_D {x : Int32} {P : Nat → Prop} {td : Nat} {cs0 : List (Int32 × Nat)} (h0 : swH x P td cs0) : ∀ {cs : List (Int32 × Nat)}, (∀ q ∈ cs0, x = q.1 → ∃ q2 ∈ cs, x = q2.1) → swD x cs (P td)
  | [], hs => swH_no h0 (fun q hq hx => by obtain ⟨q2, b, _⟩ := hs q hq hx; cases b)
  | a :: l, hs => fun hn => swH_D h0 (fun q hq hx => by
      obtain ⟨q2, b1, b2⟩ := hs q hq hx
      rcases List.mem_cons.mp b1 with rfl | b3
      · exact absurd b2 hn
      · exact ⟨q2, b3, b2⟩)
theorem wm_tsw {dflt lo hi : Int} {offs : Array Int} {len : Nat} {x : Int32} {cs' : List (Int32 × Option T)} {D : Option T} (cs : List (Int32 × Nat)) (td : Nat) (hd : decode (miC mi) pc = .ok (.tableswitch dflt lo hi offs, len)) (hdt : (pc : Int) + dflt = (td : Int)) (hlo : -2147483648 ≤ lo ∧ lo + offs.size = hi + 1 ∧ hi ≤ 2147483647)
    (hc : ∀ j : Nat, j < offs.size → ∃ q ∈ cs, q.1.toInt = lo + j ∧ (offs[j]?.map fun o => (pc : Int) + o) = some (q.2 : Int)) (ho : ∀ q ∈ cs, lo ≤ q.1.toInt ∧ q.1.toInt ≤ hi) (hf : ∀ q ∈ cs, ∀ q2 ∈ cs, q.1 = q2.1 → q.2 = q2.2)
    (h : sw x cs' D = some t) (he : cs.map (·.1) = cs'.map (·.1)) (kin : swG t (fun n => WpM g d mi n L st m Z) cs cs') (kout : D = some t → WpM g d mi td L st m Z) : WpM g d mi pc L (.int x :: st) m Z := by
  have hh := swG_H (P := fun n => WpM g d mi n L st m Z) (td := td) kout he h kin
  exact wp_tsw cs td hd hdt hlo hc ho (swH_K hh hf (fun _ hq => hq)) (swH_D hh (fun q hq hx => ⟨q, hq, hx⟩))
theorem wm_lsw {dflt : Int} {ps : Array (Int × Int)} {len : Nat} {x : Int32} {cs' : List (Int32 × Option T)} {D : Option T} (cs : List (Int32 × Nat)) (td : Nat) (hd : decode (miC mi) pc = .ok (.lookupswitch dflt ps, len)) (hp : (ps.toList.zip (ps.toList.drop 1)).all (fun (a, next) => a.1 < next.1) = true) (hdt : (pc : Int) + dflt = (td : Int))
    (hc : ∀ q ∈ cs, ((pc : Int) + Op.lookupswitch.offset ps.toList dflt q.1.toInt) = (q.2 : Int)) (ho : ∀ y : Int, (∀ q ∈ cs, ¬ y = q.1.toInt) → Op.lookupswitch.offset ps.toList dflt y = dflt) (hf : ∀ q ∈ cs, ∀ q2 ∈ cs, q.1 = q2.1 → q.2 = q2.2)
    (h : sw x cs' D = some t) (he : cs.map (·.1) = cs'.map (·.1)) (kin : swG t (fun n => WpM g d mi n L st m Z) cs cs') (kout : D = some t → WpM g d mi td L st m Z) : WpM g d mi pc L (.int x :: st) m Z := by
  have hh := swG_H (P := fun n => WpM g d mi n L st m Z) (td := td) kout he h kin
  exact wp_lsw cs td hd hp hdt hc ho (swH_K hh hf (fun _ hq => hq)) (swH_D hh (fun q hq hx => ⟨q, hq, hx⟩))
-- ends
theorem wm_iret {v : Int32} {t : Int32 × Mem} (hd : decode (miC mi) pc = .ok (.ireturn, 1)) (hr : miR mi = some .int) (hk : 0 = miK mi ∧ 0 = miM mi) (h : some (v, m) = some t) (hq : pI Q t) : WpM g d mi pc L [.int v] m (zM g mi Q) := by
  cases h
  exact wp_iret hd hr hk.1 (Nat.le_of_eq hk.2) hq
theorem wm_zret {v : Int32} {t : Int32 × Mem} (hd : decode (miC mi) pc = .ok (.ireturn, 1)) (hr : miR mi = some .boolean) (hk : 0 = miK mi ∧ 0 = miM mi) (h : bz v (some (v, m)) = some t) (hq : pI Q t) : WpM g d mi pc L [.int v] m (zM g mi Q) := by
  obtain ⟨h1, h2⟩ := bz_s h
  cases h2
  exact wp_zret hd hr h1 hk.1 (Nat.le_of_eq hk.2) hq
theorem wm_lret {v : Int64} {t : Int64 × Mem} (hd : decode (miC mi) pc = .ok (.lreturn, 1)) (hr : miR mi = some .long) (hk : 0 = miK mi ∧ 0 = miM mi) (h : some (v, m) = some t) (hq : pL Q t) : WpM g d mi pc L [.long v] m (zM g mi Q) := by
  cases h
  exact wp_lret hd hr hk.1 (Nat.le_of_eq hk.2) hq
theorem wm_vret {t : Mem} (hd : decode (miC mi) pc = .ok (.return_, 1)) (hr : miR mi = none) (hk : 0 = miK mi ∧ 0 = miM mi) (h : some m = some t) (hq : pV Q t) : WpM g d mi pc L [] m (zM g mi Q) := by
  cases h
  exact wp_vret hd hr hk.1 (Nat.le_of_eq hk.2) hq
theorem wm_aret {a : Nat} {t : Nat × Mem} {ty : FieldType} (hd : decode (miC mi) pc = .ok (.areturn, 1)) (hr : miR mi = some (.array ty)) (hk : 0 = miK mi ∧ 0 = miM mi) (h : some (a, m) = some t) (hq : pR Q t) : WpM g d mi pc L [.ref a] m (zM g mi Q) := by
  cases h
  exact wp_aret hd hr hk.1 (Nat.le_of_eq hk.2) hq
theorem wm_kret {a : Nat} {t : Mem} {ty : FieldType} (hd : decode (miC mi) pc = .ok (.areturn, 1)) (hr : miR mi = some (.array ty)) (hk : 0 = miK mi ∧ 0 = miM mi) (h : some m = some t) (hq : pK a Q t) : WpM g d mi pc L [.ref a] m (zM g mi Q) := by
  cases h
  exact wp_aret hd hr hk.1 (Nat.le_of_eq hk.2) hq
theorem wm_back {S T : Type} {A : S → Prop} {B : T → Prop} {s : S} {t : S ⊕ T} (h : some (Sum.inl s) = some t) (hP : pS A B t) : A s := by
  cases h
  exact hP
theorem wm_up {S T : Type} {A : S → Prop} {B : T → Prop} {C : Prop} {x : Option T} {t : S ⊕ T} (h : up x = some t) (hP : pS A B t) (k : ∀ r, x = some r → B r → C) : C := by
  obtain ⟨r, h1, h2⟩ := up_s h
  subst h2
  exact k r h1 hP

theorem wm_callVI {idx d' : Nat} {b cn n : Nat} {mi' : Mi} {As rest : List Value} {Fc : Option (Int32 × Mem)} {K : Int32 × Mem → Option T} (hd : decode (miC mi) pc = .ok (.invokevirtual idx, 3)) (ok : OkV (miY mi).cls idx mi' As.length) (hdd : d' + 1 ≤ d) (hst : st = As.reverse ++ .ref b :: rest) (hb : shF[b]? = some (cn + 3, n)) (hc : ∃ T, vwCl[cn]? = some ((miY mi').cls, T, n)) (hcat : (rest.map fun v => v.category).sum ≤ 8) (hk : miK mi' = 0 ∧ miM mi' = 0) (hp : pc + 3 = pc')
    (hM : ∀ t', Fc = some t' → MxM g d' mi' (.ref b :: As) m (qI t')) (h : Fc.bind K = some t) (kk : ∀ q, K q = some t → WpM g d mi pc' L (.int q.1 :: rest) q.2 Z) : WpM g d mi pc L st m Z := by
  obtain ⟨q, h1, h2⟩ := Option.bind_eq_some_iff.mp h
  subst hp
  refine wp_callV hd ok (hM q h1) hdd hst hb hc hcat (by rw [hk.1]; exact Nat.zero_le _) (by rw [hk.2]; exact Nat.zero_le _) (fun v sh' u' w' r' hq => ?_)
  obtain ⟨e1, e2, e3, e4, e5⟩ := hq
  subst e1; subst e2; subst e3; subst e4; subst e5
  rw [hk.1, hk.2]
  exact kk q h2
theorem wm_callVL {idx d' : Nat} {b cn n : Nat} {mi' : Mi} {As rest : List Value} {Fc : Option (Int64 × Mem)} {K : Int64 × Mem → Option T} (hd : decode (miC mi) pc = .ok (.invokevirtual idx, 3)) (ok : OkV (miY mi).cls idx mi' As.length) (hdd : d' + 1 ≤ d) (hst : st = As.reverse ++ .ref b :: rest) (hb : shF[b]? = some (cn + 3, n)) (hc : ∃ T, vwCl[cn]? = some ((miY mi').cls, T, n)) (hcat : (rest.map fun v => v.category).sum ≤ 8) (hk : miK mi' = 0 ∧ miM mi' = 0) (hp : pc + 3 = pc')
    (hM : ∀ t', Fc = some t' → MxM g d' mi' (.ref b :: As) m (qL t')) (h : Fc.bind K = some t) (kk : ∀ q, K q = some t → WpM g d mi pc' L (.long q.1 :: rest) q.2 Z) : WpM g d mi pc L st m Z := by
  obtain ⟨q, h1, h2⟩ := Option.bind_eq_some_iff.mp h
  subst hp
  refine wp_callV hd ok (hM q h1) hdd hst hb hc hcat (by rw [hk.1]; exact Nat.zero_le _) (by rw [hk.2]; exact Nat.zero_le _) (fun v sh' u' w' r' hq => ?_)
  obtain ⟨e1, e2, e3, e4, e5⟩ := hq
  subst e1; subst e2; subst e3; subst e4; subst e5
  rw [hk.1, hk.2]
  exact kk q h2
theorem wm_callVR {idx d' : Nat} {b cn n : Nat} {mi' : Mi} {As rest : List Value} {Fc : Option (Nat × Mem)} {K : Nat × Mem → Option T} (hd : decode (miC mi) pc = .ok (.invokevirtual idx, 3)) (ok : OkV (miY mi).cls idx mi' As.length) (hdd : d' + 1 ≤ d) (hst : st = As.reverse ++ .ref b :: rest) (hb : shF[b]? = some (cn + 3, n)) (hc : ∃ T, vwCl[cn]? = some ((miY mi').cls, T, n)) (hcat : (rest.map fun v => v.category).sum ≤ 8) (hk : miK mi' = 0 ∧ miM mi' = 0) (hp : pc + 3 = pc')
    (hM : ∀ t', Fc = some t' → MxM g d' mi' (.ref b :: As) m (qR t')) (h : Fc.bind K = some t) (kk : ∀ q, K q = some t → WpM g d mi pc' L (.ref q.1 :: rest) q.2 Z) : WpM g d mi pc L st m Z := by
  obtain ⟨q, h1, h2⟩ := Option.bind_eq_some_iff.mp h
  subst hp
  refine wp_callV hd ok (hM q h1) hdd hst hb hc hcat (by rw [hk.1]; exact Nat.zero_le _) (by rw [hk.2]; exact Nat.zero_le _) (fun v sh' u' w' r' hq => ?_)
  obtain ⟨e1, e2, e3, e4, e5⟩ := hq
  subst e1; subst e2; subst e3; subst e4; subst e5
  rw [hk.1, hk.2]
  exact kk q h2
theorem wm_callVN {idx d' : Nat} {b cn n : Nat} {mi' : Mi} {As rest : List Value} {Fc : Option (Mem)} {K : Mem → Option T} (hd : decode (miC mi) pc = .ok (.invokevirtual idx, 3)) (ok : OkV (miY mi).cls idx mi' As.length) (hdd : d' + 1 ≤ d) (hst : st = As.reverse ++ .ref b :: rest) (hb : shF[b]? = some (cn + 3, n)) (hc : ∃ T, vwCl[cn]? = some ((miY mi').cls, T, n)) (hcat : (rest.map fun v => v.category).sum ≤ 8) (hk : miK mi' = 0 ∧ miM mi' = 0) (hp : pc + 3 = pc')
    (hM : ∀ t', Fc = some t' → MxM g d' mi' (.ref b :: As) m (qV t')) (h : Fc.bind K = some t) (kk : ∀ q, K q = some t → WpM g d mi pc' L (rest) q Z) : WpM g d mi pc L st m Z := by
  obtain ⟨q, h1, h2⟩ := Option.bind_eq_some_iff.mp h
  subst hp
  refine wp_callV hd ok (hM q h1) hdd hst hb hc hcat (by rw [hk.1]; exact Nat.zero_le _) (by rw [hk.2]; exact Nat.zero_le _) (fun v sh' u' w' r' hq => ?_)
  obtain ⟨e1, e2, e3, e4, e5⟩ := hq
  subst e1; subst e2; subst e3; subst e4; subst e5
  rw [hk.1, hk.2]
  exact kk q h2
theorem wm_callVK {idx d' : Nat} {b cn n : Nat} {ka : Nat} {mi' : Mi} {As rest : List Value} {Fc : Option (Mem)} {K : Mem → Option T} (hd : decode (miC mi) pc = .ok (.invokevirtual idx, 3)) (ok : OkV (miY mi).cls idx mi' As.length) (hdd : d' + 1 ≤ d) (hst : st = As.reverse ++ .ref b :: rest) (hb : shF[b]? = some (cn + 3, n)) (hc : ∃ T, vwCl[cn]? = some ((miY mi').cls, T, n)) (hcat : (rest.map fun v => v.category).sum ≤ 8) (hk : miK mi' = 0 ∧ miM mi' = 0) (hp : pc + 3 = pc')
    (hM : ∀ t', Fc = some t' → MxM g d' mi' (.ref b :: As) m (qK ka t')) (h : Fc.bind K = some t) (kk : ∀ q, K q = some t → WpM g d mi pc' L (.ref ka :: rest) q Z) : WpM g d mi pc L st m Z := by
  obtain ⟨q, h1, h2⟩ := Option.bind_eq_some_iff.mp h
  subst hp
  refine wp_callV hd ok (hM q h1) hdd hst hb hc hcat (by rw [hk.1]; exact Nat.zero_le _) (by rw [hk.2]; exact Nat.zero_le _) (fun v sh' u' w' r' hq => ?_)
  obtain ⟨e1, e2, e3, e4, e5⟩ := hq
  subst e1; subst e2; subst e3; subst e4; subst e5
  rw [hk.1, hk.2]
  exact kk q h2
theorem wm_callSI {idx d' : Nat} {mi' : Mi} {As rest : List Value} {Fc : Option (Int32 × Mem)} {K : Int32 × Mem → Option T} (hd : decode (miC mi) pc = .ok (.invokestatic idx, 3)) (ok : OkS (miY mi).cls idx mi' As.length) (hdd : d' + 1 ≤ d) (hst : st = As.reverse ++ rest) (hcat : (rest.map fun v => v.category).sum ≤ 8) (hk : miK mi' = 0 ∧ miM mi' = 0) (hp : pc + 3 = pc')
    (hM : ∀ t', Fc = some t' → MxM g d' mi' As m (qI t')) (h : Fc.bind K = some t) (kk : ∀ q, K q = some t → WpM g d mi pc' L (.int q.1 :: rest) q.2 Z) : WpM g d mi pc L st m Z := by
  obtain ⟨q, h1, h2⟩ := Option.bind_eq_some_iff.mp h
  subst hp
  refine wp_callS hd ok (hM q h1) hdd hst hcat (by rw [hk.1]; exact Nat.zero_le _) (by rw [hk.2]; exact Nat.zero_le _) (fun v sh' u' w' r' hq => ?_)
  obtain ⟨e1, e2, e3, e4, e5⟩ := hq
  subst e1; subst e2; subst e3; subst e4; subst e5
  rw [hk.1, hk.2]
  exact kk q h2
theorem wm_callSL {idx d' : Nat} {mi' : Mi} {As rest : List Value} {Fc : Option (Int64 × Mem)} {K : Int64 × Mem → Option T} (hd : decode (miC mi) pc = .ok (.invokestatic idx, 3)) (ok : OkS (miY mi).cls idx mi' As.length) (hdd : d' + 1 ≤ d) (hst : st = As.reverse ++ rest) (hcat : (rest.map fun v => v.category).sum ≤ 8) (hk : miK mi' = 0 ∧ miM mi' = 0) (hp : pc + 3 = pc')
    (hM : ∀ t', Fc = some t' → MxM g d' mi' As m (qL t')) (h : Fc.bind K = some t) (kk : ∀ q, K q = some t → WpM g d mi pc' L (.long q.1 :: rest) q.2 Z) : WpM g d mi pc L st m Z := by
  obtain ⟨q, h1, h2⟩ := Option.bind_eq_some_iff.mp h
  subst hp
  refine wp_callS hd ok (hM q h1) hdd hst hcat (by rw [hk.1]; exact Nat.zero_le _) (by rw [hk.2]; exact Nat.zero_le _) (fun v sh' u' w' r' hq => ?_)
  obtain ⟨e1, e2, e3, e4, e5⟩ := hq
  subst e1; subst e2; subst e3; subst e4; subst e5
  rw [hk.1, hk.2]
  exact kk q h2
theorem wm_callSR {idx d' : Nat} {mi' : Mi} {As rest : List Value} {Fc : Option (Nat × Mem)} {K : Nat × Mem → Option T} (hd : decode (miC mi) pc = .ok (.invokestatic idx, 3)) (ok : OkS (miY mi).cls idx mi' As.length) (hdd : d' + 1 ≤ d) (hst : st = As.reverse ++ rest) (hcat : (rest.map fun v => v.category).sum ≤ 8) (hk : miK mi' = 0 ∧ miM mi' = 0) (hp : pc + 3 = pc')
    (hM : ∀ t', Fc = some t' → MxM g d' mi' As m (qR t')) (h : Fc.bind K = some t) (kk : ∀ q, K q = some t → WpM g d mi pc' L (.ref q.1 :: rest) q.2 Z) : WpM g d mi pc L st m Z := by
  obtain ⟨q, h1, h2⟩ := Option.bind_eq_some_iff.mp h
  subst hp
  refine wp_callS hd ok (hM q h1) hdd hst hcat (by rw [hk.1]; exact Nat.zero_le _) (by rw [hk.2]; exact Nat.zero_le _) (fun v sh' u' w' r' hq => ?_)
  obtain ⟨e1, e2, e3, e4, e5⟩ := hq
  subst e1; subst e2; subst e3; subst e4; subst e5
  rw [hk.1, hk.2]
  exact kk q h2
theorem wm_callSN {idx d' : Nat} {mi' : Mi} {As rest : List Value} {Fc : Option (Mem)} {K : Mem → Option T} (hd : decode (miC mi) pc = .ok (.invokestatic idx, 3)) (ok : OkS (miY mi).cls idx mi' As.length) (hdd : d' + 1 ≤ d) (hst : st = As.reverse ++ rest) (hcat : (rest.map fun v => v.category).sum ≤ 8) (hk : miK mi' = 0 ∧ miM mi' = 0) (hp : pc + 3 = pc')
    (hM : ∀ t', Fc = some t' → MxM g d' mi' As m (qV t')) (h : Fc.bind K = some t) (kk : ∀ q, K q = some t → WpM g d mi pc' L (rest) q Z) : WpM g d mi pc L st m Z := by
  obtain ⟨q, h1, h2⟩ := Option.bind_eq_some_iff.mp h
  subst hp
  refine wp_callS hd ok (hM q h1) hdd hst hcat (by rw [hk.1]; exact Nat.zero_le _) (by rw [hk.2]; exact Nat.zero_le _) (fun v sh' u' w' r' hq => ?_)
  obtain ⟨e1, e2, e3, e4, e5⟩ := hq
  subst e1; subst e2; subst e3; subst e4; subst e5
  rw [hk.1, hk.2]
  exact kk q h2
theorem wm_callSK {idx d' : Nat} {ka : Nat} {mi' : Mi} {As rest : List Value} {Fc : Option (Mem)} {K : Mem → Option T} (hd : decode (miC mi) pc = .ok (.invokestatic idx, 3)) (ok : OkS (miY mi).cls idx mi' As.length) (hdd : d' + 1 ≤ d) (hst : st = As.reverse ++ rest) (hcat : (rest.map fun v => v.category).sum ≤ 8) (hk : miK mi' = 0 ∧ miM mi' = 0) (hp : pc + 3 = pc')
    (hM : ∀ t', Fc = some t' → MxM g d' mi' As m (qK ka t')) (h : Fc.bind K = some t) (kk : ∀ q, K q = some t → WpM g d mi pc' L (.ref ka :: rest) q Z) : WpM g d mi pc L st m Z := by
  obtain ⟨q, h1, h2⟩ := Option.bind_eq_some_iff.mp h
  subst hp
  refine wp_callS hd ok (hM q h1) hdd hst hcat (by rw [hk.1]; exact Nat.zero_le _) (by rw [hk.2]; exact Nat.zero_le _) (fun v sh' u' w' r' hq => ?_)
  obtain ⟨e1, e2, e3, e4, e5⟩ := hq
  subst e1; subst e2; subst e3; subst e4; subst e5
  rw [hk.1, hk.2]
  exact kk q h2
end
