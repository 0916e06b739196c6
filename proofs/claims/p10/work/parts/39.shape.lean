/-! THE SHAPE of the cells behind both constructors; the places of the methods; further rows of walks. -/
def am_Sh0 : List sg_Sh := [.inr (10, [.ref 1, .ref 2, .ref 19, .ref 28, .ref 35, .ref 38, .ref 45, .ref 61, .int 0, .int 0, .int 0, .int 0, .int 0]), .inl (1, 1200), .inr (9, [.ref 3, .ref 4, .ref 5, .ref 6, .ref 7, .ref 8, .ref 9, .ref 10, .ref 11, .ref 12, .ref 13, .ref 14, .ref 15, .ref 16, .ref 17, .ref 18, .int 0]), .inl (0, 200), .inl (0, 200), .inl (0, 200), .inl (0, 200), .inl (0, 200), .inl (0, 200), .inl (0, 200), .inl (0, 200), .inl (0, 200), .inl (0, 200), .inl (0, 200), .inl (0, 200), .inl (0, 200), .inl (0, 200), .inl (2, 200), .inl (2, 200), .inr (1, [.ref 20, .ref 21, .ref 22, .ref 23, .ref 24, .ref 25, .ref 26, .ref 27, .int 0]), .inl (2, 12), .inl (0, 12), .inl (0, 12), .inl (0, 12), .inl (0, 12), .inl (2, 72), .inl (0, 72), .inl (0, 72), .inr (7, [.ref 29, .ref 30, .ref 31, .ref 32, .ref 33, .ref 34, .int 0]), .inl (0, 1013), .inl (0, 1013), .inl (0, 13), .inl (0, 200), .inl (0, 200), .inl (0, 272), .inr (6, [.ref 36, .ref 2, .ref 19, .int 0, .int 0]), .inr (8, [.ref 1, .ref 37, .int 0, .int 0, .int 0, .int 0, .int 0, .long 0]), .inl (2, 18), .inr (0, [.ref 2, .ref 19, .ref 28, .ref 39, .ref 40, .ref 41, .ref 42, .ref 43, .ref 44, .int 0, .int 0, .int 0, .int 0, .int 0]), .inl (2, 272), .inl (0, 272), .inl (0, 200), .inl (0, 200), .inl (0, 200), .inl (0, 200), .inr (5, [.ref 2, .ref 19, .ref 28, .ref 49, .ref 46, .ref 48, .ref 47, .int 0, .int 0, .int 0, .int 0, .int 0, .ref 53, .ref 54, .ref 55, .ref 56, .ref 57, .ref 58, .ref 59, .ref 60, .int 0, .int 0, .int 0, .int 0]), .inl (0, 272), .inl (0, 13), .inl (0, 3200), .inr (3, [.ref 50, .ref 52, .int 0, .int 0, .ref 51, .int 0]), .inl (0, 10), .inl (1, 2000), .inl (0, 3001), .inl (0, 9003), .inl (0, 200), .inl (0, 200), .inl (0, 200), .inl (0, 200), .inl (0, 200), .inl (0, 200), .inl (0, 200), .inr (2, [.ref 2, .ref 19, .ref 28, .ref 65, .ref 62, .ref 64, .ref 63, .int 0, .int 0, .int 0, .int 0, .int 0, .ref 69, .ref 70, .ref 71, .ref 72, .ref 73, .ref 74, .ref 75, .ref 76, .ref 77, .int 0, .int 0, .int 0, .int 0]), .inl (0, 272), .inl (0, 13), .inl (0, 400), .inr (3, [.ref 66, .ref 68, .int 0, .int 0, .ref 67, .int 0]), .inl (0, 10), .inl (1, 2000), .inl (0, 6001), .inl (0, 200), .inl (0, 200), .inl (0, 200), .inl (0, 2400), .inl (0, 2400), .inl (0, 200), .inl (0, 200), .inl (0, 200), .inr (4, [.ref 78, .ref 79, .ref 80, .ref 81, .ref 82, .ref 83, .ref 84, .ref 85, .ref 86, .ref 87, .int 0, .int 0, .int 0, .int 0, .int 0, .int 0, .int 0, .int 0, .int 0]), .inl (0, 6000), .inl (0, 6000), .inl (0, 8000), .inl (0, 8000), .inl (0, 8000), .inl (0, 6000), .inl (0, 6000), .inl (0, 6000), .inl (0, 6000), .inl (0, 6000), .inr (11, [.int 0, .ref 89, .int 0, .int 0, .ref 90, .ref 91, .ref 92, .int 0, .int 0, .ref 93, .ref 94, .ref 95, .ref 96, .ref 97, .ref 98, .ref 99, .ref 100, .ref 101, .ref 102, .int 0, .ref 103, .ref 104, .ref 105, .ref 106, .ref 107, .ref 108, .ref 109, .int 0, .int 0, .int 0, .int 0, .int 0, .ref 110, .ref 111, .int 0, .ref 112, .int 0, .int 0, .ref 113, .ref 114, .ref 115, .ref 116, .int 0, .ref 117, .ref 118, .int 0, .int 0, .ref 119, .ref 120, .int 0, .ref 121, .int 0, .int 0, .int 0, .int 0, .int 0, .int 0, .ref 122, .ref 123, .ref 124, .int 0, .ref 125, .int 0, .ref 126, .ref 127, .ref 128, .ref 129, .ref 130, .ref 131, .ref 132, .int 0, .ref 133, .ref 134, .int 0, .ref 135, .ref 136, .int 0, .int 0, .int 0, .ref 137, .ref 138, .int 0, .int 0, .int 0, .int 0, .int 0, .int 0, .int 0, .ref 139, .ref 140, .ref 141, .int 0, .ref 142, .int 0, .ref 143, .ref 144, .ref 145, .ref 146, .ref 147, .int 0, .ref 148, .ref 149, .int 0, .int 0, .ref 150, .ref 151]), .inl (0, 1200), .inl (0, 1210), .inl (0, 1210), .inl (2, 1210), .inl (0, 210), .inl (0, 210), .inl (2, 210), .inl (0, 210), .inl (0, 42000), .inl (0, 210), .inl (2, 840), .inl (0, 840), .inl (0, 210), .inl (0, 210), .inl (2, 12), .inl (0, 12), .inl (0, 12), .inl (0, 12), .inl (2, 72), .inl (0, 72), .inl (0, 72), .inl (0, 4000), .inl (0, 4000), .inl (0, 400), .inl (2, 300), .inl (0, 300), .inl (0, 300), .inl (0, 1200), .inl (0, 420), .inl (0, 420), .inl (0, 300), .inl (3, 210), .inl (0, 420), .inl (0, 9000), .inl (0, 9000), .inl (2, 9000), .inl (0, 12000), .inl (0, 4000), .inl (0, 4000), .inl (0, 4000), .inl (0, 4000), .inl (0, 4000), .inl (0, 4000), .inl (0, 4000), .inl (0, 12000), .inl (0, 1200), .inl (0, 210), .inl (0, 160000), .inl (0, 4), .inl (0, 4), .inl (0, 30000), .inl (0, 120000), .inl (0, 120000), .inl (0, 60000), .inl (0, 13000), .inl (0, 52000), .inl (0, 4000), .inl (0, 4000), .inl (0, 4000), .inl (0, 12000), .inl (0, 12000), .inl (0, 13000), .inl (0, 5)]
set_option maxRecDepth 4000 in
theorem tt_0 : am_T0[0]? = some tm_0 := rfl
set_option maxRecDepth 4000 in
theorem tt_1 : am_T0[1]? = some tm_1 := rfl
set_option maxRecDepth 4000 in
theorem tt_2 : am_T0[2]? = some tm_2 := rfl
set_option maxRecDepth 4000 in
theorem tt_3 : am_T0[3]? = some tm_3 := rfl
set_option maxRecDepth 4000 in
theorem tt_4 : am_T0[4]? = some tm_4 := rfl
set_option maxRecDepth 4000 in
theorem tt_5 : am_T0[5]? = some tm_5 := rfl
set_option maxRecDepth 4000 in
theorem tt_6 : am_T0[6]? = some tm_6 := rfl
set_option maxRecDepth 4000 in
theorem tt_7 : am_T0[7]? = some tm_7 := rfl
set_option maxRecDepth 4000 in
theorem tt_8 : am_T0[8]? = some tm_8 := rfl
set_option maxRecDepth 4000 in
theorem tt_9 : am_T0[9]? = some tm_9 := rfl
set_option maxRecDepth 4000 in
theorem tt_10 : am_T0[10]? = some tm_10 := rfl
set_option maxRecDepth 4000 in
theorem tt_11 : am_T0[11]? = some tm_11 := rfl
set_option maxRecDepth 4000 in
theorem tt_12 : am_T0[12]? = some tm_12 := rfl
set_option maxRecDepth 4000 in
theorem tt_13 : am_T0[13]? = some tm_13 := rfl
set_option maxRecDepth 4000 in
theorem tt_14 : am_T0[14]? = some tm_14 := rfl
set_option maxRecDepth 4000 in
theorem tt_15 : am_T0[15]? = some tm_15 := rfl
set_option maxRecDepth 4000 in
theorem tt_16 : am_T0[16]? = some tm_16 := rfl
set_option maxRecDepth 4000 in
theorem tt_17 : am_T0[17]? = some tm_17 := rfl
set_option maxRecDepth 4000 in
theorem tt_18 : am_T0[18]? = some tm_18 := rfl
set_option maxRecDepth 4000 in
theorem tt_19 : am_T0[19]? = some tm_19 := rfl
set_option maxRecDepth 4000 in
theorem tt_20 : am_T0[20]? = some tm_20 := rfl
set_option maxRecDepth 4000 in
theorem tt_21 : am_T0[21]? = some tm_21 := rfl
set_option maxRecDepth 4000 in
theorem tt_22 : am_T0[22]? = some tm_22 := rfl
set_option maxRecDepth 4000 in
theorem tt_23 : am_T0[23]? = some tm_23 := rfl
set_option maxRecDepth 4000 in
theorem tt_24 : am_T0[24]? = some tm_24 := rfl
set_option maxRecDepth 4000 in
theorem tt_25 : am_T0[25]? = some tm_25 := rfl
set_option maxRecDepth 4000 in
theorem tt_26 : am_T0[26]? = some tm_26 := rfl
set_option maxRecDepth 4000 in
theorem tt_27 : am_T0[27]? = some tm_27 := rfl
set_option maxRecDepth 4000 in
theorem tt_28 : am_T0[28]? = some tm_28 := rfl
set_option maxRecDepth 4000 in
theorem tt_29 : am_T0[29]? = some tm_29 := rfl
set_option maxRecDepth 4000 in
theorem tt_30 : am_T0[30]? = some tm_30 := rfl
set_option maxRecDepth 4000 in
theorem tt_31 : am_T0[31]? = some tm_31 := rfl
set_option maxRecDepth 4000 in
theorem tt_32 : am_T0[32]? = some tm_32 := rfl
set_option maxRecDepth 4000 in
theorem tt_33 : am_T0[33]? = some tm_33 := rfl
set_option maxRecDepth 4000 in
theorem tt_34 : am_T0[34]? = some tm_34 := rfl
set_option maxRecDepth 4000 in
theorem tt_35 : am_T0[35]? = some tm_35 := rfl
set_option maxRecDepth 4000 in
theorem tt_36 : am_T0[36]? = some tm_36 := rfl
set_option maxRecDepth 4000 in
theorem tt_37 : am_T0[37]? = some tm_37 := rfl
set_option maxRecDepth 4000 in
theorem tt_38 : am_T0[38]? = some tm_38 := rfl
set_option maxRecDepth 4000 in
theorem tt_39 : am_T0[39]? = some tm_39 := rfl
set_option maxRecDepth 4000 in
theorem tt_40 : am_T0[40]? = some tm_40 := rfl
set_option maxRecDepth 4000 in
theorem tt_41 : am_T0[41]? = some tm_41 := rfl
set_option maxRecDepth 4000 in
theorem tt_42 : am_T0[42]? = some tm_42 := rfl
set_option maxRecDepth 4000 in
theorem tt_43 : am_T0[43]? = some tm_43 := rfl
set_option maxRecDepth 4000 in
theorem tt_44 : am_T0[44]? = some tm_44 := rfl
set_option maxRecDepth 4000 in
theorem tt_45 : am_T0[45]? = some tm_45 := rfl
set_option maxRecDepth 4000 in
theorem tt_46 : am_T0[46]? = some tm_46 := rfl
set_option maxRecDepth 4000 in
theorem tt_47 : am_T0[47]? = some tm_47 := rfl
set_option maxRecDepth 4000 in
theorem tt_48 : am_T0[48]? = some tm_48 := rfl
set_option maxRecDepth 4000 in
theorem tt_49 : am_T0[49]? = some tm_49 := rfl
set_option maxRecDepth 4000 in
theorem tt_50 : am_T0[50]? = some tm_50 := rfl
set_option maxRecDepth 4000 in
theorem tt_51 : am_T0[51]? = some tm_51 := rfl
set_option maxRecDepth 4000 in
theorem tt_52 : am_T0[52]? = some tm_52 := rfl
set_option maxRecDepth 4000 in
theorem tt_53 : am_T0[53]? = some tm_53 := rfl
set_option maxRecDepth 4000 in
theorem tt_54 : am_T0[54]? = some tm_54 := rfl
set_option maxRecDepth 4000 in
theorem tt_55 : am_T0[55]? = some tm_55 := rfl
set_option maxRecDepth 4000 in
theorem tt_56 : am_T0[56]? = some tm_56 := rfl
set_option maxRecDepth 4000 in
theorem tt_57 : am_T0[57]? = some tm_57 := rfl
set_option maxRecDepth 4000 in
theorem tt_58 : am_T0[58]? = some tm_58 := rfl
set_option maxRecDepth 4000 in
theorem tt_59 : am_T0[59]? = some tm_59 := rfl
set_option maxRecDepth 4000 in
theorem tt_60 : am_T0[60]? = some tm_60 := rfl
set_option maxRecDepth 4000 in
theorem tt_61 : am_T0[61]? = some tm_61 := rfl
set_option maxRecDepth 4000 in
theorem tt_62 : am_T0[62]? = some tm_62 := rfl
set_option maxRecDepth 4000 in
theorem tt_63 : am_T0[63]? = some tm_63 := rfl
set_option maxRecDepth 4000 in
theorem tt_64 : am_T0[64]? = some tm_64 := rfl
set_option maxRecDepth 4000 in
theorem tt_65 : am_T0[65]? = some tm_65 := rfl
set_option maxRecDepth 4000 in
theorem tt_66 : am_T0[66]? = some tm_66 := rfl
set_option maxRecDepth 4000 in
theorem tt_67 : am_T0[67]? = some tm_67 := rfl
set_option maxRecDepth 4000 in
theorem tt_68 : am_T0[68]? = some tm_68 := rfl
set_option maxRecDepth 4000 in
theorem tt_69 : am_T0[69]? = some tm_69 := rfl
set_option maxRecDepth 4000 in
theorem tt_70 : am_T0[70]? = some tm_70 := rfl
set_option maxRecDepth 4000 in
theorem tt_71 : am_T0[71]? = some tm_71 := rfl
set_option maxRecDepth 4000 in
theorem tt_72 : am_T0[72]? = some tm_72 := rfl
set_option maxRecDepth 4000 in
theorem tt_73 : am_T0[73]? = some tm_73 := rfl
set_option maxRecDepth 4000 in
theorem tt_74 : am_T0[74]? = some tm_74 := rfl
set_option maxRecDepth 4000 in
theorem tt_75 : am_T0[75]? = some tm_75 := rfl
set_option maxRecDepth 4000 in
theorem tt_76 : am_T0[76]? = some tm_76 := rfl
set_option maxRecDepth 4000 in
theorem tt_77 : am_T0[77]? = some tm_77 := rfl
set_option maxRecDepth 4000 in
theorem tt_78 : am_T0[78]? = some tm_78 := rfl
set_option maxRecDepth 4000 in
theorem tt_79 : am_T0[79]? = some tm_79 := rfl
set_option maxRecDepth 4000 in
theorem tt_80 : am_T0[80]? = some tm_80 := rfl
set_option maxRecDepth 4000 in
theorem tt_81 : am_T0[81]? = some tm_81 := rfl
set_option maxRecDepth 4000 in
theorem tt_82 : am_T0[82]? = some tm_82 := rfl
set_option maxRecDepth 4000 in
theorem tt_83 : am_T0[83]? = some tm_83 := rfl
set_option maxRecDepth 4000 in
theorem tt_84 : am_T0[84]? = some tm_84 := rfl
set_option maxRecDepth 4000 in
theorem tt_85 : am_T0[85]? = some tm_85 := rfl
set_option maxRecDepth 4000 in
theorem tt_86 : am_T0[86]? = some tm_86 := rfl
set_option maxRecDepth 4000 in
theorem tt_87 : am_T0[87]? = some tm_87 := rfl
set_option maxRecDepth 4000 in
theorem tt_88 : am_T0[88]? = some tm_88 := rfl
set_option maxRecDepth 4000 in
theorem tt_89 : am_T0[89]? = some tm_89 := rfl
set_option maxRecDepth 4000 in
theorem tt_90 : am_T0[90]? = some tm_90 := rfl
set_option maxRecDepth 4000 in
theorem tt_91 : am_T0[91]? = some tm_91 := rfl
set_option maxRecDepth 4000 in
theorem tt_92 : am_T0[92]? = some tm_92 := rfl
set_option maxRecDepth 4000 in
theorem tt_93 : am_T0[93]? = some tm_93 := rfl
set_option maxRecDepth 4000 in
theorem tt_94 : am_T0[94]? = some tm_94 := rfl
set_option maxRecDepth 4000 in
theorem tt_95 : am_T0[95]? = some tm_95 := rfl
set_option maxRecDepth 4000 in
theorem tt_96 : am_T0[96]? = some tm_96 := rfl
set_option maxRecDepth 4000 in
theorem tt_97 : am_T0[97]? = some tm_97 := rfl
set_option maxRecDepth 4000 in
theorem tt_98 : am_T0[98]? = some tm_98 := rfl
set_option maxRecDepth 4000 in
theorem tt_99 : am_T0[99]? = some tm_99 := rfl
set_option maxRecDepth 4000 in
theorem tt_100 : am_T0[100]? = some tm_100 := rfl
set_option maxRecDepth 4000 in
theorem tt_101 : am_T0[101]? = some tm_101 := rfl
set_option maxRecDepth 4000 in
theorem tt_102 : am_T0[102]? = some tm_102 := rfl
set_option maxRecDepth 4000 in
theorem tt_103 : am_T0[103]? = some tm_103 := rfl
set_option maxRecDepth 4000 in
theorem tt_104 : am_T0[104]? = some tm_104 := rfl
set_option maxRecDepth 4000 in
theorem tt_105 : am_T0[105]? = some tm_105 := rfl
set_option maxRecDepth 4000 in
theorem tt_106 : am_T0[106]? = some tm_106 := rfl
set_option maxRecDepth 4000 in
theorem tt_107 : am_T0[107]? = some tm_107 := rfl
set_option maxRecDepth 4000 in
theorem tt_108 : am_T0[108]? = some tm_108 := rfl
set_option maxRecDepth 4000 in
theorem tt_109 : am_T0[109]? = some tm_109 := rfl
set_option maxRecDepth 4000 in
theorem tt_110 : am_T0[110]? = some tm_110 := rfl
set_option maxRecDepth 4000 in
theorem tt_111 : am_T0[111]? = some tm_111 := rfl
set_option maxRecDepth 4000 in
theorem tt_112 : am_T0[112]? = some tm_112 := rfl
set_option maxRecDepth 4000 in
theorem tt_113 : am_T0[113]? = some tm_113 := rfl
set_option maxRecDepth 4000 in
theorem tt_114 : am_T0[114]? = some tm_114 := rfl
set_option maxRecDepth 4000 in
theorem tt_115 : am_T0[115]? = some tm_115 := rfl
set_option maxRecDepth 4000 in
theorem tt_116 : am_T0[116]? = some tm_116 := rfl
set_option maxRecDepth 4000 in
theorem tt_117 : am_T0[117]? = some tm_117 := rfl
set_option maxRecDepth 4000 in
theorem tt_118 : am_T0[118]? = some tm_118 := rfl
set_option maxRecDepth 4000 in
theorem tt_119 : am_T0[119]? = some tm_119 := rfl
set_option maxRecDepth 4000 in
theorem tt_120 : am_T0[120]? = some tm_120 := rfl
set_option maxRecDepth 4000 in
theorem tt_121 : am_T0[121]? = some tm_121 := rfl
set_option maxRecDepth 4000 in
theorem tt_122 : am_T0[122]? = some tm_122 := rfl
set_option maxRecDepth 4000 in
theorem tt_123 : am_T0[123]? = some tm_123 := rfl
set_option maxRecDepth 4000 in
theorem tt_124 : am_T0[124]? = some tm_124 := rfl
set_option maxRecDepth 4000 in
theorem tt_125 : am_T0[125]? = some tm_125 := rfl
set_option maxRecDepth 4000 in
theorem tt_126 : am_T0[126]? = some tm_126 := rfl
set_option maxRecDepth 4000 in
theorem tt_127 : am_T0[127]? = some tm_127 := rfl
set_option maxRecDepth 4000 in
theorem tt_128 : am_T0[128]? = some tm_128 := rfl
set_option maxRecDepth 4000 in
theorem tt_129 : am_T0[129]? = some tm_129 := rfl
set_option maxRecDepth 4000 in
theorem tt_130 : am_T0[130]? = some tm_130 := rfl
set_option maxRecDepth 4000 in
theorem tt_131 : am_T0[131]? = some tm_131 := rfl
set_option maxRecDepth 4000 in
theorem tt_132 : am_T0[132]? = some tm_132 := rfl
set_option maxRecDepth 4000 in
theorem tt_133 : am_T0[133]? = some tm_133 := rfl
set_option maxRecDepth 4000 in
theorem tt_134 : am_T0[134]? = some tm_134 := rfl
set_option maxRecDepth 4000 in
theorem tt_135 : am_T0[135]? = some tm_135 := rfl
set_option maxRecDepth 4000 in
theorem tt_136 : am_T0[136]? = some tm_136 := rfl
set_option maxRecDepth 4000 in
theorem tt_137 : am_T0[137]? = some tm_137 := rfl
set_option maxRecDepth 4000 in
theorem tt_138 : am_T0[138]? = some tm_138 := rfl
set_option maxRecDepth 4000 in
theorem tt_139 : am_T0[139]? = some tm_139 := rfl
set_option maxRecDepth 4000 in
theorem tt_140 : am_T0[140]? = some tm_140 := rfl
set_option maxRecDepth 4000 in
theorem tt_141 : am_T0[141]? = some tm_141 := rfl
set_option maxRecDepth 4000 in
theorem tt_142 : am_T0[142]? = some tm_142 := rfl
set_option maxRecDepth 4000 in
theorem tt_143 : am_T0[143]? = some tm_143 := rfl
set_option maxRecDepth 4000 in
theorem tt_144 : am_T0[144]? = some tm_144 := rfl
set_option maxRecDepth 4000 in
theorem tt_145 : am_T0[145]? = some tm_145 := rfl
set_option maxRecDepth 4000 in
theorem tt_146 : am_T0[146]? = some tm_146 := rfl
set_option maxRecDepth 4000 in
theorem tt_147 : am_T0[147]? = some tm_147 := rfl
set_option maxRecDepth 4000 in
theorem tt_148 : am_T0[148]? = some tm_148 := rfl
set_option maxRecDepth 4000 in
theorem tt_149 : am_T0[149]? = some tm_149 := rfl
set_option maxRecDepth 4000 in
theorem tt_150 : am_T0[150]? = some tm_150 := rfl
set_option maxRecDepth 4000 in
theorem tt_151 : am_T0[151]? = some tm_151 := rfl
set_option maxRecDepth 4000 in
theorem tt_152 : am_T0[152]? = some tm_152 := rfl
set_option maxRecDepth 4000 in
theorem tt_153 : am_T0[153]? = some tm_153 := rfl
set_option maxRecDepth 4000 in
theorem tt_154 : am_T0[154]? = some tm_154 := rfl
set_option maxRecDepth 4000 in
theorem tt_155 : am_T0[155]? = some tm_155 := rfl
set_option maxRecDepth 4000 in
theorem tt_156 : am_T0[156]? = some tm_156 := rfl
set_option maxRecDepth 4000 in
theorem tt_157 : am_T0[157]? = some tm_157 := rfl
set_option maxRecDepth 4000 in
theorem tt_158 : am_T0[158]? = some tm_158 := rfl
set_option maxRecDepth 4000 in
theorem tt_159 : am_T0[159]? = some tm_159 := rfl
set_option maxRecDepth 4000 in
theorem tt_160 : am_T0[160]? = some tm_160 := rfl
set_option maxRecDepth 4000 in
theorem tt_161 : am_T0[161]? = some tm_161 := rfl
set_option maxRecDepth 4000 in
theorem tt_162 : am_T0[162]? = some tm_162 := rfl
set_option maxRecDepth 4000 in
theorem tt_163 : am_T0[163]? = some tm_163 := rfl
set_option maxRecDepth 4000 in
theorem tt_164 : am_T0[164]? = some tm_164 := rfl
set_option maxRecDepth 4000 in
theorem tt_165 : am_T0[165]? = some tm_165 := rfl
set_option maxRecDepth 4000 in
theorem tt_166 : am_T0[166]? = some tm_166 := rfl
set_option maxRecDepth 4000 in
theorem tt_167 : am_T0[167]? = some tm_167 := rfl
set_option maxRecDepth 4000 in
theorem tt_168 : am_T0[168]? = some tm_168 := rfl
set_option maxRecDepth 4000 in
theorem tt_169 : am_T0[169]? = some tm_169 := rfl
set_option maxRecDepth 4000 in
theorem tt_170 : am_T0[170]? = some tm_170 := rfl
set_option maxRecDepth 4000 in
theorem tt_171 : am_T0[171]? = some tm_171 := rfl
set_option maxRecDepth 4000 in
theorem tt_172 : am_T0[172]? = some tm_172 := rfl
set_option maxRecDepth 4000 in
theorem tt_173 : am_T0[173]? = some tm_173 := rfl
set_option maxRecDepth 4000 in
theorem tt_174 : am_T0[174]? = some tm_174 := rfl
set_option maxRecDepth 4000 in
theorem tt_175 : am_T0[175]? = some tm_175 := rfl
set_option maxRecDepth 4000 in
theorem tt_176 : am_T0[176]? = some tm_176 := rfl
set_option maxRecDepth 4000 in
theorem tt_177 : am_T0[177]? = some tm_177 := rfl
set_option maxRecDepth 4000 in
theorem tt_178 : am_T0[178]? = some tm_178 := rfl
set_option maxRecDepth 4000 in
theorem tt_179 : am_T0[179]? = some tm_179 := rfl
set_option maxRecDepth 4000 in
theorem tt_180 : am_T0[180]? = some tm_180 := rfl
set_option maxRecDepth 4000 in
theorem tt_181 : am_T0[181]? = some tm_181 := rfl
set_option maxRecDepth 4000 in
theorem tt_182 : am_T0[182]? = some tm_182 := rfl
set_option maxRecDepth 4000 in
theorem tt_183 : am_T0[183]? = some tm_183 := rfl
set_option maxRecDepth 4000 in
theorem tt_184 : am_T0[184]? = some tm_184 := rfl
set_option maxRecDepth 4000 in
theorem tt_185 : am_T0[185]? = some tm_185 := rfl
set_option maxRecDepth 4000 in
theorem tt_186 : am_T0[186]? = some tm_186 := rfl
set_option maxRecDepth 4000 in
theorem tt_187 : am_T0[187]? = some tm_187 := rfl
set_option maxRecDepth 4000 in
theorem tt_188 : am_T0[188]? = some tm_188 := rfl
set_option maxRecDepth 4000 in
theorem tt_189 : am_T0[189]? = some tm_189 := rfl
set_option maxRecDepth 4000 in
theorem tt_190 : am_T0[190]? = some tm_190 := rfl
set_option maxRecDepth 4000 in
theorem tt_191 : am_T0[191]? = some tm_191 := rfl
set_option maxRecDepth 4000 in
theorem tt_192 : am_T0[192]? = some tm_192 := rfl
set_option maxRecDepth 4000 in
theorem tt_193 : am_T0[193]? = some tm_193 := rfl
set_option maxRecDepth 4000 in
theorem tt_194 : am_T0[194]? = some tm_194 := rfl
set_option maxRecDepth 4000 in
theorem tt_195 : am_T0[195]? = some tm_195 := rfl
set_option maxRecDepth 4000 in
theorem tt_196 : am_T0[196]? = some tm_196 := rfl
set_option maxRecDepth 4000 in
theorem tt_197 : am_T0[197]? = some tm_197 := rfl
set_option maxRecDepth 4000 in
theorem tt_198 : am_T0[198]? = some tm_198 := rfl
set_option maxRecDepth 4000 in
theorem tt_199 : am_T0[199]? = some tm_199 := rfl
set_option maxRecDepth 4000 in
theorem tt_200 : am_T0[200]? = some tm_200 := rfl
set_option maxRecDepth 4000 in
theorem tt_201 : am_T0[201]? = some tm_201 := rfl
set_option maxRecDepth 4000 in
theorem tt_202 : am_T0[202]? = some tm_202 := rfl
set_option maxRecDepth 4000 in
theorem tt_203 : am_T0[203]? = some tm_203 := rfl
set_option maxRecDepth 4000 in
theorem tt_204 : am_T0[204]? = some tm_204 := rfl
set_option maxRecDepth 4000 in
theorem tt_205 : am_T0[205]? = some tm_205 := rfl
set_option maxRecDepth 4000 in
theorem tt_206 : am_T0[206]? = some tm_206 := rfl
set_option maxRecDepth 4000 in
theorem tt_207 : am_T0[207]? = some tm_207 := rfl
set_option maxRecDepth 4000 in
theorem tt_208 : am_T0[208]? = some tm_208 := rfl
set_option maxRecDepth 4000 in
theorem tt_209 : am_T0[209]? = some tm_209 := rfl
set_option maxRecDepth 4000 in
theorem tt_210 : am_T0[210]? = some tm_210 := rfl
set_option maxRecDepth 4000 in
theorem tt_211 : am_T0[211]? = some tm_211 := rfl
set_option maxRecDepth 4000 in
theorem tt_212 : am_T0[212]? = some tm_212 := rfl
set_option maxRecDepth 4000 in
theorem tt_213 : am_T0[213]? = some tm_213 := rfl
set_option maxRecDepth 4000 in
theorem tt_214 : am_T0[214]? = some tm_214 := rfl
set_option maxRecDepth 4000 in
theorem tt_215 : am_T0[215]? = some tm_215 := rfl
set_option maxRecDepth 4000 in
theorem tt_216 : am_T0[216]? = some tm_216 := rfl
set_option maxRecDepth 4000 in
theorem tt_217 : am_T0[217]? = some tm_217 := rfl
set_option maxRecDepth 4000 in
theorem tt_218 : am_T0[218]? = some tm_218 := rfl
set_option maxRecDepth 4000 in
theorem tt_219 : am_T0[219]? = some tm_219 := rfl
set_option maxRecDepth 4000 in
theorem tt_220 : am_T0[220]? = some tm_220 := rfl
set_option maxRecDepth 4000 in
theorem tt_221 : am_T0[221]? = some tm_221 := rfl
set_option maxRecDepth 4000 in
theorem tt_222 : am_T0[222]? = some tm_222 := rfl
set_option maxRecDepth 4000 in
theorem tt_223 : am_T0[223]? = some tm_223 := rfl
set_option maxRecDepth 4000 in
theorem tt_224 : am_T0[224]? = some tm_224 := rfl
set_option maxRecDepth 4000 in
theorem tt_225 : am_T0[225]? = some tm_225 := rfl
set_option maxRecDepth 4000 in
theorem tt_226 : am_T0[226]? = some tm_226 := rfl
set_option maxRecDepth 4000 in
theorem tt_227 : am_T0[227]? = some tm_227 := rfl
set_option maxRecDepth 4000 in
theorem tt_228 : am_T0[228]? = some tm_228 := rfl
set_option maxRecDepth 4000 in
theorem tt_229 : am_T0[229]? = some tm_229 := rfl
set_option maxRecDepth 4000 in
theorem tt_230 : am_T0[230]? = some tm_230 := rfl
set_option maxRecDepth 4000 in
theorem tt_231 : am_T0[231]? = some tm_231 := rfl
set_option maxRecDepth 4000 in
theorem tt_232 : am_T0[232]? = some tm_232 := rfl
set_option maxRecDepth 4000 in
theorem tt_233 : am_T0[233]? = some tm_233 := rfl
set_option maxRecDepth 4000 in
theorem tt_234 : am_T0[234]? = some tm_234 := rfl
set_option maxRecDepth 4000 in
theorem tt_235 : am_T0[235]? = some tm_235 := rfl
set_option maxRecDepth 4000 in
theorem tt_236 : am_T0[236]? = some tm_236 := rfl
set_option maxRecDepth 4000 in
theorem tt_237 : am_T0[237]? = some tm_237 := rfl
set_option maxRecDepth 4000 in
theorem tt_238 : am_T0[238]? = some tm_238 := rfl
set_option maxRecDepth 4000 in
theorem tt_239 : am_T0[239]? = some tm_239 := rfl
set_option maxRecDepth 4000 in
theorem tt_240 : am_T0[240]? = some tm_240 := rfl
set_option maxRecDepth 4000 in
theorem tt_241 : am_T0[241]? = some tm_241 := rfl
set_option maxRecDepth 4000 in
theorem tt_242 : am_T0[242]? = some tm_242 := rfl
set_option maxRecDepth 4000 in
theorem tt_243 : am_T0[243]? = some tm_243 := rfl
set_option maxRecDepth 4000 in
theorem tt_244 : am_T0[244]? = some tm_244 := rfl
set_option maxRecDepth 4000 in
theorem tt_245 : am_T0[245]? = some tm_245 := rfl
set_option maxRecDepth 4000 in
theorem tt_246 : am_T0[246]? = some tm_246 := rfl
set_option maxRecDepth 4000 in
theorem tt_247 : am_T0[247]? = some tm_247 := rfl
set_option maxRecDepth 4000 in
theorem tt_248 : am_T0[248]? = some tm_248 := rfl
set_option maxRecDepth 4000 in
theorem tt_249 : am_T0[249]? = some tm_249 := rfl
set_option maxRecDepth 4000 in
theorem tt_250 : am_T0[250]? = some tm_250 := rfl
set_option maxRecDepth 4000 in
theorem tt_251 : am_T0[251]? = some tm_251 := rfl
set_option maxRecDepth 4000 in
theorem tt_252 : am_T0[252]? = some tm_252 := rfl
set_option maxRecDepth 4000 in
theorem tt_253 : am_T0[253]? = some tm_253 := rfl
set_option maxRecDepth 4000 in
theorem tt_254 : am_T0[254]? = some tm_254 := rfl
set_option maxRecDepth 4000 in
theorem tt_255 : am_T0[255]? = some tm_255 := rfl
set_option maxRecDepth 4000 in
theorem tt_256 : am_T0[256]? = some tm_256 := rfl
set_option maxRecDepth 4000 in
theorem tt_257 : am_T0[257]? = some tm_257 := rfl
set_option maxRecDepth 4000 in
theorem tt_258 : am_T0[258]? = some tm_258 := rfl
set_option maxRecDepth 4000 in
theorem tt_259 : am_T0[259]? = some tm_259 := rfl
set_option maxRecDepth 4000 in
theorem tt_260 : am_T0[260]? = some tm_260 := rfl
set_option maxRecDepth 4000 in
theorem tt_261 : am_T0[261]? = some tm_261 := rfl
set_option maxRecDepth 4000 in
theorem tt_262 : am_T0[262]? = some tm_262 := rfl
set_option maxRecDepth 4000 in
theorem tt_263 : am_T0[263]? = some tm_263 := rfl
set_option maxRecDepth 4000 in
theorem tt_264 : am_T0[264]? = some tm_264 := rfl
set_option maxRecDepth 4000 in
theorem tt_265 : am_T0[265]? = some tm_265 := rfl
set_option maxRecDepth 4000 in
theorem tt_266 : am_T0[266]? = some tm_266 := rfl
set_option maxRecDepth 4000 in
theorem tt_267 : am_T0[267]? = some tm_267 := rfl
set_option maxRecDepth 4000 in
theorem tt_268 : am_T0[268]? = some tm_268 := rfl
set_option maxRecDepth 4000 in
theorem tt_269 : am_T0[269]? = some tm_269 := rfl
set_option maxRecDepth 4000 in
theorem tt_270 : am_T0[270]? = some tm_270 := rfl
set_option maxRecDepth 4000 in
theorem tt_271 : am_T0[271]? = some tm_271 := rfl
set_option maxRecDepth 4000 in
theorem tt_272 : am_T0[272]? = some tm_272 := rfl
set_option maxRecDepth 4000 in
theorem tt_273 : am_T0[273]? = some tm_273 := rfl
set_option maxRecDepth 4000 in
theorem tt_274 : am_T0[274]? = some tm_274 := rfl
set_option maxRecDepth 4000 in
theorem tt_275 : am_T0[275]? = some tm_275 := rfl
set_option maxRecDepth 4000 in
theorem tt_276 : am_T0[276]? = some tm_276 := rfl
set_option maxRecDepth 4000 in
theorem tt_277 : am_T0[277]? = some tm_277 := rfl
set_option maxRecDepth 4000 in
theorem tt_278 : am_T0[278]? = some tm_278 := rfl
set_option maxRecDepth 4000 in
theorem tt_279 : am_T0[279]? = some tm_279 := rfl
set_option maxRecDepth 4000 in
theorem tt_280 : am_T0[280]? = some tm_280 := rfl
set_option maxRecDepth 4000 in
theorem tt_281 : am_T0[281]? = some tm_281 := rfl
set_option maxRecDepth 4000 in
theorem tt_282 : am_T0[282]? = some tm_282 := rfl
set_option maxRecDepth 4000 in
theorem tt_283 : am_T0[283]? = some tm_283 := rfl
set_option maxRecDepth 4000 in
theorem tt_284 : am_T0[284]? = some tm_284 := rfl
set_option maxRecDepth 4000 in
theorem tt_285 : am_T0[285]? = some tm_285 := rfl
set_option maxRecDepth 4000 in
theorem tt_286 : am_T0[286]? = some tm_286 := rfl
set_option maxRecDepth 4000 in
theorem tt_287 : am_T0[287]? = some tm_287 := rfl
set_option maxRecDepth 4000 in
theorem tt_288 : am_T0[288]? = some tm_288 := rfl
set_option maxRecDepth 4000 in
theorem tt_289 : am_T0[289]? = some tm_289 := rfl
set_option maxRecDepth 4000 in
theorem tt_290 : am_T0[290]? = some tm_290 := rfl
set_option maxRecDepth 4000 in
theorem tt_291 : am_T0[291]? = some tm_291 := rfl
set_option maxRecDepth 4000 in
theorem tt_292 : am_T0[292]? = some tm_292 := rfl
set_option maxRecDepth 4000 in
theorem tt_293 : am_T0[293]? = some tm_293 := rfl
set_option maxRecDepth 4000 in
theorem tt_294 : am_T0[294]? = some tm_294 := rfl
set_option maxRecDepth 4000 in
theorem tt_295 : am_T0[295]? = some tm_295 := rfl
set_option maxRecDepth 4000 in
theorem tt_296 : am_T0[296]? = some tm_296 := rfl
set_option maxRecDepth 4000 in
theorem tt_297 : am_T0[297]? = some tm_297 := rfl
set_option maxRecDepth 4000 in
theorem tt_298 : am_T0[298]? = some tm_298 := rfl
set_option maxRecDepth 4000 in
theorem tt_299 : am_T0[299]? = some tm_299 := rfl
set_option maxRecDepth 4000 in
theorem tt_300 : am_T0[300]? = some tm_300 := rfl
set_option maxRecDepth 4000 in
theorem tt_301 : am_T0[301]? = some tm_301 := rfl
set_option maxRecDepth 4000 in
theorem tt_302 : am_T0[302]? = some tm_302 := rfl
set_option maxRecDepth 4000 in
theorem tt_303 : am_T0[303]? = some tm_303 := rfl
set_option maxRecDepth 4000 in
theorem tt_304 : am_T0[304]? = some tm_304 := rfl
set_option maxRecDepth 4000 in
theorem tt_305 : am_T0[305]? = some tm_305 := rfl
set_option maxRecDepth 4000 in
theorem tt_306 : am_T0[306]? = some tm_306 := rfl
set_option maxRecDepth 4000 in
theorem tt_307 : am_T0[307]? = some tm_307 := rfl
set_option maxRecDepth 4000 in
theorem tt_308 : am_T0[308]? = some tm_308 := rfl
set_option maxRecDepth 4000 in
theorem tt_309 : am_T0[309]? = some tm_309 := rfl
set_option maxRecDepth 4000 in
theorem tt_310 : am_T0[310]? = some tm_310 := rfl
set_option maxRecDepth 4000 in
theorem tt_311 : am_T0[311]? = some tm_311 := rfl
set_option maxRecDepth 4000 in
theorem tt_312 : am_T0[312]? = some tm_312 := rfl
set_option maxRecDepth 4000 in
theorem tt_313 : am_T0[313]? = some tm_313 := rfl
set_option maxRecDepth 4000 in
theorem tt_314 : am_T0[314]? = some tm_314 := rfl
set_option maxRecDepth 4000 in
theorem tt_315 : am_T0[315]? = some tm_315 := rfl
set_option maxRecDepth 4000 in
theorem tt_316 : am_T0[316]? = some tm_316 := rfl
set_option maxRecDepth 4000 in
theorem tt_317 : am_T0[317]? = some tm_317 := rfl
set_option maxRecDepth 4000 in
theorem tt_318 : am_T0[318]? = some tm_318 := rfl
set_option maxRecDepth 4000 in
theorem tt_319 : am_T0[319]? = some tm_319 := rfl
set_option maxRecDepth 4000 in
theorem tt_320 : am_T0[320]? = some tm_320 := rfl
set_option maxRecDepth 4000 in
theorem tt_321 : am_T0[321]? = some tm_321 := rfl
set_option maxRecDepth 4000 in
theorem tt_322 : am_T0[322]? = some tm_322 := rfl
set_option maxRecDepth 4000 in
theorem tt_323 : am_T0[323]? = some tm_323 := rfl
set_option maxRecDepth 4000 in
theorem tt_324 : am_T0[324]? = some tm_324 := rfl
set_option maxRecDepth 4000 in
theorem tt_325 : am_T0[325]? = some tm_325 := rfl
set_option maxRecDepth 4000 in
theorem tt_326 : am_T0[326]? = some tm_326 := rfl
set_option maxRecDepth 4000 in
theorem tt_327 : am_T0[327]? = some tm_327 := rfl
set_option maxRecDepth 4000 in
theorem tt_328 : am_T0[328]? = some tm_328 := rfl
set_option maxRecDepth 4000 in
theorem tt_329 : am_T0[329]? = some tm_329 := rfl
set_option maxRecDepth 4000 in
theorem tt_330 : am_T0[330]? = some tm_330 := rfl
set_option maxRecDepth 4000 in
theorem tt_331 : am_T0[331]? = some tm_331 := rfl
set_option maxRecDepth 4000 in
theorem tt_332 : am_T0[332]? = some tm_332 := rfl
set_option maxRecDepth 4000 in
theorem tt_333 : am_T0[333]? = some tm_333 := rfl
set_option maxRecDepth 4000 in
theorem tt_334 : am_T0[334]? = some tm_334 := rfl
set_option maxRecDepth 4000 in
theorem tt_335 : am_T0[335]? = some tm_335 := rfl
set_option maxRecDepth 4000 in
theorem tt_336 : am_T0[336]? = some tm_336 := rfl
set_option maxRecDepth 4000 in
theorem tt_337 : am_T0[337]? = some tm_337 := rfl
set_option maxRecDepth 4000 in
theorem tt_338 : am_T0[338]? = some tm_338 := rfl
set_option maxRecDepth 4000 in
theorem tt_339 : am_T0[339]? = some tm_339 := rfl
set_option maxRecDepth 4000 in
theorem tt_340 : am_T0[340]? = some tm_340 := rfl
set_option maxRecDepth 4000 in
theorem tt_341 : am_T0[341]? = some tm_341 := rfl
set_option maxRecDepth 4000 in
theorem tt_342 : am_T0[342]? = some tm_342 := rfl
set_option maxRecDepth 4000 in
theorem tt_343 : am_T0[343]? = some tm_343 := rfl
set_option maxRecDepth 4000 in
theorem tt_344 : am_T0[344]? = some tm_344 := rfl
set_option maxRecDepth 4000 in
theorem tt_345 : am_T0[345]? = some tm_345 := rfl
set_option maxRecDepth 4000 in
theorem tt_346 : am_T0[346]? = some tm_346 := rfl
set_option maxRecDepth 4000 in
theorem tt_347 : am_T0[347]? = some tm_347 := rfl
set_option maxRecDepth 4000 in
theorem tt_348 : am_T0[348]? = some tm_348 := rfl
set_option maxRecDepth 4000 in
theorem tt_349 : am_T0[349]? = some tm_349 := rfl
set_option maxRecDepth 4000 in
theorem tt_350 : am_T0[350]? = some tm_350 := rfl
set_option maxRecDepth 4000 in
theorem tt_351 : am_T0[351]? = some tm_351 := rfl
set_option maxRecDepth 4000 in
theorem tt_352 : am_T0[352]? = some tm_352 := rfl
set_option maxRecDepth 4000 in
theorem tt_353 : am_T0[353]? = some tm_353 := rfl
set_option maxRecDepth 4000 in
theorem tt_354 : am_T0[354]? = some tm_354 := rfl
set_option maxRecDepth 4000 in
theorem tt_355 : am_T0[355]? = some tm_355 := rfl
set_option maxRecDepth 4000 in
theorem tt_356 : am_T0[356]? = some tm_356 := rfl
set_option maxRecDepth 4000 in
theorem tt_357 : am_T0[357]? = some tm_357 := rfl
set_option maxRecDepth 4000 in
theorem tt_358 : am_T0[358]? = some tm_358 := rfl
set_option maxRecDepth 4000 in
theorem tt_359 : am_T0[359]? = some tm_359 := rfl
set_option maxRecDepth 4000 in
theorem tt_360 : am_T0[360]? = some tm_360 := rfl
set_option maxRecDepth 4000 in
theorem tt_361 : am_T0[361]? = some tm_361 := rfl
set_option maxRecDepth 4000 in
theorem tt_362 : am_T0[362]? = some tm_362 := rfl
/-- a walk over the claim's own tables -/
abbrev wx (z : Value) (d j pc : Nat) (ls : bm_L) (st : List bm_V) (σ : sg_S) (Q : Option bm_V → sg_S → Prop) : Prop := wk (am_E0 z none) am_T0 am_Sh0 d j pc ls st σ Q
def bm_swt (x dflt lo hi : Int) (offs : Array Int) : Option Int := if x < lo ∨ hi < x then some dflt else offs[(x - lo).toNat]?
section WKS
variable {E : am_E} {T : List am_M} {Sh : List sg_Sh} {d j pc : Nat} {ls : bm_L} {st : List bm_V} {σ : sg_S} {Q : Option bm_V → sg_S → Prop} {M : am_M}
theorem wk_ts {x dflt lo hi off num : Int} {offs : Array Int} {lk : am_K} {tgt : Nat} (hM : T[j]? = some M) (hq : am_find M.2.2.2.2 pc = some (pc, .tableswitch dflt lo hi offs, num, lk)) (hR : sg_R x) (ho : bm_swt x dflt lo hi offs = some off) (ht : (pc : Int) + off = (tgt : Int)) (k : wk E T Sh d j tgt ls st σ Q) : wk E T Sh d j pc ls (.inl x :: st) σ Q := by
  obtain ⟨v, σ', h1, h2⟩ := k
  refine ⟨v, σ', am_r0 (S := (tgt, bm_ls ls, bm_st st)) hM hq rfl ?_ h1, h2⟩
  have e : (sg_i x).toInt = x := sg_id hR
  unfold bm_swt at ho
  have hj : am_jp pc (bm_ls ls) off (bm_st st) = some (tgt, bm_ls ls, bm_st st) := by simp only [am_jp, ht]; simp
  simp only [am_step, bm_st, List.map_cons, bm_v, am_sw, e]
  split at ho
  · rename_i h
    cases ho
    rw [if_pos h]
    exact hj
  · rename_i h
    rw [if_neg h]
    simp only [ho]
    exact hj
theorem wk_lw {x dflt off num : Int} {ps : Array (Int × Int)} {lk : am_K} {tgt : Nat} (hM : T[j]? = some M) (hq : am_find M.2.2.2.2 pc = some (pc, .lookupswitch dflt ps, num, lk)) (hs : (ps.toList.zip (ps.toList.drop 1)).all (fun (a, next) => a.1 < next.1) = true) (hR : sg_R x) (ho : Op.lookupswitch.offset ps.toList dflt x = off) (ht : (pc : Int) + off = (tgt : Int)) (k : wk E T Sh d j tgt ls st σ Q) : wk E T Sh d j pc ls (.inl x :: st) σ Q := by
  obtain ⟨v, σ', h1, h2⟩ := k
  refine ⟨v, σ', am_r0 (S := (tgt, bm_ls ls, bm_st st)) hM hq rfl ?_ h1, h2⟩
  have e : (sg_i x).toInt = x := sg_id hR
  have hj : am_jp pc (bm_ls ls) off (bm_st st) = some (tgt, bm_ls ls, bm_st st) := by simp only [am_jp, ht]; simp
  simp only [am_step, bm_st, List.map_cons, bm_v, am_lsw, e, hs, if_true, ho]
  exact hj
theorem wk_m {num : Int} {i : Instr} {lk : am_K} {P1 P2 : List bm_V} (hM : T[j]? = some M) (hq : am_find M.2.2.2.2 pc = some (pc, i, num, lk)) (hso : am_sort i = 3) (hlk : lk.isEmpty = false) (hp : am_isP lk = true) (hm : am_math lk (bm_st st) = some (bm_st P1, bm_st P2)) (h8 : Nat.ble (bm_sum P2) 8 = true) (k : wk E T Sh (d + 1) j (pc + 3) ls P1 σ Q) : wk E T Sh (d + 1) j pc ls st σ Q := by
  obtain ⟨v, σ', ⟨n, hn⟩, h2⟩ := k
  refine ⟨v, σ', ⟨n + 1, ?_⟩, h2⟩
  have h9 : am_sum (bm_st P2) ≤ 8 := by rw [bm_sum_eq]; exact Nat.le_of_ble_eq_true h8
  unfold am_ex
  simp only [hM, hq, hso]
  cases hl : lk with
  | nil => rw [hl] at hlk; cases hlk
  | cons x y =>
    rw [hl] at hm hp
    simp only [hp, hm, if_pos h9, if_true]
    exact hn
theorem wk_max {x y num : Int} {idx k0 : Nat} {dat : List Nat} {tl : am_K} (hM : T[j]? = some M) (hq : am_find M.2.2.2.2 pc = some (pc, .invokestatic idx, num, (3000, 0 :: dat) :: tl)) (hx : sg_R x) (hy : sg_R y) (h8 : Nat.ble (bm_sum st) 8 = true) (k : wk E T Sh (d + 1) j (pc + 3) ls (.inl (if x < y then y else x) :: st) σ Q) : wk E T Sh (d + 1) j pc ls (.inl y :: .inl x :: st) σ Q := by
  refine wk_m (P1 := .inl (if x < y then y else x) :: st) (P2 := st) hM hq rfl rfl rfl ?_ h8 k
  have e1 : (sg_i x).toInt = x := sg_id hx
  have e2 : (sg_i y).toInt = y := sg_id hy
  simp only [bm_st, List.map_cons, bm_v, am_math, Int32.lt_iff_toInt_lt, e1, e2]
  split <;> rfl
theorem wk_min {x y num : Int} {idx k0 : Nat} {dat : List Nat} {tl : am_K} (hM : T[j]? = some M) (hq : am_find M.2.2.2.2 pc = some (pc, .invokestatic idx, num, (3000, 1 :: dat) :: tl)) (hx : sg_R x) (hy : sg_R y) (h8 : Nat.ble (bm_sum st) 8 = true) (k : wk E T Sh (d + 1) j (pc + 3) ls (.inl (if y < x then y else x) :: st) σ Q) : wk E T Sh (d + 1) j pc ls (.inl y :: .inl x :: st) σ Q := by
  refine wk_m (P1 := .inl (if y < x then y else x) :: st) (P2 := st) hM hq rfl rfl rfl ?_ h8 k
  have e1 : (sg_i x).toInt = x := sg_id hx
  have e2 : (sg_i y).toInt = y := sg_id hy
  simp only [bm_st, List.map_cons, bm_v, am_math, Int32.lt_iff_toInt_lt, e1, e2]
  split <;> rfl
theorem wk_abs {x num : Int} {idx k0 : Nat} {dat : List Nat} {tl : am_K} (hM : T[j]? = some M) (hq : am_find M.2.2.2.2 pc = some (pc, .invokestatic idx, num, (3000, 2 :: dat) :: tl)) (hx : sg_RL x) (h8 : Nat.ble (bm_sum st) 8 = true) (k : wk E T Sh (d + 1) j (pc + 3) ls (.inr (.inl (if 0 < x then x else -x)) :: st) σ Q) : wk E T Sh (d + 1) j pc ls (.inr (.inl x) :: st) σ Q := by
  refine wk_m (P1 := .inr (.inl (if 0 < x then x else -x)) :: st) (P2 := st) hM hq rfl rfl rfl ?_ h8 k
  have e1 : (sg_l x).toInt = x := sg_idl hx
  have e0 : (0 : Int64).toInt = 0 := rfl
  simp only [bm_st, List.map_cons, bm_v, am_math, Int64.lt_iff_toInt_lt, e1, e0]
  split
  · rfl
  · simp only [sg_l, Int64.ofInt_neg]
theorem wk_nn {a : Nat} {off num : Int} {lk : am_K} {tgt : Nat} (hM : T[j]? = some M) (hq : am_find M.2.2.2.2 pc = some (pc, .ifnonnull off, num, lk)) (ht : (pc : Int) + off = (tgt : Int)) (k : wk E T Sh d j tgt ls st σ Q) : wk E T Sh d j pc ls (.inr (.inr (.ref a)) :: st) σ Q := by
  obtain ⟨v, σ', h1, h2⟩ := k
  refine ⟨v, σ', am_r0 (S := (tgt, bm_ls ls, bm_st st)) hM hq rfl ?_ h1, h2⟩
  simp only [am_step, bm_st, List.map_cons, bm_v, am_nul, am_jp, ht]
  simp
theorem wk_nu {a : Nat} {off num : Int} {lk : am_K} (hM : T[j]? = some M) (hq : am_find M.2.2.2.2 pc = some (pc, .ifnull off, num, lk)) (k : wk E T Sh d j (pc + 3) ls st σ Q) : wk E T Sh d j pc ls (.inr (.inr (.ref a)) :: st) σ Q := by
  obtain ⟨v, σ', h1, h2⟩ := k
  refine ⟨v, σ', am_r0 (S := (pc + 3, bm_ls ls, bm_st st)) hM hq rfl ?_ h1, h2⟩
  simp only [am_step, bm_st, List.map_cons, bm_v, am_nul, if_true]
end WKS
/-- but for some cells (c), and fields k of cells (c + 1000 * (k + 1)), all is as it was -/
def sg_cv (L : List Nat) (c : Nat) (k : Int) : Bool := L.contains c || L.contains (c + 1000 * (k.toNat + 1))
def sg_ca (L : List Nat) (c : Nat) : Bool := L.all (fun q => !(q % 1000 == c))
def sg_F (L : List Nat) (σ σ' : sg_S) : Prop := ∀ c k, c < 1000 → sg_cv L c k = false → σ'.1 c k = σ.1 c k ∧ σ'.2 c k = σ.2 c k
theorem sg_ca_cv {L : List Nat} {c : Nat} (h : sg_ca L c = true) (hc : c < 1000) (k : Int) : sg_cv L c k = false := by
  unfold sg_ca at h
  have h0 : ∀ q ∈ L, ¬ q % 1000 = c := fun q hq => by have := List.all_eq_true.mp h q hq; simpa using this
  unfold sg_cv
  rw [Bool.or_eq_false_iff]
  constructor
  · cases e : L.contains c with
    | false => rfl
    | true => exact absurd (Nat.mod_eq_of_lt hc) (h0 c (by simpa using e))
  · cases e : L.contains (c + 1000 * (k.toNat + 1)) with
    | false => rfl
    | true => exact absurd (show (c + 1000 * (k.toNat + 1)) % 1000 = c by omega) (h0 _ (by simpa using e))
theorem sg_F_r (L : List Nat) (σ : sg_S) : sg_F L σ σ := fun _ _ _ _ => ⟨rfl, rfl⟩
theorem sg_F_t {L : List Nat} {σ σ1 σ2 : sg_S} (h1 : sg_F L σ σ1) (h2 : sg_F L σ1 σ2) : sg_F L σ σ2 := fun c k hc hk => ⟨(h2 c k hc hk).1.trans (h1 c k hc hk).1, (h2 c k hc hk).2.trans (h1 c k hc hk).2⟩
theorem sg_F_m {L K : List Nat} {σ σ1 : sg_S} (h : sg_F K σ σ1) (hs : K.all (fun c => L.contains c || (Nat.ble 1000 c && L.contains (c % 1000))) = true) : sg_F L σ σ1 := by
  intro c k hc hk
  refine h c k hc ?_
  unfold sg_cv at hk ⊢
  rw [Bool.or_eq_false_iff] at hk ⊢
  have h0 : ∀ q, K.contains q = true → L.contains q = true ∨ (1000 ≤ q ∧ L.contains (q % 1000) = true) := by
    intro q hq
    have := List.all_eq_true.mp hs q (by simpa using hq)
    simp only [Bool.or_eq_true, Bool.and_eq_true, Nat.ble_eq] at this
    exact this
  constructor
  · cases e : K.contains c with
    | false => rfl
    | true =>
      rcases h0 _ e with h1 | ⟨h1, -⟩
      · rw [hk.1] at h1
        cases h1
      · omega
  · cases e : K.contains (c + 1000 * (k.toNat + 1)) with
    | false => rfl
    | true =>
      rcases h0 _ e with h1 | ⟨-, h1⟩
      · rw [hk.2] at h1
        cases h1
      · have h2 : (c + 1000 * (k.toNat + 1)) % 1000 = c := by omega
        rw [h2, hk.1] at h1
        cases h1
theorem sg_F_w {L : List Nat} {σ σ1 : sg_S} (h : sg_F L σ σ1) {a : Nat} {k : Int} (ha : sg_cv L a k = true) (z : Int) : sg_F L σ (sg_w σ1 a k z) := by
  intro c j hc hj
  refine ⟨?_, (h c j hc hj).2⟩
  rw [← (h c j hc hj).1]
  simp only [sg_w]
  rw [if_neg]
  rintro ⟨rfl, rfl⟩
  rw [ha] at hj
  cases hj
theorem sg_F_wl {L : List Nat} {σ σ1 : sg_S} (h : sg_F L σ σ1) {a : Nat} {k : Int} (ha : sg_cv L a k = true) (z : Int) : sg_F L σ (sg_wl σ1 a k z) := by
  intro c j hc hj
  refine ⟨(h c j hc hj).1, ?_⟩
  rw [← (h c j hc hj).2]
  simp only [sg_wl]
  rw [if_neg]
  rintro ⟨rfl, rfl⟩
  rw [ha] at hj
  cases hj
theorem sg_F_g {L : List Nat} {σ σ1 : sg_S} (h : sg_F L σ σ1) {a : Nat} {k : Int} (ha : sg_cv L a k = false) (hc : a < 1000 := by decide) : sg_g σ1 a k = sg_g σ a k := by unfold sg_g; rw [(h a k hc ha).1]
theorem sg_F_gl {L : List Nat} {σ σ1 : sg_S} (h : sg_F L σ σ1) {a : Nat} {k : Int} (ha : sg_cv L a k = false) (hc : a < 1000 := by decide) : sg_gl σ1 a k = sg_gl σ a k := by unfold sg_gl; rw [(h a k hc ha).2]
theorem sg_F_ga {L : List Nat} {σ σ1 : sg_S} (h : sg_F L σ σ1) {a : Nat} {k : Int} (ha : sg_ca L a = true) (hc : a < 1000 := by decide) : sg_g σ1 a k = sg_g σ a k := sg_F_g h (sg_ca_cv ha hc k) hc
theorem sg_F_gal {L : List Nat} {σ σ1 : sg_S} (h : sg_F L σ σ1) {a : Nat} {k : Int} (ha : sg_ca L a = true) (hc : a < 1000 := by decide) : sg_gl σ1 a k = sg_gl σ a k := sg_F_gl h (sg_ca_cv ha hc k) hc
