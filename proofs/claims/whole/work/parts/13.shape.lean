/-! the shape of the whole world, once the class and the reference are made: 208 cells -/
def e_SH : e_Sh := [
  .inr (10, [some (.ref 1), some (.ref 3), some (.ref 7), some (.ref 8), some (.ref 87), some (.ref 162), some (.ref 166), some (.ref 171)]),
  .inr (8, [some (.ref 2)]),
  .inl (0, 4, none),
  .inr (9, [some (.ref 4), some (.ref 5), some (.ref 6), none, none]),
  .inl (0, 30, none),
  .inl (0, 30, none),
  .inl (0, 30, none),
  .inr (4, [some (.ref 3), some (.ref 1), none, none, none]),
  .inr (5, [some (.ref 3), some (.ref 1), some (.ref 9), some (.ref 22), some (.ref 26), some (.ref 24)]),
  .inr (2, [some (.ref 10), some (.ref 12), some (.ref 14), some (.ref 16), some (.ref 18), some (.ref 20)]),
  .inr (7, [some (.ref 11), none]),
  .inl (0, 200, none),
  .inr (7, [some (.ref 13), none]),
  .inl (0, 200, none),
  .inr (7, [some (.ref 15), none]),
  .inl (0, 200, none),
  .inr (7, [some (.ref 17), none]),
  .inl (0, 200, none),
  .inr (7, [some (.ref 19), none]),
  .inl (0, 200, none),
  .inr (7, [some (.ref 21), none]),
  .inl (0, 200, none),
  .inr (7, [some (.ref 23), none]),
  .inl (0, 30, none),
  .inr (7, [some (.ref 25), none]),
  .inl (0, 0, none),
  .inl (2, 30, some (fun b => if b < 30 then some (27 + 2 * b) else none)),
  .inr (7, [some (.ref 28), none]),
  .inl (0, 6, none),
  .inr (7, [some (.ref 30), none]),
  .inl (0, 6, none),
  .inr (7, [some (.ref 32), none]),
  .inl (0, 6, none),
  .inr (7, [some (.ref 34), none]),
  .inl (0, 6, none),
  .inr (7, [some (.ref 36), none]),
  .inl (0, 6, none),
  .inr (7, [some (.ref 38), none]),
  .inl (0, 6, none),
  .inr (7, [some (.ref 40), none]),
  .inl (0, 6, none),
  .inr (7, [some (.ref 42), none]),
  .inl (0, 6, none),
  .inr (7, [some (.ref 44), none]),
  .inl (0, 6, none),
  .inr (7, [some (.ref 46), none]),
  .inl (0, 6, none),
  .inr (7, [some (.ref 48), none]),
  .inl (0, 6, none),
  .inr (7, [some (.ref 50), none]),
  .inl (0, 6, none),
  .inr (7, [some (.ref 52), none]),
  .inl (0, 6, none),
  .inr (7, [some (.ref 54), none]),
  .inl (0, 6, none),
  .inr (7, [some (.ref 56), none]),
  .inl (0, 6, none),
  .inr (7, [some (.ref 58), none]),
  .inl (0, 6, none),
  .inr (7, [some (.ref 60), none]),
  .inl (0, 6, none),
  .inr (7, [some (.ref 62), none]),
  .inl (0, 6, none),
  .inr (7, [some (.ref 64), none]),
  .inl (0, 6, none),
  .inr (7, [some (.ref 66), none]),
  .inl (0, 6, none),
  .inr (7, [some (.ref 68), none]),
  .inl (0, 6, none),
  .inr (7, [some (.ref 70), none]),
  .inl (0, 6, none),
  .inr (7, [some (.ref 72), none]),
  .inl (0, 6, none),
  .inr (7, [some (.ref 74), none]),
  .inl (0, 6, none),
  .inr (7, [some (.ref 76), none]),
  .inl (0, 6, none),
  .inr (7, [some (.ref 78), none]),
  .inl (0, 6, none),
  .inr (7, [some (.ref 80), none]),
  .inl (0, 6, none),
  .inr (7, [some (.ref 82), none]),
  .inl (0, 6, none),
  .inr (7, [some (.ref 84), none]),
  .inl (0, 6, none),
  .inr (7, [some (.ref 86), none]),
  .inl (0, 6, none),
  .inr (0, [some (.ref 3), some (.ref 88), some (.ref 90), some (.ref 92), some (.ref 94), some (.ref 159), some (.ref 160), some (.ref 161), none, none, none]),
  .inr (7, [some (.ref 89), none]),
  .inl (0, 6, none),
  .inr (7, [some (.ref 91), none]),
  .inl (0, 6, none),
  .inr (7, [some (.ref 93), none]),
  .inl (0, 6, none),
  .inl (3, 64, some (fun b => if b < 64 then some (95 + b) else none)),
  .inl (0, 30, none),
  .inl (0, 30, none),
  .inl (0, 30, none),
  .inl (0, 30, none),
  .inl (0, 30, none),
  .inl (0, 30, none),
  .inl (0, 30, none),
  .inl (0, 30, none),
  .inl (0, 30, none),
  .inl (0, 30, none),
  .inl (0, 30, none),
  .inl (0, 30, none),
  .inl (0, 30, none),
  .inl (0, 30, none),
  .inl (0, 30, none),
  .inl (0, 30, none),
  .inl (0, 30, none),
  .inl (0, 30, none),
  .inl (0, 30, none),
  .inl (0, 30, none),
  .inl (0, 30, none),
  .inl (0, 30, none),
  .inl (0, 30, none),
  .inl (0, 30, none),
  .inl (0, 30, none),
  .inl (0, 30, none),
  .inl (0, 30, none),
  .inl (0, 30, none),
  .inl (0, 30, none),
  .inl (0, 30, none),
  .inl (0, 30, none),
  .inl (0, 30, none),
  .inl (0, 30, none),
  .inl (0, 30, none),
  .inl (0, 30, none),
  .inl (0, 30, none),
  .inl (0, 30, none),
  .inl (0, 30, none),
  .inl (0, 30, none),
  .inl (0, 30, none),
  .inl (0, 30, none),
  .inl (0, 30, none),
  .inl (0, 30, none),
  .inl (0, 30, none),
  .inl (0, 30, none),
  .inl (0, 30, none),
  .inl (0, 30, none),
  .inl (0, 30, none),
  .inl (0, 30, none),
  .inl (0, 30, none),
  .inl (0, 30, none),
  .inl (0, 30, none),
  .inl (0, 30, none),
  .inl (0, 30, none),
  .inl (0, 30, none),
  .inl (0, 30, none),
  .inl (0, 30, none),
  .inl (0, 30, none),
  .inl (0, 30, none),
  .inl (0, 30, none),
  .inl (0, 30, none),
  .inl (0, 30, none),
  .inl (0, 30, none),
  .inl (0, 30, none),
  .inl (0, 7, none),
  .inl (0, 7, none),
  .inl (0, 7, none),
  .inr (6, [some (.ref 3), some (.ref 8), some (.ref 163), some (.ref 164), none]),
  .inl (0, 30, none),
  .inr (7, [some (.ref 165), none]),
  .inl (0, 30, none),
  .inr (1, [some (.ref 3), some (.ref 167), some (.ref 169), none, none]),
  .inr (7, [some (.ref 168), none]),
  .inl (0, 40, none),
  .inr (7, [some (.ref 170), none]),
  .inl (0, 40, none),
  .inr (3, [some (.ref 3), some (.ref 172), some (.ref 173), some (.ref 174), some (.ref 175), some (.ref 176), some (.ref 178), some (.ref 180)]),
  .inl (0, 30, none),
  .inl (0, 30, none),
  .inl (0, 30, none),
  .inl (0, 30, none),
  .inr (7, [some (.ref 177), none]),
  .inl (0, 12, none),
  .inr (7, [some (.ref 179), none]),
  .inl (0, 12, none),
  .inr (7, [some (.ref 181), none]),
  .inl (0, 12, none),
  .inr (11, [none, none, none, none, none, none, none, none, none, some (.ref 183), some (.ref 184), some (.ref 185), none, some (.ref 186), some (.ref 187), some (.ref 188), some (.ref 189), some (.ref 190), some (.ref 191), none, some (.ref 192), none, some (.ref 193), some (.ref 194), none, some (.ref 195), some (.ref 196), none, none, none, none, none, some (.ref 197), some (.ref 198), some (.ref 199), some (.ref 200), some (.ref 201), some (.ref 202), none, some (.ref 203), some (.ref 204), some (.ref 205), some (.ref 206), some (.ref 207)]),
  .inl (0, 180, none),
  .inl (0, 30, none),
  .inl (0, 30, none),
  .inl (0, 200, none),
  .inl (0, 200, none),
  .inl (0, 200, none),
  .inl (0, 200, none),
  .inl (1, 200, none),
  .inl (0, 200, none),
  .inl (0, 30, none),
  .inl (0, 30, none),
  .inl (0, 30, none),
  .inl (0, 6, none),
  .inl (0, 6, none),
  .inl (0, 40, none),
  .inl (0, 40, none),
  .inl (1, 181, none),
  .inl (1, 181, none),
  .inl (0, 30, none),
  .inl (0, 30, none),
  .inl (0, 12, none),
  .inl (0, 12, none),
  .inl (0, 12, none),
  .inl (0, 30, none),
  .inl (0, 30, none)]
theorem h_0 : e_SH[0]? = some (.inr (10, [some (.ref 1), some (.ref 3), some (.ref 7), some (.ref 8), some (.ref 87), some (.ref 162), some (.ref 166), some (.ref 171)])) := rfl
theorem h_1 : e_SH[1]? = some (.inr (8, [some (.ref 2)])) := rfl
theorem h_2 : e_SH[2]? = some (.inl (0, 4, none)) := rfl
theorem h_3 : e_SH[3]? = some (.inr (9, [some (.ref 4), some (.ref 5), some (.ref 6), none, none])) := rfl
theorem h_4 : e_SH[4]? = some (.inl (0, 30, none)) := rfl
theorem h_5 : e_SH[5]? = some (.inl (0, 30, none)) := rfl
theorem h_6 : e_SH[6]? = some (.inl (0, 30, none)) := rfl
theorem h_7 : e_SH[7]? = some (.inr (4, [some (.ref 3), some (.ref 1), none, none, none])) := rfl
theorem h_8 : e_SH[8]? = some (.inr (5, [some (.ref 3), some (.ref 1), some (.ref 9), some (.ref 22), some (.ref 26), some (.ref 24)])) := rfl
theorem h_9 : e_SH[9]? = some (.inr (2, [some (.ref 10), some (.ref 12), some (.ref 14), some (.ref 16), some (.ref 18), some (.ref 20)])) := rfl
theorem h_10 : e_SH[10]? = some (.inr (7, [some (.ref 11), none])) := rfl
theorem h_11 : e_SH[11]? = some (.inl (0, 200, none)) := rfl
theorem h_12 : e_SH[12]? = some (.inr (7, [some (.ref 13), none])) := rfl
theorem h_13 : e_SH[13]? = some (.inl (0, 200, none)) := rfl
theorem h_14 : e_SH[14]? = some (.inr (7, [some (.ref 15), none])) := rfl
theorem h_15 : e_SH[15]? = some (.inl (0, 200, none)) := rfl
theorem h_16 : e_SH[16]? = some (.inr (7, [some (.ref 17), none])) := rfl
theorem h_17 : e_SH[17]? = some (.inl (0, 200, none)) := rfl
theorem h_18 : e_SH[18]? = some (.inr (7, [some (.ref 19), none])) := rfl
theorem h_19 : e_SH[19]? = some (.inl (0, 200, none)) := rfl
theorem h_20 : e_SH[20]? = some (.inr (7, [some (.ref 21), none])) := rfl
theorem h_21 : e_SH[21]? = some (.inl (0, 200, none)) := rfl
theorem h_22 : e_SH[22]? = some (.inr (7, [some (.ref 23), none])) := rfl
theorem h_23 : e_SH[23]? = some (.inl (0, 30, none)) := rfl
theorem h_24 : e_SH[24]? = some (.inr (7, [some (.ref 25), none])) := rfl
theorem h_25 : e_SH[25]? = some (.inl (0, 0, none)) := rfl
theorem h_26 : e_SH[26]? = some (.inl (2, 30, some (fun b => if b < 30 then some (27 + 2 * b) else none))) := rfl
theorem h_27 : e_SH[27]? = some (.inr (7, [some (.ref 28), none])) := rfl
theorem h_28 : e_SH[28]? = some (.inl (0, 6, none)) := rfl
theorem h_29 : e_SH[29]? = some (.inr (7, [some (.ref 30), none])) := rfl
theorem h_30 : e_SH[30]? = some (.inl (0, 6, none)) := rfl
theorem h_31 : e_SH[31]? = some (.inr (7, [some (.ref 32), none])) := rfl
theorem h_32 : e_SH[32]? = some (.inl (0, 6, none)) := rfl
theorem h_33 : e_SH[33]? = some (.inr (7, [some (.ref 34), none])) := rfl
theorem h_34 : e_SH[34]? = some (.inl (0, 6, none)) := rfl
theorem h_35 : e_SH[35]? = some (.inr (7, [some (.ref 36), none])) := rfl
theorem h_36 : e_SH[36]? = some (.inl (0, 6, none)) := rfl
theorem h_37 : e_SH[37]? = some (.inr (7, [some (.ref 38), none])) := rfl
theorem h_38 : e_SH[38]? = some (.inl (0, 6, none)) := rfl
theorem h_39 : e_SH[39]? = some (.inr (7, [some (.ref 40), none])) := rfl
theorem h_40 : e_SH[40]? = some (.inl (0, 6, none)) := rfl
theorem h_41 : e_SH[41]? = some (.inr (7, [some (.ref 42), none])) := rfl
theorem h_42 : e_SH[42]? = some (.inl (0, 6, none)) := rfl
theorem h_43 : e_SH[43]? = some (.inr (7, [some (.ref 44), none])) := rfl
theorem h_44 : e_SH[44]? = some (.inl (0, 6, none)) := rfl
theorem h_45 : e_SH[45]? = some (.inr (7, [some (.ref 46), none])) := rfl
theorem h_46 : e_SH[46]? = some (.inl (0, 6, none)) := rfl
theorem h_47 : e_SH[47]? = some (.inr (7, [some (.ref 48), none])) := rfl
theorem h_48 : e_SH[48]? = some (.inl (0, 6, none)) := rfl
theorem h_49 : e_SH[49]? = some (.inr (7, [some (.ref 50), none])) := rfl
theorem h_50 : e_SH[50]? = some (.inl (0, 6, none)) := rfl
theorem h_51 : e_SH[51]? = some (.inr (7, [some (.ref 52), none])) := rfl
theorem h_52 : e_SH[52]? = some (.inl (0, 6, none)) := rfl
theorem h_53 : e_SH[53]? = some (.inr (7, [some (.ref 54), none])) := rfl
theorem h_54 : e_SH[54]? = some (.inl (0, 6, none)) := rfl
theorem h_55 : e_SH[55]? = some (.inr (7, [some (.ref 56), none])) := rfl
theorem h_56 : e_SH[56]? = some (.inl (0, 6, none)) := rfl
theorem h_57 : e_SH[57]? = some (.inr (7, [some (.ref 58), none])) := rfl
theorem h_58 : e_SH[58]? = some (.inl (0, 6, none)) := rfl
theorem h_59 : e_SH[59]? = some (.inr (7, [some (.ref 60), none])) := rfl
theorem h_60 : e_SH[60]? = some (.inl (0, 6, none)) := rfl
theorem h_61 : e_SH[61]? = some (.inr (7, [some (.ref 62), none])) := rfl
theorem h_62 : e_SH[62]? = some (.inl (0, 6, none)) := rfl
theorem h_63 : e_SH[63]? = some (.inr (7, [some (.ref 64), none])) := rfl
theorem h_64 : e_SH[64]? = some (.inl (0, 6, none)) := rfl
theorem h_65 : e_SH[65]? = some (.inr (7, [some (.ref 66), none])) := rfl
theorem h_66 : e_SH[66]? = some (.inl (0, 6, none)) := rfl
theorem h_67 : e_SH[67]? = some (.inr (7, [some (.ref 68), none])) := rfl
theorem h_68 : e_SH[68]? = some (.inl (0, 6, none)) := rfl
theorem h_69 : e_SH[69]? = some (.inr (7, [some (.ref 70), none])) := rfl
theorem h_70 : e_SH[70]? = some (.inl (0, 6, none)) := rfl
theorem h_71 : e_SH[71]? = some (.inr (7, [some (.ref 72), none])) := rfl
theorem h_72 : e_SH[72]? = some (.inl (0, 6, none)) := rfl
theorem h_73 : e_SH[73]? = some (.inr (7, [some (.ref 74), none])) := rfl
theorem h_74 : e_SH[74]? = some (.inl (0, 6, none)) := rfl
theorem h_75 : e_SH[75]? = some (.inr (7, [some (.ref 76), none])) := rfl
theorem h_76 : e_SH[76]? = some (.inl (0, 6, none)) := rfl
theorem h_77 : e_SH[77]? = some (.inr (7, [some (.ref 78), none])) := rfl
theorem h_78 : e_SH[78]? = some (.inl (0, 6, none)) := rfl
theorem h_79 : e_SH[79]? = some (.inr (7, [some (.ref 80), none])) := rfl
theorem h_80 : e_SH[80]? = some (.inl (0, 6, none)) := rfl
theorem h_81 : e_SH[81]? = some (.inr (7, [some (.ref 82), none])) := rfl
theorem h_82 : e_SH[82]? = some (.inl (0, 6, none)) := rfl
theorem h_83 : e_SH[83]? = some (.inr (7, [some (.ref 84), none])) := rfl
theorem h_84 : e_SH[84]? = some (.inl (0, 6, none)) := rfl
theorem h_85 : e_SH[85]? = some (.inr (7, [some (.ref 86), none])) := rfl
theorem h_86 : e_SH[86]? = some (.inl (0, 6, none)) := rfl
theorem h_87 : e_SH[87]? = some (.inr (0, [some (.ref 3), some (.ref 88), some (.ref 90), some (.ref 92), some (.ref 94), some (.ref 159), some (.ref 160), some (.ref 161), none, none, none])) := rfl
theorem h_88 : e_SH[88]? = some (.inr (7, [some (.ref 89), none])) := rfl
theorem h_89 : e_SH[89]? = some (.inl (0, 6, none)) := rfl
theorem h_90 : e_SH[90]? = some (.inr (7, [some (.ref 91), none])) := rfl
theorem h_91 : e_SH[91]? = some (.inl (0, 6, none)) := rfl
theorem h_92 : e_SH[92]? = some (.inr (7, [some (.ref 93), none])) := rfl
theorem h_93 : e_SH[93]? = some (.inl (0, 6, none)) := rfl
theorem h_94 : e_SH[94]? = some (.inl (3, 64, some (fun b => if b < 64 then some (95 + b) else none))) := rfl
theorem h_95 : e_SH[95]? = some (.inl (0, 30, none)) := rfl
theorem h_96 : e_SH[96]? = some (.inl (0, 30, none)) := rfl
theorem h_97 : e_SH[97]? = some (.inl (0, 30, none)) := rfl
theorem h_98 : e_SH[98]? = some (.inl (0, 30, none)) := rfl
theorem h_99 : e_SH[99]? = some (.inl (0, 30, none)) := rfl
theorem h_100 : e_SH[100]? = some (.inl (0, 30, none)) := rfl
theorem h_101 : e_SH[101]? = some (.inl (0, 30, none)) := rfl
theorem h_102 : e_SH[102]? = some (.inl (0, 30, none)) := rfl
theorem h_103 : e_SH[103]? = some (.inl (0, 30, none)) := rfl
theorem h_104 : e_SH[104]? = some (.inl (0, 30, none)) := rfl
theorem h_105 : e_SH[105]? = some (.inl (0, 30, none)) := rfl
theorem h_106 : e_SH[106]? = some (.inl (0, 30, none)) := rfl
theorem h_107 : e_SH[107]? = some (.inl (0, 30, none)) := rfl
theorem h_108 : e_SH[108]? = some (.inl (0, 30, none)) := rfl
theorem h_109 : e_SH[109]? = some (.inl (0, 30, none)) := rfl
theorem h_110 : e_SH[110]? = some (.inl (0, 30, none)) := rfl
theorem h_111 : e_SH[111]? = some (.inl (0, 30, none)) := rfl
theorem h_112 : e_SH[112]? = some (.inl (0, 30, none)) := rfl
theorem h_113 : e_SH[113]? = some (.inl (0, 30, none)) := rfl
theorem h_114 : e_SH[114]? = some (.inl (0, 30, none)) := rfl
theorem h_115 : e_SH[115]? = some (.inl (0, 30, none)) := rfl
theorem h_116 : e_SH[116]? = some (.inl (0, 30, none)) := rfl
theorem h_117 : e_SH[117]? = some (.inl (0, 30, none)) := rfl
theorem h_118 : e_SH[118]? = some (.inl (0, 30, none)) := rfl
theorem h_119 : e_SH[119]? = some (.inl (0, 30, none)) := rfl
theorem h_120 : e_SH[120]? = some (.inl (0, 30, none)) := rfl
theorem h_121 : e_SH[121]? = some (.inl (0, 30, none)) := rfl
theorem h_122 : e_SH[122]? = some (.inl (0, 30, none)) := rfl
theorem h_123 : e_SH[123]? = some (.inl (0, 30, none)) := rfl
theorem h_124 : e_SH[124]? = some (.inl (0, 30, none)) := rfl
theorem h_125 : e_SH[125]? = some (.inl (0, 30, none)) := rfl
theorem h_126 : e_SH[126]? = some (.inl (0, 30, none)) := rfl
theorem h_127 : e_SH[127]? = some (.inl (0, 30, none)) := rfl
theorem h_128 : e_SH[128]? = some (.inl (0, 30, none)) := rfl
theorem h_129 : e_SH[129]? = some (.inl (0, 30, none)) := rfl
theorem h_130 : e_SH[130]? = some (.inl (0, 30, none)) := rfl
theorem h_131 : e_SH[131]? = some (.inl (0, 30, none)) := rfl
theorem h_132 : e_SH[132]? = some (.inl (0, 30, none)) := rfl
theorem h_133 : e_SH[133]? = some (.inl (0, 30, none)) := rfl
theorem h_134 : e_SH[134]? = some (.inl (0, 30, none)) := rfl
theorem h_135 : e_SH[135]? = some (.inl (0, 30, none)) := rfl
theorem h_136 : e_SH[136]? = some (.inl (0, 30, none)) := rfl
theorem h_137 : e_SH[137]? = some (.inl (0, 30, none)) := rfl
theorem h_138 : e_SH[138]? = some (.inl (0, 30, none)) := rfl
theorem h_139 : e_SH[139]? = some (.inl (0, 30, none)) := rfl
theorem h_140 : e_SH[140]? = some (.inl (0, 30, none)) := rfl
theorem h_141 : e_SH[141]? = some (.inl (0, 30, none)) := rfl
theorem h_142 : e_SH[142]? = some (.inl (0, 30, none)) := rfl
theorem h_143 : e_SH[143]? = some (.inl (0, 30, none)) := rfl
theorem h_144 : e_SH[144]? = some (.inl (0, 30, none)) := rfl
theorem h_145 : e_SH[145]? = some (.inl (0, 30, none)) := rfl
theorem h_146 : e_SH[146]? = some (.inl (0, 30, none)) := rfl
theorem h_147 : e_SH[147]? = some (.inl (0, 30, none)) := rfl
theorem h_148 : e_SH[148]? = some (.inl (0, 30, none)) := rfl
theorem h_149 : e_SH[149]? = some (.inl (0, 30, none)) := rfl
theorem h_150 : e_SH[150]? = some (.inl (0, 30, none)) := rfl
theorem h_151 : e_SH[151]? = some (.inl (0, 30, none)) := rfl
theorem h_152 : e_SH[152]? = some (.inl (0, 30, none)) := rfl
theorem h_153 : e_SH[153]? = some (.inl (0, 30, none)) := rfl
theorem h_154 : e_SH[154]? = some (.inl (0, 30, none)) := rfl
theorem h_155 : e_SH[155]? = some (.inl (0, 30, none)) := rfl
theorem h_156 : e_SH[156]? = some (.inl (0, 30, none)) := rfl
theorem h_157 : e_SH[157]? = some (.inl (0, 30, none)) := rfl
theorem h_158 : e_SH[158]? = some (.inl (0, 30, none)) := rfl
theorem h_159 : e_SH[159]? = some (.inl (0, 7, none)) := rfl
theorem h_160 : e_SH[160]? = some (.inl (0, 7, none)) := rfl
theorem h_161 : e_SH[161]? = some (.inl (0, 7, none)) := rfl
theorem h_162 : e_SH[162]? = some (.inr (6, [some (.ref 3), some (.ref 8), some (.ref 163), some (.ref 164), none])) := rfl
theorem h_163 : e_SH[163]? = some (.inl (0, 30, none)) := rfl
theorem h_164 : e_SH[164]? = some (.inr (7, [some (.ref 165), none])) := rfl
theorem h_165 : e_SH[165]? = some (.inl (0, 30, none)) := rfl
theorem h_166 : e_SH[166]? = some (.inr (1, [some (.ref 3), some (.ref 167), some (.ref 169), none, none])) := rfl
theorem h_167 : e_SH[167]? = some (.inr (7, [some (.ref 168), none])) := rfl
theorem h_168 : e_SH[168]? = some (.inl (0, 40, none)) := rfl
theorem h_169 : e_SH[169]? = some (.inr (7, [some (.ref 170), none])) := rfl
theorem h_170 : e_SH[170]? = some (.inl (0, 40, none)) := rfl
theorem h_171 : e_SH[171]? = some (.inr (3, [some (.ref 3), some (.ref 172), some (.ref 173), some (.ref 174), some (.ref 175), some (.ref 176), some (.ref 178), some (.ref 180)])) := rfl
theorem h_172 : e_SH[172]? = some (.inl (0, 30, none)) := rfl
theorem h_173 : e_SH[173]? = some (.inl (0, 30, none)) := rfl
theorem h_174 : e_SH[174]? = some (.inl (0, 30, none)) := rfl
theorem h_175 : e_SH[175]? = some (.inl (0, 30, none)) := rfl
theorem h_176 : e_SH[176]? = some (.inr (7, [some (.ref 177), none])) := rfl
theorem h_177 : e_SH[177]? = some (.inl (0, 12, none)) := rfl
theorem h_178 : e_SH[178]? = some (.inr (7, [some (.ref 179), none])) := rfl
theorem h_179 : e_SH[179]? = some (.inl (0, 12, none)) := rfl
theorem h_180 : e_SH[180]? = some (.inr (7, [some (.ref 181), none])) := rfl
theorem h_181 : e_SH[181]? = some (.inl (0, 12, none)) := rfl
theorem h_182 : e_SH[182]? = some (.inr (11, [none, none, none, none, none, none, none, none, none, some (.ref 183), some (.ref 184), some (.ref 185), none, some (.ref 186), some (.ref 187), some (.ref 188), some (.ref 189), some (.ref 190), some (.ref 191), none, some (.ref 192), none, some (.ref 193), some (.ref 194), none, some (.ref 195), some (.ref 196), none, none, none, none, none, some (.ref 197), some (.ref 198), some (.ref 199), some (.ref 200), some (.ref 201), some (.ref 202), none, some (.ref 203), some (.ref 204), some (.ref 205), some (.ref 206), some (.ref 207)])) := rfl
theorem h_183 : e_SH[183]? = some (.inl (0, 180, none)) := rfl
theorem h_184 : e_SH[184]? = some (.inl (0, 30, none)) := rfl
theorem h_185 : e_SH[185]? = some (.inl (0, 30, none)) := rfl
theorem h_186 : e_SH[186]? = some (.inl (0, 200, none)) := rfl
theorem h_187 : e_SH[187]? = some (.inl (0, 200, none)) := rfl
theorem h_188 : e_SH[188]? = some (.inl (0, 200, none)) := rfl
theorem h_189 : e_SH[189]? = some (.inl (0, 200, none)) := rfl
theorem h_190 : e_SH[190]? = some (.inl (1, 200, none)) := rfl
theorem h_191 : e_SH[191]? = some (.inl (0, 200, none)) := rfl
theorem h_192 : e_SH[192]? = some (.inl (0, 30, none)) := rfl
theorem h_193 : e_SH[193]? = some (.inl (0, 30, none)) := rfl
theorem h_194 : e_SH[194]? = some (.inl (0, 30, none)) := rfl
theorem h_195 : e_SH[195]? = some (.inl (0, 6, none)) := rfl
theorem h_196 : e_SH[196]? = some (.inl (0, 6, none)) := rfl
theorem h_197 : e_SH[197]? = some (.inl (0, 40, none)) := rfl
theorem h_198 : e_SH[198]? = some (.inl (0, 40, none)) := rfl
theorem h_199 : e_SH[199]? = some (.inl (1, 181, none)) := rfl
theorem h_200 : e_SH[200]? = some (.inl (1, 181, none)) := rfl
theorem h_201 : e_SH[201]? = some (.inl (0, 30, none)) := rfl
theorem h_202 : e_SH[202]? = some (.inl (0, 30, none)) := rfl
theorem h_203 : e_SH[203]? = some (.inl (0, 12, none)) := rfl
theorem h_204 : e_SH[204]? = some (.inl (0, 12, none)) := rfl
theorem h_205 : e_SH[205]? = some (.inl (0, 12, none)) := rfl
theorem h_206 : e_SH[206]? = some (.inl (0, 30, none)) := rfl
theorem h_207 : e_SH[207]? = some (.inl (0, 30, none)) := rfl
