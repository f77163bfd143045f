/-! the skeleton, a cell a row -/
theorem sk_0 : am_SK[0]? = some (15, 14, [2, 8, 28, 48, 50, 52, 54, 56, 58, 61, 64, 71, 74, 76]) := by decide +kernel
theorem sk_1 : am_SK[1]? = some (13, 7, [3, 4, 5, 6, 7, 0, 0]) := by decide +kernel
theorem sk_2 : am_SK[2]? = some (1, 2000, []) := by decide +kernel
theorem sk_3 : am_SK[3]? = some (3, 19, []) := by decide +kernel
theorem sk_4 : am_SK[4]? = some (0, 401, []) := by decide +kernel
theorem sk_5 : am_SK[5]? = some (0, 401, []) := by decide +kernel
theorem sk_6 : am_SK[6]? = some (3, 401, []) := by decide +kernel
theorem sk_7 : am_SK[7]? = some (14, 21, [9, 10, 11, 12, 13, 14, 15, 16, 17, 18, 19, 20, 21, 22, 23, 24, 25, 26, 27, 0, 0]) := by decide +kernel
theorem sk_8 : am_SK[8]? = some (0, 6, []) := by decide +kernel
theorem sk_9 : am_SK[9]? = some (3, 18, []) := by decide +kernel
theorem sk_10 : am_SK[10]? = some (0, 4, []) := by decide +kernel
theorem sk_11 : am_SK[11]? = some (0, 4, []) := by decide +kernel
theorem sk_12 : am_SK[12]? = some (0, 4, []) := by decide +kernel
theorem sk_13 : am_SK[13]? = some (0, 8, []) := by decide +kernel
theorem sk_14 : am_SK[14]? = some (0, 8, []) := by decide +kernel
theorem sk_15 : am_SK[15]? = some (0, 8, []) := by decide +kernel
theorem sk_16 : am_SK[16]? = some (0, 8, []) := by decide +kernel
theorem sk_17 : am_SK[17]? = some (0, 8, []) := by decide +kernel
theorem sk_18 : am_SK[18]? = some (0, 8, []) := by decide +kernel
theorem sk_19 : am_SK[19]? = some (0, 32, []) := by decide +kernel
theorem sk_20 : am_SK[20]? = some (0, 8, []) := by decide +kernel
theorem sk_21 : am_SK[21]? = some (0, 6, []) := by decide +kernel
theorem sk_22 : am_SK[22]? = some (0, 6, []) := by decide +kernel
theorem sk_23 : am_SK[23]? = some (0, 20, []) := by decide +kernel
theorem sk_24 : am_SK[24]? = some (0, 20, []) := by decide +kernel
theorem sk_25 : am_SK[25]? = some (0, 8, []) := by decide +kernel
theorem sk_26 : am_SK[26]? = some (0, 400, []) := by decide +kernel
theorem sk_27 : am_SK[27]? = some (14, 21, [29, 30, 31, 32, 33, 34, 35, 36, 37, 38, 39, 40, 41, 42, 43, 44, 45, 46, 47, 0, 0]) := by decide +kernel
theorem sk_28 : am_SK[28]? = some (0, 6, []) := by decide +kernel
theorem sk_29 : am_SK[29]? = some (3, 18, []) := by decide +kernel
theorem sk_30 : am_SK[30]? = some (0, 4, []) := by decide +kernel
theorem sk_31 : am_SK[31]? = some (0, 4, []) := by decide +kernel
theorem sk_32 : am_SK[32]? = some (0, 4, []) := by decide +kernel
theorem sk_33 : am_SK[33]? = some (0, 8, []) := by decide +kernel
theorem sk_34 : am_SK[34]? = some (0, 8, []) := by decide +kernel
theorem sk_35 : am_SK[35]? = some (0, 8, []) := by decide +kernel
theorem sk_36 : am_SK[36]? = some (0, 8, []) := by decide +kernel
theorem sk_37 : am_SK[37]? = some (0, 8, []) := by decide +kernel
theorem sk_38 : am_SK[38]? = some (0, 8, []) := by decide +kernel
theorem sk_39 : am_SK[39]? = some (0, 32, []) := by decide +kernel
theorem sk_40 : am_SK[40]? = some (0, 8, []) := by decide +kernel
theorem sk_41 : am_SK[41]? = some (0, 6, []) := by decide +kernel
theorem sk_42 : am_SK[42]? = some (0, 6, []) := by decide +kernel
theorem sk_43 : am_SK[43]? = some (0, 20, []) := by decide +kernel
theorem sk_44 : am_SK[44]? = some (0, 20, []) := by decide +kernel
theorem sk_45 : am_SK[45]? = some (0, 8, []) := by decide +kernel
theorem sk_46 : am_SK[46]? = some (0, 400, []) := by decide +kernel
theorem sk_47 : am_SK[47]? = some (11, 12, [2, 28, 49, 0, 0, 0, 0, 0, 0, 0, 0, 0]) := by decide +kernel
theorem sk_48 : am_SK[48]? = some (0, 24, []) := by decide +kernel
theorem sk_49 : am_SK[49]? = some (12, 1, [51]) := by decide +kernel
theorem sk_50 : am_SK[50]? = some (0, 46, []) := by decide +kernel
theorem sk_51 : am_SK[51]? = some (12, 1, [53]) := by decide +kernel
theorem sk_52 : am_SK[52]? = some (0, 46, []) := by decide +kernel
theorem sk_53 : am_SK[53]? = some (10, 5, [55, 0, 0, 0, 0]) := by decide +kernel
theorem sk_54 : am_SK[54]? = some (0, 4, []) := by decide +kernel
theorem sk_55 : am_SK[55]? = some (10, 5, [57, 0, 0, 0, 0]) := by decide +kernel
theorem sk_56 : am_SK[56]? = some (0, 4, []) := by decide +kernel
theorem sk_57 : am_SK[57]? = some (6, 3, [8, 59, 60]) := by decide +kernel
theorem sk_58 : am_SK[58]? = some (0, 7, []) := by decide +kernel
theorem sk_59 : am_SK[59]? = some (0, 24, []) := by decide +kernel
theorem sk_60 : am_SK[60]? = some (7, 5, [62, 63, 0, 0, 0]) := by decide +kernel
theorem sk_61 : am_SK[61]? = some (0, 1380, []) := by decide +kernel
theorem sk_62 : am_SK[62]? = some (0, 138, []) := by decide +kernel
theorem sk_63 : am_SK[63]? = some (8, 8, [8, 65, 66, 0, 67, 68, 69, 70]) := by decide +kernel
theorem sk_64 : am_SK[64]? = some (0, 2401, []) := by decide +kernel
theorem sk_65 : am_SK[65]? = some (0, 7, []) := by decide +kernel
theorem sk_66 : am_SK[66]? = some (0, 4, []) := by decide +kernel
theorem sk_67 : am_SK[67]? = some (0, 100, []) := by decide +kernel
theorem sk_68 : am_SK[68]? = some (0, 256, []) := by decide +kernel
theorem sk_69 : am_SK[69]? = some (0, 256, []) := by decide +kernel
theorem sk_70 : am_SK[70]? = some (9, 9, [8, 58, 52, 54, 72, 73, 0, 0, 0]) := by decide +kernel
theorem sk_71 : am_SK[71]? = some (0, 256, []) := by decide +kernel
theorem sk_72 : am_SK[72]? = some (0, 64, []) := by decide +kernel
theorem sk_73 : am_SK[73]? = some (5, 9, [8, 58, 52, 54, 56, 75, 0, 0, 0]) := by decide +kernel
theorem sk_74 : am_SK[74]? = some (0, 4, []) := by decide +kernel
theorem sk_75 : am_SK[75]? = some (4, 9, [8, 58, 52, 54, 77, 78, 79, 80, 0]) := by decide +kernel
theorem sk_76 : am_SK[76]? = some (0, 30, []) := by decide +kernel
theorem sk_77 : am_SK[77]? = some (0, 30, []) := by decide +kernel
theorem sk_78 : am_SK[78]? = some (0, 30, []) := by decide +kernel
theorem sk_79 : am_SK[79]? = some (0, 32, []) := by decide +kernel
theorem sk_80 : am_SK[80]? = some (16, 88, [0, 82, 0, 83, 0, 84, 85, 86, 87, 88, 0, 0, 0, 0, 0, 0, 0, 0, 0, 0, 0, 89, 90, 91, 92, 93, 94, 95, 96, 97, 98, 99, 100, 101, 102, 103, 104, 105, 106, 107, 0, 108, 109, 110, 111, 112, 113, 114, 115, 116, 117, 118, 119, 120, 121, 122, 0, 123, 124, 125, 0, 126, 127, 0, 128, 129, 130, 0, 131, 132, 133, 0, 134, 135, 136, 137, 0, 0, 0, 138, 139, 0, 140, 141, 142, 143, 144, 145]) := by decide +kernel
theorem sk_81 : am_SK[81]? = some (1, 2000, []) := by decide +kernel
theorem sk_82 : am_SK[82]? = some (1, 2000, []) := by decide +kernel
theorem sk_83 : am_SK[83]? = some (0, 403, []) := by decide +kernel
theorem sk_84 : am_SK[84]? = some (0, 403, []) := by decide +kernel
theorem sk_85 : am_SK[85]? = some (0, 403, []) := by decide +kernel
theorem sk_86 : am_SK[86]? = some (3, 403, []) := by decide +kernel
theorem sk_87 : am_SK[87]? = some (3, 19, []) := by decide +kernel
theorem sk_88 : am_SK[88]? = some (3, 24, []) := by decide +kernel
theorem sk_89 : am_SK[89]? = some (0, 24, []) := by decide +kernel
theorem sk_90 : am_SK[90]? = some (0, 24, []) := by decide +kernel
theorem sk_91 : am_SK[91]? = some (0, 2, []) := by decide +kernel
theorem sk_92 : am_SK[92]? = some (0, 8, []) := by decide +kernel
theorem sk_93 : am_SK[93]? = some (0, 8, []) := by decide +kernel
theorem sk_94 : am_SK[94]? = some (0, 8, []) := by decide +kernel
theorem sk_95 : am_SK[95]? = some (0, 2, []) := by decide +kernel
theorem sk_96 : am_SK[96]? = some (0, 16, []) := by decide +kernel
theorem sk_97 : am_SK[97]? = some (0, 16, []) := by decide +kernel
theorem sk_98 : am_SK[98]? = some (0, 16, []) := by decide +kernel
theorem sk_99 : am_SK[99]? = some (0, 16, []) := by decide +kernel
theorem sk_100 : am_SK[100]? = some (0, 16, []) := by decide +kernel
theorem sk_101 : am_SK[101]? = some (0, 16, []) := by decide +kernel
theorem sk_102 : am_SK[102]? = some (2, 64, []) := by decide +kernel
theorem sk_103 : am_SK[103]? = some (0, 64, []) := by decide +kernel
theorem sk_104 : am_SK[104]? = some (0, 2, []) := by decide +kernel
theorem sk_105 : am_SK[105]? = some (0, 16, []) := by decide +kernel
theorem sk_106 : am_SK[106]? = some (0, 16, []) := by decide +kernel
theorem sk_107 : am_SK[107]? = some (2, 100, []) := by decide +kernel
theorem sk_108 : am_SK[108]? = some (0, 100, []) := by decide +kernel
theorem sk_109 : am_SK[109]? = some (0, 100, []) := by decide +kernel
theorem sk_110 : am_SK[110]? = some (0, 100, []) := by decide +kernel
theorem sk_111 : am_SK[111]? = some (0, 100, []) := by decide +kernel
theorem sk_112 : am_SK[112]? = some (0, 2, []) := by decide +kernel
theorem sk_113 : am_SK[113]? = some (0, 12, []) := by decide +kernel
theorem sk_114 : am_SK[114]? = some (0, 12, []) := by decide +kernel
theorem sk_115 : am_SK[115]? = some (0, 2, []) := by decide +kernel
theorem sk_116 : am_SK[116]? = some (0, 40, []) := by decide +kernel
theorem sk_117 : am_SK[117]? = some (0, 40, []) := by decide +kernel
theorem sk_118 : am_SK[118]? = some (0, 2, []) := by decide +kernel
theorem sk_119 : am_SK[119]? = some (0, 40, []) := by decide +kernel
theorem sk_120 : am_SK[120]? = some (0, 40, []) := by decide +kernel
theorem sk_121 : am_SK[121]? = some (0, 40, []) := by decide +kernel
theorem sk_122 : am_SK[122]? = some (0, 840, []) := by decide +kernel
theorem sk_123 : am_SK[123]? = some (0, 840, []) := by decide +kernel
theorem sk_124 : am_SK[124]? = some (0, 64, []) := by decide +kernel
theorem sk_125 : am_SK[125]? = some (0, 7, []) := by decide +kernel
theorem sk_126 : am_SK[126]? = some (0, 400, []) := by decide +kernel
theorem sk_127 : am_SK[127]? = some (0, 60, []) := by decide +kernel
theorem sk_128 : am_SK[128]? = some (0, 60, []) := by decide +kernel
theorem sk_129 : am_SK[129]? = some (0, 4, []) := by decide +kernel
theorem sk_130 : am_SK[130]? = some (0, 1800, []) := by decide +kernel
theorem sk_131 : am_SK[131]? = some (0, 28561, []) := by decide +kernel
theorem sk_132 : am_SK[132]? = some (2, 28561, []) := by decide +kernel
theorem sk_133 : am_SK[133]? = some (0, 4, []) := by decide +kernel
theorem sk_134 : am_SK[134]? = some (0, 256, []) := by decide +kernel
theorem sk_135 : am_SK[135]? = some (0, 4, []) := by decide +kernel
theorem sk_136 : am_SK[136]? = some (0, 4, []) := by decide +kernel
theorem sk_137 : am_SK[137]? = some (0, 256, []) := by decide +kernel
theorem sk_138 : am_SK[138]? = some (0, 256, []) := by decide +kernel
theorem sk_139 : am_SK[139]? = some (0, 30, []) := by decide +kernel
theorem sk_140 : am_SK[140]? = some (0, 30, []) := by decide +kernel
theorem sk_141 : am_SK[141]? = some (0, 30, []) := by decide +kernel
theorem sk_142 : am_SK[142]? = some (0, 32, []) := by decide +kernel
theorem sk_143 : am_SK[143]? = some (2, 3, []) := by decide +kernel
theorem sk_144 : am_SK[144]? = some (0, 180, []) := by decide +kernel
def am_kb (mid pc : Nat) (e : am_E) : Bool := match am_code mid pc, e with
  | some (op, len, a, b, d, c, ks, offs), (op', len', a', b', d', c', ks', offs') => decide (op = op') && (decide (len = len') && (decide (a = a') && (decide (b = b') && (decide (d = d') && (decide (c = c') && (decide (ks = ks') && decide (offs = offs')))))))
  | none, _ => false
theorem am_kb_eq {mid pc : Nat} {e : am_E} (h : am_kb mid pc e = true) : am_code mid pc = some e := by
  unfold am_kb at h
  split at h
  next h1 =>
    simp only [Bool.and_eq_true, decide_eq_true_eq] at h
    obtain ⟨rfl, rfl, rfl, rfl, rfl, rfl, rfl, rfl⟩ := h
    exact h1
  next => cases h
theorem am_kn_eq {mid pc : Nat} (h : (am_code mid pc).isNone = true) : am_code mid pc = none := by
  cases hq : am_code mid pc with
  | none => rfl
  | some e => rw [hq] at h; cases h
