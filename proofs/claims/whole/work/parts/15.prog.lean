/-! the program tables are right -/
theorem am_find_mem : ∀ {es : List (Nat × am_E)} {q : Nat} {e : am_E}, am_find es q = some e → (q, e) ∈ es
  | [], q, e, h => by cases h
  | (p, e') :: r, q, e, h => by
    unfold am_find at h
    split at h
    next z => cases h; subst z; exact List.mem_cons_self
    next => exact List.mem_cons_of_mem _ (am_find_mem h)
theorem am_tk_mem {d : Nat} {w : Cond} (h : am_tk d = some w) : w ∈ am_T := by
  unfold am_tk at h
  have h1 := List.mem_of_getElem? h
  unfold am_T
  rw [List.mem_flatten]
  rw [List.getD_eq_getElem?_getD] at h1
  cases hc : am_wss[d / 64]? with
  | none => rw [hc] at h1; cases h1
  | some c => rw [hc] at h1; exact ⟨c, List.mem_of_getElem? hc, h1⟩
theorem am_tk_good {d : Nat} {w : Cond} (h : am_tk d = some w) (hd : d < 1984) : w ∈ am_Tg := by
  unfold am_tk at h
  have h1 := List.mem_of_getElem? h
  unfold am_Tg
  rw [List.mem_flatten]
  rw [List.getD_eq_getElem?_getD] at h1
  cases hc : am_wss[d / 64]? with
  | none => rw [hc] at h1; cases h1
  | some c =>
    rw [hc] at h1
    refine ⟨c, List.mem_of_getElem? (i := d / 64) ?_, h1⟩
    rw [List.getElem?_take]
    rw [if_pos (by omega)]
    exact hc
theorem cc_0 : ∀ j, j < 40 → am_all (40 * 0 + j) (am_prog0.getD j []) = true
  | 0, _ => ck_0
  | 1, _ => ck_1
  | 2, _ => ck_2
  | 3, _ => ck_3
  | 4, _ => ck_4
  | 5, _ => ck_5
  | 6, _ => ck_6
  | 7, _ => ck_7
  | 8, _ => ck_8
  | 9, _ => ck_9
  | 10, _ => ck_10
  | 11, _ => ck_11
  | 12, _ => ck_12
  | 13, _ => ck_13
  | 14, _ => ck_14
  | 15, _ => ck_15
  | 16, _ => ck_16
  | 17, _ => ck_17
  | 18, _ => ck_18
  | 19, _ => ck_19
  | 20, _ => ck_20
  | 21, _ => ck_21
  | 22, _ => ck_22
  | 23, _ => ck_23
  | 24, _ => ck_24
  | 25, _ => ck_25
  | 26, _ => ck_26
  | 27, _ => ck_27
  | 28, _ => ck_28
  | 29, _ => ck_29
  | 30, _ => ck_30
  | 31, _ => ck_31
  | 32, _ => ck_32
  | 33, _ => ck_33
  | 34, _ => ck_34
  | 35, _ => ck_35
  | 36, _ => ck_36
  | 37, _ => ck_37
  | 38, _ => ck_38
  | 39, _ => ck_39
  | _ + 40, h => absurd h (by omega)
theorem cc_1 : ∀ j, j < 40 → am_all (40 * 1 + j) (am_prog1.getD j []) = true
  | 0, _ => ck_40
  | 1, _ => ck_41
  | 2, _ => ck_42
  | 3, _ => ck_43
  | 4, _ => ck_44
  | 5, _ => ck_45
  | 6, _ => ck_46
  | 7, _ => ck_47
  | 8, _ => ck_48
  | 9, _ => ck_49
  | 10, _ => ck_50
  | 11, _ => ck_51
  | 12, _ => ck_52
  | 13, _ => ck_53
  | 14, _ => ck_54
  | 15, _ => ck_55
  | 16, _ => ck_56
  | 17, _ => ck_57
  | 18, _ => ck_58
  | 19, _ => ck_59
  | 20, _ => ck_60
  | 21, _ => ck_61
  | 22, _ => ck_62
  | 23, _ => ck_63
  | 24, _ => ck_64
  | 25, _ => ck_65
  | 26, _ => ck_66
  | 27, _ => ck_67
  | 28, _ => ck_68
  | 29, _ => ck_69
  | 30, _ => ck_70
  | 31, _ => ck_71
  | 32, _ => ck_72
  | 33, _ => ck_73
  | 34, _ => ck_74
  | 35, _ => ck_75
  | 36, _ => ck_76
  | 37, _ => ck_77
  | 38, _ => ck_78
  | 39, _ => ck_79
  | _ + 40, h => absurd h (by omega)
theorem cc_2 : ∀ j, j < 40 → am_all (40 * 2 + j) (am_prog2.getD j []) = true
  | 0, _ => ck_80
  | 1, _ => ck_81
  | 2, _ => ck_82
  | 3, _ => ck_83
  | 4, _ => ck_84
  | 5, _ => ck_85
  | 6, _ => ck_86
  | 7, _ => ck_87
  | 8, _ => ck_88
  | 9, _ => ck_89
  | 10, _ => ck_90
  | 11, _ => ck_91
  | 12, _ => ck_92
  | 13, _ => ck_93
  | 14, _ => ck_94
  | 15, _ => ck_95
  | 16, _ => ck_96
  | 17, _ => ck_97
  | 18, _ => ck_98
  | 19, _ => ck_99
  | 20, _ => ck_100
  | 21, _ => ck_101
  | 22, _ => ck_102
  | 23, _ => ck_103
  | 24, _ => ck_104
  | 25, _ => ck_105
  | 26, _ => ck_106
  | 27, _ => ck_107
  | 28, _ => ck_108
  | 29, _ => ck_109
  | 30, _ => ck_110
  | 31, _ => ck_111
  | 32, _ => ck_112
  | 33, _ => ck_113
  | 34, _ => ck_114
  | 35, _ => ck_115
  | 36, _ => ck_116
  | 37, _ => ck_117
  | 38, _ => ck_118
  | 39, _ => ck_119
  | _ + 40, h => absurd h (by omega)
theorem cc_3 : ∀ j, j < 40 → am_all (40 * 3 + j) (am_prog3.getD j []) = true
  | 0, _ => ck_120
  | 1, _ => ck_121
  | 2, _ => ck_122
  | 3, _ => ck_123
  | 4, _ => ck_124
  | 5, _ => ck_125
  | 6, _ => ck_126
  | 7, _ => ck_127
  | 8, _ => ck_128
  | 9, _ => ck_129
  | 10, _ => ck_130
  | 11, _ => ck_131
  | 12, _ => ck_132
  | 13, _ => ck_133
  | 14, _ => ck_134
  | 15, _ => ck_135
  | 16, _ => ck_136
  | 17, _ => ck_137
  | 18, _ => ck_138
  | 19, _ => ck_139
  | 20, _ => ck_140
  | 21, _ => ck_141
  | 22, _ => ck_142
  | 23, _ => ck_143
  | 24, _ => ck_144
  | 25, _ => ck_145
  | 26, _ => ck_146
  | 27, _ => ck_147
  | 28, _ => ck_148
  | 29, _ => ck_149
  | 30, _ => ck_150
  | 31, _ => ck_151
  | 32, _ => ck_152
  | 33, _ => ck_153
  | 34, _ => ck_154
  | 35, _ => ck_155
  | 36, _ => ck_156
  | 37, _ => ck_157
  | 38, _ => ck_158
  | 39, _ => ck_159
  | _ + 40, h => absurd h (by omega)
theorem cc_4 : ∀ j, j < 40 → am_all (40 * 4 + j) (am_prog4.getD j []) = true
  | 0, _ => ck_160
  | 1, _ => ck_161
  | 2, _ => ck_162
  | 3, _ => ck_163
  | 4, _ => ck_164
  | 5, _ => ck_165
  | 6, _ => ck_166
  | 7, _ => ck_167
  | 8, _ => ck_168
  | 9, _ => ck_169
  | 10, _ => ck_170
  | 11, _ => ck_171
  | 12, _ => ck_172
  | 13, _ => ck_173
  | 14, _ => ck_174
  | 15, _ => ck_175
  | 16, _ => ck_176
  | 17, _ => ck_177
  | 18, _ => ck_178
  | 19, _ => ck_179
  | 20, _ => ck_180
  | 21, _ => ck_181
  | 22, _ => ck_182
  | 23, _ => ck_183
  | 24, _ => ck_184
  | 25, _ => ck_185
  | 26, _ => ck_186
  | 27, _ => ck_187
  | 28, _ => ck_188
  | 29, _ => ck_189
  | 30, _ => ck_190
  | 31, _ => ck_191
  | 32, _ => ck_192
  | 33, _ => ck_193
  | 34, _ => ck_194
  | 35, _ => ck_195
  | 36, _ => ck_196
  | 37, _ => ck_197
  | 38, _ => ck_198
  | 39, _ => ck_199
  | _ + 40, h => absurd h (by omega)
theorem cc_5 : ∀ j, j < 40 → am_all (40 * 5 + j) (am_prog5.getD j []) = true
  | 0, _ => ck_200
  | 1, _ => ck_201
  | 2, _ => ck_202
  | 3, _ => ck_203
  | 4, _ => ck_204
  | 5, _ => ck_205
  | 6, _ => ck_206
  | 7, _ => ck_207
  | 8, _ => ck_208
  | 9, _ => ck_209
  | 10, _ => ck_210
  | 11, _ => ck_211
  | 12, _ => ck_212
  | 13, _ => ck_213
  | 14, _ => ck_214
  | 15, _ => ck_215
  | 16, _ => ck_216
  | 17, _ => ck_217
  | 18, _ => ck_218
  | 19, _ => ck_219
  | 20, _ => ck_220
  | 21, _ => ck_221
  | 22, _ => ck_222
  | 23, _ => ck_223
  | 24, _ => ck_224
  | 25, _ => ck_225
  | 26, _ => ck_226
  | 27, _ => ck_227
  | 28, _ => ck_228
  | 29, _ => ck_229
  | 30, _ => ck_230
  | 31, _ => ck_231
  | 32, _ => ck_232
  | 33, _ => ck_233
  | 34, _ => ck_234
  | 35, _ => ck_235
  | 36, _ => ck_236
  | 37, _ => ck_237
  | 38, _ => ck_238
  | 39, _ => ck_239
  | _ + 40, h => absurd h (by omega)
theorem cc_6 : ∀ j, j < 40 → am_all (40 * 6 + j) (am_prog6.getD j []) = true
  | 0, _ => ck_240
  | 1, _ => ck_241
  | 2, _ => ck_242
  | 3, _ => ck_243
  | 4, _ => ck_244
  | 5, _ => ck_245
  | 6, _ => ck_246
  | 7, _ => ck_247
  | 8, _ => ck_248
  | 9, _ => ck_249
  | 10, _ => ck_250
  | 11, _ => ck_251
  | 12, _ => ck_252
  | 13, _ => ck_253
  | 14, _ => ck_254
  | 15, _ => ck_255
  | 16, _ => ck_256
  | 17, _ => ck_257
  | 18, _ => ck_258
  | 19, _ => ck_259
  | 20, _ => ck_260
  | 21, _ => ck_261
  | 22, _ => ck_262
  | 23, _ => ck_263
  | 24, _ => ck_264
  | 25, _ => ck_265
  | 26, _ => ck_266
  | 27, _ => ck_267
  | 28, _ => ck_268
  | 29, _ => ck_269
  | 30, _ => ck_270
  | 31, _ => ck_271
  | 32, _ => ck_272
  | 33, _ => ck_273
  | 34, _ => ck_274
  | 35, _ => ck_275
  | 36, _ => ck_276
  | 37, _ => ck_277
  | 38, _ => ck_278
  | 39, _ => ck_279
  | _ + 40, h => absurd h (by omega)
theorem cc_7 : ∀ j, j < 40 → am_all (40 * 7 + j) (am_prog7.getD j []) = true
  | 0, _ => ck_280
  | 1, _ => ck_281
  | 2, _ => ck_282
  | 3, _ => ck_283
  | 4, _ => ck_284
  | 5, _ => ck_285
  | 6, _ => ck_286
  | 7, _ => ck_287
  | 8, _ => ck_288
  | 9, _ => ck_289
  | 10, _ => ck_290
  | 11, _ => ck_291
  | _ + 12, _ => rfl
theorem am_ck_all (mid : Nat) : am_all mid (am_prog mid) = true := by
  unfold am_prog
  have h := Nat.div_add_mod mid 40
  have hj := Nat.mod_lt mid (show 0 < 40 by omega)
  generalize mid / 40 = k at h ⊢
  generalize mid % 40 = j at h hj ⊢
  subst h
  match k with
  | 0 => exact cc_0 j hj
  | 1 => exact cc_1 j hj
  | 2 => exact cc_2 j hj
  | 3 => exact cc_3 j hj
  | 4 => exact cc_4 j hj
  | 5 => exact cc_5 j hj
  | 6 => exact cc_6 j hj
  | 7 => exact cc_7 j hj
  | _ + 8 => rfl
theorem am_hchk (mid pc : Nat) (e : am_E) (h : am_code mid pc = some e) : am_chk am_ftab am_tk am_cls am_rcls am_strs am_y am_bc am_mL am_np am_fr am_lo am_rt mid pc e = true :=
  List.all_eq_true.mp (am_ck_all mid) (pc, e) (am_find_mem h)
def am_mh : List (List (Nat × Nat)) := [[(0, 107), (134, 108), (1308, 125), (578, 108), (1585, 125), (590, 108), (1592, 125), (594, 108), (1596, 125), (866, 108), (1696, 125), (870, 108), (1700, 125), (894, 108), (1710, 125), (910, 108), (1717, 125), (953, 108), (1742, 125), (969, 108), (1764, 125), (991, 108), (1777, 125), (1002, 108), (1784, 125), (1010, 108), (1788, 125), (1028, 108), (1792, 125), (1063, 108), (1811, 125), (1071, 108), (1815, 125), (1075, 108), (1822, 125), (1094, 108), (1826, 125), (1099, 108), (1831, 125), (1132, 108)],
  [(1848, 125), (1143, 108), (1855, 125), (1152, 108), (1859, 125), (1161, 108), (1863, 125), (1193, 108), (1873, 125), (1213, 108), (1880, 125), (1218, 108), (1888, 125), (1227, 108), (1892, 125), (1231, 108), (1896, 125), (1239, 108), (1900, 125), (1243, 108), (1904, 125), (1265, 108), (1911, 125), (1274, 108), (1915, 125), (1282, 108), (1919, 125), (1290, 108), (1923, 125), (1298, 108), (1927, 125), (142, 109), (220, 114), (293, 116), (335, 117), (344, 118), (366, 119), (381, 120), (403, 121), (434, 122)],
  [(468, 123), (502, 124), (1312, 125), (582, 109), (586, 109), (1588, 125), (598, 116), (843, 114), (854, 117), (862, 120), (1599, 125), (1617, 125), (1620, 125), (1686, 125), (873, 108), (878, 117), (882, 117), (886, 117), (890, 117), (1703, 125), (897, 108), (902, 117), (906, 117), (1713, 125), (913, 108), (916, 108), (920, 119), (1720, 125), (1723, 125), (1726, 125), (1738, 125), (957, 119), (1745, 125), (974, 120), (979, 119), (1767, 125), (1773, 125), (995, 117), (924, 117), (1706, 125)],
  [(1780, 125), (1006, 120), (1014, 123), (965, 119), (1033, 119), (1037, 121), (1058, 121), (1795, 125), (1067, 121), (1760, 125), (1754, 125), (1729, 125), (1801, 125), (1692, 125), (1818, 125), (1079, 118), (1084, 121), (1102, 108), (1106, 122), (1834, 125), (1837, 125), (1841, 125), (1136, 122), (1851, 125), (1147, 122), (1117, 129), (1844, 125), (1156, 123), (1770, 125), (1165, 123), (1866, 125), (1869, 125), (1197, 123), (1209, 117), (1876, 125), (1883, 125), (721, 114), (1222, 121), (1689, 125), (1235, 124)],
  [(1247, 124), (1251, 124), (1907, 125), (1269, 124), (1278, 124), (1286, 120), (1294, 120), (1302, 117), (929, 117), (147, 110), (156, 110), (189, 109), (224, 115), (1315, 125), (602, 114), (606, 109), (686, 116), (738, 116), (776, 116), (783, 116), (794, 116), (801, 116), (692, 116), (846, 114), (710, 114), (1602, 125), (1605, 125), (1608, 125), (1611, 125), (1614, 125), (1623, 125), (1632, 125), (1650, 125), (1659, 125), (1677, 125), (1680, 125), (1683, 125), (1626, 125), (934, 118), (940, 119)],
  [(949, 118), (1732, 125), (961, 119), (1748, 125), (983, 117), (987, 117), (745, 115), (1018, 117), (1021, 123), (725, 114), (1041, 121), (1798, 125), (1804, 125), (1751, 125), (1757, 125), (1807, 125), (1088, 121), (1113, 122), (1169, 123), (1176, 123), (1182, 123), (1187, 123), (1201, 117), (1204, 123), (1256, 124), (151, 110), (160, 110), (163, 111), (609, 109), (612, 109), (689, 116), (698, 116), (731, 116), (695, 116), (735, 114), (742, 114), (751, 116), (754, 116), (780, 114), (786, 116)],
  [(791, 114), (728, 116), (798, 114), (761, 116), (805, 114), (808, 116), (811, 116), (821, 114), (1629, 125), (1635, 125), (1644, 125), (1638, 125), (1647, 125), (1653, 125), (1656, 125), (1662, 125), (1674, 125), (1641, 125), (943, 119), (1735, 125), (748, 115), (1044, 121), (1047, 121), (1054, 121), (1123, 122), (615, 109), (618, 109), (621, 109), (624, 109), (628, 110), (702, 114), (758, 114), (769, 114), (773, 114), (717, 114), (765, 116), (706, 114), (839, 114), (814, 116), (817, 116)],
  [(828, 116), (831, 116), (1665, 125), (1671, 125), (632, 110), (713, 114), (825, 114), (834, 116), (1668, 125), (636, 111), (639, 111), (648, 111)]]
def am_hB (a : Nat) : Bool := match (am_mh.getD (a / 40) [])[a % 40]? with
  | some (i, j) => decide (am_tk i = some (.code (am_y a) (am_bc a) (am_mL a) (am_rt a))) && (decide (i < 1984) && (decide (am_tk j = some (.initialized (am_y a).cls)) && (decide (j < 1984) && (decide ((am_y a).cls ≠ "java/lang/invoke/MethodHandle") && (decide ((am_y a).cls ≠ "java/lang/invoke/VarHandle") && (decide ((parseMethodDescriptor (am_y a).desc).map (fun d => d.parameters.length) = some (am_np a)) && plainName (am_y a).cls))))))
  | none => false
theorem am_hB_ok {a : Nat} (h : am_hB a = true) : am_mOk am_Tg am_y am_bc am_mL am_rt am_np a := by
  unfold am_hB at h
  split at h
  next i j _ =>
    simp only [Bool.and_eq_true, decide_eq_true_eq] at h
    obtain ⟨h1, h2, h3, h4, h5, h6, h7, h8⟩ := h
    exact ⟨am_tk_good h1 h2, am_tk_good h3 h4, h5, h6, h7, h8⟩
  next => cases h
def am_callees : List Nat := (List.range 292).drop 1
set_option maxRecDepth 100000 in
theorem am_hB_all : am_callees.all am_hB = true := by decide +kernel
def am_okCall (e : am_E) : Bool := if e.1 = 29 then decide (1 ≤ e.2.2.1) && decide (e.2.2.1 < 292) else true
def am_oc (es : List (Nat × am_E)) : Bool := es.all (fun q => am_okCall q.2)
set_option maxRecDepth 100000 in
theorem oc_0 : am_prog0.all am_oc = true := by decide +kernel
set_option maxRecDepth 100000 in
theorem oc_1 : am_prog1.all am_oc = true := by decide +kernel
set_option maxRecDepth 100000 in
theorem oc_2 : am_prog2.all am_oc = true := by decide +kernel
set_option maxRecDepth 100000 in
theorem oc_3 : am_prog3.all am_oc = true := by decide +kernel
set_option maxRecDepth 100000 in
theorem oc_4 : am_prog4.all am_oc = true := by decide +kernel
set_option maxRecDepth 100000 in
theorem oc_5 : am_prog5.all am_oc = true := by decide +kernel
set_option maxRecDepth 100000 in
theorem oc_6 : am_prog6.all am_oc = true := by decide +kernel
set_option maxRecDepth 100000 in
theorem oc_7 : am_prog7.all am_oc = true := by decide +kernel
theorem am_oc_all : ∀ c ∈ am_progs, c.all am_oc = true := List.forall_mem_cons.mpr ⟨oc_0, List.forall_mem_cons.mpr ⟨oc_1, List.forall_mem_cons.mpr ⟨oc_2, List.forall_mem_cons.mpr ⟨oc_3, List.forall_mem_cons.mpr ⟨oc_4, List.forall_mem_cons.mpr ⟨oc_5, List.forall_mem_cons.mpr ⟨oc_6, List.forall_mem_cons.mpr ⟨oc_7, fun _ h => absurd h List.not_mem_nil⟩⟩⟩⟩⟩⟩⟩⟩
theorem am_hm (mid pc : Nat) (e : am_E) (h : am_code mid pc = some e) (he : e.1 = 29) : am_mOk am_Tg am_y am_bc am_mL am_rt am_np e.2.2.1 := by
  have h1 : (pc, e) ∈ am_prog mid := am_find_mem h
  have h2 : am_okCall e = true := by
    unfold am_prog at h1
    rw [List.getD_eq_getElem?_getD, List.getD_eq_getElem?_getD] at h1
    cases hc : am_progs[mid / 40]? with
    | none => rw [hc] at h1; simp at h1
    | some c =>
      rw [hc] at h1
      have h3 := am_oc_all c (List.mem_of_getElem? hc)
      cases hd : c[mid % 40]? with
      | none => rw [Option.getD_some, hd] at h1; simp at h1
      | some es =>
        rw [Option.getD_some, hd] at h1
        have h4 := List.all_eq_true.mp h3 es (List.mem_of_getElem? hd)
        exact List.all_eq_true.mp h4 (pc, e) h1
  unfold am_okCall at h2
  rw [if_pos he] at h2
  simp only [Bool.and_eq_true, decide_eq_true_eq] at h2
  refine am_hB_ok (List.all_eq_true.mp am_hB_all _ ?_)
  unfold am_callees
  rw [List.mem_drop_iff_getElem]
  exact ⟨e.2.2.1 - 1, by simp; omega, by simp; omega⟩
def am_ftB (t : Nat) (ty : FieldType) (fin : Bool) : Bool := match t with
  | 0 => decide (ty = .int) && decide (fin = false)
  | 2 => decide (ty = .boolean) && decide (fin = false)
  | 3 => decide (ty = .long) && decide (fin = false)
  | 4 => decide (fin = true) && (match ty with
    | .object _ => true
    | .array _ => true
    | _ => false)
  | _ => false
theorem am_ftB_ok {t : Nat} {ty : FieldType} {fin : Bool} (h : am_ftB t ty fin = true) : am_ftOk t ty fin := by
  unfold am_ftB at h
  split at h
  · simp only [Bool.and_eq_true, decide_eq_true_eq] at h; exact Or.inl ⟨rfl, h.1, h.2⟩
  · simp only [Bool.and_eq_true, decide_eq_true_eq] at h; exact Or.inr (Or.inl ⟨rfl, h.1, h.2⟩)
  · simp only [Bool.and_eq_true, decide_eq_true_eq] at h; exact Or.inr (Or.inr (Or.inl ⟨rfl, h.1, h.2⟩))
  · simp only [Bool.and_eq_true, decide_eq_true_eq] at h
    refine Or.inr (Or.inr (Or.inr ⟨rfl, h.1, ?_⟩))
    split at h
    · exact Or.inl ⟨_, rfl⟩
    · exact Or.inr ⟨_, rfl⟩
    · cases h.2
  · cases h
set_option maxRecDepth 100000 in
theorem cl_w0 : ∀ w ∈ u_ws "EatenToll$Book" ct_0 9, w ∈ am_T := by decide +kernel
theorem cl_n0 : ∀ a, a < 9 → ∀ b, b < 9 → a ≠ b → (ct_0 a).2.1 ≠ (ct_0 b).2.1 := by decide +kernel
def cl_tb0 (j : Nat) : Bool := decide ((ct_0 j).1 = "EatenToll$Book") && (match parseFieldDescriptor (ct_0 j).2.2.1 with
  | some ty => am_ftB (am_ft am_ftab 0 j) ty (ct_0 j).2.2.2
  | none => false)
theorem cl_t0 : ∀ j, j < 9 → cl_tb0 j = true := by decide +kernel
set_option maxRecDepth 100000 in
theorem cl_w1 : ∀ w ∈ u_ws "EatenToll$Guesser" ct_1 9, w ∈ am_T := by decide +kernel
theorem cl_n1 : ∀ a, a < 9 → ∀ b, b < 9 → a ≠ b → (ct_1 a).2.1 ≠ (ct_1 b).2.1 := by decide +kernel
def cl_tb1 (j : Nat) : Bool := decide ((ct_1 j).1 = "EatenToll$Guesser") && (match parseFieldDescriptor (ct_1 j).2.2.1 with
  | some ty => am_ftB (am_ft am_ftab 1 j) ty (ct_1 j).2.2.2
  | none => false)
theorem cl_t1 : ∀ j, j < 9 → cl_tb1 j = true := by decide +kernel
set_option maxRecDepth 100000 in
theorem cl_w2 : ∀ w ∈ u_ws "EatenToll$Keeper" ct_2 3, w ∈ am_T := by decide +kernel
theorem cl_n2 : ∀ a, a < 3 → ∀ b, b < 3 → a ≠ b → (ct_2 a).2.1 ≠ (ct_2 b).2.1 := by decide +kernel
def cl_tb2 (j : Nat) : Bool := decide ((ct_2 j).1 = "EatenToll$Keeper") && (match parseFieldDescriptor (ct_2 j).2.2.1 with
  | some ty => am_ftB (am_ft am_ftab 2 j) ty (ct_2 j).2.2.2
  | none => false)
theorem cl_t2 : ∀ j, j < 3 → cl_tb2 j = true := by decide +kernel
set_option maxRecDepth 100000 in
theorem cl_w3 : ∀ w ∈ u_ws "EatenToll$Memory" ct_3 5, w ∈ am_T := by decide +kernel
theorem cl_n3 : ∀ a, a < 5 → ∀ b, b < 5 → a ≠ b → (ct_3 a).2.1 ≠ (ct_3 b).2.1 := by decide +kernel
def cl_tb3 (j : Nat) : Bool := decide ((ct_3 j).1 = "EatenToll$Memory") && (match parseFieldDescriptor (ct_3 j).2.2.1 with
  | some ty => am_ftB (am_ft am_ftab 3 j) ty (ct_3 j).2.2.2
  | none => false)
theorem cl_t3 : ∀ j, j < 5 → cl_tb3 j = true := by decide +kernel
set_option maxRecDepth 100000 in
theorem cl_w4 : ∀ w ∈ u_ws "EatenToll$Mouths" ct_4 8, w ∈ am_T := by decide +kernel
theorem cl_n4 : ∀ a, a < 8 → ∀ b, b < 8 → a ≠ b → (ct_4 a).2.1 ≠ (ct_4 b).2.1 := by decide +kernel
def cl_tb4 (j : Nat) : Bool := decide ((ct_4 j).1 = "EatenToll$Mouths") && (match parseFieldDescriptor (ct_4 j).2.2.1 with
  | some ty => am_ftB (am_ft am_ftab 4 j) ty (ct_4 j).2.2.2
  | none => false)
theorem cl_t4 : ∀ j, j < 8 → cl_tb4 j = true := by decide +kernel
set_option maxRecDepth 100000 in
theorem cl_w5 : ∀ w ∈ u_ws "EatenToll$Planner" ct_5 9, w ∈ am_T := by decide +kernel
theorem cl_n5 : ∀ a, a < 9 → ∀ b, b < 9 → a ≠ b → (ct_5 a).2.1 ≠ (ct_5 b).2.1 := by decide +kernel
def cl_tb5 (j : Nat) : Bool := decide ((ct_5 j).1 = "EatenToll$Planner") && (match parseFieldDescriptor (ct_5 j).2.2.1 with
  | some ty => am_ftB (am_ft am_ftab 5 j) ty (ct_5 j).2.2.2
  | none => false)
theorem cl_t5 : ∀ j, j < 9 → cl_tb5 j = true := by decide +kernel
set_option maxRecDepth 100000 in
theorem cl_w6 : ∀ w ∈ u_ws "EatenToll$Plate" ct_6 5, w ∈ am_T := by decide +kernel
theorem cl_n6 : ∀ a, a < 5 → ∀ b, b < 5 → a ≠ b → (ct_6 a).2.1 ≠ (ct_6 b).2.1 := by decide +kernel
def cl_tb6 (j : Nat) : Bool := decide ((ct_6 j).1 = "EatenToll$Plate") && (match parseFieldDescriptor (ct_6 j).2.2.1 with
  | some ty => am_ftB (am_ft am_ftab 6 j) ty (ct_6 j).2.2.2
  | none => false)
theorem cl_t6 : ∀ j, j < 5 → cl_tb6 j = true := by decide +kernel
set_option maxRecDepth 100000 in
theorem cl_w7 : ∀ w ∈ u_ws "EatenToll$Reader" ct_7 12, w ∈ am_T := by decide +kernel
theorem cl_n7 : ∀ a, a < 12 → ∀ b, b < 12 → a ≠ b → (ct_7 a).2.1 ≠ (ct_7 b).2.1 := by decide +kernel
def cl_tb7 (j : Nat) : Bool := decide ((ct_7 j).1 = "EatenToll$Reader") && (match parseFieldDescriptor (ct_7 j).2.2.1 with
  | some ty => am_ftB (am_ft am_ftab 7 j) ty (ct_7 j).2.2.2
  | none => false)
theorem cl_t7 : ∀ j, j < 12 → cl_tb7 j = true := by decide +kernel
set_option maxRecDepth 100000 in
theorem cl_w8 : ∀ w ∈ u_ws "EatenToll$Scene" ct_8 1, w ∈ am_T := by decide +kernel
theorem cl_n8 : ∀ a, a < 1 → ∀ b, b < 1 → a ≠ b → (ct_8 a).2.1 ≠ (ct_8 b).2.1 := by decide +kernel
def cl_tb8 (j : Nat) : Bool := decide ((ct_8 j).1 = "EatenToll$Scene") && (match parseFieldDescriptor (ct_8 j).2.2.1 with
  | some ty => am_ftB (am_ft am_ftab 8 j) ty (ct_8 j).2.2.2
  | none => false)
theorem cl_t8 : ∀ j, j < 1 → cl_tb8 j = true := by decide +kernel
set_option maxRecDepth 100000 in
theorem cl_w9 : ∀ w ∈ u_ws "EatenToll$Tape" ct_9 7, w ∈ am_T := by decide +kernel
theorem cl_n9 : ∀ a, a < 7 → ∀ b, b < 7 → a ≠ b → (ct_9 a).2.1 ≠ (ct_9 b).2.1 := by decide +kernel
def cl_tb9 (j : Nat) : Bool := decide ((ct_9 j).1 = "EatenToll$Tape") && (match parseFieldDescriptor (ct_9 j).2.2.1 with
  | some ty => am_ftB (am_ft am_ftab 9 j) ty (ct_9 j).2.2.2
  | none => false)
theorem cl_t9 : ∀ j, j < 7 → cl_tb9 j = true := by decide +kernel
set_option maxRecDepth 100000 in
theorem cl_w10 : ∀ w ∈ u_ws "EatenToll$Told" ct_10 21, w ∈ am_T := by decide +kernel
theorem cl_n10 : ∀ a, a < 21 → ∀ b, b < 21 → a ≠ b → (ct_10 a).2.1 ≠ (ct_10 b).2.1 := by decide +kernel
def cl_tb10 (j : Nat) : Bool := decide ((ct_10 j).1 = "EatenToll$Told") && (match parseFieldDescriptor (ct_10 j).2.2.1 with
  | some ty => am_ftB (am_ft am_ftab 10 j) ty (ct_10 j).2.2.2
  | none => false)
theorem cl_t10 : ∀ j, j < 21 → cl_tb10 j = true := by decide +kernel
set_option maxRecDepth 100000 in
theorem cl_w11 : ∀ w ∈ u_ws "EatenToll" ct_11 14, w ∈ am_T := by decide +kernel
theorem cl_n11 : ∀ a, a < 14 → ∀ b, b < 14 → a ≠ b → (ct_11 a).2.1 ≠ (ct_11 b).2.1 := by decide +kernel
def cl_tb11 (j : Nat) : Bool := decide ((ct_11 j).1 = "EatenToll") && (match parseFieldDescriptor (ct_11 j).2.2.1 with
  | some ty => am_ftB (am_ft am_ftab 11 j) ty (ct_11 j).2.2.2
  | none => false)
theorem cl_t11 : ∀ j, j < 14 → cl_tb11 j = true := by decide +kernel
set_option maxRecDepth 100000 in
theorem cl_w12 : ∀ w ∈ u_ws "EatenTollModel" ct_12 88, w ∈ am_T := by decide +kernel
theorem cl_n12 : ∀ a, a < 88 → ∀ b, b < 88 → a ≠ b → (ct_12 a).2.1 ≠ (ct_12 b).2.1 := by decide +kernel
def cl_tb12 (j : Nat) : Bool := decide ((ct_12 j).1 = "EatenTollModel") && (match parseFieldDescriptor (ct_12 j).2.2.1 with
  | some ty => am_ftB (am_ft am_ftab 12 j) ty (ct_12 j).2.2.2
  | none => false)
theorem cl_t12 : ∀ j, j < 88 → cl_tb12 j = true := by decide +kernel
theorem am_clOk_1 : am_clOk am_ftab am_T am_cls := by
  intro ci C Tt N h
  match ci, h with
  | 0, h =>
    cases h
    refine ⟨cl_w0, fun j hj => ?_, cl_n0, am_tk_mem (d := 499) (by decide +kernel), am_tk_mem (d := 124) (by decide +kernel)⟩
    have h1 := cl_t0 j hj
    unfold cl_tb0 at h1
    simp only [Bool.and_eq_true, decide_eq_true_eq] at h1
    refine ⟨h1.1, ?_⟩
    have h2 := h1.2
    split at h2
    next ty hty => exact ⟨ty, hty, am_ftB_ok h2⟩
    next => cases h2
  | 1, h =>
    cases h
    refine ⟨cl_w1, fun j hj => ?_, cl_n1, am_tk_mem (d := 465) (by decide +kernel), am_tk_mem (d := 123) (by decide +kernel)⟩
    have h1 := cl_t1 j hj
    unfold cl_tb1 at h1
    simp only [Bool.and_eq_true, decide_eq_true_eq] at h1
    refine ⟨h1.1, ?_⟩
    have h2 := h1.2
    split at h2
    next ty hty => exact ⟨ty, hty, am_ftB_ok h2⟩
    next => cases h2
  | 2, h =>
    cases h
    refine ⟨cl_w2, fun j hj => ?_, cl_n2, am_tk_mem (d := 363) (by decide +kernel), am_tk_mem (d := 119) (by decide +kernel)⟩
    have h1 := cl_t2 j hj
    unfold cl_tb2 at h1
    simp only [Bool.and_eq_true, decide_eq_true_eq] at h1
    refine ⟨h1.1, ?_⟩
    have h2 := h1.2
    split at h2
    next ty hty => exact ⟨ty, hty, am_ftB_ok h2⟩
    next => cases h2
  | 3, h =>
    cases h
    refine ⟨cl_w3, fun j hj => ?_, cl_n3, am_tk_mem (d := 379) (by decide +kernel), am_tk_mem (d := 120) (by decide +kernel)⟩
    have h1 := cl_t3 j hj
    unfold cl_tb3 at h1
    simp only [Bool.and_eq_true, decide_eq_true_eq] at h1
    refine ⟨h1.1, ?_⟩
    have h2 := h1.2
    split at h2
    next ty hty => exact ⟨ty, hty, am_ftB_ok h2⟩
    next => cases h2
  | 4, h =>
    cases h
    refine ⟨cl_w4, fun j hj => ?_, cl_n4, am_tk_mem (d := 400) (by decide +kernel), am_tk_mem (d := 121) (by decide +kernel)⟩
    have h1 := cl_t4 j hj
    unfold cl_tb4 at h1
    simp only [Bool.and_eq_true, decide_eq_true_eq] at h1
    refine ⟨h1.1, ?_⟩
    have h2 := h1.2
    split at h2
    next ty hty => exact ⟨ty, hty, am_ftB_ok h2⟩
    next => cases h2
  | 5, h =>
    cases h
    refine ⟨cl_w5, fun j hj => ?_, cl_n5, am_tk_mem (d := 431) (by decide +kernel), am_tk_mem (d := 122) (by decide +kernel)⟩
    have h1 := cl_t5 j hj
    unfold cl_tb5 at h1
    simp only [Bool.and_eq_true, decide_eq_true_eq] at h1
    refine ⟨h1.1, ?_⟩
    have h2 := h1.2
    split at h2
    next ty hty => exact ⟨ty, hty, am_ftB_ok h2⟩
    next => cases h2
  | 6, h =>
    cases h
    refine ⟨cl_w6, fun j hj => ?_, cl_n6, am_tk_mem (d := 342) (by decide +kernel), am_tk_mem (d := 118) (by decide +kernel)⟩
    have h1 := cl_t6 j hj
    unfold cl_tb6 at h1
    simp only [Bool.and_eq_true, decide_eq_true_eq] at h1
    refine ⟨h1.1, ?_⟩
    have h2 := h1.2
    split at h2
    next ty hty => exact ⟨ty, hty, am_ftB_ok h2⟩
    next => cases h2
  | 7, h =>
    cases h
    refine ⟨cl_w7, fun j hj => ?_, cl_n7, am_tk_mem (d := 290) (by decide +kernel), am_tk_mem (d := 116) (by decide +kernel)⟩
    have h1 := cl_t7 j hj
    unfold cl_tb7 at h1
    simp only [Bool.and_eq_true, decide_eq_true_eq] at h1
    refine ⟨h1.1, ?_⟩
    have h2 := h1.2
    split at h2
    next ty hty => exact ⟨ty, hty, am_ftB_ok h2⟩
    next => cases h2
  | 8, h =>
    cases h
    refine ⟨cl_w8, fun j hj => ?_, cl_n8, am_tk_mem (d := 333) (by decide +kernel), am_tk_mem (d := 117) (by decide +kernel)⟩
    have h1 := cl_t8 j hj
    unfold cl_tb8 at h1
    simp only [Bool.and_eq_true, decide_eq_true_eq] at h1
    refine ⟨h1.1, ?_⟩
    have h2 := h1.2
    split at h2
    next ty hty => exact ⟨ty, hty, am_ftB_ok h2⟩
    next => cases h2
  | 9, h =>
    cases h
    refine ⟨cl_w9, fun j hj => ?_, cl_n9, am_tk_mem (d := 139) (by decide +kernel), am_tk_mem (d := 109) (by decide +kernel)⟩
    have h1 := cl_t9 j hj
    unfold cl_tb9 at h1
    simp only [Bool.and_eq_true, decide_eq_true_eq] at h1
    refine ⟨h1.1, ?_⟩
    have h2 := h1.2
    split at h2
    next ty hty => exact ⟨ty, hty, am_ftB_ok h2⟩
    next => cases h2
  | 10, h =>
    cases h
    refine ⟨cl_w10, fun j hj => ?_, cl_n10, am_tk_mem (d := 217) (by decide +kernel), am_tk_mem (d := 114) (by decide +kernel)⟩
    have h1 := cl_t10 j hj
    unfold cl_tb10 at h1
    simp only [Bool.and_eq_true, decide_eq_true_eq] at h1
    refine ⟨h1.1, ?_⟩
    have h2 := h1.2
    split at h2
    next ty hty => exact ⟨ty, hty, am_ftB_ok h2⟩
    next => cases h2
  | 11, h =>
    cases h
    refine ⟨cl_w11, fun j hj => ?_, cl_n11, am_tk_mem (d := 131) (by decide +kernel), am_tk_mem (d := 108) (by decide +kernel)⟩
    have h1 := cl_t11 j hj
    unfold cl_tb11 at h1
    simp only [Bool.and_eq_true, decide_eq_true_eq] at h1
    refine ⟨h1.1, ?_⟩
    have h2 := h1.2
    split at h2
    next ty hty => exact ⟨ty, hty, am_ftB_ok h2⟩
    next => cases h2
  | 12, h =>
    cases h
    refine ⟨cl_w12, fun j hj => ?_, cl_n12, am_tk_mem (d := 1305) (by decide +kernel), am_tk_mem (d := 125) (by decide +kernel)⟩
    have h1 := cl_t12 j hj
    unfold cl_tb12 at h1
    simp only [Bool.and_eq_true, decide_eq_true_eq] at h1
    refine ⟨h1.1, ?_⟩
    have h2 := h1.2
    split at h2
    next ty hty => exact ⟨ty, hty, am_ftB_ok h2⟩
    next => cases h2
  | _ + 13, h => cases h
theorem am_glOk_1 : am_glOk am_T := by
  refine ⟨fun t ht => ?_, am_tk_mem (d := 850) (by decide +kernel), am_tk_mem (d := 849) (by decide +kernel), am_tk_mem (d := 128) (by decide +kernel), am_tk_mem (d := 126) (by decide +kernel), ⟨am_tk_mem (d := 641) (by decide +kernel), am_tk_mem (d := 642) (by decide +kernel)⟩, ⟨am_tk_mem (d := 644) (by decide +kernel), am_tk_mem (d := 645) (by decide +kernel)⟩, ⟨am_tk_mem (d := 1138) (by decide +kernel), am_tk_mem (d := 1139) (by decide +kernel)⟩, am_tk_mem (d := 136) (by decide +kernel), am_tk_mem (d := 137) (by decide +kernel)⟩
  match t, ht with
  | 0, _ => exact am_tk_mem (d := 215) (by decide +kernel)
  | 1, _ => exact am_tk_mem (d := 213) (by decide +kernel)
  | 2, _ => exact am_tk_mem (d := 1581) (by decide +kernel)
  | 3, _ => exact am_tk_mem (d := 214) (by decide +kernel)
theorem am_ckOk_1 : am_ckOk am_Tg := ⟨am_tk_good (d := 166) (by decide +kernel) (by decide), am_tk_good (d := 165) (by decide +kernel) (by decide), am_tk_good (d := 110) (by decide +kernel) (by decide), am_tk_good (d := 170) (by decide +kernel) (by decide), am_tk_good (d := 169) (by decide +kernel) (by decide), am_tk_good (d := 112) (by decide +kernel) (by decide), am_tk_good (d := 167) (by decide +kernel) (by decide), am_tk_good (d := 168) (by decide +kernel) (by decide)⟩
set_option maxRecDepth 100000 in
theorem am_Tg_good : am_Tg.all goodWord = true := by decide +kernel
set_option maxRecDepth 100000 in
theorem am_NT_nest : am_NT.all am_nest = true := by decide +kernel
theorem am_T_split : am_T = am_Tg ++ am_NT := by
  unfold am_T am_Tg am_NT
  rw [← List.flatten_append, List.take_append_drop]
theorem am_prog_ok : am_Prog am_ftab am_T am_Tg am_NT am_tk am_cls am_rcls am_strs am_y am_bc am_mL am_np am_fr am_lo am_rt am_code :=
  ⟨am_clOk_1, am_glOk_1, am_ckOk_1, am_hchk, am_hm, List.all_eq_true.mp am_Tg_good, fun w hw => by rw [am_T_split]; exact List.mem_append_left _ hw, fun w hw => by rw [am_T_split] at hw; exact List.mem_append.mp hw, List.all_eq_true.mp am_NT_nest, fun d w h => am_tk_mem h⟩
def am_subl : List Cond → List Cond → Bool
  | [], _ => true
  | _ :: _, [] => false
  | w :: ws, t :: ts => if w = t then am_subl ws ts else am_subl (w :: ws) ts
theorem am_subl_mem : ∀ {a b : List Cond}, am_subl a b = true → ∀ w ∈ a, w ∈ b
  | [], _, _, w, hw => by cases hw
  | _ :: _, [], h, _, _ => by cases h
  | x :: xs, t :: ts, h, w, hw => by
    unfold am_subl at h
    split at h
    next e =>
      subst e
      rcases List.mem_cons.mp hw with z | z
      · exact List.mem_cons.mpr (Or.inl z)
      · exact List.mem_cons_of_mem _ (am_subl_mem h w z)
    next => exact List.mem_cons_of_mem _ (am_subl_mem h w hw)
set_option maxRecDepth 100000 in
theorem am_Tg_in : am_subl am_Tg lw_tbl = true := by decide +kernel
set_option maxRecDepth 100000 in
theorem am_NT_in : am_subl am_NT tables_1 = true := by decide +kernel
theorem am_T_in : ∀ w ∈ am_T, w ∈ lw_tbl := fun w hw => by
  rw [am_T_split] at hw
  rcases List.mem_append.mp hw with h | h
  · exact am_subl_mem am_Tg_in w h
  · exact List.mem_append_right _ (am_subl_mem am_NT_in w h)
