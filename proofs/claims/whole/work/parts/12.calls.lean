theorem kc_m1 : Int32.ofInt (-1) = (-1) := by decide
theorem kc_0 : Int32.ofInt 0 = 0 := by decide
theorem kc_1 : Int32.ofInt 1 = 1 := by decide
theorem kc_2 : Int32.ofInt 2 = 2 := by decide
theorem kc_3 : Int32.ofInt 3 = 3 := by decide
theorem kc_4 : Int32.ofInt 4 = 4 := by decide
theorem kc_5 : Int32.ofInt 5 = 5 := by decide
theorem kb_m100 : (Int8.ofInt (-100)).toInt32 = (-100) := by decide
theorem kb_m2 : (Int8.ofInt (-2)).toInt32 = (-2) := by decide
theorem kb_6 : (Int8.ofInt 6).toInt32 = 6 := by decide
theorem kb_7 : (Int8.ofInt 7).toInt32 = 7 := by decide
theorem kb_8 : (Int8.ofInt 8).toInt32 = 8 := by decide
theorem kb_9 : (Int8.ofInt 9).toInt32 = 9 := by decide
theorem kb_10 : (Int8.ofInt 10).toInt32 = 10 := by decide
theorem kb_11 : (Int8.ofInt 11).toInt32 = 11 := by decide
theorem kb_12 : (Int8.ofInt 12).toInt32 = 12 := by decide
theorem kb_13 : (Int8.ofInt 13).toInt32 = 13 := by decide
theorem kb_14 : (Int8.ofInt 14).toInt32 = 14 := by decide
theorem kb_15 : (Int8.ofInt 15).toInt32 = 15 := by decide
theorem kb_16 : (Int8.ofInt 16).toInt32 = 16 := by decide
theorem kb_17 : (Int8.ofInt 17).toInt32 = 17 := by decide
theorem kb_18 : (Int8.ofInt 18).toInt32 = 18 := by decide
theorem kb_19 : (Int8.ofInt 19).toInt32 = 19 := by decide
theorem kb_20 : (Int8.ofInt 20).toInt32 = 20 := by decide
theorem kb_21 : (Int8.ofInt 21).toInt32 = 21 := by decide
theorem kb_22 : (Int8.ofInt 22).toInt32 = 22 := by decide
theorem kb_23 : (Int8.ofInt 23).toInt32 = 23 := by decide
theorem kb_24 : (Int8.ofInt 24).toInt32 = 24 := by decide
theorem kb_25 : (Int8.ofInt 25).toInt32 = 25 := by decide
theorem kb_26 : (Int8.ofInt 26).toInt32 = 26 := by decide
theorem kb_27 : (Int8.ofInt 27).toInt32 = 27 := by decide
theorem kb_28 : (Int8.ofInt 28).toInt32 = 28 := by decide
theorem kb_29 : (Int8.ofInt 29).toInt32 = 29 := by decide
theorem kb_30 : (Int8.ofInt 30).toInt32 = 30 := by decide
theorem kb_31 : (Int8.ofInt 31).toInt32 = 31 := by decide
theorem kb_32 : (Int8.ofInt 32).toInt32 = 32 := by decide
theorem kb_33 : (Int8.ofInt 33).toInt32 = 33 := by decide
theorem kb_34 : (Int8.ofInt 34).toInt32 = 34 := by decide
theorem kb_35 : (Int8.ofInt 35).toInt32 = 35 := by decide
theorem kb_36 : (Int8.ofInt 36).toInt32 = 36 := by decide
theorem kb_37 : (Int8.ofInt 37).toInt32 = 37 := by decide
theorem kb_38 : (Int8.ofInt 38).toInt32 = 38 := by decide
theorem kb_40 : (Int8.ofInt 40).toInt32 = 40 := by decide
theorem kb_41 : (Int8.ofInt 41).toInt32 = 41 := by decide
theorem kb_42 : (Int8.ofInt 42).toInt32 = 42 := by decide
theorem kb_43 : (Int8.ofInt 43).toInt32 = 43 := by decide
theorem kb_45 : (Int8.ofInt 45).toInt32 = 45 := by decide
theorem kb_47 : (Int8.ofInt 47).toInt32 = 47 := by decide
theorem kb_48 : (Int8.ofInt 48).toInt32 = 48 := by decide
theorem kb_57 : (Int8.ofInt 57).toInt32 = 57 := by decide
theorem kb_59 : (Int8.ofInt 59).toInt32 = 59 := by decide
theorem kb_60 : (Int8.ofInt 60).toInt32 = 60 := by decide
theorem kb_61 : (Int8.ofInt 61).toInt32 = 61 := by decide
theorem kb_63 : (Int8.ofInt 63).toInt32 = 63 := by decide
theorem kb_64 : (Int8.ofInt 64).toInt32 = 64 := by decide
theorem kb_97 : (Int8.ofInt 97).toInt32 = 97 := by decide
theorem kb_98 : (Int8.ofInt 98).toInt32 = 98 := by decide
theorem kb_99 : (Int8.ofInt 99).toInt32 = 99 := by decide
theorem kb_100 : (Int8.ofInt 100).toInt32 = 100 := by decide
theorem kb_101 : (Int8.ofInt 101).toInt32 = 101 := by decide
theorem kb_102 : (Int8.ofInt 102).toInt32 = 102 := by decide
theorem kb_103 : (Int8.ofInt 103).toInt32 = 103 := by decide
theorem kb_104 : (Int8.ofInt 104).toInt32 = 104 := by decide
theorem kb_105 : (Int8.ofInt 105).toInt32 = 105 := by decide
theorem kb_107 : (Int8.ofInt 107).toInt32 = 107 := by decide
theorem kb_108 : (Int8.ofInt 108).toInt32 = 108 := by decide
theorem kb_109 : (Int8.ofInt 109).toInt32 = 109 := by decide
theorem kb_110 : (Int8.ofInt 110).toInt32 = 110 := by decide
theorem kb_111 : (Int8.ofInt 111).toInt32 = 111 := by decide
theorem kb_112 : (Int8.ofInt 112).toInt32 = 112 := by decide
theorem kb_114 : (Int8.ofInt 114).toInt32 = 114 := by decide
theorem kb_115 : (Int8.ofInt 115).toInt32 = 115 := by decide
theorem kb_116 : (Int8.ofInt 116).toInt32 = 116 := by decide
theorem kb_117 : (Int8.ofInt 117).toInt32 = 117 := by decide
theorem kb_118 : (Int8.ofInt 118).toInt32 = 118 := by decide
theorem kb_119 : (Int8.ofInt 119).toInt32 = 119 := by decide
theorem kb_120 : (Int8.ofInt 120).toInt32 = 120 := by decide
theorem kb_121 : (Int8.ofInt 121).toInt32 = 121 := by decide
theorem kb_122 : (Int8.ofInt 122).toInt32 = 122 := by decide
theorem ks_140 : (Int16.ofInt 140).toInt32 = 140 := by decide
theorem ks_144 : (Int16.ofInt 144).toInt32 = 144 := by decide
theorem ks_168 : (Int16.ofInt 168).toInt32 = 168 := by decide
theorem ks_169 : (Int16.ofInt 169).toInt32 = 169 := by decide
theorem ks_180 : (Int16.ofInt 180).toInt32 = 180 := by decide
theorem ks_239 : (Int16.ofInt 239).toInt32 = 239 := by decide
theorem ks_240 : (Int16.ofInt 240).toInt32 = 240 := by decide
theorem ks_255 : (Int16.ofInt 255).toInt32 = 255 := by decide
theorem ks_256 : (Int16.ofInt 256).toInt32 = 256 := by decide
theorem ks_400 : (Int16.ofInt 400).toInt32 = 400 := by decide
theorem ks_401 : (Int16.ofInt 401).toInt32 = 401 := by decide
theorem ks_403 : (Int16.ofInt 403).toInt32 = 403 := by decide
theorem ks_980 : (Int16.ofInt 980).toInt32 = 980 := by decide
theorem ks_999 : (Int16.ofInt 999).toInt32 = 999 := by decide
theorem ks_1000 : (Int16.ofInt 1000).toInt32 = 1000 := by decide
theorem ks_1008 : (Int16.ofInt 1008).toInt32 = 1008 := by decide
theorem ks_1980 : (Int16.ofInt 1980).toInt32 = 1980 := by decide
theorem ks_2000 : (Int16.ofInt 2000).toInt32 = 2000 := by decide
theorem ks_2400 : (Int16.ofInt 2400).toInt32 = 2400 := by decide
theorem ks_2800 : (Int16.ofInt 2800).toInt32 = 2800 := by decide
theorem ks_10000 : (Int16.ofInt 10000).toInt32 = 10000 := by decide
theorem ks_20000 : (Int16.ofInt 20000).toInt32 = 20000 := by decide
theorem ks_30000 : (Int16.ofInt 30000).toInt32 = 30000 := by decide
theorem ki_m8 : Int32.ofInt (-8) = (-8) := by decide
theorem ki_m1 : Int32.ofInt (-1) = (-1) := by decide
theorem ki_1 : Int32.ofInt 1 = 1 := by decide
theorem ki_7 : Int32.ofInt 7 = 7 := by decide
theorem k_X11_84 : CWV RX11 84 RX9 yX9_hasRoom cX9_hasRoom 1 (some .boolean) 0 := ⟨⟨u_2_177, u_2_174, u_2_175, u_2_176, u_1_2⟩, ⟨rfl, by decide, by decide, by decide +kernel⟩, by decide⟩
theorem k_X11_88 : CWV RX11 88 RX9 yX9_append cX9_append 3 none 1 := ⟨⟨u_2_181, u_2_178, u_2_179, u_2_180, u_1_2⟩, ⟨rfl, by decide, by decide, by decide +kernel⟩, by decide⟩
theorem k_X11_98 : CWV RX11 98 RX2 yX2_parse cX2_parse 5 (some .int) 1 := ⟨⟨u_2_193, u_2_190, u_2_191, u_2_192, u_1_5⟩, ⟨rfl, by decide, by decide, by decide +kernel⟩, by decide⟩
theorem k_X11_105 : CWS RX11 105 yX11_isWord cX11_isWord 1 (some .boolean) 1 := ⟨⟨u_3_161, u_3_159, u_3_160, u_1_1⟩, ⟨by decide, by decide, by decide +kernel⟩, by decide⟩
theorem k_X11_109 : CWV RX11 109 RX11 yX11_tellLine cX11_tellLine 7 (some .int) 5 := ⟨⟨u_3_165, u_3_162, u_3_164, v_21, u_1_1⟩, ⟨rfl, by decide, by decide, by decide +kernel⟩, by decide⟩
theorem k_X11_113 : CWS RX11 113 yX11_isBelow cX11_isBelow 2 (some .boolean) 2 := ⟨⟨u_3_168, u_3_166, u_3_167, u_1_1⟩, ⟨by decide, by decide, by decide +kernel⟩, by decide⟩
theorem k_X11_117 : CWV RX11 117 RX0 yX0_setPaper cX0_setPaper 4 none 3 := ⟨⟨u_3_180, u_3_177, u_3_178, u_3_179, u_1_7⟩, ⟨rfl, by decide, by decide, by decide +kernel⟩, by decide⟩
theorem k_X11_121 : CWV RX11 121 RX0 yX0_tell cX0_tell 4 (some .int) 3 := ⟨⟨u_3_172, u_3_169, u_3_170, u_3_171, u_1_7⟩, ⟨rfl, by decide, by decide, by decide +kernel⟩, by decide⟩
theorem k_X11_138 : CWV RX11 138 RX0 yX0_isOfKind cX0_isOfKind 4 (some .boolean) 3 := ⟨⟨u_3_200, u_3_197, u_3_198, u_3_199, u_1_7⟩, ⟨rfl, by decide, by decide, by decide +kernel⟩, by decide⟩
theorem k_X11_148 : CWV RX11 148 RX7 yX7_howManyInForce cX7_howManyInForce 2 (some .int) 1 := ⟨⟨u_3_216, u_3_213, u_3_214, u_3_215, u_1_3⟩, ⟨rfl, by decide, by decide, by decide +kernel⟩, by decide⟩
theorem k_X11_152 : CWV RX11 152 RX7 yX7_inForceAt cX7_inForceAt 4 (some .int) 2 := ⟨⟨u_3_228, u_3_225, u_3_226, u_3_227, u_1_3⟩, ⟨rfl, by decide, by decide, by decide +kernel⟩, by decide⟩
theorem k_X11_165 : CWV RX11 165 RX11 yX11_isKnown cX11_isKnown 2 (some .boolean) 1 := ⟨⟨u_3_236, u_3_233, u_3_235, v_23, u_1_1⟩, ⟨rfl, by decide, by decide, by decide +kernel⟩, by decide⟩
theorem k_X11_168 : CWV RX11 168 RX0 yX0_sitter cX0_sitter 8 (some .int) 3 := ⟨⟨u_4_0, u_3_237, u_3_238, u_3_239, u_1_7⟩, ⟨rfl, by decide, by decide, by decide +kernel⟩, by decide⟩
theorem k_X11_171 : CWV RX11 171 RX3 yX3_print cX3_print 4 none 3 := ⟨⟨u_4_12, u_4_9, u_4_10, u_4_11, u_1_8⟩, ⟨rfl, by decide, by decide, by decide +kernel⟩, by decide⟩
theorem k_X11_192 : CWV RX11 192 RX3 yX3_fateOnItsDay cX3_fateOnItsDay 3 (some .int) 2 := ⟨⟨u_4_105, u_4_102, u_4_103, u_4_104, u_1_8⟩, ⟨rfl, by decide, by decide, by decide +kernel⟩, by decide⟩
theorem k_X11_198 : CWV RX11 198 RX11 yX11_isPrint cX11_isPrint 4 (some .boolean) 3 := ⟨⟨u_4_117, u_4_114, u_4_116, v_33, u_1_1⟩, ⟨rfl, by decide, by decide, by decide +kernel⟩, by decide⟩
theorem k_X11_201 : CWV RX11 201 RX1 yX1_listPrint cX1_listPrint 5 none 3 := ⟨⟨u_4_121, u_4_118, u_4_119, u_4_120, u_1_10⟩, ⟨rfl, by decide, by decide, by decide +kernel⟩, by decide⟩
theorem k_X11_205 : CWV RX11 205 RX1 yX1_entry cX1_entry 2 (some .int) 1 := ⟨⟨u_4_138, u_4_135, u_4_136, u_4_137, u_1_10⟩, ⟨rfl, by decide, by decide, by decide +kernel⟩, by decide⟩
theorem k_X11_208 : CWV RX11 208 RX3 yX3_keptFromCourt cX3_keptFromCourt 2 (some .int) 1 := ⟨⟨u_4_146, u_4_143, u_4_144, u_4_145, u_1_8⟩, ⟨rfl, by decide, by decide, by decide +kernel⟩, by decide⟩
theorem k_X11_211 : CWV RX11 211 RX8 yX8_append cX8_append 3 (some .int) 2 := ⟨⟨u_4_154, u_4_151, u_4_152, u_4_153, u_1_11⟩, ⟨rfl, by decide, by decide, by decide +kernel⟩, by decide⟩
theorem k_X11_213 : CWV RX11 213 RX8 yX8_empty cX8_empty 2 none 0 := ⟨⟨u_4_166, u_4_163, u_4_164, u_4_165, u_1_11⟩, ⟨rfl, by decide, by decide, by decide +kernel⟩, by decide⟩
theorem k_X11_216 : CWV RX11 216 RX8 yX8_overlap cX8_overlap 2 (some .int) 0 := ⟨⟨u_4_174, u_4_171, u_4_172, u_4_173, u_1_11⟩, ⟨rfl, by decide, by decide, by decide +kernel⟩, by decide⟩
theorem k_X11_220 : CWV RX11 220 RX8 yX8_joinWord cX8_joinWord 3 (some .int) 1 := ⟨⟨u_4_191, u_4_188, u_4_189, u_4_190, u_1_11⟩, ⟨rfl, by decide, by decide, by decide +kernel⟩, by decide⟩
theorem k_X11_223 : CWV RX11 223 RX8 yX8_distance cX8_distance 7 (some .int) 2 := ⟨⟨u_4_208, u_4_205, u_4_206, u_4_207, u_1_11⟩, ⟨rfl, by decide, by decide, by decide +kernel⟩, by decide⟩
theorem k_X11_226 : CWV RX11 226 RX0 yX0_voters cX0_voters 6 (some .int) 3 := ⟨⟨u_4_216, u_4_213, u_4_214, u_4_215, u_1_7⟩, ⟨rfl, by decide, by decide, by decide +kernel⟩, by decide⟩
theorem k_X11_229 : CWS RX11 229 yJ6_bitCount_0f7a4 cJ6_bitCount_0f7a4 1 (some .int) 1 := ⟨⟨u_4_219, u_4_217, u_4_218, u_1_20⟩, ⟨by decide, by decide, by decide +kernel⟩, by decide⟩
theorem k_X11_234 : CWV RX11 234 RX0 yX0_lastTurnOfDivision cX0_lastTurnOfDivision 10 (some .int) 2 := ⟨⟨u_4_234, u_4_231, u_4_232, u_4_233, u_1_7⟩, ⟨rfl, by decide, by decide, by decide +kernel⟩, by decide⟩
theorem k_X11_237 : CWV RX11 237 RX6 yX6_setReporter cX6_setReporter 4 none 3 := ⟨⟨u_5_3, u_5_0, u_5_1, u_5_2, u_1_12⟩, ⟨rfl, by decide, by decide, by decide +kernel⟩, by decide⟩
theorem k_X11_240 : CWV RX11 240 RX6 yX6_arrange cX6_arrange 4 (some .int) 2 := ⟨⟨u_5_11, u_5_8, u_5_9, u_5_10, u_1_12⟩, ⟨rfl, by decide, by decide, by decide +kernel⟩, by decide⟩
theorem k_X11_243 : CWV RX11 243 RX6 yX6_taker cX6_taker 2 (some .int) 1 := ⟨⟨u_5_26, u_5_23, u_5_24, u_5_25, u_1_12⟩, ⟨rfl, by decide, by decide, by decide +kernel⟩, by decide⟩
theorem k_X11_246 : CWV RX11 246 RX1 yX1_listNaming cX1_listNaming 5 none 3 := ⟨⟨u_5_34, u_5_31, u_5_32, u_5_33, u_1_10⟩, ⟨rfl, by decide, by decide, by decide +kernel⟩, by decide⟩
theorem k_X11_249 : CWV RX11 249 RX5 yX5_gather cX5_gather 6 none 3 := ⟨⟨u_5_38, u_5_61, u_5_36, u_5_37, u_1_9⟩, ⟨rfl, by decide, by decide, by decide +kernel⟩, by decide⟩
theorem k_X11_252 : CWV RX11 252 RX5 yX5_gathered cX5_gathered 2 (some .boolean) 1 := ⟨⟨u_5_46, u_5_62, u_5_44, u_5_45, u_1_9⟩, ⟨rfl, by decide, by decide, by decide +kernel⟩, by decide⟩
theorem k_X11_255 : CWV RX11 255 RX8 yX8_lengthOf cX8_lengthOf 2 (some .int) 1 := ⟨⟨u_4_158, u_5_67, u_4_156, u_4_157, u_1_11⟩, ⟨rfl, by decide, by decide, by decide +kernel⟩, by decide⟩
theorem k_X0_46 : CWV RX0 46 RX0 yX0_laterOf cX0_laterOf 4 (some .int) 3 := ⟨⟨u_4_4, u_4_1, u_4_3, v_24, u_1_7⟩, ⟨rfl, by decide, by decide, by decide +kernel⟩, by decide⟩
theorem k_X0_50 : CWV RX0 50 RX0 yX0_isAbout cX0_isAbout 4 (some .boolean) 3 := ⟨⟨u_4_37, u_4_34, u_4_36, v_27, u_1_7⟩, ⟨rfl, by decide, by decide, by decide +kernel⟩, by decide⟩
theorem k_X0_54 : CWS RX0 54 yJ6_bitCount_0f7a4 cJ6_bitCount_0f7a4 1 (some .int) 1 := ⟨⟨u_4_219, u_4_235, u_4_218, u_1_20⟩, ⟨by decide, by decide, by decide +kernel⟩, by decide⟩
theorem k_X1_39 : CWV RX1 39 RX3 yX3_print cX3_print 4 none 3 := ⟨⟨u_4_12, u_4_122, u_4_10, u_4_11, u_1_8⟩, ⟨rfl, by decide, by decide, by decide +kernel⟩, by decide⟩
theorem k_X1_48 : CWV RX1 48 RX1 yX1_insert cX1_insert 3 none 1 := ⟨⟨u_4_126, u_4_123, u_4_125, v_34, u_1_10⟩, ⟨rfl, by decide, by decide, by decide +kernel⟩, by decide⟩
theorem k_X1_52 : CWV RX1 52 RX5 yX5_gather cX5_gather 6 none 3 := ⟨⟨u_5_38, u_5_35, u_5_36, u_5_37, u_1_9⟩, ⟨rfl, by decide, by decide, by decide +kernel⟩, by decide⟩
theorem k_X1_64 : CWV RX1 64 RX5 yX5_gathered cX5_gathered 2 (some .boolean) 1 := ⟨⟨u_5_46, u_5_52, u_5_44, u_5_45, u_1_9⟩, ⟨rfl, by decide, by decide, by decide +kernel⟩, by decide⟩
theorem k_X1_68 : CWV RX1 68 RX0 yX0_standsBehind cX0_standsBehind 3 (some .boolean) 2 := ⟨⟨u_4_130, u_4_127, u_4_128, u_4_129, u_1_7⟩, ⟨rfl, by decide, by decide, by decide +kernel⟩, by decide⟩
theorem k_X2_30 : CWV RX2 30 RX10 yX10_cut cX10_cut 4 none 1 := ⟨⟨u_2_197, u_2_194, u_2_195, u_2_196, u_1_6⟩, ⟨rfl, by decide, by decide, by decide +kernel⟩, by decide⟩
theorem k_X2_34 : CWV RX2 34 RX7 yX7_openText cX7_openText 1 none 0 := ⟨⟨u_3_59, u_3_56, u_3_57, u_3_58, u_1_3⟩, ⟨rfl, by decide, by decide, by decide +kernel⟩, by decide⟩
theorem k_X2_42 : CWV RX2 42 RX2 yX2_moveTo cX2_moveTo 2 none 1 := ⟨⟨u_3_63, u_3_60, u_3_62, v_5, u_1_5⟩, ⟨rfl, by decide, by decide, by decide +kernel⟩, by decide⟩
theorem k_X2_49 : CWV RX2 49 RX2 yX2_accept cX2_accept 2 (some .boolean) 1 := ⟨⟨u_3_67, u_3_64, u_3_66, v_6, u_1_5⟩, ⟨rfl, by decide, by decide, by decide +kernel⟩, by decide⟩
theorem k_X2_60 : CWV RX2 60 RX2 yX2_parseRule cX2_parseRule 3 none 1 := ⟨⟨u_3_75, u_3_72, u_3_74, v_8, u_1_5⟩, ⟨rfl, by decide, by decide, by decide +kernel⟩, by decide⟩
theorem k_X2_63 : CWV RX2 63 RX7 yX7_closeText cX7_closeText 2 none 1 := ⟨⟨u_3_131, u_3_128, u_3_129, u_3_130, u_1_3⟩, ⟨rfl, by decide, by decide, by decide +kernel⟩, by decide⟩
theorem k_X2_66 : CWV RX2 66 RX2 yX2_refuse cX2_refuse 2 none 1 := ⟨⟨u_3_71, u_3_68, u_3_70, v_7, u_1_5⟩, ⟨rfl, by decide, by decide, by decide +kernel⟩, by decide⟩
theorem k_X2_69 : CWV RX2 69 RX7 yX7_openRule cX7_openRule 5 none 3 := ⟨⟨u_3_79, u_3_76, u_3_77, u_3_78, u_1_3⟩, ⟨rfl, by decide, by decide, by decide +kernel⟩, by decide⟩
theorem k_X2_73 : CWV RX2 73 RX2 yX2_parseExpression cX2_parseExpression 5 none 0 := ⟨⟨u_3_83, u_3_80, u_3_82, v_9, u_1_5⟩, ⟨rfl, by decide, by decide, by decide +kernel⟩, by decide⟩
theorem k_X2_76 : CWV RX2 76 RX7 yX7_beginCondition cX7_beginCondition 1 none 0 := ⟨⟨u_3_114, u_3_111, u_3_112, u_3_113, u_1_3⟩, ⟨rfl, by decide, by decide, by decide +kernel⟩, by decide⟩
theorem k_X2_79 : CWV RX2 79 RX2 yX2_parseCondition cX2_parseCondition 5 none 0 := ⟨⟨u_3_118, u_3_115, u_3_117, v_15, u_1_5⟩, ⟨rfl, by decide, by decide, by decide +kernel⟩, by decide⟩
theorem k_X2_82 : CWV RX2 82 RX7 yX7_closeRule cX7_closeRule 1 none 0 := ⟨⟨u_3_127, u_3_124, u_3_125, u_3_126, u_1_3⟩, ⟨rfl, by decide, by decide, by decide +kernel⟩, by decide⟩
theorem k_X2_85 : CWV RX2 85 RX2 yX2_parseNots cX2_parseNots 2 (some .int) 0 := ⟨⟨u_3_122, u_3_119, u_3_121, v_16, u_1_5⟩, ⟨rfl, by decide, by decide, by decide +kernel⟩, by decide⟩
theorem k_X2_89 : CWV RX2 89 RX7 yX7_emit cX7_emit 2 none 1 := ⟨⟨u_3_99, u_3_96, u_3_97, u_3_98, u_1_3⟩, ⟨rfl, by decide, by decide, by decide +kernel⟩, by decide⟩
theorem k_X2_96 : CWV RX2 96 RX2 yX2_parseOpenings cX2_parseOpenings 3 (some .int) 1 := ⟨⟨u_3_87, u_3_84, u_3_86, v_10, u_1_5⟩, ⟨rfl, by decide, by decide, by decide +kernel⟩, by decide⟩
theorem k_X2_100 : CWV RX2 100 RX2 yX2_parseOperand cX2_parseOperand 3 none 0 := ⟨⟨u_3_95, u_3_92, u_3_94, v_12, u_1_5⟩, ⟨rfl, by decide, by decide, by decide +kernel⟩, by decide⟩
theorem k_X2_103 : CWV RX2 103 RX2 yX2_parseClosings cX2_parseClosings 3 (some .int) 1 := ⟨⟨u_3_103, u_3_100, u_3_102, v_13, u_1_5⟩, ⟨rfl, by decide, by decide, by decide +kernel⟩, by decide⟩
theorem k_X2_106 : CWV RX2 106 RX2 yX2_emitWaiting cX2_emitWaiting 2 none 1 := ⟨⟨u_3_107, u_3_104, u_3_106, v_14, u_1_5⟩, ⟨rfl, by decide, by decide, by decide +kernel⟩, by decide⟩
theorem k_X2_109 : CWV RX2 109 RX2 yX2_hold cX2_hold 2 none 1 := ⟨⟨u_3_91, u_3_88, u_3_90, v_11, u_1_5⟩, ⟨rfl, by decide, by decide, by decide +kernel⟩, by decide⟩
theorem k_X2_112 : CWS RX2 112 yX2_bindsAsTight cX2_bindsAsTight 3 (some .boolean) 2 := ⟨⟨u_3_110, u_3_108, u_3_109, u_1_5⟩, ⟨by decide, by decide, by decide +kernel⟩, by decide⟩
theorem k_X3_23 : CWV RX3 23 RX3 yX3_mendAll cX3_mendAll 6 none 4 := ⟨⟨u_4_16, u_4_13, u_4_15, v_25, u_1_8⟩, ⟨rfl, by decide, by decide, by decide +kernel⟩, by decide⟩
theorem k_X3_27 : CWV RX3 27 RX0 yX0_isStruckBy cX0_isStruckBy 5 (some .boolean) 3 := ⟨⟨u_4_97, u_4_94, u_4_95, u_4_96, u_1_7⟩, ⟨rfl, by decide, by decide, by decide +kernel⟩, by decide⟩
theorem k_X3_40 : CWV RX3 40 RX3 yX3_setVariables cX3_setVariables 3 none 2 := ⟨⟨u_4_45, u_4_42, u_4_44, v_28, u_1_8⟩, ⟨rfl, by decide, by decide, by decide +kernel⟩, by decide⟩
theorem k_X3_44 : CWV RX3 44 RX7 yX7_firstThatHolds cX7_firstThatHolds 7 (some .int) 3 := ⟨⟨u_4_49, u_4_46, u_4_47, u_4_48, u_1_3⟩, ⟨rfl, by decide, by decide, by decide +kernel⟩, by decide⟩
theorem k_X3_57 : CWV RX3 57 RX3 yX3_fate cX3_fate 5 (some .int) 2 := ⟨⟨u_4_93, u_4_90, u_4_92, v_32, u_1_8⟩, ⟨rfl, by decide, by decide, by decide +kernel⟩, by decide⟩
theorem k_X3_61 : CWV RX3 61 RX3 yX3_putRight cX3_putRight 5 none 2 := ⟨⟨u_4_20, u_4_17, u_4_19, v_26, u_1_8⟩, ⟨rfl, by decide, by decide, by decide +kernel⟩, by decide⟩
theorem k_X3_64 : CWV RX3 64 RX0 yX0_isMendBy cX0_isMendBy 4 (some .boolean) 3 := ⟨⟨u_4_89, u_4_86, u_4_87, u_4_88, u_1_7⟩, ⟨rfl, by decide, by decide, by decide +kernel⟩, by decide⟩
theorem k_X3_78 : CWV RX3 78 RX0 yX0_sitter cX0_sitter 8 (some .int) 3 := ⟨⟨u_4_0, u_4_21, u_3_238, u_3_239, u_1_7⟩, ⟨rfl, by decide, by decide, by decide +kernel⟩, by decide⟩
theorem k_X3_84 : CWV RX3 84 RX0 yX0_paperWord cX0_paperWord 5 (some .int) 2 := ⟨⟨u_4_25, u_4_22, u_4_23, u_4_24, u_1_7⟩, ⟨rfl, by decide, by decide, by decide +kernel⟩, by decide⟩
theorem k_X3_93 : CWV RX3 93 RX0 yX0_officeOf cX0_officeOf 5 (some .int) 2 := ⟨⟨u_4_29, u_4_26, u_4_27, u_4_28, u_1_7⟩, ⟨rfl, by decide, by decide, by decide +kernel⟩, by decide⟩
theorem k_X3_96 : CWV RX3 96 RX0 yX0_heardWord cX0_heardWord 5 (some .int) 2 := ⟨⟨u_4_33, u_4_30, u_4_31, u_4_32, u_1_7⟩, ⟨rfl, by decide, by decide, by decide +kernel⟩, by decide⟩
theorem k_X3_99 : CWV RX3 99 RX0 yX0_linesBeside cX0_linesBeside 5 (some .int) 2 := ⟨⟨u_4_41, u_4_38, u_4_39, u_4_40, u_1_7⟩, ⟨rfl, by decide, by decide, by decide +kernel⟩, by decide⟩
theorem k_X3_105 : CWV RX3 105 RX7 yX7_valueOf cX7_valueOf 5 (some .int) 3 := ⟨⟨u_4_76, u_4_73, u_4_74, u_4_75, u_1_3⟩, ⟨rfl, by decide, by decide, by decide +kernel⟩, by decide⟩
theorem k_X4_29 : CWV RX4 29 RX4 yX4_push cX4_push 2 none 1 := ⟨⟨u_4_60, u_4_57, u_4_59, v_29, u_1_4⟩, ⟨rfl, by decide, by decide, by decide +kernel⟩, by decide⟩
theorem k_X4_33 : CWV RX4 33 RX4 yX4_calculate cX4_calculate 5 none 1 := ⟨⟨u_4_64, u_4_61, u_4_63, v_30, u_1_4⟩, ⟨rfl, by decide, by decide, by decide +kernel⟩, by decide⟩
theorem k_X4_37 : CWV RX4 37 RX4 yX4_compare cX4_compare 7 (some .boolean) 1 := ⟨⟨u_4_69, u_4_66, u_4_68, v_31, u_1_4⟩, ⟨rfl, by decide, by decide, by decide +kernel⟩, by decide⟩
theorem k_X4_41 : CWS RX4 41 yJ6_compare_7cf53 cJ6_compare_7cf53 2 (some .int) 2 := ⟨⟨u_4_72, u_4_70, u_4_71, u_1_20⟩, ⟨by decide, by decide, by decide +kernel⟩, by decide⟩
theorem k_X5_19 : CWV RX5 19 RX5 yX5_joinOnce cX5_joinOnce 5 (some .boolean) 2 := ⟨⟨u_5_42, u_5_39, u_5_41, v_40, u_1_9⟩, ⟨rfl, by decide, by decide, by decide +kernel⟩, by decide⟩
theorem k_X5_35 : CWV RX5 35 RX5 yX5_gathered cX5_gathered 2 (some .boolean) 1 := ⟨⟨u_5_46, u_5_43, u_5_44, u_5_45, u_1_9⟩, ⟨rfl, by decide, by decide, by decide +kernel⟩, by decide⟩
theorem k_X5_42 : CWV RX5 42 RX5 yX5_mark cX5_mark 2 none 1 := ⟨⟨u_5_51, u_5_48, u_5_50, v_41, u_1_9⟩, ⟨rfl, by decide, by decide, by decide +kernel⟩, by decide⟩
theorem k_X6_46 : CWV RX6 46 RX6 yX6_search cX6_search 6 none 2 := ⟨⟨u_5_16, u_5_13, u_5_15, v_39, u_1_12⟩, ⟨rfl, by decide, by decide, by decide +kernel⟩, by decide⟩
theorem k_X7_66 : CWV RX7 66 RX7 yX7_enforceAll cX7_enforceAll 4 none 0 := ⟨⟨u_3_135, u_3_132, u_3_134, v_17, u_1_3⟩, ⟨rfl, by decide, by decide, by decide +kernel⟩, by decide⟩
theorem k_X7_69 : CWV RX7 69 RX7 yX7_enforceText cX7_enforceText 8 none 2 := ⟨⟨u_3_139, u_3_136, u_3_138, v_18, u_1_3⟩, ⟨rfl, by decide, by decide, by decide +kernel⟩, by decide⟩
theorem k_X7_79 : CWV RX7 79 RX7 yX7_namedInForce cX7_namedInForce 5 (some .int) 2 := ⟨⟨u_3_146, u_3_143, u_3_145, v_19, u_1_3⟩, ⟨rfl, by decide, by decide, by decide +kernel⟩, by decide⟩
theorem k_X7_83 : CWV RX7 83 RX7 yX7_takeAway cX7_takeAway 5 none 2 := ⟨⟨u_3_150, u_3_147, u_3_149, v_20, u_1_3⟩, ⟨rfl, by decide, by decide, by decide +kernel⟩, by decide⟩
theorem k_X7_86 : CWV RX7 86 RX7 yX7_levelOn cX7_levelOn 4 (some .int) 1 := ⟨⟨u_3_220, u_3_217, u_3_219, v_22, u_1_3⟩, ⟨rfl, by decide, by decide, by decide +kernel⟩, by decide⟩
theorem k_X7_90 : CWV RX7 90 RX4 yX4_work cX4_work 8 (some .boolean) 4 := ⟨⟨u_4_53, u_4_50, u_4_51, u_4_52, u_1_4⟩, ⟨rfl, by decide, by decide, by decide +kernel⟩, by decide⟩
theorem k_X7_94 : CWV RX7 94 RX7 yX7_inForceAt cX7_inForceAt 4 (some .int) 2 := ⟨⟨u_3_228, u_4_77, u_3_226, u_3_227, u_1_3⟩, ⟨rfl, by decide, by decide, by decide +kernel⟩, by decide⟩
theorem k_X7_98 : CWV RX7 98 RX4 yX4_result cX4_result 1 (some .int) 0 := ⟨⟨u_4_81, u_4_78, u_4_79, u_4_80, u_1_4⟩, ⟨rfl, by decide, by decide, by decide +kernel⟩, by decide⟩
theorem k_X8_21 : CWV RX8 21 RX8 yX8_lengthOf cX8_lengthOf 2 (some .int) 1 := ⟨⟨u_4_158, u_4_155, u_4_156, u_4_157, u_1_11⟩, ⟨rfl, by decide, by decide, by decide +kernel⟩, by decide⟩
theorem k_X8_31 : CWV RX8 31 RX8 yX8_differences cX8_differences 5 (some .int) 1 := ⟨⟨u_4_179, u_4_176, u_4_178, v_35, u_1_11⟩, ⟨rfl, by decide, by decide, by decide +kernel⟩, by decide⟩
theorem k_X8_34 : CWV RX8 34 RX8 yX8_wordAt cX8_wordAt 3 (some .int) 2 := ⟨⟨u_4_183, u_4_180, u_4_182, v_36, u_1_11⟩, ⟨rfl, by decide, by decide, by decide +kernel⟩, by decide⟩
theorem k_X8_37 : CWV RX8 37 RX8 yX8_overlap cX8_overlap 2 (some .int) 0 := ⟨⟨u_4_174, u_4_192, u_4_172, u_4_173, u_1_11⟩, ⟨rfl, by decide, by decide, by decide +kernel⟩, by decide⟩
theorem k_X8_41 : CWV RX8 41 RX8 yX8_moreHeard cX8_moreHeard 3 (some .int) 2 := ⟨⟨u_4_196, u_4_193, u_4_195, v_37, u_1_11⟩, ⟨rfl, by decide, by decide, by decide +kernel⟩, by decide⟩
theorem k_X8_44 : CWV RX8 44 RX8 yX8_timesOnTape cX8_timesOnTape 4 (some .int) 1 := ⟨⟨u_4_200, u_4_197, u_4_199, v_38, u_1_11⟩, ⟨rfl, by decide, by decide, by decide +kernel⟩, by decide⟩
theorem k_X9_19 : CWV RX9 19 RX9 yX9_byteAt cX9_byteAt 2 (some .int) 1 := ⟨⟨u_2_205, u_2_202, u_2_203, u_2_204, u_1_2⟩, ⟨rfl, by decide, by decide, by decide +kernel⟩, by decide⟩
theorem k_X9_23 : CWS RX9 23 yX9_isBlank cX9_isBlank 1 (some .boolean) 1 := ⟨⟨u_2_208, u_2_206, u_2_207, u_1_2⟩, ⟨by decide, by decide, by decide +kernel⟩, by decide⟩
theorem k_X10_26 : CWV RX10 26 RX9 yX9_behindBlanks cX9_behindBlanks 3 (some .int) 1 := ⟨⟨u_2_201, u_2_198, u_2_199, u_2_200, u_1_2⟩, ⟨rfl, by decide, by decide, by decide +kernel⟩, by decide⟩
theorem k_X10_32 : CWV RX10 32 RX10 yX10_cutOne cX10_cutOne 4 (some .int) 2 := ⟨⟨u_2_212, u_2_209, u_2_211, v_0, u_1_6⟩, ⟨rfl, by decide, by decide, by decide +kernel⟩, by decide⟩
theorem k_X10_36 : CWV RX10 36 RX9 yX9_byteAt cX9_byteAt 2 (some .int) 1 := ⟨⟨u_2_205, u_2_213, u_2_203, u_2_204, u_1_2⟩, ⟨rfl, by decide, by decide, by decide +kernel⟩, by decide⟩
theorem k_X10_39 : CWV RX10 39 RX10 yX10_keep cX10_keep 3 (some .int) 2 := ⟨⟨u_2_217, u_2_214, u_2_216, v_1, u_1_6⟩, ⟨rfl, by decide, by decide, by decide +kernel⟩, by decide⟩
theorem k_X10_43 : CWS RX10 43 yX10_isLetter cX10_isLetter 1 (some .boolean) 1 := ⟨⟨u_2_220, u_2_218, u_2_219, u_1_6⟩, ⟨by decide, by decide, by decide +kernel⟩, by decide⟩
theorem k_X10_47 : CWV RX10 47 RX10 yX10_cutLetters cX10_cutLetters 6 (some .int) 2 := ⟨⟨u_2_224, u_2_221, u_2_223, v_2, u_1_6⟩, ⟨rfl, by decide, by decide, by decide +kernel⟩, by decide⟩
theorem k_X10_50 : CWS RX10 50 yX10_isDigit cX10_isDigit 1 (some .boolean) 1 := ⟨⟨u_3_47, u_3_45, u_3_46, u_1_6⟩, ⟨by decide, by decide, by decide +kernel⟩, by decide⟩
theorem k_X10_53 : CWV RX10 53 RX10 yX10_cutDigits cX10_cutDigits 5 (some .int) 2 := ⟨⟨u_3_51, u_3_48, u_3_50, v_3, u_1_6⟩, ⟨rfl, by decide, by decide, by decide +kernel⟩, by decide⟩
theorem k_X10_56 : CWV RX10 56 RX10 yX10_cutSign cX10_cutSign 4 (some .int) 3 := ⟨⟨u_3_55, u_3_52, u_3_54, v_4, u_1_6⟩, ⟨rfl, by decide, by decide, by decide +kernel⟩, by decide⟩
theorem k_X10_63 : CWS RX10 63 yX10_packLetter cX10_packLetter 3 (some .long) 2 := ⟨⟨u_2_227, u_2_225, u_2_226, u_1_6⟩, ⟨by decide, by decide, by decide +kernel⟩, by decide⟩
theorem k_X10_67 : CWS RX10 67 yX10_wordToken cX10_wordToken 4 (some .int) 1 := ⟨⟨u_2_231, u_2_229, u_2_230, u_1_6⟩, ⟨by decide, by decide, by decide +kernel⟩, by decide⟩
theorem k_X10_75 : CWS RX10 75 yX10_placeAmong cX10_placeAmong 8 (some .int) 2 := ⟨⟨u_2_235, u_2_233, u_2_234, u_1_6⟩, ⟨by decide, by decide, by decide +kernel⟩, by decide⟩
theorem k_X10_81 : CWV RX10 81 RJ0 yJ0_length_8abf5 cJ0_length_8abf5 1 (some .int) 0 := ⟨⟨u_2_239, u_2_236, u_2_237, u_2_238, u_1_14⟩, ⟨rfl, by decide, by decide, by decide +kernel⟩, by decide⟩
theorem k_X10_86 : CWV RX10 86 RJ0 yJ0_charAt_5068e cJ0_charAt_5068e 2 (some .char) 1 := ⟨⟨u_3_9, u_3_6, u_3_7, u_3_8, u_1_14⟩, ⟨rfl, by decide, by decide, by decide +kernel⟩, by decide⟩
theorem k_L_13 : CWV RL 13 RX11 yX11_feed cX11_feed 6 (some .int) 5 := ⟨⟨u_2_173, u_2_170, u_2_171, u_2_172, u_1_1⟩, ⟨rfl, by decide, by decide, by decide +kernel⟩, by decide⟩
theorem k_L_17 : CWV RL 17 RX12 yX12_feed cX12_feed 6 (some .int) 5 := ⟨⟨u_6_57, u_6_54, u_6_55, u_6_56, u_1_13⟩, ⟨rfl, by decide, by decide, by decide +kernel⟩, by decide⟩
theorem k_L_18 : CWV RL 18 RX11 yX11_back cX11_back 2 (some .int) 1 := ⟨⟨u_2_185, u_2_182, u_2_183, u_2_184, u_1_1⟩, ⟨rfl, by decide, by decide, by decide +kernel⟩, by decide⟩
theorem k_L_22 : CWV RL 22 RX12 yX12_back cX12_back 2 (some .int) 1 := ⟨⟨u_6_65, u_6_62, u_6_63, u_6_64, u_1_13⟩, ⟨rfl, by decide, by decide, by decide +kernel⟩, by decide⟩
theorem k_L_23 : CWV RL 23 RX11 yX11_read cX11_read 2 (some .int) 0 := ⟨⟨u_2_189, u_2_186, u_2_187, u_2_188, u_1_1⟩, ⟨rfl, by decide, by decide, by decide +kernel⟩, by decide⟩
theorem k_L_27 : CWV RL 27 RX12 yX12_read cX12_read 3 (some .int) 0 := ⟨⟨u_6_69, u_6_66, u_6_67, u_6_68, u_1_13⟩, ⟨rfl, by decide, by decide, by decide +kernel⟩, by decide⟩
theorem k_L_28 : CWV RL 28 RX11 yX11_place cX11_place 1 (some .int) 0 := ⟨⟨u_3_154, u_3_151, u_3_152, u_3_153, u_1_1⟩, ⟨rfl, by decide, by decide, by decide +kernel⟩, by decide⟩
theorem k_L_31 : CWV RL 31 RX12 yX12_place cX12_place 1 (some .int) 0 := ⟨⟨u_6_143, u_6_140, u_6_141, u_6_142, u_1_13⟩, ⟨rfl, by decide, by decide, by decide +kernel⟩, by decide⟩
theorem k_L_32 : CWV RL 32 RX11 yX11_line cX11_line 8 (some .int) 5 := ⟨⟨u_3_158, u_3_155, u_3_156, u_3_157, u_1_1⟩, ⟨rfl, by decide, by decide, by decide +kernel⟩, by decide⟩
theorem k_L_35 : CWV RL 35 RX12 yX12_line cX12_line 6 (some .int) 5 := ⟨⟨u_6_169, u_6_166, u_6_167, u_6_168, u_1_13⟩, ⟨rfl, by decide, by decide, by decide +kernel⟩, by decide⟩
theorem k_L_36 : CWV RL 36 RX11 yX11_reads cX11_reads 8 (some .int) 6 := ⟨⟨u_3_176, u_3_173, u_3_174, u_3_175, u_1_1⟩, ⟨rfl, by decide, by decide, by decide +kernel⟩, by decide⟩
theorem k_L_40 : CWV RL 40 RX12 yX12_reads cX12_reads 7 (some .int) 6 := ⟨⟨u_6_186, u_6_183, u_6_184, u_6_185, u_1_13⟩, ⟨rfl, by decide, by decide, by decide +kernel⟩, by decide⟩
theorem k_L_41 : CWV RL 41 RX11 yX11_sits cX11_sits 5 (some .int) 3 := ⟨⟨u_3_184, u_3_181, u_3_182, u_3_183, u_1_1⟩, ⟨rfl, by decide, by decide, by decide +kernel⟩, by decide⟩
theorem k_L_45 : CWV RL 45 RX12 yX12_sits cX12_sits 4 (some .int) 3 := ⟨⟨u_6_190, u_6_187, u_6_188, u_6_189, u_1_13⟩, ⟨rfl, by decide, by decide, by decide +kernel⟩, by decide⟩
theorem k_L_46 : CWV RL 46 RX11 yX11_office cX11_office 4 (some .int) 2 := ⟨⟨u_3_188, u_3_185, u_3_186, u_3_187, u_1_1⟩, ⟨rfl, by decide, by decide, by decide +kernel⟩, by decide⟩
theorem k_L_50 : CWV RL 50 RX12 yX12_office cX12_office 3 (some .int) 2 := ⟨⟨u_6_197, u_6_194, u_6_195, u_6_196, u_1_13⟩, ⟨rfl, by decide, by decide, by decide +kernel⟩, by decide⟩
theorem k_L_51 : CWV RL 51 RX11 yX11_paper cX11_paper 5 (some .int) 3 := ⟨⟨u_3_192, u_3_189, u_3_190, u_3_191, u_1_1⟩, ⟨rfl, by decide, by decide, by decide +kernel⟩, by decide⟩
theorem k_L_54 : CWV RL 54 RX12 yX12_paper cX12_paper 4 (some .int) 3 := ⟨⟨u_6_201, u_6_198, u_6_199, u_6_200, u_1_13⟩, ⟨rfl, by decide, by decide, by decide +kernel⟩, by decide⟩
theorem k_L_55 : CWV RL 55 RX11 yX11_fact cX11_fact 8 (some .int) 4 := ⟨⟨u_3_196, u_3_193, u_3_194, u_3_195, u_1_1⟩, ⟨rfl, by decide, by decide, by decide +kernel⟩, by decide⟩
theorem k_L_59 : CWV RL 59 RX12 yX12_fact cX12_fact 5 (some .int) 4 := ⟨⟨u_6_205, u_6_202, u_6_203, u_6_204, u_1_13⟩, ⟨rfl, by decide, by decide, by decide +kernel⟩, by decide⟩
theorem k_L_60 : CWV RL 60 RX11 yX11_rename cX11_rename 5 (some .int) 3 := ⟨⟨u_3_204, u_3_201, u_3_202, u_3_203, u_1_1⟩, ⟨rfl, by decide, by decide, by decide +kernel⟩, by decide⟩
theorem k_L_63 : CWV RL 63 RX12 yX12_rename cX12_rename 4 (some .int) 3 := ⟨⟨u_6_213, u_6_210, u_6_211, u_6_212, u_1_13⟩, ⟨rfl, by decide, by decide, by decide +kernel⟩, by decide⟩
theorem k_L_64 : CWV RL 64 RX11 yX11_vote cX11_vote 6 (some .int) 4 := ⟨⟨u_3_208, u_3_205, u_3_206, u_3_207, u_1_1⟩, ⟨rfl, by decide, by decide, by decide +kernel⟩, by decide⟩
theorem k_L_67 : CWV RL 67 RX12 yX12_vote cX12_vote 5 (some .int) 4 := ⟨⟨u_6_217, u_6_214, u_6_215, u_6_216, u_1_13⟩, ⟨rfl, by decide, by decide, by decide +kernel⟩, by decide⟩
theorem k_L_68 : CWV RL 68 RX11 yX11_rules cX11_rules 2 (some .int) 1 := ⟨⟨u_3_212, u_3_209, u_3_210, u_3_211, u_1_1⟩, ⟨rfl, by decide, by decide, by decide +kernel⟩, by decide⟩
theorem k_L_71 : CWV RL 71 RX12 yX12_rules cX12_rules 2 (some .int) 1 := ⟨⟨u_6_147, u_6_144, u_6_145, u_6_146, u_1_13⟩, ⟨rfl, by decide, by decide, by decide +kernel⟩, by decide⟩
theorem k_L_72 : CWV RL 72 RX11 yX11_rule cX11_rule 5 (some .int) 3 := ⟨⟨u_3_224, u_3_221, u_3_222, u_3_223, u_1_1⟩, ⟨rfl, by decide, by decide, by decide +kernel⟩, by decide⟩
theorem k_L_75 : CWV RL 75 RX12 yX12_rule cX12_rule 4 (some .int) 3 := ⟨⟨u_6_165, u_6_162, u_6_163, u_6_164, u_1_13⟩, ⟨rfl, by decide, by decide, by decide +kernel⟩, by decide⟩
theorem k_L_76 : CWV RL 76 RX11 yX11_who cX11_who 4 (some .int) 3 := ⟨⟨u_3_232, u_3_229, u_3_230, u_3_231, u_1_1⟩, ⟨rfl, by decide, by decide, by decide +kernel⟩, by decide⟩
theorem k_L_79 : CWV RL 79 RX12 yX12_who cX12_who 5 (some .int) 3 := ⟨⟨u_6_221, u_6_218, u_6_219, u_6_220, u_1_13⟩, ⟨rfl, by decide, by decide, by decide +kernel⟩, by decide⟩
theorem k_L_80 : CWV RL 80 RX11 yX11_printed cX11_printed 5 (some .int) 4 := ⟨⟨u_4_8, u_4_5, u_4_6, u_4_7, u_1_1⟩, ⟨rfl, by decide, by decide, by decide +kernel⟩, by decide⟩
theorem k_L_83 : CWV RL 83 RX12 yX12_printed cX12_printed 6 (some .int) 4 := ⟨⟨u_6_237, u_6_234, u_6_235, u_6_236, u_1_13⟩, ⟨rfl, by decide, by decide, by decide +kernel⟩, by decide⟩
theorem k_L_84 : CWV RL 84 RX11 yX11_mended cX11_mended 3 (some .int) 2 := ⟨⟨u_4_101, u_4_98, u_4_99, u_4_100, u_1_1⟩, ⟨rfl, by decide, by decide, by decide +kernel⟩, by decide⟩
theorem k_L_87 : CWV RL 87 RX12 yX12_mended cX12_mended 3 (some .int) 2 := ⟨⟨u_7_37, u_7_34, u_7_35, u_7_36, u_1_13⟩, ⟨rfl, by decide, by decide, by decide +kernel⟩, by decide⟩
theorem k_L_88 : CWV RL 88 RX11 yX11_bar cX11_bar 3 (some .int) 2 := ⟨⟨u_4_109, u_4_106, u_4_107, u_4_108, u_1_1⟩, ⟨rfl, by decide, by decide, by decide +kernel⟩, by decide⟩
theorem k_L_91 : CWV RL 91 RX12 yX12_bar cX12_bar 3 (some .int) 2 := ⟨⟨u_7_49, u_7_46, u_7_47, u_7_48, u_1_13⟩, ⟨rfl, by decide, by decide, by decide +kernel⟩, by decide⟩
theorem k_L_92 : CWV RL 92 RX11 yX11_lines cX11_lines 4 (some .int) 3 := ⟨⟨u_4_113, u_4_110, u_4_111, u_4_112, u_1_1⟩, ⟨rfl, by decide, by decide, by decide +kernel⟩, by decide⟩
theorem k_L_95 : CWV RL 95 RX12 yX12_lines cX12_lines 5 (some .int) 3 := ⟨⟨u_7_53, u_7_50, u_7_51, u_7_52, u_1_13⟩, ⟨rfl, by decide, by decide, by decide +kernel⟩, by decide⟩
theorem k_L_96 : CWV RL 96 RX11 yX11_at cX11_at 5 (some .int) 4 := ⟨⟨u_4_134, u_4_131, u_4_132, u_4_133, u_1_1⟩, ⟨rfl, by decide, by decide, by decide +kernel⟩, by decide⟩
theorem k_L_99 : CWV RL 99 RX12 yX12_at cX12_at 5 (some .int) 4 := ⟨⟨u_7_69, u_7_66, u_7_67, u_7_68, u_1_13⟩, ⟨rfl, by decide, by decide, by decide +kernel⟩, by decide⟩
theorem k_L_100 : CWV RL 100 RX11 yX11_court cX11_court 4 (some .int) 3 := ⟨⟨u_4_142, u_4_139, u_4_140, u_4_141, u_1_1⟩, ⟨rfl, by decide, by decide, by decide +kernel⟩, by decide⟩
theorem k_L_103 : CWV RL 103 RX12 yX12_court cX12_court 5 (some .int) 3 := ⟨⟨u_7_73, u_7_70, u_7_71, u_7_72, u_1_13⟩, ⟨rfl, by decide, by decide, by decide +kernel⟩, by decide⟩
theorem k_L_104 : CWV RL 104 RX11 yX11_take cX11_take 4 (some .int) 2 := ⟨⟨u_4_150, u_4_147, u_4_148, u_4_149, u_1_1⟩, ⟨rfl, by decide, by decide, by decide +kernel⟩, by decide⟩
theorem k_L_107 : CWV RL 107 RX12 yX12_take cX12_take 3 (some .int) 2 := ⟨⟨u_7_77, u_7_74, u_7_75, u_7_76, u_1_13⟩, ⟨rfl, by decide, by decide, by decide +kernel⟩, by decide⟩
theorem k_L_108 : CWV RL 108 RX11 yX11_clear cX11_clear 1 none 0 := ⟨⟨u_4_162, u_4_159, u_4_160, u_4_161, u_1_1⟩, ⟨rfl, by decide, by decide, by decide +kernel⟩, by decide⟩
theorem k_L_111 : CWV RL 111 RX12 yX12_clear cX12_clear 2 none 0 := ⟨⟨u_7_81, u_7_78, u_7_79, u_7_80, u_1_13⟩, ⟨rfl, by decide, by decide, by decide +kernel⟩, by decide⟩
theorem k_L_112 : CWV RL 112 RX11 yX11_join cX11_join 1 (some .int) 0 := ⟨⟨u_4_170, u_4_167, u_4_168, u_4_169, u_1_1⟩, ⟨rfl, by decide, by decide, by decide +kernel⟩, by decide⟩
theorem k_L_115 : CWV RL 115 RX12 yX12_join cX12_join 3 (some .int) 0 := ⟨⟨u_7_85, u_7_82, u_7_83, u_7_84, u_1_13⟩, ⟨rfl, by decide, by decide, by decide +kernel⟩, by decide⟩
theorem k_L_116 : CWV RL 116 RX11 yX11_joined cX11_joined 2 (some .int) 1 := ⟨⟨u_4_187, u_4_184, u_4_185, u_4_186, u_1_1⟩, ⟨rfl, by decide, by decide, by decide +kernel⟩, by decide⟩
theorem k_L_119 : CWV RL 119 RX12 yX12_joined cX12_joined 4 (some .int) 1 := ⟨⟨u_7_93, u_7_90, u_7_91, u_7_92, u_1_13⟩, ⟨rfl, by decide, by decide, by decide +kernel⟩, by decide⟩
theorem k_L_120 : CWV RL 120 RX11 yX11_apart cX11_apart 3 (some .int) 2 := ⟨⟨u_4_204, u_4_201, u_4_202, u_4_203, u_1_1⟩, ⟨rfl, by decide, by decide, by decide +kernel⟩, by decide⟩
theorem k_L_123 : CWV RL 123 RX12 yX12_apart cX12_apart 6 (some .int) 2 := ⟨⟨u_7_102, u_7_99, u_7_100, u_7_101, u_1_13⟩, ⟨rfl, by decide, by decide, by decide +kernel⟩, by decide⟩
theorem k_L_124 : CWV RL 124 RX11 yX11_sum cX11_sum 6 (some .int) 3 := ⟨⟨u_4_212, u_4_209, u_4_210, u_4_211, u_1_1⟩, ⟨rfl, by decide, by decide, by decide +kernel⟩, by decide⟩
theorem k_L_127 : CWV RL 127 RX12 yX12_sum cX12_sum 4 (some .int) 3 := ⟨⟨u_7_106, u_7_103, u_7_104, u_7_105, u_1_13⟩, ⟨rfl, by decide, by decide, by decide +kernel⟩, by decide⟩
theorem k_L_128 : CWV RL 128 RX11 yX11_doubles cX11_doubles 3 (some .int) 2 := ⟨⟨u_4_226, u_4_223, u_4_224, u_4_225, u_1_1⟩, ⟨rfl, by decide, by decide, by decide +kernel⟩, by decide⟩
theorem k_L_131 : CWV RL 131 RX12 yX12_doubles cX12_doubles 5 (some .int) 2 := ⟨⟨u_7_118, u_7_115, u_7_116, u_7_117, u_1_13⟩, ⟨rfl, by decide, by decide, by decide +kernel⟩, by decide⟩
theorem k_L_132 : CWV RL 132 RX11 yX11_moved cX11_moved 3 (some .int) 2 := ⟨⟨u_4_230, u_4_227, u_4_228, u_4_229, u_1_1⟩, ⟨rfl, by decide, by decide, by decide +kernel⟩, by decide⟩
theorem k_L_135 : CWV RL 135 RX12 yX12_moved cX12_moved 6 (some .int) 2 := ⟨⟨u_7_122, u_7_119, u_7_120, u_7_121, u_1_13⟩, ⟨rfl, by decide, by decide, by decide +kernel⟩, by decide⟩
theorem k_L_136 : CWV RL 136 RX11 yX11_reporter cX11_reporter 4 (some .boolean) 3 := ⟨⟨u_4_239, u_4_236, u_4_237, u_4_238, u_1_1⟩, ⟨rfl, by decide, by decide, by decide +kernel⟩, by decide⟩
theorem k_L_140 : CWV RL 140 RX12 yX12_reporter cX12_reporter 4 (some .boolean) 3 := ⟨⟨u_7_126, u_7_123, u_7_124, u_7_125, u_1_13⟩, ⟨rfl, by decide, by decide, by decide +kernel⟩, by decide⟩
theorem k_L_141 : CWV RL 141 RX11 yX11_roster cX11_roster 3 (some .int) 2 := ⟨⟨u_5_7, u_5_4, u_5_5, u_5_6, u_1_1⟩, ⟨rfl, by decide, by decide, by decide +kernel⟩, by decide⟩
theorem k_L_144 : CWV RL 144 RX12 yX12_roster cX12_roster 8 (some .int) 2 := ⟨⟨u_7_130, u_7_127, u_7_128, u_7_129, u_1_13⟩, ⟨rfl, by decide, by decide, by decide +kernel⟩, by decide⟩
theorem k_L_145 : CWV RL 145 RX11 yX11_turn cX11_turn 2 (some .int) 1 := ⟨⟨u_5_22, u_5_19, u_5_20, u_5_21, u_1_1⟩, ⟨rfl, by decide, by decide, by decide +kernel⟩, by decide⟩
theorem k_L_148 : CWV RL 148 RX12 yX12_turn cX12_turn 2 (some .int) 1 := ⟨⟨u_7_138, u_7_135, u_7_136, u_7_137, u_1_13⟩, ⟨rfl, by decide, by decide, by decide +kernel⟩, by decide⟩
theorem k_L_149 : CWV RL 149 RX11 yX11_names cX11_names 4 (some .int) 3 := ⟨⟨u_5_30, u_5_27, u_5_28, u_5_29, u_1_1⟩, ⟨rfl, by decide, by decide, by decide +kernel⟩, by decide⟩
theorem k_L_152 : CWV RL 152 RX12 yX12_names cX12_names 5 (some .int) 3 := ⟨⟨u_7_150, u_7_147, u_7_148, u_7_149, u_1_13⟩, ⟨rfl, by decide, by decide, by decide +kernel⟩, by decide⟩
theorem k_L_153 : CWV RL 153 RX11 yX11_found cX11_found 5 (some .int) 4 := ⟨⟨u_5_56, u_5_53, u_5_54, u_5_55, u_1_1⟩, ⟨rfl, by decide, by decide, by decide +kernel⟩, by decide⟩
theorem k_L_156 : CWV RL 156 RX12 yX12_found cX12_found 5 (some .int) 4 := ⟨⟨u_7_162, u_7_159, u_7_160, u_7_161, u_1_13⟩, ⟨rfl, by decide, by decide, by decide +kernel⟩, by decide⟩
theorem k_L_157 : CWV RL 157 RX11 yX11_same cX11_same 5 (some .int) 4 := ⟨⟨u_5_60, u_5_57, u_5_58, u_5_59, u_1_1⟩, ⟨rfl, by decide, by decide, by decide +kernel⟩, by decide⟩
theorem k_L_160 : CWV RL 160 RX12 yX12_same cX12_same 5 (some .int) 4 := ⟨⟨u_7_142, u_7_139, u_7_140, u_7_141, u_1_13⟩, ⟨rfl, by decide, by decide, by decide +kernel⟩, by decide⟩
theorem k_L_161 : CWV RL 161 RX11 yX11_count cX11_count 2 (some .int) 1 := ⟨⟨u_5_66, u_5_63, u_5_64, u_5_65, u_1_1⟩, ⟨rfl, by decide, by decide, by decide +kernel⟩, by decide⟩
theorem k_L_164 : CWV RL 164 RX12 yX12_count cX12_count 2 (some .int) 1 := ⟨⟨u_7_166, u_7_163, u_7_164, u_7_165, u_1_13⟩, ⟨rfl, by decide, by decide, by decide +kernel⟩, by decide⟩
theorem k_X12_155 : CWS RX12 155 yX12_word cX12_word 7 (some .long) 7 := ⟨⟨u_5_76, u_5_74, u_5_75, u_1_13⟩, ⟨by decide, by decide, by decide +kernel⟩, by decide⟩
theorem k_X12_162 : CWV RX12 162 RX12 yX12_put cX12_put 3 none 1 := ⟨⟨u_6_61, u_6_58, u_6_60, v_42, u_1_13⟩, ⟨rfl, by decide, by decide, by decide +kernel⟩, by decide⟩
theorem k_X12_171 : CWS RX12 171 yX12_more cX12_more 3 (some .long) 2 := ⟨⟨u_5_79, u_5_77, u_5_78, u_1_13⟩, ⟨by decide, by decide, by decide +kernel⟩, by decide⟩
theorem k_X12_178 : CWV RX12 178 RX12 yX12_byteAt cX12_byteAt 2 (some .int) 1 := ⟨⟨u_6_77, u_6_74, u_6_76, v_44, u_1_13⟩, ⟨rfl, by decide, by decide, by decide +kernel⟩, by decide⟩
theorem k_X12_182 : CWV RX12 182 RX12 yX12_token cX12_token 6 none 4 := ⟨⟨u_6_81, u_6_78, u_6_80, v_45, u_1_13⟩, ⟨rfl, by decide, by decide, by decide +kernel⟩, by decide⟩
theorem k_X12_186 : CWS RX12 186 yX12_isLetter cX12_isLetter 1 (some .boolean) 1 := ⟨⟨u_6_84, u_6_82, u_6_83, u_1_13⟩, ⟨by decide, by decide, by decide +kernel⟩, by decide⟩
theorem k_X12_190 : CWS RX12 190 yX12_isDigit cX12_isDigit 1 (some .boolean) 1 := ⟨⟨u_6_87, u_6_85, u_6_86, u_1_13⟩, ⟨by decide, by decide, by decide +kernel⟩, by decide⟩
theorem k_X12_193 : CWV RX12 193 RX12 yX12_sign cX12_sign 6 (some .int) 3 := ⟨⟨u_6_91, u_6_88, u_6_90, v_46, u_1_13⟩, ⟨rfl, by decide, by decide, by decide +kernel⟩, by decide⟩
theorem k_X12_212 : CWV RX12 212 RX12 yX12_fail cX12_fail 2 none 1 := ⟨⟨u_6_103, u_6_100, u_6_102, v_49, u_1_13⟩, ⟨rfl, by decide, by decide, by decide +kernel⟩, by decide⟩
theorem k_X12_215 : CWV RX12 215 RX12 yX12_is cX12_is 2 (some .boolean) 1 := ⟨⟨u_6_95, u_6_92, u_6_94, v_47, u_1_13⟩, ⟨rfl, by decide, by decide, by decide +kernel⟩, by decide⟩
theorem k_X12_218 : CWV RX12 218 RX12 yX12_next cX12_next 1 none 0 := ⟨⟨u_6_99, u_6_96, u_6_98, v_48, u_1_13⟩, ⟨rfl, by decide, by decide, by decide +kernel⟩, by decide⟩
theorem k_X12_224 : CWV RX12 224 RX12 yX12_cut cX12_cut 8 none 0 := ⟨⟨u_6_73, u_6_70, u_6_72, v_43, u_1_13⟩, ⟨rfl, by decide, by decide, by decide +kernel⟩, by decide⟩
theorem k_X12_236 : CWV RX12 236 RX12 yX12_must cX12_must 2 none 1 := ⟨⟨u_6_107, u_6_104, u_6_106, v_50, u_1_13⟩, ⟨rfl, by decide, by decide, by decide +kernel⟩, by decide⟩
theorem k_X12_239 : CWV RX12 239 RX12 yX12_wrong cX12_wrong 4 none 2 := ⟨⟨u_6_111, u_6_108, u_6_110, v_51, u_1_13⟩, ⟨rfl, by decide, by decide, by decide +kernel⟩, by decide⟩
theorem k_X12_243 : CWV RX12 243 RX12 yX12_tellRule cX12_tellRule 6 none 0 := ⟨⟨u_6_115, u_6_112, u_6_114, v_52, u_1_13⟩, ⟨rfl, by decide, by decide, by decide +kernel⟩, by decide⟩
theorem k_X12_246 : CWV RX12 246 RX12 yX12_changed cX12_changed 1 none 0 := ⟨⟨u_6_139, u_6_136, u_6_138, v_58, u_1_13⟩, ⟨rfl, by decide, by decide, by decide +kernel⟩, by decide⟩
theorem k_X12_249 : CWV RX12 249 RX12 yX12_expression cX12_expression 3 none 0 := ⟨⟨u_6_119, u_6_116, u_6_118, v_53, u_1_13⟩, ⟨rfl, by decide, by decide, by decide +kernel⟩, by decide⟩
theorem k_X12_252 : CWV RX12 252 RX12 yX12_literal cX12_literal 6 none 1 := ⟨⟨u_6_135, u_6_132, u_6_134, v_57, u_1_13⟩, ⟨rfl, by decide, by decide, by decide +kernel⟩, by decide⟩
theorem k_X12_259 : CWV RX12 259 RX12 yX12_emit cX12_emit 3 none 2 := ⟨⟨u_6_127, u_6_124, u_6_126, v_55, u_1_13⟩, ⟨rfl, by decide, by decide, by decide +kernel⟩, by decide⟩
theorem k_X12_262 : CWV RX12 262 RX12 yX12_unit cX12_unit 1 none 0 := ⟨⟨u_6_123, u_6_120, u_6_122, v_54, u_1_13⟩, ⟨rfl, by decide, by decide, by decide +kernel⟩, by decide⟩
theorem k_X12_265 : CWV RX12 265 RX12 yX12_comesOut cX12_comesOut 3 none 1 := ⟨⟨u_6_131, u_6_128, u_6_130, v_56, u_1_13⟩, ⟨rfl, by decide, by decide, by decide +kernel⟩, by decide⟩
theorem k_X12_272 : CWV RX12 272 RX12 yX12_termOf cX12_termOf 8 (some .int) 2 := ⟨⟨u_7_21, u_7_18, u_7_20, v_71, u_1_13⟩, ⟨rfl, by decide, by decide, by decide +kernel⟩, by decide⟩
theorem k_X12_276 : CWV RX12 276 RX12 yX12_isTrue cX12_isTrue 6 (some .boolean) 1 := ⟨⟨u_7_17, u_7_14, u_7_16, v_70, u_1_13⟩, ⟨rfl, by decide, by decide, by decide +kernel⟩, by decide⟩
theorem k_X12_282 : CWV RX12 282 RX12 yX12_comes cX12_comes 4 none 1 := ⟨⟨u_6_161, u_6_158, u_6_160, v_60, u_1_13⟩, ⟨rfl, by decide, by decide, by decide +kernel⟩, by decide⟩
theorem k_X12_285 : CWV RX12 285 RX12 yX12_holds cX12_holds 4 (some .boolean) 1 := ⟨⟨u_7_13, u_7_10, u_7_12, v_69, u_1_13⟩, ⟨rfl, by decide, by decide, by decide +kernel⟩, by decide⟩
theorem k_X12_288 : CWS RX12 288 yX12_in cX12_in 3 (some .boolean) 3 := ⟨⟨u_6_153, u_6_151, u_6_152, u_1_13⟩, ⟨by decide, by decide, by decide +kernel⟩, by decide⟩
theorem k_X12_292 : CWS RX12 292 yX12_isDay cX12_isDay 1 (some .boolean) 1 := ⟨⟨u_6_150, u_6_148, u_6_149, u_1_13⟩, ⟨by decide, by decide, by decide +kernel⟩, by decide⟩
theorem k_X12_295 : CWV RX12 295 RX12 yX12_forces cX12_forces 5 none 1 := ⟨⟨u_6_157, u_6_154, u_6_156, v_59, u_1_13⟩, ⟨rfl, by decide, by decide, by decide +kernel⟩, by decide⟩
theorem k_X12_301 : CWS RX12 301 yX12_isMinute cX12_isMinute 1 (some .boolean) 1 := ⟨⟨u_6_172, u_6_170, u_6_171, u_1_13⟩, ⟨by decide, by decide, by decide +kernel⟩, by decide⟩
theorem k_X12_304 : CWS RX12 304 yX12_isSeat cX12_isSeat 1 (some .boolean) 1 := ⟨⟨u_6_175, u_6_173, u_6_174, u_1_13⟩, ⟨by decide, by decide, by decide +kernel⟩, by decide⟩
theorem k_X12_307 : CWS RX12 307 yX12_isWord cX12_isWord 1 (some .boolean) 1 := ⟨⟨u_6_178, u_6_176, u_6_177, u_1_13⟩, ⟨by decide, by decide, by decide +kernel⟩, by decide⟩
theorem k_X12_310 : CWV RX12 310 RX12 yX12_tells cX12_tells 9 (some .int) 8 := ⟨⟨u_6_182, u_6_179, u_6_181, v_61, u_1_13⟩, ⟨rfl, by decide, by decide, by decide +kernel⟩, by decide⟩
theorem k_X12_314 : CWS RX12 314 yX12_isMember cX12_isMember 1 (some .boolean) 1 := ⟨⟨u_6_193, u_6_191, u_6_192, u_1_13⟩, ⟨by decide, by decide, by decide +kernel⟩, by decide⟩
theorem k_X12_317 : CWV RX12 317 RX12 yX12_isLine cX12_isLine 3 (some .boolean) 2 := ⟨⟨u_6_209, u_6_206, u_6_208, v_62, u_1_13⟩, ⟨rfl, by decide, by decide, by decide +kernel⟩, by decide⟩
theorem k_X12_321 : CWV RX12 321 RX12 yX12_latest cX12_latest 7 (some .int) 4 := ⟨⟨u_6_233, u_6_230, u_6_232, v_65, u_1_13⟩, ⟨rfl, by decide, by decide, by decide +kernel⟩, by decide⟩
theorem k_X12_325 : CWV RX12 325 RX12 yX12_isKnown cX12_isKnown 2 (some .boolean) 1 := ⟨⟨u_6_225, u_6_222, u_6_224, v_63, u_1_13⟩, ⟨rfl, by decide, by decide, by decide +kernel⟩, by decide⟩
theorem k_X12_328 : CWV RX12 328 RX12 yX12_whoIn cX12_whoIn 6 (some .int) 3 := ⟨⟨u_6_229, u_6_226, u_6_228, v_64, u_1_13⟩, ⟨rfl, by decide, by decide, by decide +kernel⟩, by decide⟩
theorem k_X12_331 : CWV RX12 331 RX12 yX12_isStruckBy cX12_isStruckBy 5 (some .boolean) 3 := ⟨⟨u_7_29, u_7_26, u_7_28, v_73, u_1_13⟩, ⟨rfl, by decide, by decide, by decide +kernel⟩, by decide⟩
theorem k_X12_339 : CWV RX12 339 RX12 yX12_first cX12_first 3 (some .int) 1 := ⟨⟨u_7_9, u_7_6, u_7_8, v_68, u_1_13⟩, ⟨rfl, by decide, by decide, by decide +kernel⟩, by decide⟩
theorem k_X12_342 : CWV RX12 342 RX12 yX12_fills cX12_fills 10 none 2 := ⟨⟨u_7_5, u_7_2, u_7_4, v_67, u_1_13⟩, ⟨rfl, by decide, by decide, by decide +kernel⟩, by decide⟩
theorem k_X12_348 : CWV RX12 348 RX12 yX12_fateOf cX12_fateOf 4 (some .int) 2 := ⟨⟨u_7_25, u_7_22, u_7_24, v_72, u_1_13⟩, ⟨rfl, by decide, by decide, by decide +kernel⟩, by decide⟩
theorem k_X12_354 : CWV RX12 354 RX12 yX12_later cX12_later 3 none 2 := ⟨⟨u_7_33, u_7_30, u_7_32, v_74, u_1_13⟩, ⟨rfl, by decide, by decide, by decide +kernel⟩, by decide⟩
theorem k_X12_360 : CWV RX12 360 RX12 yX12_prints cX12_prints 7 none 4 := ⟨⟨u_7_1, u_6_238, u_7_0, v_66, u_1_13⟩, ⟨rfl, by decide, by decide, by decide +kernel⟩, by decide⟩
theorem k_X12_364 : CWV RX12 364 RX12 yX12_isMend cX12_isMend 3 (some .boolean) 2 := ⟨⟨u_7_41, u_7_38, u_7_40, v_75, u_1_13⟩, ⟨rfl, by decide, by decide, by decide +kernel⟩, by decide⟩
theorem k_X12_367 : CWV RX12 367 RX12 yX12_mendOf cX12_mendOf 3 (some .int) 2 := ⟨⟨u_7_45, u_7_42, u_7_44, v_76, u_1_13⟩, ⟨rfl, by decide, by decide, by decide +kernel⟩, by decide⟩
theorem k_X12_373 : CWV RX12 373 RX12 yX12_stands cX12_stands 5 none 2 := ⟨⟨u_7_65, u_7_62, u_7_64, v_79, u_1_13⟩, ⟨rfl, by decide, by decide, by decide +kernel⟩, by decide⟩
theorem k_X12_379 : CWV RX12 379 RX12 yX12_isPrint cX12_isPrint 4 (some .boolean) 3 := ⟨⟨u_7_57, u_7_54, u_7_56, v_77, u_1_13⟩, ⟨rfl, by decide, by decide, by decide +kernel⟩, by decide⟩
theorem k_X12_382 : CWV RX12 382 RX12 yX12_printAt cX12_printAt 7 (some .int) 4 := ⟨⟨u_7_61, u_7_58, u_7_60, v_78, u_1_13⟩, ⟨rfl, by decide, by decide, by decide +kernel⟩, by decide⟩
theorem k_X12_386 : CWV RX12 386 RX12 yX12_joins cX12_joins 4 (some .boolean) 1 := ⟨⟨u_7_89, u_7_86, u_7_88, v_80, u_1_13⟩, ⟨rfl, by decide, by decide, by decide +kernel⟩, by decide⟩
theorem k_X12_389 : CWV RX12 389 RX12 yX12_join cX12_join 3 (some .int) 0 := ⟨⟨u_7_85, u_7_94, u_7_83, u_7_84, u_1_13⟩, ⟨rfl, by decide, by decide, by decide +kernel⟩, by decide⟩
theorem k_X12_393 : CWV RX12 393 RX12 yX12_onTape cX12_onTape 4 (some .int) 1 := ⟨⟨u_7_98, u_7_95, u_7_97, v_81, u_1_13⟩, ⟨rfl, by decide, by decide, by decide +kernel⟩, by decide⟩
theorem k_X12_396 : CWV RX12 396 RX12 yX12_has cX12_has 6 (some .boolean) 4 := ⟨⟨u_7_114, u_7_111, u_7_113, v_83, u_1_13⟩, ⟨rfl, by decide, by decide, by decide +kernel⟩, by decide⟩
theorem k_X12_400 : CWV RX12 400 RX12 yX12_sumOf cX12_sumOf 6 (some .int) 3 := ⟨⟨u_7_110, u_7_107, u_7_109, v_82, u_1_13⟩, ⟨rfl, by decide, by decide, by decide +kernel⟩, by decide⟩
theorem k_X12_406 : CWV RX12 406 RX12 yX12_mayTake cX12_mayTake 4 (some .boolean) 2 := ⟨⟨u_7_134, u_7_131, u_7_133, v_84, u_1_13⟩, ⟨rfl, by decide, by decide, by decide +kernel⟩, by decide⟩
theorem k_X12_409 : CWV RX12 409 RX12 yX12_sames cX12_sames 6 none 3 := ⟨⟨u_7_146, u_7_143, u_7_145, v_85, u_1_13⟩, ⟨rfl, by decide, by decide, by decide +kernel⟩, by decide⟩
theorem k_X12_413 : CWV RX12 413 RX12 yX12_isAsked cX12_isAsked 4 (some .boolean) 3 := ⟨⟨u_7_154, u_7_151, u_7_153, v_86, u_1_13⟩, ⟨rfl, by decide, by decide, by decide +kernel⟩, by decide⟩
theorem k_X12_416 : CWV RX12 416 RX12 yX12_namesOf cX12_namesOf 8 (some .int) 4 := ⟨⟨u_7_158, u_7_155, u_7_157, v_87, u_1_13⟩, ⟨rfl, by decide, by decide, by decide +kernel⟩, by decide⟩
