theorem kc_m1 : Int32.ofInt (-1) = (-1) := by decide
theorem kc_0 : Int32.ofInt 0 = 0 := by decide
theorem kc_1 : Int32.ofInt 1 = 1 := by decide
theorem kc_2 : Int32.ofInt 2 = 2 := by decide
theorem kc_3 : Int32.ofInt 3 = 3 := by decide
theorem kc_4 : Int32.ofInt 4 = 4 := by decide
theorem kc_5 : Int32.ofInt 5 = 5 := by decide
theorem kb_m100 : (Int8.ofInt (-100)).toInt32 = (-100) := by decide
theorem kb_m2 : (Int8.ofInt (-2)).toInt32 = (-2) := by decide
theorem kb_6 : (Int8.ofInt 6).toInt32 = 6 := by decide
theorem kb_7 : (Int8.ofInt 7).toInt32 = 7 := by decide
theorem kb_8 : (Int8.ofInt 8).toInt32 = 8 := by decide
theorem kb_9 : (Int8.ofInt 9).toInt32 = 9 := by decide
theorem kb_10 : (Int8.ofInt 10).toInt32 = 10 := by decide
theorem kb_11 : (Int8.ofInt 11).toInt32 = 11 := by decide
theorem kb_12 : (Int8.ofInt 12).toInt32 = 12 := by decide
theorem kb_13 : (Int8.ofInt 13).toInt32 = 13 := by decide
theorem kb_14 : (Int8.ofInt 14).toInt32 = 14 := by decide
theorem kb_15 : (Int8.ofInt 15).toInt32 = 15 := by decide
theorem kb_20 : (Int8.ofInt 20).toInt32 = 20 := by decide
theorem kb_21 : (Int8.ofInt 21).toInt32 = 21 := by decide
theorem kb_22 : (Int8.ofInt 22).toInt32 = 22 := by decide
theorem kb_23 : (Int8.ofInt 23).toInt32 = 23 := by decide
theorem kb_24 : (Int8.ofInt 24).toInt32 = 24 := by decide
theorem kb_27 : (Int8.ofInt 27).toInt32 = 27 := by decide
theorem kb_28 : (Int8.ofInt 28).toInt32 = 28 := by decide
theorem kb_29 : (Int8.ofInt 29).toInt32 = 29 := by decide
theorem kb_30 : (Int8.ofInt 30).toInt32 = 30 := by decide
theorem kb_31 : (Int8.ofInt 31).toInt32 = 31 := by decide
theorem kb_32 : (Int8.ofInt 32).toInt32 = 32 := by decide
theorem kb_33 : (Int8.ofInt 33).toInt32 = 33 := by decide
theorem kb_40 : (Int8.ofInt 40).toInt32 = 40 := by decide
theorem kb_41 : (Int8.ofInt 41).toInt32 = 41 := by decide
theorem kb_42 : (Int8.ofInt 42).toInt32 = 42 := by decide
theorem kb_43 : (Int8.ofInt 43).toInt32 = 43 := by decide
theorem kb_45 : (Int8.ofInt 45).toInt32 = 45 := by decide
theorem kb_47 : (Int8.ofInt 47).toInt32 = 47 := by decide
theorem kb_48 : (Int8.ofInt 48).toInt32 = 48 := by decide
theorem kb_57 : (Int8.ofInt 57).toInt32 = 57 := by decide
theorem kb_59 : (Int8.ofInt 59).toInt32 = 59 := by decide
theorem kb_60 : (Int8.ofInt 60).toInt32 = 60 := by decide
theorem kb_61 : (Int8.ofInt 61).toInt32 = 61 := by decide
theorem kb_97 : (Int8.ofInt 97).toInt32 = 97 := by decide
theorem kb_99 : (Int8.ofInt 99).toInt32 = 99 := by decide
theorem kb_100 : (Int8.ofInt 100).toInt32 = 100 := by decide
theorem kb_122 : (Int8.ofInt 122).toInt32 = 122 := by decide
theorem ks_140 : (Int16.ofInt 140).toInt32 = 140 := by decide
theorem ks_180 : (Int16.ofInt 180).toInt32 = 180 := by decide
theorem ks_239 : (Int16.ofInt 239).toInt32 = 239 := by decide
theorem ks_255 : (Int16.ofInt 255).toInt32 = 255 := by decide
theorem ks_400 : (Int16.ofInt 400).toInt32 = 400 := by decide
theorem ks_999 : (Int16.ofInt 999).toInt32 = 999 := by decide
theorem ks_1000 : (Int16.ofInt 1000).toInt32 = 1000 := by decide
theorem ks_2000 : (Int16.ofInt 2000).toInt32 = 2000 := by decide
theorem ki_m8 : Int32.ofInt (-8) = (-8) := by decide
theorem ki_m1 : Int32.ofInt (-1) = (-1) := by decide
theorem ki_1 : Int32.ofInt 1 = 1 := by decide
theorem k_X12_162 : CWV RX12 162 RX12 yX12_put cX12_put 3 none 1 := ⟨⟨u_6_61, u_6_58, u_6_60, v_42, u_1_13⟩, ⟨rfl, by decide, by decide, by decide +kernel⟩, by decide⟩
theorem k_X12_171 : CWS RX12 171 yX12_more cX12_more 3 (some .long) 2 := ⟨⟨u_5_79, u_5_77, u_5_78, u_1_13⟩, ⟨by decide, by decide, by decide +kernel⟩, by decide⟩
theorem k_X12_178 : CWV RX12 178 RX12 yX12_byteAt cX12_byteAt 2 (some .int) 1 := ⟨⟨u_6_77, u_6_74, u_6_76, v_44, u_1_13⟩, ⟨rfl, by decide, by decide, by decide +kernel⟩, by decide⟩
theorem k_X12_182 : CWV RX12 182 RX12 yX12_token cX12_token 6 none 4 := ⟨⟨u_6_81, u_6_78, u_6_80, v_45, u_1_13⟩, ⟨rfl, by decide, by decide, by decide +kernel⟩, by decide⟩
theorem k_X12_186 : CWS RX12 186 yX12_isLetter cX12_isLetter 1 (some .boolean) 1 := ⟨⟨u_6_84, u_6_82, u_6_83, u_1_13⟩, ⟨by decide, by decide, by decide +kernel⟩, by decide⟩
theorem k_X12_190 : CWS RX12 190 yX12_isDigit cX12_isDigit 1 (some .boolean) 1 := ⟨⟨u_6_87, u_6_85, u_6_86, u_1_13⟩, ⟨by decide, by decide, by decide +kernel⟩, by decide⟩
theorem k_X12_193 : CWV RX12 193 RX12 yX12_sign cX12_sign 6 (some .int) 3 := ⟨⟨u_6_91, u_6_88, u_6_90, v_46, u_1_13⟩, ⟨rfl, by decide, by decide, by decide +kernel⟩, by decide⟩
theorem k_X12_212 : CWV RX12 212 RX12 yX12_fail cX12_fail 2 none 1 := ⟨⟨u_6_103, u_6_100, u_6_102, v_49, u_1_13⟩, ⟨rfl, by decide, by decide, by decide +kernel⟩, by decide⟩
theorem k_X12_215 : CWV RX12 215 RX12 yX12_is cX12_is 2 (some .boolean) 1 := ⟨⟨u_6_95, u_6_92, u_6_94, v_47, u_1_13⟩, ⟨rfl, by decide, by decide, by decide +kernel⟩, by decide⟩
theorem k_X12_218 : CWV RX12 218 RX12 yX12_next cX12_next 1 none 0 := ⟨⟨u_6_99, u_6_96, u_6_98, v_48, u_1_13⟩, ⟨rfl, by decide, by decide, by decide +kernel⟩, by decide⟩
theorem k_X12_224 : CWV RX12 224 RX12 yX12_cut cX12_cut 8 none 0 := ⟨⟨u_6_73, u_6_70, u_6_72, v_43, u_1_13⟩, ⟨rfl, by decide, by decide, by decide +kernel⟩, by decide⟩
theorem k_X12_236 : CWV RX12 236 RX12 yX12_must cX12_must 2 none 1 := ⟨⟨u_6_107, u_6_104, u_6_106, v_50, u_1_13⟩, ⟨rfl, by decide, by decide, by decide +kernel⟩, by decide⟩
theorem k_X12_239 : CWV RX12 239 RX12 yX12_wrong cX12_wrong 4 none 2 := ⟨⟨u_6_111, u_6_108, u_6_110, v_51, u_1_13⟩, ⟨rfl, by decide, by decide, by decide +kernel⟩, by decide⟩
theorem k_X12_243 : CWV RX12 243 RX12 yX12_tellRule cX12_tellRule 6 none 0 := ⟨⟨u_6_115, u_6_112, u_6_114, v_52, u_1_13⟩, ⟨rfl, by decide, by decide, by decide +kernel⟩, by decide⟩
theorem k_X12_246 : CWV RX12 246 RX12 yX12_changed cX12_changed 1 none 0 := ⟨⟨u_6_139, u_6_136, u_6_138, v_58, u_1_13⟩, ⟨rfl, by decide, by decide, by decide +kernel⟩, by decide⟩
theorem k_X12_249 : CWV RX12 249 RX12 yX12_expression cX12_expression 3 none 0 := ⟨⟨u_6_119, u_6_116, u_6_118, v_53, u_1_13⟩, ⟨rfl, by decide, by decide, by decide +kernel⟩, by decide⟩
theorem k_X12_252 : CWV RX12 252 RX12 yX12_literal cX12_literal 6 none 1 := ⟨⟨u_6_135, u_6_132, u_6_134, v_57, u_1_13⟩, ⟨rfl, by decide, by decide, by decide +kernel⟩, by decide⟩
theorem k_X12_259 : CWV RX12 259 RX12 yX12_emit cX12_emit 3 none 2 := ⟨⟨u_6_127, u_6_124, u_6_126, v_55, u_1_13⟩, ⟨rfl, by decide, by decide, by decide +kernel⟩, by decide⟩
theorem k_X12_262 : CWV RX12 262 RX12 yX12_unit cX12_unit 1 none 0 := ⟨⟨u_6_123, u_6_120, u_6_122, v_54, u_1_13⟩, ⟨rfl, by decide, by decide, by decide +kernel⟩, by decide⟩
theorem k_X12_265 : CWV RX12 265 RX12 yX12_comesOut cX12_comesOut 3 none 1 := ⟨⟨u_6_131, u_6_128, u_6_130, v_56, u_1_13⟩, ⟨rfl, by decide, by decide, by decide +kernel⟩, by decide⟩
theorem k_X12_272 : CWV RX12 272 RX12 yX12_termOf cX12_termOf 8 (some .int) 2 := ⟨⟨u_7_21, u_7_18, u_7_20, v_71, u_1_13⟩, ⟨rfl, by decide, by decide, by decide +kernel⟩, by decide⟩
theorem k_X12_276 : CWV RX12 276 RX12 yX12_isTrue cX12_isTrue 6 (some .boolean) 1 := ⟨⟨u_7_17, u_7_14, u_7_16, v_70, u_1_13⟩, ⟨rfl, by decide, by decide, by decide +kernel⟩, by decide⟩
theorem k_X12_282 : CWV RX12 282 RX12 yX12_comes cX12_comes 4 none 1 := ⟨⟨u_6_161, u_6_158, u_6_160, v_60, u_1_13⟩, ⟨rfl, by decide, by decide, by decide +kernel⟩, by decide⟩
theorem k_X12_285 : CWV RX12 285 RX12 yX12_holds cX12_holds 4 (some .boolean) 1 := ⟨⟨u_7_13, u_7_10, u_7_12, v_69, u_1_13⟩, ⟨rfl, by decide, by decide, by decide +kernel⟩, by decide⟩
theorem k_X12_288 : CWS RX12 288 yX12_in cX12_in 3 (some .boolean) 3 := ⟨⟨u_6_153, u_6_151, u_6_152, u_1_13⟩, ⟨by decide, by decide, by decide +kernel⟩, by decide⟩
theorem k_X12_292 : CWS RX12 292 yX12_isDay cX12_isDay 1 (some .boolean) 1 := ⟨⟨u_6_150, u_6_148, u_6_149, u_1_13⟩, ⟨by decide, by decide, by decide +kernel⟩, by decide⟩
theorem k_X12_295 : CWV RX12 295 RX12 yX12_forces cX12_forces 5 none 1 := ⟨⟨u_6_157, u_6_154, u_6_156, v_59, u_1_13⟩, ⟨rfl, by decide, by decide, by decide +kernel⟩, by decide⟩
theorem k_X12_301 : CWS RX12 301 yX12_isMinute cX12_isMinute 1 (some .boolean) 1 := ⟨⟨u_6_172, u_6_170, u_6_171, u_1_13⟩, ⟨by decide, by decide, by decide +kernel⟩, by decide⟩
theorem k_X12_304 : CWS RX12 304 yX12_isSeat cX12_isSeat 1 (some .boolean) 1 := ⟨⟨u_6_175, u_6_173, u_6_174, u_1_13⟩, ⟨by decide, by decide, by decide +kernel⟩, by decide⟩
theorem k_X12_307 : CWS RX12 307 yX12_isWord cX12_isWord 1 (some .boolean) 1 := ⟨⟨u_6_178, u_6_176, u_6_177, u_1_13⟩, ⟨by decide, by decide, by decide +kernel⟩, by decide⟩
theorem k_X12_310 : CWV RX12 310 RX12 yX12_tells cX12_tells 9 (some .int) 8 := ⟨⟨u_6_182, u_6_179, u_6_181, v_61, u_1_13⟩, ⟨rfl, by decide, by decide, by decide +kernel⟩, by decide⟩
theorem k_X12_314 : CWS RX12 314 yX12_isMember cX12_isMember 1 (some .boolean) 1 := ⟨⟨u_6_193, u_6_191, u_6_192, u_1_13⟩, ⟨by decide, by decide, by decide +kernel⟩, by decide⟩
theorem k_X12_317 : CWV RX12 317 RX12 yX12_isLine cX12_isLine 3 (some .boolean) 2 := ⟨⟨u_6_209, u_6_206, u_6_208, v_62, u_1_13⟩, ⟨rfl, by decide, by decide, by decide +kernel⟩, by decide⟩
theorem k_X12_321 : CWV RX12 321 RX12 yX12_latest cX12_latest 7 (some .int) 4 := ⟨⟨u_6_233, u_6_230, u_6_232, v_65, u_1_13⟩, ⟨rfl, by decide, by decide, by decide +kernel⟩, by decide⟩
theorem k_X12_325 : CWV RX12 325 RX12 yX12_isKnown cX12_isKnown 2 (some .boolean) 1 := ⟨⟨u_6_225, u_6_222, u_6_224, v_63, u_1_13⟩, ⟨rfl, by decide, by decide, by decide +kernel⟩, by decide⟩
theorem k_X12_328 : CWV RX12 328 RX12 yX12_whoIn cX12_whoIn 6 (some .int) 3 := ⟨⟨u_6_229, u_6_226, u_6_228, v_64, u_1_13⟩, ⟨rfl, by decide, by decide, by decide +kernel⟩, by decide⟩
theorem k_X12_331 : CWV RX12 331 RX12 yX12_isStruckBy cX12_isStruckBy 5 (some .boolean) 3 := ⟨⟨u_7_29, u_7_26, u_7_28, v_73, u_1_13⟩, ⟨rfl, by decide, by decide, by decide +kernel⟩, by decide⟩
theorem k_X12_339 : CWV RX12 339 RX12 yX12_first cX12_first 3 (some .int) 1 := ⟨⟨u_7_9, u_7_6, u_7_8, v_68, u_1_13⟩, ⟨rfl, by decide, by decide, by decide +kernel⟩, by decide⟩
theorem k_X12_342 : CWV RX12 342 RX12 yX12_fills cX12_fills 10 none 2 := ⟨⟨u_7_5, u_7_2, u_7_4, v_67, u_1_13⟩, ⟨rfl, by decide, by decide, by decide +kernel⟩, by decide⟩
theorem k_X12_348 : CWV RX12 348 RX12 yX12_fateOf cX12_fateOf 4 (some .int) 2 := ⟨⟨u_7_25, u_7_22, u_7_24, v_72, u_1_13⟩, ⟨rfl, by decide, by decide, by decide +kernel⟩, by decide⟩
theorem k_X12_354 : CWV RX12 354 RX12 yX12_later cX12_later 3 none 2 := ⟨⟨u_7_33, u_7_30, u_7_32, v_74, u_1_13⟩, ⟨rfl, by decide, by decide, by decide +kernel⟩, by decide⟩
theorem k_X12_360 : CWV RX12 360 RX12 yX12_prints cX12_prints 7 none 4 := ⟨⟨u_7_1, u_6_238, u_7_0, v_66, u_1_13⟩, ⟨rfl, by decide, by decide, by decide +kernel⟩, by decide⟩
theorem k_X12_364 : CWV RX12 364 RX12 yX12_isMend cX12_isMend 3 (some .boolean) 2 := ⟨⟨u_7_41, u_7_38, u_7_40, v_75, u_1_13⟩, ⟨rfl, by decide, by decide, by decide +kernel⟩, by decide⟩
theorem k_X12_367 : CWV RX12 367 RX12 yX12_mendOf cX12_mendOf 3 (some .int) 2 := ⟨⟨u_7_45, u_7_42, u_7_44, v_76, u_1_13⟩, ⟨rfl, by decide, by decide, by decide +kernel⟩, by decide⟩
theorem k_X12_373 : CWV RX12 373 RX12 yX12_stands cX12_stands 5 none 2 := ⟨⟨u_7_65, u_7_62, u_7_64, v_79, u_1_13⟩, ⟨rfl, by decide, by decide, by decide +kernel⟩, by decide⟩
theorem k_X12_379 : CWV RX12 379 RX12 yX12_isPrint cX12_isPrint 4 (some .boolean) 3 := ⟨⟨u_7_57, u_7_54, u_7_56, v_77, u_1_13⟩, ⟨rfl, by decide, by decide, by decide +kernel⟩, by decide⟩
theorem k_X12_382 : CWV RX12 382 RX12 yX12_printAt cX12_printAt 7 (some .int) 4 := ⟨⟨u_7_61, u_7_58, u_7_60, v_78, u_1_13⟩, ⟨rfl, by decide, by decide, by decide +kernel⟩, by decide⟩
theorem k_X12_386 : CWV RX12 386 RX12 yX12_joins cX12_joins 4 (some .boolean) 1 := ⟨⟨u_7_89, u_7_86, u_7_88, v_80, u_1_13⟩, ⟨rfl, by decide, by decide, by decide +kernel⟩, by decide⟩
theorem k_X12_389 : CWV RX12 389 RX12 yX12_join cX12_join 3 (some .int) 0 := ⟨⟨u_7_85, u_7_94, u_7_83, u_7_84, u_1_13⟩, ⟨rfl, by decide, by decide, by decide +kernel⟩, by decide⟩
theorem k_X12_393 : CWV RX12 393 RX12 yX12_onTape cX12_onTape 4 (some .int) 1 := ⟨⟨u_7_98, u_7_95, u_7_97, v_81, u_1_13⟩, ⟨rfl, by decide, by decide, by decide +kernel⟩, by decide⟩
theorem k_X12_396 : CWV RX12 396 RX12 yX12_has cX12_has 6 (some .boolean) 4 := ⟨⟨u_7_114, u_7_111, u_7_113, v_83, u_1_13⟩, ⟨rfl, by decide, by decide, by decide +kernel⟩, by decide⟩
theorem k_X12_400 : CWV RX12 400 RX12 yX12_sumOf cX12_sumOf 6 (some .int) 3 := ⟨⟨u_7_110, u_7_107, u_7_109, v_82, u_1_13⟩, ⟨rfl, by decide, by decide, by decide +kernel⟩, by decide⟩
theorem k_X12_406 : CWV RX12 406 RX12 yX12_mayTake cX12_mayTake 4 (some .boolean) 2 := ⟨⟨u_7_134, u_7_131, u_7_133, v_84, u_1_13⟩, ⟨rfl, by decide, by decide, by decide +kernel⟩, by decide⟩
theorem k_X12_409 : CWV RX12 409 RX12 yX12_sames cX12_sames 6 none 3 := ⟨⟨u_7_146, u_7_143, u_7_145, v_85, u_1_13⟩, ⟨rfl, by decide, by decide, by decide +kernel⟩, by decide⟩
theorem k_X12_413 : CWV RX12 413 RX12 yX12_isAsked cX12_isAsked 4 (some .boolean) 3 := ⟨⟨u_7_154, u_7_151, u_7_153, v_86, u_1_13⟩, ⟨rfl, by decide, by decide, by decide +kernel⟩, by decide⟩
theorem k_X12_416 : CWV RX12 416 RX12 yX12_namesOf cX12_namesOf 8 (some .int) 4 := ⟨⟨u_7_158, u_7_155, u_7_157, v_87, u_1_13⟩, ⟨rfl, by decide, by decide, by decide +kernel⟩, by decide⟩
