def strLen (w : Nat) : Nat := [5, 3, 7].getD w 0
def strByt (w : Nat) : List Int32 := [[116, 104, 105, 110, 103], [111, 119, 110], [102, 105, 103, 117, 114, 101, 115]].getD w []
def fS_length (N : Nat) (w : Nat) (S : Mem) : Option Int32 := some (nI (strLen w))
def fS_charAt (N : Nat) (w : Nat) (a1 : Int32) (S : Mem) : Option Int32 := if a1 < 0 ∨ strLen w ≤ a1.toNatClampNeg then none else some ((strByt w).getD a1.toNatClampNeg 0)
theorem mv_S_length : MV yJ0_length_8abf5 cJ0_length_8abf5 1 (some .int) "java/lang/String" 0 := ⟨⟨rfl, by decide⟩, ⟨by decide +kernel, by decide +kernel, by decide +kernel⟩, bw_2_92, bw_1_12, bw_2_90, bw_2_91⟩
theorem mv_S_charAt : MV yJ0_charAt_5068e cJ0_charAt_5068e 2 (some .char) "java/lang/String" 1 := ⟨⟨rfl, by decide⟩, ⟨by decide +kernel, by decide +kernel, by decide +kernel⟩, bw_2_103, bw_1_12, bw_2_101, bw_2_102⟩
theorem cS_length {E : En} {N w : Nat} {S : Mem} {r : Int32} (hw : w < 3) (h : fS_length N w S = some r) : CT E yJ0_length_8abf5 cJ0_length_8abf5 1 (some .int) 1 [.ref (eK E w)] S (some (.int r)) S := sorry
theorem cS_charAt {E : En} {N w : Nat} {a1 : Int32} {S : Mem} {r : Int32} (hw : w < 3) (h : fS_charAt N w a1 S = some r) : CT E yJ0_charAt_5068e cJ0_charAt_5068e 2 (some .char) 1 [.ref (eK E w), .int a1] S (some (.int r)) S := sorry
theorem mv_7_length : MV yX7_length cX7_length 1 (some .int) RX7 0 := ⟨⟨rfl, by decide⟩, ⟨by decide +kernel, by decide +kernel, by decide +kernel⟩, bw_2_20, bw_1_2, bw_2_18, bw_2_19⟩
theorem mv_5_put : MV yX5_put cX5_put 3 none RX5 2 := ⟨⟨rfl, by decide⟩, ⟨by decide +kernel, by decide +kernel, by decide +kernel⟩, bw_2_28, bw_1_3, bw_2_26, bw_2_27⟩
theorem mv_7_append : MV yX7_append cX7_append 2 none RX7 1 := ⟨⟨rfl, by decide⟩, ⟨by decide +kernel, by decide +kernel, by decide +kernel⟩, bw_2_24, bw_1_2, bw_2_22, bw_2_23⟩
theorem mv_7_wipe : MV yX7_wipe cX7_wipe 1 none RX7 0 := ⟨⟨rfl, by decide⟩, ⟨by decide +kernel, by decide +kernel, by decide +kernel⟩, bw_2_36, bw_1_2, bw_2_34, bw_2_35⟩
theorem mv_6_reset : MV yX6_reset cX6_reset 1 none RX6 0 := ⟨⟨rfl, by decide⟩, ⟨by decide +kernel, by decide +kernel, by decide +kernel⟩, bw_2_52, bw_1_5, bw_2_50, bw_2_51⟩
theorem mv_4_begin : MV yX4_begin cX4_begin 1 none RX4 0 := ⟨⟨rfl, by decide⟩, ⟨by decide +kernel, by decide +kernel, by decide +kernel⟩, bw_2_48, bw_1_4, bw_2_47, bw_p_0⟩
theorem mv_5_get : MV yX5_get cX5_get 2 (some .int) RX5 1 := ⟨⟨rfl, by decide⟩, ⟨by decide +kernel, by decide +kernel, by decide +kernel⟩, bw_2_69, bw_1_3, bw_2_67, bw_2_68⟩
theorem mv_7_byteAt : MV yX7_byteAt cX7_byteAt 2 (some .int) RX7 1 := ⟨⟨rfl, by decide⟩, ⟨by decide +kernel, by decide +kernel, by decide +kernel⟩, bw_2_65, bw_1_2, bw_2_63, bw_2_64⟩
theorem mv_4_endOfBlanks : MV yX4_endOfBlanks cX4_endOfBlanks 3 (some .int) RX4 1 := ⟨⟨rfl, by decide⟩, ⟨by decide +kernel, by decide +kernel, by decide +kernel⟩, bw_2_60, bw_1_4, bw_2_59, bw_p_2⟩
theorem mv_9_isBetween : MS yX9_isBetween cX9_isBetween 3 (some .boolean) 3 := ⟨by decide, ⟨by decide +kernel, by decide +kernel, by decide +kernel⟩, bw_2_75, bw_1_1, bw_2_74⟩
theorem mv_4_isLetter : MS yX4_isLetter cX4_isLetter 1 (some .boolean) 1 := ⟨by decide, ⟨by decide +kernel, by decide +kernel, by decide +kernel⟩, bw_2_72, bw_1_4, bw_2_71⟩
theorem mv_4_isDigit : MS yX4_isDigit cX4_isDigit 1 (some .boolean) 1 := ⟨by decide, ⟨by decide +kernel, by decide +kernel, by decide +kernel⟩, bw_2_142, bw_1_4, bw_2_141⟩
theorem mv_4_endOfDigits : MV yX4_endOfDigits cX4_endOfDigits 3 (some .int) RX4 1 := ⟨⟨rfl, by decide⟩, ⟨by decide +kernel, by decide +kernel, by decide +kernel⟩, bw_2_146, bw_1_4, bw_2_145, bw_p_5⟩
theorem mv_4_numberToken : MV yX4_numberToken cX4_numberToken 2 (some .int) RX4 0 := ⟨⟨rfl, by decide⟩, ⟨by decide +kernel, by decide +kernel, by decide +kernel⟩, bw_2_150, bw_1_4, bw_2_149, bw_p_6⟩
theorem mv_4_endOfWord : MV yX4_endOfWord cX4_endOfWord 3 (some .int) RX4 1 := ⟨⟨rfl, by decide⟩, ⟨by decide +kernel, by decide +kernel, by decide +kernel⟩, bw_2_79, bw_1_4, bw_2_78, bw_p_3⟩
theorem mv_7_has : MV yX7_has cX7_has 5 (some .boolean) RX7 3 := ⟨⟨rfl, by decide⟩, ⟨by decide +kernel, by decide +kernel, by decide +kernel⟩, bw_2_88, bw_1_2, bw_2_86, bw_2_87⟩
theorem mv_4_wordToken : MV yX4_wordToken cX4_wordToken 1 (some .int) RX4 0 := ⟨⟨rfl, by decide⟩, ⟨by decide +kernel, by decide +kernel, by decide +kernel⟩, bw_2_83, bw_1_4, bw_2_82, bw_p_4⟩
theorem mv_4_token : MV yX4_token cX4_token 2 (some .int) RX4 0 := ⟨⟨rfl, by decide⟩, ⟨by decide +kernel, by decide +kernel, by decide +kernel⟩, bw_2_56, bw_1_4, bw_2_55, bw_p_1⟩
theorem mv_6_things : MV yX6_things cX6_things 1 (some .int) RX6 0 := ⟨⟨rfl, by decide⟩, ⟨by decide +kernel, by decide +kernel, by decide +kernel⟩, bw_2_158, bw_1_5, bw_2_156, bw_2_157⟩
theorem mv_4_mayBegin : MV yX4_mayBegin cX4_mayBegin 2 (some .boolean) RX4 1 := ⟨⟨rfl, by decide⟩, ⟨by decide +kernel, by decide +kernel, by decide +kernel⟩, bw_2_154, bw_1_4, bw_2_153, bw_p_7⟩
theorem mv_4_mayTake : MV yX4_mayTake cX4_mayTake 2 (some .boolean) RX4 1 := ⟨⟨rfl, by decide⟩, ⟨by decide +kernel, by decide +kernel, by decide +kernel⟩, bw_2_162, bw_1_4, bw_2_161, bw_p_8⟩
theorem mv_6_addThing : MV yX6_addThing cX6_addThing 2 none RX6 1 := ⟨⟨rfl, by decide⟩, ⟨by decide +kernel, by decide +kernel, by decide +kernel⟩, bw_2_170, bw_1_5, bw_2_168, bw_2_169⟩
theorem mv_6_setOwn : MV yX6_setOwn cX6_setOwn 2 none RX6 1 := ⟨⟨rfl, by decide⟩, ⟨by decide +kernel, by decide +kernel, by decide +kernel⟩, bw_2_175, bw_1_5, bw_2_173, bw_2_174⟩
theorem mv_6_setFigures : MV yX6_setFigures cX6_setFigures 2 none RX6 1 := ⟨⟨rfl, by decide⟩, ⟨by decide +kernel, by decide +kernel, by decide +kernel⟩, bw_2_179, bw_1_5, bw_2_177, bw_2_178⟩
theorem mv_4_take : MV yX4_take cX4_take 2 none RX4 1 := ⟨⟨rfl, by decide⟩, ⟨by decide +kernel, by decide +kernel, by decide +kernel⟩, bw_2_166, bw_1_4, bw_2_165, bw_p_9⟩
theorem mv_4_read : MV yX4_read cX4_read 3 (some .int) RX4 0 := ⟨⟨rfl, by decide⟩, ⟨by decide +kernel, by decide +kernel, by decide +kernel⟩, bw_2_44, bw_1_4, bw_2_42, bw_2_43⟩
theorem mv_4_told : MV yX4_told cX4_told 1 (some (.object "SelfScale$Scale")) RX4 0 := ⟨⟨rfl, by decide⟩, ⟨by decide +kernel, by decide +kernel, by decide +kernel⟩, bw_2_183, bw_1_4, bw_2_181, bw_2_182⟩
theorem mv_5_copyFrom : MV yX5_copyFrom cX5_copyFrom 3 none RX5 1 := ⟨⟨rfl, by decide⟩, ⟨by decide +kernel, by decide +kernel, by decide +kernel⟩, bw_2_191, bw_1_3, bw_2_189, bw_2_190⟩
theorem mv_6_copyFrom : MV yX6_copyFrom cX6_copyFrom 2 none RX6 1 := ⟨⟨rfl, by decide⟩, ⟨by decide +kernel, by decide +kernel, by decide +kernel⟩, bw_2_187, bw_1_5, bw_2_185, bw_2_186⟩
theorem mv_0_wipe : MV yX0_wipe cX0_wipe 1 none RX0 0 := ⟨⟨rfl, by decide⟩, ⟨by decide +kernel, by decide +kernel, by decide +kernel⟩, bw_2_196, bw_1_6, bw_2_194, bw_2_195⟩
theorem mv_1_drop : MV yX1_drop cX1_drop 1 none RX1 0 := ⟨⟨rfl, by decide⟩, ⟨by decide +kernel, by decide +kernel, by decide +kernel⟩, bw_2_200, bw_1_7, bw_2_198, bw_2_199⟩
theorem mv_8_forget : MV yX8_forget cX8_forget 1 none RX8 0 := ⟨⟨rfl, by decide⟩, ⟨by decide +kernel, by decide +kernel, by decide +kernel⟩, bw_2_204, bw_1_9, bw_2_202, bw_2_203⟩
theorem mv_4_items : MV yX4_items cX4_items 1 (some .int) RX4 0 := ⟨⟨rfl, by decide⟩, ⟨by decide +kernel, by decide +kernel, by decide +kernel⟩, bw_2_208, bw_1_4, bw_2_206, bw_2_207⟩
theorem mv_9_isItem : MV yX9_isItem cX9_isItem 2 (some .boolean) RX9 1 := ⟨⟨rfl, by decide⟩, ⟨by decide +kernel, by decide +kernel, by decide +kernel⟩, bw_2_217, bw_1_1, bw_2_216, bw_p_10⟩
theorem mv_6_weightOf : MV yX6_weightOf cX6_weightOf 2 (some .int) RX6 1 := ⟨⟨rfl, by decide⟩, ⟨by decide +kernel, by decide +kernel, by decide +kernel⟩, bw_2_223, bw_1_5, bw_2_221, bw_2_222⟩
theorem mv_6_sets : MV yX6_sets cX6_sets 1 (some .int) RX6 0 := ⟨⟨rfl, by decide⟩, ⟨by decide +kernel, by decide +kernel, by decide +kernel⟩, bw_2_236, bw_1_5, bw_2_234, bw_2_235⟩
theorem mv_9_isSet : MV yX9_isSet cX9_isSet 2 (some .boolean) RX9 1 := ⟨⟨rfl, by decide⟩, ⟨by decide +kernel, by decide +kernel, by decide +kernel⟩, bw_2_232, bw_1_1, bw_2_231, bw_p_11⟩
theorem mv_0_isFull : MV yX0_isFull cX0_isFull 1 (some .boolean) RX0 0 := ⟨⟨rfl, by decide⟩, ⟨by decide +kernel, by decide +kernel, by decide +kernel⟩, bw_3_0, bw_1_6, bw_2_238, bw_2_239⟩
theorem mv_6_loadOf : MV yX6_loadOf cX6_loadOf 4 (some .int) RX6 1 := ⟨⟨rfl, by decide⟩, ⟨by decide +kernel, by decide +kernel, by decide +kernel⟩, bw_3_4, bw_1_5, bw_3_2, bw_3_3⟩
theorem mv_6_own : MV yX6_own cX6_own 1 (some .int) RX6 0 := ⟨⟨rfl, by decide⟩, ⟨by decide +kernel, by decide +kernel, by decide +kernel⟩, bw_3_8, bw_1_5, bw_3_6, bw_3_7⟩
theorem mv_6_leftOver : MV yX6_leftOver cX6_leftOver 2 (some .int) RX6 1 := ⟨⟨rfl, by decide⟩, ⟨by decide +kernel, by decide +kernel, by decide +kernel⟩, bw_3_12, bw_1_5, bw_3_10, bw_3_11⟩
theorem mv_0_add : MV yX0_add cX0_add 4 none RX0 3 := ⟨⟨rfl, by decide⟩, ⟨by decide +kernel, by decide +kernel, by decide +kernel⟩, bw_3_16, bw_1_6, bw_3_14, bw_3_15⟩
theorem mv_6_figures : MV yX6_figures cX6_figures 1 (some .int) RX6 0 := ⟨⟨rfl, by decide⟩, ⟨by decide +kernel, by decide +kernel, by decide +kernel⟩, bw_3_26, bw_1_5, bw_3_24, bw_3_25⟩
theorem mv_0_lines : MV yX0_lines cX0_lines 1 (some .int) RX0 0 := ⟨⟨rfl, by decide⟩, ⟨by decide +kernel, by decide +kernel, by decide +kernel⟩, bw_3_30, bw_1_6, bw_3_28, bw_3_29⟩
theorem mv_9_isLine : MV yX9_isLine cX9_isLine 2 (some .boolean) RX9 1 := ⟨⟨rfl, by decide⟩, ⟨by decide +kernel, by decide +kernel, by decide +kernel⟩, bw_3_38, bw_1_1, bw_3_37, bw_p_12⟩
theorem mv_0_setOf : MV yX0_setOf cX0_setOf 2 (some .int) RX0 1 := ⟨⟨rfl, by decide⟩, ⟨by decide +kernel, by decide +kernel, by decide +kernel⟩, bw_3_42, bw_1_6, bw_3_40, bw_3_41⟩
theorem mv_0_shownOf : MV yX0_shownOf cX0_shownOf 2 (some .int) RX0 1 := ⟨⟨rfl, by decide⟩, ⟨by decide +kernel, by decide +kernel, by decide +kernel⟩, bw_3_47, bw_1_6, bw_3_45, bw_3_46⟩
theorem mv_0_laughOf : MV yX0_laughOf cX0_laughOf 2 (some .int) RX0 1 := ⟨⟨rfl, by decide⟩, ⟨by decide +kernel, by decide +kernel, by decide +kernel⟩, bw_3_51, bw_1_6, bw_3_49, bw_3_50⟩
theorem mv_0_dropLatest : MV yX0_dropLatest cX0_dropLatest 1 none RX0 0 := ⟨⟨rfl, by decide⟩, ⟨by decide +kernel, by decide +kernel, by decide +kernel⟩, bw_3_59, bw_1_6, bw_3_57, bw_3_58⟩
theorem mv_5_wipe : MV yX5_wipe cX5_wipe 2 none RX5 0 := ⟨⟨rfl, by decide⟩, ⟨by decide +kernel, by decide +kernel, by decide +kernel⟩, bw_3_75, bw_1_3, bw_3_73, bw_3_74⟩
theorem mv_8_codeOf : MV yX8_codeOf cX8_codeOf 8 (some .int) RX8 2 := ⟨⟨rfl, by decide⟩, ⟨by decide +kernel, by decide +kernel, by decide +kernel⟩, bw_3_85, bw_1_9, bw_3_84, bw_p_15⟩
theorem mv_5_join : MV yX5_join cX5_join 3 none RX5 2 := ⟨⟨rfl, by decide⟩, ⟨by decide +kernel, by decide +kernel, by decide +kernel⟩, bw_3_92, bw_1_3, bw_3_90, bw_3_91⟩
theorem mv_8_writeCodes : MV yX8_writeCodes cX8_writeCodes 3 none RX8 0 := ⟨⟨rfl, by decide⟩, ⟨by decide +kernel, by decide +kernel, by decide +kernel⟩, bw_3_79, bw_1_9, bw_3_78, bw_p_14⟩
theorem mv_8_code : MV yX8_code cX8_code 3 (some .int) RX8 2 := ⟨⟨rfl, by decide⟩, ⟨by decide +kernel, by decide +kernel, by decide +kernel⟩, bw_3_100, bw_1_9, bw_3_99, bw_p_17⟩
theorem mv_8_leastOf : MV yX8_leastOf cX8_leastOf 2 (some .int) RX8 1 := ⟨⟨rfl, by decide⟩, ⟨by decide +kernel, by decide +kernel, by decide +kernel⟩, bw_3_105, bw_1_9, bw_3_104, bw_p_18⟩
theorem mv_8_mostOf : MV yX8_mostOf cX8_mostOf 2 (some .int) RX8 1 := ⟨⟨rfl, by decide⟩, ⟨by decide +kernel, by decide +kernel, by decide +kernel⟩, bw_3_110, bw_1_9, bw_3_109, bw_p_19⟩
theorem mv_J6_bitCount : MS yJ6_bitCount_0f7a4 cJ6_bitCount_0f7a4 1 (some .int) 1 := ⟨by decide, ⟨by decide +kernel, by decide +kernel, by decide +kernel⟩, bw_3_117, bw_1_16, bw_3_116⟩
theorem mv_8_weightIn : MS yX8_weightIn cX8_weightIn 2 (some .int) 2 := ⟨by decide, ⟨by decide +kernel, by decide +kernel, by decide +kernel⟩, bw_3_127, bw_1_9, bw_3_126⟩
theorem mv_5_add : MV yX5_add cX5_add 3 none RX5 2 := ⟨⟨rfl, by decide⟩, ⟨by decide +kernel, by decide +kernel, by decide +kernel⟩, bw_3_131, bw_1_3, bw_3_129, bw_3_130⟩
theorem mv_8_leave : MV yX8_leave cX8_leave 5 none RX8 2 := ⟨⟨rfl, by decide⟩, ⟨by decide +kernel, by decide +kernel, by decide +kernel⟩, bw_3_124, bw_1_9, bw_3_123, bw_p_21⟩
theorem mv_8_meet : MV yX8_meet cX8_meet 5 none RX8 2 := ⟨⟨rfl, by decide⟩, ⟨by decide +kernel, by decide +kernel, by decide +kernel⟩, bw_3_114, bw_1_9, bw_3_113, bw_p_20⟩
theorem mv_8_meetWorldsWith : MV yX8_meetWorldsWith cX8_meetWorldsWith 9 none RX8 1 := ⟨⟨rfl, by decide⟩, ⟨by decide +kernel, by decide +kernel, by decide +kernel⟩, bw_3_96, bw_1_9, bw_3_95, bw_p_16⟩
theorem mv_8_learn : MV yX8_learn cX8_learn 2 none RX8 0 := ⟨⟨rfl, by decide⟩, ⟨by decide +kernel, by decide +kernel, by decide +kernel⟩, bw_3_71, bw_1_9, bw_3_69, bw_3_70⟩
theorem mv_9_known : MV yX9_known cX9_known 1 (some (.object "SelfScale$Worlds")) RX9 0 := ⟨⟨rfl, by decide⟩, ⟨by decide +kernel, by decide +kernel, by decide +kernel⟩, bw_3_67, bw_1_1, bw_3_66, bw_p_13⟩
theorem mv_8_leftWith : MV yX8_leftWith cX8_leftWith 3 (some .int) RX8 2 := ⟨⟨rfl, by decide⟩, ⟨by decide +kernel, by decide +kernel, by decide +kernel⟩, bw_3_139, bw_1_9, bw_3_137, bw_3_138⟩
theorem mv_8_left : MV yX8_left cX8_left 1 (some .int) RX8 0 := ⟨⟨rfl, by decide⟩, ⟨by decide +kernel, by decide +kernel, by decide +kernel⟩, bw_3_135, bw_1_9, bw_3_133, bw_3_134⟩
theorem mv_8_onlyWeightOf : MV yX8_onlyWeightOf cX8_onlyWeightOf 3 (some .int) RX8 1 := ⟨⟨rfl, by decide⟩, ⟨by decide +kernel, by decide +kernel, by decide +kernel⟩, bw_3_147, bw_1_9, bw_3_145, bw_3_146⟩
theorem mv_8_everFalse : MV yX8_everFalse cX8_everFalse 1 (some .int) RX8 0 := ⟨⟨rfl, by decide⟩, ⟨by decide +kernel, by decide +kernel, by decide +kernel⟩, bw_3_159, bw_1_9, bw_3_157, bw_3_158⟩
theorem mv_8_fewestFalse : MV yX8_fewestFalse cX8_fewestFalse 1 (some .int) RX8 0 := ⟨⟨rfl, by decide⟩, ⟨by decide +kernel, by decide +kernel, by decide +kernel⟩, bw_3_155, bw_1_9, bw_3_153, bw_3_154⟩
theorem mv_8_leftAfter : MV yX8_leftAfter cX8_leftAfter 4 (some .int) RX8 1 := ⟨⟨rfl, by decide⟩, ⟨by decide +kernel, by decide +kernel, by decide +kernel⟩, bw_3_177, bw_1_9, bw_3_175, bw_3_176⟩
theorem mv_8_loadIn : MS yX8_loadIn cX8_loadIn 3 (some .int) 2 := ⟨by decide, ⟨by decide +kernel, by decide +kernel, by decide +kernel⟩, bw_3_184, bw_1_9, bw_3_183⟩
theorem mv_3_shownIn : MV yX3_shownIn cX3_shownIn 3 (some .int) RX3 2 := ⟨⟨rfl, by decide⟩, ⟨by decide +kernel, by decide +kernel, by decide +kernel⟩, bw_3_181, bw_1_10, bw_3_180, bw_p_22⟩
theorem mv_3_worstOf : MV yX3_worstOf cX3_worstOf 7 (some .int) RX3 1 := ⟨⟨rfl, by decide⟩, ⟨by decide +kernel, by decide +kernel, by decide +kernel⟩, bw_3_171, bw_1_10, bw_3_169, bw_3_170⟩
theorem mv_3_bestSet : MV yX3_bestSet cX3_bestSet 5 (some .int) RX3 0 := ⟨⟨rfl, by decide⟩, ⟨by decide +kernel, by decide +kernel, by decide +kernel⟩, bw_3_167, bw_1_10, bw_3_165, bw_3_166⟩
theorem mv_3_isTorn : MS yX3_isTorn cX3_isTorn 3 (some .boolean) 3 := ⟨by decide, ⟨by decide +kernel, by decide +kernel, by decide +kernel⟩, bw_3_209, bw_1_10, bw_3_208⟩
theorem mv_3_isSureBy : MV yX3_isSureBy cX3_isSureBy 6 (some .boolean) RX3 2 := ⟨⟨rfl, by decide⟩, ⟨by decide +kernel, by decide +kernel, by decide +kernel⟩, bw_3_205, bw_1_10, bw_3_204, bw_p_23⟩
theorem mv_3_stillUnsure : MV yX3_stillUnsure cX3_stillUnsure 12 (some .int) RX3 4 := ⟨⟨rfl, by decide⟩, ⟨by decide +kernel, by decide +kernel, by decide +kernel⟩, bw_3_220, bw_1_10, bw_3_219, bw_p_25⟩
theorem mv_3_isSureByTwo : MV yX3_isSureByTwo cX3_isSureByTwo 5 (some .boolean) RX3 2 := ⟨⟨rfl, by decide⟩, ⟨by decide +kernel, by decide +kernel, by decide +kernel⟩, bw_3_215, bw_1_10, bw_3_214, bw_p_24⟩
theorem mv_3_weighingsFor : MV yX3_weighingsFor cX3_weighingsFor 3 (some .int) RX3 1 := ⟨⟨rfl, by decide⟩, ⟨by decide +kernel, by decide +kernel, by decide +kernel⟩, bw_3_200, bw_1_10, bw_3_198, bw_3_199⟩
theorem mv_8_surelyLaughed : MV yX8_surelyLaughed cX8_surelyLaughed 4 (some .int) RX8 1 := ⟨⟨rfl, by decide⟩, ⟨by decide +kernel, by decide +kernel, by decide +kernel⟩, bw_3_228, bw_1_9, bw_3_226, bw_3_227⟩
theorem mv_0_unheardLines : MV yX0_unheardLines cX0_unheardLines 3 (some .int) RX0 0 := ⟨⟨rfl, by decide⟩, ⟨by decide +kernel, by decide +kernel, by decide +kernel⟩, bw_4_10, bw_1_6, bw_4_8, bw_4_9⟩
theorem mv_8_chance : MV yX8_chance cX8_chance 8 (some .long) RX8 3 := ⟨⟨rfl, by decide⟩, ⟨by decide +kernel, by decide +kernel, by decide +kernel⟩, bw_4_6, bw_1_9, bw_4_5, bw_p_26⟩
theorem mv_8_allChances : MV yX8_allChances cX8_allChances 6 (some .long) RX8 2 := ⟨⟨rfl, by decide⟩, ⟨by decide +kernel, by decide +kernel, by decide +kernel⟩, bw_4_2, bw_1_9, bw_4_0, bw_4_1⟩
theorem mv_8_chances : MV yX8_chances cX8_chances 7 (some .long) RX8 3 := ⟨⟨rfl, by decide⟩, ⟨by decide +kernel, by decide +kernel, by decide +kernel⟩, bw_3_238, bw_1_9, bw_3_236, bw_3_237⟩
theorem mv_9_greatestDivisor : MS yX9_greatestDivisor cX9_greatestDivisor 11 (some .long) 2 := ⟨by decide, ⟨by decide +kernel, by decide +kernel, by decide +kernel⟩, bw_4_15, bw_1_1, bw_4_14⟩
theorem mv_6_sidesOf : MV yX6_sidesOf cX6_sidesOf 8 (some .int) RX6 1 := ⟨⟨rfl, by decide⟩, ⟨by decide +kernel, by decide +kernel, by decide +kernel⟩, bw_4_23, bw_1_5, bw_4_21, bw_4_22⟩
theorem mv_6_outcomeFrom : MV yX6_outcomeFrom cX6_outcomeFrom 6 (some .int) RX6 1 := ⟨⟨rfl, by decide⟩, ⟨by decide +kernel, by decide +kernel, by decide +kernel⟩, bw_4_39, bw_1_5, bw_4_38, bw_p_27⟩
theorem mv_6_shownByTurns : MV yX6_shownByTurns cX6_shownByTurns 2 (some .int) RX6 0 := ⟨⟨rfl, by decide⟩, ⟨by decide +kernel, by decide +kernel, by decide +kernel⟩, bw_4_35, bw_1_5, bw_4_33, bw_4_34⟩
theorem mv_2_asThing : MV yX2_asThing cX2_asThing 2 (some .int) RX2 1 := ⟨⟨rfl, by decide⟩, ⟨by decide +kernel, by decide +kernel, by decide +kernel⟩, bw_4_57, bw_1_8, bw_4_56, bw_p_28⟩
theorem mv_2_asSack : MV yX2_asSack cX2_asSack 2 (some .int) RX2 1 := ⟨⟨rfl, by decide⟩, ⟨by decide +kernel, by decide +kernel, by decide +kernel⟩, bw_4_62, bw_1_8, bw_4_61, bw_p_29⟩
theorem mv_2_asLead : MV yX2_asLead cX2_asLead 2 (some .int) RX2 1 := ⟨⟨rfl, by decide⟩, ⟨by decide +kernel, by decide +kernel, by decide +kernel⟩, bw_4_68, bw_1_8, bw_4_67, bw_p_30⟩
theorem mv_2_asFlour : MV yX2_asFlour cX2_asFlour 2 (some .int) RX2 1 := ⟨⟨rfl, by decide⟩, ⟨by decide +kernel, by decide +kernel, by decide +kernel⟩, bw_4_73, bw_1_8, bw_4_72, bw_p_31⟩
theorem mv_2_asGold : MV yX2_asGold cX2_asGold 2 (some .int) RX2 1 := ⟨⟨rfl, by decide⟩, ⟨by decide +kernel, by decide +kernel, by decide +kernel⟩, bw_4_79, bw_1_8, bw_4_78, bw_p_32⟩
theorem mv_0_linesWith : MV yX0_linesWith cX0_linesWith 4 (some .int) RX0 1 := ⟨⟨rfl, by decide⟩, ⟨by decide +kernel, by decide +kernel, by decide +kernel⟩, bw_4_89, bw_1_6, bw_4_87, bw_4_88⟩
theorem mv_2_asBaby : MV yX2_asBaby cX2_asBaby 2 (some .int) RX2 1 := ⟨⟨rfl, by decide⟩, ⟨by decide +kernel, by decide +kernel, by decide +kernel⟩, bw_4_84, bw_1_8, bw_4_83, bw_p_33⟩
theorem mv_2_markAs : MV yX2_markAs cX2_markAs 3 (some .int) RX2 2 := ⟨⟨rfl, by decide⟩, ⟨by decide +kernel, by decide +kernel, by decide +kernel⟩, bw_4_53, bw_1_8, bw_4_51, bw_4_52⟩
theorem mv_9_imageOf : MV yX9_imageOf cX9_imageOf 2 (some (.object "SelfScale$Image")) RX9 1 := ⟨⟨rfl, by decide⟩, ⟨by decide +kernel, by decide +kernel, by decide +kernel⟩, bw_4_99, bw_1_1, bw_4_98, bw_p_34⟩
theorem mv_0_copyFrom : MV yX0_copyFrom cX0_copyFrom 2 none RX0 1 := ⟨⟨rfl, by decide⟩, ⟨by decide +kernel, by decide +kernel, by decide +kernel⟩, bw_4_107, bw_1_6, bw_4_105, bw_4_106⟩
theorem mv_1_take : MV yX1_take cX1_take 2 none RX1 1 := ⟨⟨rfl, by decide⟩, ⟨by decide +kernel, by decide +kernel, by decide +kernel⟩, bw_4_103, bw_1_7, bw_4_101, bw_4_102⟩
theorem mv_1_isKept : MV yX1_isKept cX1_isKept 1 (some .boolean) RX1 0 := ⟨⟨rfl, by decide⟩, ⟨by decide +kernel, by decide +kernel, by decide +kernel⟩, bw_4_116, bw_1_7, bw_4_114, bw_4_115⟩
theorem mv_1_kept : MV yX1_kept cX1_kept 1 (some (.object "SelfScale$Book")) RX1 0 := ⟨⟨rfl, by decide⟩, ⟨by decide +kernel, by decide +kernel, by decide +kernel⟩, bw_4_120, bw_1_7, bw_4_118, bw_4_119⟩
theorem mv_2_asked : MV yX2_asked cX2_asked 1 (some .long) RX2 0 := ⟨⟨rfl, by decide⟩, ⟨by decide +kernel, by decide +kernel, by decide +kernel⟩, bw_4_133, bw_1_8, bw_4_131, bw_4_132⟩
theorem mv_10_in : MS yX10_in cX10_in 3 (some .boolean) 3 := ⟨by decide, ⟨by decide +kernel, by decide +kernel, by decide +kernel⟩, bw_4_208, bw_1_11, bw_4_207⟩
theorem mv_10_here : MV yX10_here cX10_here 1 (some .int) RX10 0 := ⟨⟨rfl, by decide⟩, ⟨by decide +kernel, by decide +kernel, by decide +kernel⟩, bw_4_225, bw_1_11, bw_4_224, bw_p_36⟩
theorem mv_10_nextToken : MV yX10_nextToken cX10_nextToken 5 none RX10 0 := ⟨⟨rfl, by decide⟩, ⟨by decide +kernel, by decide +kernel, by decide +kernel⟩, bw_4_221, bw_1_11, bw_4_220, bw_p_35⟩
theorem mv_10_due : MV yX10_due cX10_due 3 (some .int) RX10 1 := ⟨⟨rfl, by decide⟩, ⟨by decide +kernel, by decide +kernel, by decide +kernel⟩, bw_4_235, bw_1_11, bw_4_234, bw_p_38⟩
theorem mv_10_number : MV yX10_number cX10_number 3 (some .int) RX10 2 := ⟨⟨rfl, by decide⟩, ⟨by decide +kernel, by decide +kernel, by decide +kernel⟩, bw_4_239, bw_1_11, bw_4_238, bw_p_39⟩
theorem mv_10_readItem : MV yX10_readItem cX10_readItem 2 none RX10 0 := ⟨⟨rfl, by decide⟩, ⟨by decide +kernel, by decide +kernel, by decide +kernel⟩, bw_4_231, bw_1_11, bw_4_230, bw_p_37⟩
theorem mv_10_isThing : MV yX10_isThing cX10_isThing 2 (some .boolean) RX10 1 := ⟨⟨rfl, by decide⟩, ⟨by decide +kernel, by decide +kernel, by decide +kernel⟩, bw_5_7, bw_1_11, bw_5_6, bw_p_40⟩
theorem mv_10_isSet : MV yX10_isSet cX10_isSet 2 (some .boolean) RX10 1 := ⟨⟨rfl, by decide⟩, ⟨by decide +kernel, by decide +kernel, by decide +kernel⟩, bw_5_15, bw_1_11, bw_5_14, bw_p_41⟩
theorem mv_10_trueSum : MV yX10_trueSum cX10_trueSum 4 (some .int) RX10 1 := ⟨⟨rfl, by decide⟩, ⟨by decide +kernel, by decide +kernel, by decide +kernel⟩, bw_5_19, bw_1_11, bw_5_18, bw_p_42⟩
theorem mv_10_put : MV yX10_put cX10_put 4 none RX10 3 := ⟨⟨rfl, by decide⟩, ⟨by decide +kernel, by decide +kernel, by decide +kernel⟩, bw_5_23, bw_1_11, bw_5_22, bw_p_43⟩
theorem mv_10_isLine : MV yX10_isLine cX10_isLine 2 (some .boolean) RX10 1 := ⟨⟨rfl, by decide⟩, ⟨by decide +kernel, by decide +kernel, by decide +kernel⟩, bw_5_35, bw_1_11, bw_5_34, bw_p_44⟩
theorem mv_10_worlds : MV yX10_worlds cX10_worlds 3 (some .int) RX10 0 := ⟨⟨rfl, by decide⟩, ⟨by decide +kernel, by decide +kernel, by decide +kernel⟩, bw_5_55, bw_1_11, bw_5_54, bw_p_47⟩
theorem mv_10_go : MV yX10_go cX10_go 4 none RX10 1 := ⟨⟨rfl, by decide⟩, ⟨by decide +kernel, by decide +kernel, by decide +kernel⟩, bw_5_63, bw_1_11, bw_5_62, bw_p_49⟩
theorem mv_10_shownOf : MV yX10_shownOf cX10_shownOf 4 (some .int) RX10 1 := ⟨⟨rfl, by decide⟩, ⟨by decide +kernel, by decide +kernel, by decide +kernel⟩, bw_5_75, bw_1_11, bw_5_74, bw_p_52⟩
theorem mv_10_laughIn : MV yX10_laughIn cX10_laughIn 4 (some .int) RX10 1 := ⟨⟨rfl, by decide⟩, ⟨by decide +kernel, by decide +kernel, by decide +kernel⟩, bw_5_71, bw_1_11, bw_5_70, bw_p_51⟩
theorem mv_10_falseLines : MV yX10_falseLines cX10_falseLines 3 (some .int) RX10 0 := ⟨⟨rfl, by decide⟩, ⟨by decide +kernel, by decide +kernel, by decide +kernel⟩, bw_5_67, bw_1_11, bw_5_66, bw_p_50⟩
theorem mv_10_canBe : MV yX10_canBe cX10_canBe 2 (some .boolean) RX10 1 := ⟨⟨rfl, by decide⟩, ⟨by decide +kernel, by decide +kernel, by decide +kernel⟩, bw_5_59, bw_1_11, bw_5_58, bw_p_48⟩
theorem mv_10_many : MV yX10_many cX10_many 5 (some .int) RX10 2 := ⟨⟨rfl, by decide⟩, ⟨by decide +kernel, by decide +kernel, by decide +kernel⟩, bw_5_51, bw_1_11, bw_5_50, bw_p_46⟩
theorem mv_10_isOne : MV yX10_isOne cX10_isOne 2 (some .boolean) RX10 1 := ⟨⟨rfl, by decide⟩, ⟨by decide +kernel, by decide +kernel, by decide +kernel⟩, bw_5_47, bw_1_11, bw_5_46, bw_p_45⟩
theorem mv_10_bitsIn : MS yX10_bitsIn cX10_bitsIn 3 (some .int) 1 := ⟨by decide, ⟨by decide +kernel, by decide +kernel, by decide +kernel⟩, bw_5_86, bw_1_11, bw_5_85⟩
theorem mv_10_worstOf : MV yX10_worstOf cX10_worstOf 4 (some .int) RX10 1 := ⟨⟨rfl, by decide⟩, ⟨by decide +kernel, by decide +kernel, by decide +kernel⟩, bw_5_94, bw_1_11, bw_5_93, bw_p_53⟩
theorem mv_10_isKnown : MV yX10_isKnown cX10_isKnown 4 (some .boolean) RX10 1 := ⟨⟨rfl, by decide⟩, ⟨by decide +kernel, by decide +kernel, by decide +kernel⟩, bw_5_102, bw_1_11, bw_5_101, bw_p_54⟩
theorem mv_10_part : MV yX10_part cX10_part 8 none RX10 3 := ⟨⟨rfl, by decide⟩, ⟨by decide +kernel, by decide +kernel, by decide +kernel⟩, bw_5_106, bw_1_11, bw_5_105, bw_p_55⟩
theorem mv_10_anyBad : MV yX10_anyBad cX10_anyBad 3 (some .boolean) RX10 0 := ⟨⟨rfl, by decide⟩, ⟨by decide +kernel, by decide +kernel, by decide +kernel⟩, bw_5_110, bw_1_11, bw_5_109, bw_p_56⟩
theorem mv_10_isEnough : MV yX10_isEnough cX10_isEnough 6 (some .boolean) RX10 2 := ⟨⟨rfl, by decide⟩, ⟨by decide +kernel, by decide +kernel, by decide +kernel⟩, bw_5_114, bw_1_11, bw_5_113, bw_p_57⟩
theorem mv_10_common : MS yX10_common cX10_common 10 (some .long) 2 := ⟨by decide, ⟨by decide +kernel, by decide +kernel, by decide +kernel⟩, bw_5_128, bw_1_11, bw_5_127⟩
theorem mv_10_copy : MV yX10_copy cX10_copy 4 none RX10 2 := ⟨⟨rfl, by decide⟩, ⟨by decide +kernel, by decide +kernel, by decide +kernel⟩, bw_5_154, bw_1_11, bw_5_153, bw_p_58⟩
theorem c9_imageOf_0 {E : En} {a1 : Int32} {S : Mem} (hc : a1 = 0) : CT E yX9_imageOf cX9_imageOf 2 (some (.object "SelfScale$Image")) 0 [.ref (eA E 0), .int a1] S (some (.ref (eA E 22))) S := by
  refine CT_of (by decide) (Nat.le_of_ble_eq_true rfl) (fun X hF => ?_)
  show J E X _ S 0 [(0, .ref (eA E 0)), (1, .int a1)] []
  refine j_iload_n hF rfl 1 rfl dX9_imageOf_0 ?_
  refine j_if_ne (tgt := 11) (A1 := if a1 = 0 then none else some ()) (B1 := if a1 = 0 then some () else none) (o := ()) hF (by by_cases c : a1 = 0 <;> simp [c]) (by decide) dX9_imageOf_1 (fun h => ?_) (fun h => ?_)
  · rw [if_pos hc] at h; cases h
  · refine j_aload_n hF rfl 0 rfl dX9_imageOf_4 ?_
    refine gf9_4 hF (by decide) (s_0 E _) rfl bw_1_229 dX9_imageOf_5 ?_
    refine j_goto (tgt := 15) hF (by decide) dX9_imageOf_8 ?_
    exact j_aret hF rfl dX9_imageOf_15
theorem c9_imageOf_1 {E : En} {a1 : Int32} {S : Mem} (hc : ¬ a1 = 0) : CT E yX9_imageOf cX9_imageOf 2 (some (.object "SelfScale$Image")) 0 [.ref (eA E 0), .int a1] S (some (.ref (eA E 30))) S := by
  refine CT_of (by decide) (Nat.le_of_ble_eq_true rfl) (fun X hF => ?_)
  show J E X _ S 0 [(0, .ref (eA E 0)), (1, .int a1)] []
  refine j_iload_n hF rfl 1 rfl dX9_imageOf_0 ?_
  refine j_if_ne (tgt := 11) (A1 := if a1 = 0 then none else some ()) (B1 := if a1 = 0 then some () else none) (o := ()) hF (by by_cases c : a1 = 0 <;> simp [c]) (by decide) dX9_imageOf_1 (fun h => ?_) (fun h => ?_)
  · refine j_aload_n hF rfl 0 rfl dX9_imageOf_11 ?_
    refine gf9_5 hF (by decide) (s_0 E _) rfl bw_1_230 dX9_imageOf_12 ?_
    exact j_aret hF rfl dX9_imageOf_15
  · rw [if_neg hc] at h; cases h
