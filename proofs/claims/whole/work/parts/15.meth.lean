theorem dv_TJx4a65c : ∀ j, j < 3 → defaultValue (tyJx4a65c j) = q_dv (40 * 0 + j) := by decide +kernel
theorem dv_TX0 : ∀ j, j < 5 → defaultValue (tyX0 j) = q_dv (40 * 1 + j) := by decide +kernel
theorem dv_TX1 : ∀ j, j < 3 → defaultValue (tyX1 j) = q_dv (40 * 2 + j) := by decide +kernel
theorem dv_TX2 : ∀ j, j < 4 → defaultValue (tyX2 j) = q_dv (40 * 3 + j) := by decide +kernel
theorem dv_TX3 : ∀ j, j < 4 → defaultValue (tyX3 j) = q_dv (40 * 4 + j) := by decide +kernel
theorem dv_TX4 : ∀ j, j < 5 → defaultValue (tyX4 j) = q_dv (40 * 5 + j) := by decide +kernel
theorem dv_TX5 : ∀ j, j < 11 → defaultValue (tyX5 j) = q_dv (40 * 6 + j) := by decide +kernel
theorem dv_TX6 : ∀ j, j < 1 → defaultValue (tyX6 j) = q_dv (40 * 7 + j) := by decide +kernel
theorem dv_TX7 : ∀ j, j < 10 → defaultValue (tyX7 j) = q_dv (40 * 8 + j) := by decide +kernel
theorem dv_TX8 : ∀ j, j < 33 → defaultValue (tyX8 j) = q_dv (40 * 9 + j) := by decide +kernel
theorem q_catI (x : Int32) : (Value.int x).category = 1 := rfl
theorem q_catJ (x : Int64) : (Value.long x).category = 2 := rfl
theorem q_ne {x k : Int32} {z : Int} (h : ¬ x = k) (hz : k.toInt = z) : x.toInt ≠ z := fun q => h (Int32.toInt_inj.mp (q.trans hz.symm))
theorem mX3_won : q_mv yX3_won cX3_won 2 (some .int) 1 4 := ⟨⟨wd_163, wd_17, ⟨by decide, by decide⟩, by decide +kernel⟩, wd_161, wd_162, TX3, 4, rfl⟩
theorem mX2_answerTo : q_mv yX2_answerTo cX2_answerTo 4 (some .int) 2 3 := ⟨⟨wd_491, wd_12, ⟨by decide, by decide⟩, by decide +kernel⟩, wd_489, wd_490, TX2, 4, rfl⟩
theorem mX4_hasTooFew : q_mv yX4_hasTooFew cX4_hasTooFew 1 (some .boolean) 0 5 := ⟨⟨wd_793, wd_24, ⟨by decide, by decide⟩, by decide +kernel⟩, wd_791, wd_792, TX4, 5, rfl⟩
theorem mX4_wouldHaveTooMany : q_mv yX4_wouldHaveTooMany cX4_wouldHaveTooMany 3 (some .boolean) 1 5 := ⟨⟨wd_797, wd_24, ⟨by decide, by decide⟩, by decide +kernel⟩, wd_795, wd_796, TX4, 5, rfl⟩
theorem mX4_isWornSince : q_mv yX4_isWornSince cX4_isWornSince 1 (some .boolean) 0 5 := ⟨⟨wd_806, wd_24, ⟨by decide, by decide⟩, by decide +kernel⟩, wd_804, wd_805, TX4, 5, rfl⟩
theorem mX5_isBroken : q_mv yX5_isBroken cX5_isBroken 1 (some .boolean) 0 6 := ⟨⟨wd_219, wd_22, ⟨by decide, by decide⟩, by decide +kernel⟩, wd_217, wd_218, TX5, 11, rfl⟩
theorem mX5_isLent : q_mv yX5_isLent cX5_isLent 1 (some .boolean) 0 6 := ⟨⟨wd_227, wd_22, ⟨by decide, by decide⟩, by decide +kernel⟩, wd_225, wd_226, TX5, 11, rfl⟩
theorem mX5_passTo : q_mv yX5_passTo cX5_passTo 3 none 2 6 := ⟨⟨wd_578, wd_22, ⟨by decide, by decide⟩, by decide +kernel⟩, wd_576, wd_577, TX5, 11, rfl⟩
theorem mX5_endLoan : q_mv yX5_endLoan cX5_endLoan 1 none 0 6 := ⟨⟨wd_659, wd_22, ⟨by decide, by decide⟩, by decide +kernel⟩, wd_657, wd_658, TX5, 11, rfl⟩
theorem mX5_liesWithin : q_mv yX5_liesWithin cX5_liesWithin 3 (some .boolean) 1 6 := ⟨⟨wd_605, wd_22, ⟨by decide, by decide⟩, by decide +kernel⟩, wd_603, wd_604, TX5, 11, rfl⟩
theorem mX0_begin : q_mv yX0_begin cX0_begin 2 none 0 1 := ⟨⟨wd_136, wd_6, ⟨by decide, by decide⟩, by decide +kernel⟩, wd_134, wd_135, TX0, 5, rfl⟩
theorem mX0_enter : q_mv yX0_enter cX0_enter 6 none 1 1 := ⟨⟨wd_159, wd_6, ⟨by decide, by decide⟩, by decide +kernel⟩, wd_157, wd_158, TX0, 5, rfl⟩
theorem mX0_risingColumn : q_mv yX0_risingColumn cX0_risingColumn 3 (some .int) 0 1 := ⟨⟨wd_171, wd_6, ⟨by decide, by decide⟩, by decide +kernel⟩, wd_170, wp_0, TX0, 5, rfl⟩
theorem mX0_hinderingRow : q_mv yX0_hinderingRow cX0_hinderingRow 4 (some .int) 1 1 := ⟨⟨wd_175, wd_6, ⟨by decide, by decide⟩, by decide +kernel⟩, wd_174, wp_1, TX0, 5, rfl⟩
theorem mX0_replaceIn : q_mv yX0_replaceIn cX0_replaceIn 9 none 4 1 := ⟨⟨wd_183, wd_6, ⟨by decide, by decide⟩, by decide +kernel⟩, wd_182, wp_3, TX0, 5, rfl⟩
theorem mX0_exchange : q_mv yX0_exchange cX0_exchange 6 none 2 1 := ⟨⟨wd_179, wd_6, ⟨by decide, by decide⟩, by decide +kernel⟩, wd_178, wp_2, TX0, 5, rfl⟩
theorem mX0_findsGain : q_mv yX0_findsGain cX0_findsGain 4 (some .boolean) 0 1 := ⟨⟨wd_167, wd_6, ⟨by decide, by decide⟩, by decide +kernel⟩, wd_165, wd_166, TX0, 5, rfl⟩
theorem mX1_init : q_mt yX1_init cX1_init 3 none 2 ∧ Cond.instanceMethod yX1_init ∈ bg := ⟨⟨wd_759, wd_25, ⟨by decide, by decide⟩, by decide +kernel⟩, wd_758⟩
theorem mX2_init : q_mt yX2_init cX2_init 2 none 1 ∧ Cond.instanceMethod yX2_init ∈ bg := ⟨⟨wd_314, wd_12, ⟨by decide, by decide⟩, by decide +kernel⟩, wd_313⟩
theorem mX3_init : q_mt yX3_init cX3_init 2 none 1 ∧ Cond.instanceMethod yX3_init ∈ bg := ⟨⟨wd_405, wd_17, ⟨by decide, by decide⟩, by decide +kernel⟩, wd_404⟩
theorem mX4_init : q_mt yX4_init cX4_init 5 none 4 ∧ Cond.instanceMethod yX4_init ∈ bg := ⟨⟨wd_731, wd_24, ⟨by decide, by decide⟩, by decide +kernel⟩, wd_730⟩
theorem mX5_init : q_mt yX5_init cX5_init 4 none 3 ∧ Cond.instanceMethod yX5_init ∈ bg := ⟨⟨wd_524, wd_22, ⟨by decide, by decide⟩, by decide +kernel⟩, wd_523⟩
theorem mJx4a65c_size_8abf5 : q_mv yJx4a65c_size_8abf5 cJx4a65c_size_8abf5 1 (some .int) 0 0 := ⟨⟨wd_140, wd_4, ⟨by decide, by decide⟩, by decide +kernel⟩, wd_138, wd_139, TJx4a65c, 3, rfl⟩
theorem mJ3_checkIndex_8e157 : q_ms yJ3_checkIndex_8e157 cJ3_checkIndex_8e157 3 (some .int) 3 := ⟨⟨wd_150, wd_20, ⟨by decide, by decide⟩, by decide +kernel⟩, wd_149⟩
theorem mJ15_checkIndex_7cf53 : q_ms yJ15_checkIndex_7cf53 cJ15_checkIndex_7cf53 2 (some .int) 2 := ⟨⟨wd_147, wd_19, ⟨by decide, by decide⟩, by decide +kernel⟩, wd_146⟩
theorem mJx4a65c_elementData_915e3 : q_mv yJx4a65c_elementData_915e3 cJx4a65c_elementData_915e3 2 (some (.object "java/lang/Object")) 1 0 := ⟨⟨wd_154, wd_4, ⟨by decide, by decide⟩, by decide +kernel⟩, wd_152, wd_153, TJx4a65c, 3, rfl⟩
theorem mJx4a65c_get_915e3 : q_mv yJx4a65c_get_915e3 cJx4a65c_get_915e3 2 (some (.object "java/lang/Object")) 1 0 := ⟨⟨wd_144, wd_4, ⟨by decide, by decide⟩, by decide +kernel⟩, wd_142, wd_143, TJx4a65c, 3, rfl⟩
theorem mX6_size : q_mv yX6_size cX6_size 1 (some .int) 0 7 := ⟨⟨wd_208, wd_5, ⟨by decide, by decide⟩, by decide +kernel⟩, wd_206, wd_207, TX6, 1, rfl⟩
theorem mX6_at : q_mv yX6_at cX6_at 2 (some (.object "GoodsKeeper$Single")) 1 7 := ⟨⟨wd_594, wd_5, ⟨by decide, by decide⟩, by decide +kernel⟩, wd_592, wd_593, TX6, 1, rfl⟩
theorem mX6_rightWithin : q_mv yX6_rightWithin cX6_rightWithin 4 (some .int) 1 7 := ⟨⟨wd_609, wd_5, ⟨by decide, by decide⟩, by decide +kernel⟩, wd_607, wd_608, TX6, 1, rfl⟩
theorem mX6_mayLieIn : q_mv yX6_mayLieIn cX6_mayLieIn 3 (some .boolean) 2 7 := ⟨⟨wd_601, wd_5, ⟨by decide, by decide⟩, by decide +kernel⟩, wd_599, wd_600, TX6, 1, rfl⟩
theorem mX6_goesWith : q_ms yX6_goesWith cX6_goesWith 2 (some .boolean) 2 := ⟨⟨wd_630, wd_5, ⟨by decide, by decide⟩, by decide +kernel⟩, wd_629⟩
theorem mX6_mayLeave : q_mv yX6_mayLeave cX6_mayLeave 4 (some .boolean) 1 7 := ⟨⟨wd_627, wd_5, ⟨by decide, by decide⟩, by decide +kernel⟩, wd_625, wd_626, TX6, 1, rfl⟩
theorem mX6_passOn : q_mv yX6_passOn cX6_passOn 6 none 3 7 := ⟨⟨wd_634, wd_5, ⟨by decide, by decide⟩, by decide +kernel⟩, wd_632, wd_633, TX6, 1, rfl⟩
theorem mX6_breakUp : q_mv yX6_breakUp cX6_breakUp 4 none 1 7 := ⟨⟨wd_655, wd_5, ⟨by decide, by decide⟩, by decide +kernel⟩, wd_653, wd_654, TX6, 1, rfl⟩
theorem mX6_nextDue : q_mv yX6_nextDue cX6_nextDue 5 (some (.object "GoodsKeeper$Single")) 1 7 := ⟨⟨wd_674, wd_5, ⟨by decide, by decide⟩, by decide +kernel⟩, wd_673, wp_14, TX6, 1, rfl⟩
theorem mX6_bringBack : q_mv yX6_bringBack cX6_bringBack 6 none 1 7 := ⟨⟨wd_670, wd_5, ⟨by decide, by decide⟩, by decide +kernel⟩, wd_668, wd_669, TX6, 1, rfl⟩
theorem mX6_allWithin : q_mv yX6_allWithin cX6_allWithin 4 (some .int) 1 7 := ⟨⟨wd_691, wd_5, ⟨by decide, by decide⟩, by decide +kernel⟩, wd_689, wd_690, TX6, 1, rfl⟩
theorem mX6_countBroken : q_mv yX6_countBroken cX6_countBroken 3 (some .int) 0 7 := ⟨⟨wd_213, wd_5, ⟨by decide, by decide⟩, by decide +kernel⟩, wd_211, wd_212, TX6, 1, rfl⟩
theorem mX6_countLent : q_mv yX6_countLent cX6_countLent 3 (some .int) 0 7 := ⟨⟨wd_223, wd_5, ⟨by decide, by decide⟩, by decide +kernel⟩, wd_221, wd_222, TX6, 1, rfl⟩
theorem mX7_checkKind : q_ms yX7_checkKind cX7_checkKind 1 none 1 := ⟨⟨wd_455, wd_1, ⟨by decide, by decide⟩, by decide +kernel⟩, wd_454⟩
theorem mX7_checkRange : q_ms yX7_checkRange cX7_checkRange 3 none 3 := ⟨⟨wd_459, wd_1, ⟨by decide, by decide⟩, by decide +kernel⟩, wd_458⟩
theorem mX7_numberOf : q_ms yX7_numberOf cX7_numberOf 1 (some .int) 1 := ⟨⟨wd_686, wd_1, ⟨by decide, by decide⟩, by decide +kernel⟩, wd_685⟩
theorem mX7_playerAt : q_mv yX7_playerAt cX7_playerAt 2 (some (.object "GoodsKeeper$Player")) 1 8 := ⟨⟨wd_486, wd_1, ⟨by decide, by decide⟩, by decide +kernel⟩, wd_485, wp_12, TX7, 10, rfl⟩
theorem mX7_ruleAt : q_mv yX7_ruleAt cX7_ruleAt 2 (some (.object "GoodsKeeper$Rule")) 1 8 := ⟨⟨wd_436, wd_1, ⟨by decide, by decide⟩, by decide +kernel⟩, wd_435, wp_11, TX7, 10, rfl⟩
theorem mX7_offerAt : q_mv yX7_offerAt cX7_offerAt 2 (some (.object "GoodsKeeper$Offer")) 1 8 := ⟨⟨wd_784, wd_1, ⟨by decide, by decide⟩, by decide +kernel⟩, wd_783, wp_16, TX7, 10, rfl⟩
theorem mX7_part : q_mv yX7_part cX7_part 6 none 4 8 := ⟨⟨wd_432, wd_1, ⟨by decide, by decide⟩, by decide +kernel⟩, wd_430, wd_431, TX7, 10, rfl⟩
theorem mX7_carryOut : q_mv yX7_carryOut cX7_carryOut 7 none 3 8 := ⟨⟨wd_497, wd_1, ⟨by decide, by decide⟩, by decide +kernel⟩, wd_496, wp_13, TX7, 10, rfl⟩
theorem mX7_deed : q_mv yX7_deed cX7_deed 8 (some .int) 4 8 := ⟨⟨wd_482, wd_1, ⟨by decide, by decide⟩, by decide +kernel⟩, wd_480, wd_481, TX7, 10, rfl⟩
theorem mX7_has : q_mv yX7_has cX7_has 4 (some .int) 2 8 := ⟨⟨wd_504, wd_1, ⟨by decide, by decide⟩, by decide +kernel⟩, wd_502, wd_503, TX7, 10, rfl⟩
theorem mX7_sum : q_mv yX7_sum cX7_sum 3 (some .long) 2 8 := ⟨⟨wd_511, wd_1, ⟨by decide, by decide⟩, by decide +kernel⟩, wd_509, wd_510, TX7, 10, rfl⟩
theorem mX7_put : q_mv yX7_put cX7_put 5 (some .boolean) 2 8 := ⟨⟨wd_590, wd_1, ⟨by decide, by decide⟩, by decide +kernel⟩, wd_588, wd_589, TX7, 10, rfl⟩
theorem mX7_take : q_mv yX7_take cX7_take 3 (some .boolean) 1 8 := ⟨⟨wd_616, wd_1, ⟨by decide, by decide⟩, by decide +kernel⟩, wd_614, wd_615, TX7, 10, rfl⟩
theorem mX7_give : q_mv yX7_give cX7_give 5 (some .boolean) 2 8 := ⟨⟨wd_623, wd_1, ⟨by decide, by decide⟩, by decide +kernel⟩, wd_621, wd_622, TX7, 10, rfl⟩
theorem mX7_lend : q_mv yX7_lend cX7_lend 6 (some .boolean) 3 8 := ⟨⟨wd_642, wd_1, ⟨by decide, by decide⟩, by decide +kernel⟩, wd_640, wd_641, TX7, 10, rfl⟩
theorem mX7_wear : q_mv yX7_wear cX7_wear 4 (some .int) 2 8 := ⟨⟨wd_649, wd_1, ⟨by decide, by decide⟩, by decide +kernel⟩, wd_647, wd_648, TX7, 10, rfl⟩
theorem mX7_days : q_mv yX7_days cX7_days 2 (some .int) 1 8 := ⟨⟨wd_666, wd_1, ⟨by decide, by decide⟩, by decide +kernel⟩, wd_664, wd_665, TX7, 10, rfl⟩
theorem mX7_look : q_mv yX7_look cX7_look 4 (some .int) 2 8 := ⟨⟨wd_683, wd_1, ⟨by decide, by decide⟩, by decide +kernel⟩, wd_681, wd_682, TX7, 10, rfl⟩
theorem mX7_line : q_mv yX7_line cX7_line 5 (some .int) 3 8 := ⟨⟨wd_715, wd_1, ⟨by decide, by decide⟩, by decide +kernel⟩, wd_713, wd_714, TX7, 10, rfl⟩
theorem mX7_sideOf : q_mv yX7_sideOf cX7_sideOf 7 (some (.object "GoodsKeeper$Side")) 4 8 := ⟨⟨wd_726, wd_1, ⟨by decide, by decide⟩, by decide +kernel⟩, wd_725, wp_15, TX7, 10, rfl⟩
theorem mX7_mayHandOver : q_mv yX7_mayHandOver cX7_mayHandOver 2 (some .boolean) 1 8 := ⟨⟨wd_802, wd_1, ⟨by decide, by decide⟩, by decide +kernel⟩, wd_801, wp_18, TX7, 10, rfl⟩
theorem mX7_answerTo : q_mv yX7_answerTo cX7_answerTo 4 (some .int) 1 8 := ⟨⟨wd_789, wd_1, ⟨by decide, by decide⟩, by decide +kernel⟩, wd_788, wp_17, TX7, 10, rfl⟩
theorem mX7_trade : q_mv yX7_trade cX7_trade 3 none 2 8 := ⟨⟨wd_810, wd_1, ⟨by decide, by decide⟩, by decide +kernel⟩, wd_809, wp_19, TX7, 10, rfl⟩
theorem mX7_agree : q_mv yX7_agree cX7_agree 4 (some .int) 1 8 := ⟨⟨wd_780, wd_1, ⟨by decide, by decide⟩, by decide +kernel⟩, wd_778, wd_779, TX7, 10, rfl⟩
theorem mX7_withdraw : q_mv yX7_withdraw cX7_withdraw 4 (some .boolean) 1 8 := ⟨⟨wd_817, wd_1, ⟨by decide, by decide⟩, by decide +kernel⟩, wd_815, wd_816, TX7, 10, rfl⟩
theorem mX7_gains : q_mv yX7_gains cX7_gains 3 (some .boolean) 0 8 := ⟨⟨wd_132, wd_1, ⟨by decide, by decide⟩, by decide +kernel⟩, wd_130, wd_131, TX7, 10, rfl⟩
theorem mX7_times : q_mv yX7_times cX7_times 4 none 2 8 := ⟨⟨wd_824, wd_1, ⟨by decide, by decide⟩, by decide +kernel⟩, wd_822, wd_823, TX7, 10, rfl⟩
theorem mX7_wonByTimes : q_mv yX7_wonByTimes cX7_wonByTimes 5 (some .int) 1 8 := ⟨⟨wd_191, wd_1, ⟨by decide, by decide⟩, by decide +kernel⟩, wd_190, wp_4, TX7, 10, rfl⟩
theorem mX7_earns : q_mv yX7_earns cX7_earns 4 (some .boolean) 0 8 := ⟨⟨wd_187, wd_1, ⟨by decide, by decide⟩, by decide +kernel⟩, wd_185, wd_186, TX7, 10, rfl⟩
theorem mX7_weigh : q_mv yX7_weigh cX7_weigh 3 none 2 8 := ⟨⟨wd_831, wd_1, ⟨by decide, by decide⟩, by decide +kernel⟩, wd_829, wd_830, TX7, 10, rfl⟩
theorem mX7_weightWonBy : q_mv yX7_weightWonBy cX7_weightWonBy 4 (some .int) 1 8 := ⟨⟨wd_200, wd_1, ⟨by decide, by decide⟩, by decide +kernel⟩, wd_199, wp_5, TX7, 10, rfl⟩
theorem mX7_bars : q_mv yX7_bars cX7_bars 3 (some .boolean) 0 8 := ⟨⟨wd_196, wd_1, ⟨by decide, by decide⟩, by decide +kernel⟩, wd_194, wd_195, TX7, 10, rfl⟩
theorem mX7_countOpen : q_mv yX7_countOpen cX7_countOpen 3 (some .int) 0 8 := ⟨⟨wd_231, wd_1, ⟨by decide, by decide⟩, by decide +kernel⟩, wd_230, wp_6, TX7, 10, rfl⟩
theorem mX7_count : q_mv yX7_count cX7_count 2 (some .int) 1 8 := ⟨⟨wd_204, wd_1, ⟨by decide, by decide⟩, by decide +kernel⟩, wd_202, wd_203, TX7, 10, rfl⟩
theorem mX8_thrown : q_mv yX8_thrown cX8_thrown 1 (some .int) 0 9 := ⟨⟨wd_942, wd_7, ⟨by decide, by decide⟩, by decide +kernel⟩, wd_940, wd_941, TX8, 33, rfl⟩
theorem mX8_throwsIf : q_mv yX8_throwsIf cX8_throwsIf 3 (some .boolean) 2 9 := ⟨⟨wd_950, wd_7, ⟨by decide, by decide⟩, by decide +kernel⟩, wd_949, wp_20, TX8, 33, rfl⟩
theorem mX8_in : q_ms yX8_in cX8_in 6 (some .boolean) 3 := ⟨⟨wd_965, wd_7, ⟨by decide, by decide⟩, by decide +kernel⟩, wd_964⟩
theorem mX8_noPlayer : q_mv yX8_noPlayer cX8_noPlayer 2 (some .boolean) 1 9 := ⟨⟨wd_978, wd_7, ⟨by decide, by decide⟩, by decide +kernel⟩, wd_977, wp_22, TX8, 33, rfl⟩
theorem mX8_noRule : q_mv yX8_noRule cX8_noRule 2 (some .boolean) 1 9 := ⟨⟨wd_962, wd_7, ⟨by decide, by decide⟩, by decide +kernel⟩, wd_961, wp_21, TX8, 33, rfl⟩
theorem mX8_noSingle : q_mv yX8_noSingle cX8_noSingle 2 (some .boolean) 1 9 := ⟨⟨wd_1009, wd_7, ⟨by decide, by decide⟩, by decide +kernel⟩, wd_1008, wp_25, TX8, 33, rfl⟩
theorem mX8_noKind : q_ms yX8_noKind cX8_noKind 1 (some .boolean) 1 := ⟨⟨wd_968, wd_7, ⟨by decide, by decide⟩, by decide +kernel⟩, wd_967⟩
theorem mX8_player : q_mv yX8_player cX8_player 1 (some .int) 0 9 := ⟨⟨wd_946, wd_7, ⟨by decide, by decide⟩, by decide +kernel⟩, wd_944, wd_945, TX8, 33, rfl⟩
theorem mX8_rule : q_mv yX8_rule cX8_rule 2 (some .int) 1 9 := ⟨⟨wd_954, wd_7, ⟨by decide, by decide⟩, by decide +kernel⟩, wd_952, wd_953, TX8, 33, rfl⟩
theorem mX8_part : q_mv yX8_part cX8_part 5 none 4 9 := ⟨⟨wd_958, wd_7, ⟨by decide, by decide⟩, by decide +kernel⟩, wd_956, wd_957, TX8, 33, rfl⟩
theorem mX8_does : q_mv yX8_does cX8_does 11 (some .int) 3 9 := ⟨⟨wd_983, wd_7, ⟨by decide, by decide⟩, by decide +kernel⟩, wd_982, wp_23, TX8, 33, rfl⟩
theorem mX8_deed : q_mv yX8_deed cX8_deed 5 (some .int) 4 9 := ⟨⟨wd_974, wd_7, ⟨by decide, by decide⟩, by decide +kernel⟩, wd_972, wd_973, TX8, 33, rfl⟩
theorem mX8_has : q_mv yX8_has cX8_has 3 (some .int) 2 9 := ⟨⟨wd_988, wd_7, ⟨by decide, by decide⟩, by decide +kernel⟩, wd_986, wd_987, TX8, 33, rfl⟩
theorem mX8_sum : q_mv yX8_sum cX8_sum 3 (some .long) 2 9 := ⟨⟨wd_992, wd_7, ⟨by decide, by decide⟩, by decide +kernel⟩, wd_990, wd_991, TX8, 33, rfl⟩
theorem mX8_isWithin : q_mv yX8_isWithin cX8_isWithin 4 (some .boolean) 2 9 := ⟨⟨wd_1017, wd_7, ⟨by decide, by decide⟩, by decide +kernel⟩, wd_1016, wp_27, TX8, 33, rfl⟩
theorem mX8_right : q_mv yX8_right cX8_right 4 (some .int) 1 9 := ⟨⟨wd_1021, wd_7, ⟨by decide, by decide⟩, by decide +kernel⟩, wd_1020, wp_28, TX8, 33, rfl⟩
theorem mX8_isBroken : q_mv yX8_isBroken cX8_isBroken 2 (some .boolean) 1 9 := ⟨⟨wd_1013, wd_7, ⟨by decide, by decide⟩, by decide +kernel⟩, wd_1012, wp_26, TX8, 33, rfl⟩
theorem mX8_isLent : q_mv yX8_isLent cX8_isLent 2 (some .boolean) 1 9 := ⟨⟨wd_1037, wd_7, ⟨by decide, by decide⟩, by decide +kernel⟩, wd_1036, wp_30, TX8, 33, rfl⟩
theorem mX8_lines : q_mv yX8_lines cX8_lines 3 none 2 9 := ⟨⟨wd_1001, wd_7, ⟨by decide, by decide⟩, by decide +kernel⟩, wd_1000, wp_24, TX8, 33, rfl⟩
theorem mX8_single : q_mv yX8_single cX8_single 5 (some .int) 3 9 := ⟨⟨wd_996, wd_7, ⟨by decide, by decide⟩, by decide +kernel⟩, wd_994, wd_995, TX8, 33, rfl⟩
theorem mX8_put : q_mv yX8_put cX8_put 3 (some .boolean) 2 9 := ⟨⟨wd_1005, wd_7, ⟨by decide, by decide⟩, by decide +kernel⟩, wd_1003, wd_1004, TX8, 33, rfl⟩
theorem mX8_take : q_mv yX8_take cX8_take 2 (some .boolean) 1 9 := ⟨⟨wd_1025, wd_7, ⟨by decide, by decide⟩, by decide +kernel⟩, wd_1023, wd_1024, TX8, 33, rfl⟩
theorem mX8_mayGo : q_mv yX8_mayGo cX8_mayGo 4 (some .boolean) 1 9 := ⟨⟨wd_1033, wd_7, ⟨by decide, by decide⟩, by decide +kernel⟩, wd_1032, wp_29, TX8, 33, rfl⟩
theorem mX8_goes : q_mv yX8_goes cX8_goes 4 none 2 9 := ⟨⟨wd_1041, wd_7, ⟨by decide, by decide⟩, by decide +kernel⟩, wd_1040, wp_31, TX8, 33, rfl⟩
theorem mX8_give : q_mv yX8_give cX8_give 3 (some .boolean) 2 9 := ⟨⟨wd_1029, wd_7, ⟨by decide, by decide⟩, by decide +kernel⟩, wd_1027, wd_1028, TX8, 33, rfl⟩
theorem mX8_lend : q_mv yX8_lend cX8_lend 4 (some .boolean) 3 9 := ⟨⟨wd_1045, wd_7, ⟨by decide, by decide⟩, by decide +kernel⟩, wd_1043, wd_1044, TX8, 33, rfl⟩
theorem mX8_wear : q_mv yX8_wear cX8_wear 4 (some .int) 2 9 := ⟨⟨wd_1049, wd_7, ⟨by decide, by decide⟩, by decide +kernel⟩, wd_1047, wd_1048, TX8, 33, rfl⟩
theorem mX8_days : q_mv yX8_days cX8_days 5 (some .int) 1 9 := ⟨⟨wd_1055, wd_7, ⟨by decide, by decide⟩, by decide +kernel⟩, wd_1053, wd_1054, TX8, 33, rfl⟩
theorem mX8_look : q_mv yX8_look cX8_look 5 (some .int) 2 9 := ⟨⟨wd_1059, wd_7, ⟨by decide, by decide⟩, by decide +kernel⟩, wd_1057, wd_1058, TX8, 33, rfl⟩
theorem mX8_line : q_mv yX8_line cX8_line 4 (some .int) 3 9 := ⟨⟨wd_1063, wd_7, ⟨by decide, by decide⟩, by decide +kernel⟩, wd_1061, wd_1062, TX8, 33, rfl⟩
theorem mX8_offer : q_mv yX8_offer cX8_offer 11 (some .int) 8 9 := ⟨⟨wd_1067, wd_7, ⟨by decide, by decide⟩, by decide +kernel⟩, wd_1065, wd_1066, TX8, 33, rfl⟩
theorem mX8_after : q_mv yX8_after cX8_after 7 (some .int) 5 9 := ⟨⟨wd_1080, wd_7, ⟨by decide, by decide⟩, by decide +kernel⟩, wd_1079, wp_33, TX8, 33, rfl⟩
theorem mX8_against : q_mv yX8_against cX8_against 6 (some .int) 1 9 := ⟨⟨wd_1076, wd_7, ⟨by decide, by decide⟩, by decide +kernel⟩, wd_1075, wp_32, TX8, 33, rfl⟩
theorem mX8_agree : q_mv yX8_agree cX8_agree 6 (some .int) 1 9 := ⟨⟨wd_1072, wd_7, ⟨by decide, by decide⟩, by decide +kernel⟩, wd_1070, wd_1071, TX8, 33, rfl⟩
theorem mX8_withdraw : q_mv yX8_withdraw cX8_withdraw 3 (some .boolean) 1 9 := ⟨⟨wd_1085, wd_7, ⟨by decide, by decide⟩, by decide +kernel⟩, wd_1083, wd_1084, TX8, 33, rfl⟩
theorem mX8_tries : q_mv yX8_tries cX8_tries 4 (some .boolean) 2 9 := ⟨⟨wd_1093, wd_7, ⟨by decide, by decide⟩, by decide +kernel⟩, wd_1092, wp_34, TX8, 33, rfl⟩
theorem mX8_gains : q_mv yX8_gains cX8_gains 1 (some .boolean) 0 9 := ⟨⟨wd_1089, wd_7, ⟨by decide, by decide⟩, by decide +kernel⟩, wd_1087, wd_1088, TX8, 33, rfl⟩
theorem mX8_leaves : q_mv yX8_leaves cX8_leaves 3 (some .int) 2 9 := ⟨⟨wd_1105, wd_7, ⟨by decide, by decide⟩, by decide +kernel⟩, wd_1104, wp_37, TX8, 33, rfl⟩
theorem mX8_bounds : q_mv yX8_bounds cX8_bounds 3 none 0 9 := ⟨⟨wd_1101, wd_7, ⟨by decide, by decide⟩, by decide +kernel⟩, wd_1100, wp_36, TX8, 33, rfl⟩
theorem mX8_two : q_mv yX8_two cX8_two 5 (some .long) 4 9 := ⟨⟨wd_1118, wd_7, ⟨by decide, by decide⟩, by decide +kernel⟩, wd_1117, wp_40, TX8, 33, rfl⟩
theorem mX8_three : q_mv yX8_three cX8_three 7 (some .long) 6 9 := ⟨⟨wd_1122, wd_7, ⟨by decide, by decide⟩, by decide +kernel⟩, wd_1121, wp_41, TX8, 33, rfl⟩
theorem mX8_isGain_ : q_mv yX8_isGain_ cX8_isGain_ 9 (some .boolean) 1 9 := ⟨⟨wd_1113, wd_7, ⟨by decide, by decide⟩, by decide +kernel⟩, wd_1112, wp_39, TX8, 33, rfl⟩
theorem mX8_isGain : q_mv yX8_isGain cX8_isGain 1 (some .boolean) 0 9 := ⟨⟨wd_1109, wd_7, ⟨by decide, by decide⟩, by decide +kernel⟩, wd_1108, wp_38, TX8, 33, rfl⟩
theorem mX8_gainsWithSome : q_mv yX8_gainsWithSome cX8_gainsWithSome 5 (some .boolean) 0 9 := ⟨⟨wd_1097, wd_7, ⟨by decide, by decide⟩, by decide +kernel⟩, wd_1096, wp_35, TX8, 33, rfl⟩
theorem mX8_times : q_mv yX8_times cX8_times 3 none 2 9 := ⟨⟨wd_1126, wd_7, ⟨by decide, by decide⟩, by decide +kernel⟩, wd_1124, wd_1125, TX8, 33, rfl⟩
theorem mX8_earns : q_mv yX8_earns cX8_earns 6 (some .boolean) 0 9 := ⟨⟨wd_1130, wd_7, ⟨by decide, by decide⟩, by decide +kernel⟩, wd_1128, wd_1129, TX8, 33, rfl⟩
theorem mX8_weigh : q_mv yX8_weigh cX8_weigh 3 none 2 9 := ⟨⟨wd_1134, wd_7, ⟨by decide, by decide⟩, by decide +kernel⟩, wd_1132, wd_1133, TX8, 33, rfl⟩
theorem mX8_bars : q_mv yX8_bars cX8_bars 5 (some .boolean) 0 9 := ⟨⟨wd_1138, wd_7, ⟨by decide, by decide⟩, by decide +kernel⟩, wd_1136, wd_1137, TX8, 33, rfl⟩
theorem mX8_count : q_mv yX8_count cX8_count 4 (some .int) 1 9 := ⟨⟨wd_1142, wd_7, ⟨by decide, by decide⟩, by decide +kernel⟩, wd_1140, wd_1141, TX8, 33, rfl⟩
theorem mX8_init : q_mt yX8_init cX8_init 1 none 0 ∧ Cond.instanceMethod yX8_init ∈ bg := ⟨⟨wd_836, wd_7, ⟨by decide, by decide⟩, by decide +kernel⟩, wd_835⟩
