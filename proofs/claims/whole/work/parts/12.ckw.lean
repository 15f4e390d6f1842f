def dn0 : Dn := (0, 0, 0, 0, fun _ => 0, fun _ => 0)
def tpC (a : Nat → Nat) (k : KC) : Prop := k.2.2.1 = some (a 5)
theorem tpS {a : Nat → Nat} {k : KC} (h : tpC a k) : k.2.2.1 = some (a 5) := h
theorem sh_or {x : Int32} (h : vp_in x 4) : 9 + x.toNatClampNeg = 9 ∨ 9 + x.toNatClampNeg = 10 ∨ 9 + x.toNatClampNeg = 11 ∨ 9 + x.toNatClampNeg = 12 := by
  have h1 : ¬ 4 ≤ x.toNatClampNeg := fun z => h (Or.inr z)
  omega
theorem kwRX5_X5_byOne_18 : CWs RX5 18 yX5_byOne cX5_byOne 2 (some .int) 2 := ⟨⟨q_348, q_346, q_4, by decide +kernel⟩, q_347⟩
theorem kwRX5_X5_byTwo_22 : CWs RX5 22 yX5_byTwo cX5_byTwo 3 (some .int) 3 := ⟨⟨q_351, q_349, q_4, by decide +kernel⟩, q_350⟩
theorem kwRX0_X5_reckon_137 : CWv RX0 137 yX5_reckon cX5_reckon 7 (some .int) 3 := ⟨⟨q_345, q_342, q_4, by decide +kernel⟩, q_343, q_344⟩
theorem kwRX0_X9_isOn_75 : CWn RX0 75 yX9_isOn RX9 cX9_isOn 2 (some .boolean) 2 := ⟨q_633, List.mem_of_getElem? (i := 10) rfl, q_1, by decide +kernel, q_632⟩
theorem kwRX0_X0_lentTo_79 : CWv RX0 79 yX0_lentTo cX0_lentTo 5 (some .int) 2 := ⟨⟨q_685, q_682, q_5, by decide +kernel⟩, q_684, qs_15⟩
theorem kwRX9_X9_isOn_296 : CWs RX9 296 yX9_isOn cX9_isOn 2 (some .boolean) 2 := ⟨⟨q_633, q_703, q_1, by decide +kernel⟩, q_632⟩
theorem kwRX0_X9_leastOf_86 : CWn RX0 86 yX9_leastOf RX9 cX9_leastOf 2 (some .int) 1 := ⟨q_702, List.mem_of_getElem? (i := 11) rfl, q_1, by decide +kernel, q_701⟩
theorem kwRX0_X0_sumOf_90 : CWv RX0 90 yX0_sumOf cX0_sumOf 4 (some .int) 1 := ⟨⟨q_680, q_677, q_5, by decide +kernel⟩, q_678, q_679⟩
theorem kwRX0_X0_says_68 : CWv RX0 68 yX0_says cX0_says 8 (some .int) 5 := ⟨⟨q_341, q_338, q_5, by decide +kernel⟩, q_340, qs_0⟩
theorem kwRX0_X9_bounded_64 : CWn RX0 64 yX9_bounded RX9 cX9_bounded 3 (some .int) 3 := ⟨q_333, List.mem_of_getElem? (i := 6) rfl, q_1, by decide +kernel, q_332⟩
theorem kwRX0_X0_loudOf_100 : CWv RX0 100 yX0_loudOf cX0_loudOf 4 (some .int) 1 := ⟨⟨q_330, q_690, q_5, by decide +kernel⟩, q_328, q_329⟩
theorem kwRX0_X0_gainOf_96 : CWv RX0 96 yX0_gainOf cX0_gainOf 6 (some .int) 4 := ⟨⟨q_689, q_686, q_5, by decide +kernel⟩, q_688, qs_16⟩
theorem kwRX0_X0_goThroughTrial_117 : CWv RX0 117 yX0_goThroughTrial cX0_goThroughTrial 7 (some .int) 2 := ⟨⟨q_676, q_712, q_5, by decide +kernel⟩, q_674, q_675⟩
theorem kwRX0_X0_fadesOf_120 : CWv RX0 120 yX0_fadesOf cX0_fadesOf 4 (some .int) 1 := ⟨⟨q_337, q_713, q_5, by decide +kernel⟩, q_335, q_336⟩
theorem kwRX0_X0_goThroughDay_123 : CWv RX0 123 yX0_goThroughDay cX0_goThroughDay 3 (none) 1 := ⟨⟨q_711, q_727, q_5, by decide +kernel⟩, q_709, q_710⟩
theorem kwRX3_X9_within_28 : CWn RX3 28 yX9_within RX9 cX9_within 3 (some .boolean) 3 := ⟨q_316, List.mem_of_getElem? (i := 12) rfl, q_1, by decide +kernel, q_315⟩
theorem kwRX6_X9_within_152 : CWn RX6 152 yX9_within RX9 cX9_within 3 (some .boolean) 3 := ⟨q_316, List.mem_of_getElem? (i := 7) rfl, q_1, by decide +kernel, q_315⟩
theorem kwRX6_X4_byteAt_80 : CWv RX6 80 yX4_byteAt cX4_byteAt 2 (some .int) 1 := ⟨⟨q_408, q_405, q_6, by decide +kernel⟩, q_406, q_407⟩
theorem kwRX6_X6_isDigit_97 : CWs RX6 97 yX6_isDigit cX6_isDigit 1 (some .boolean) 1 := ⟨⟨q_492, q_490, q_7, by decide +kernel⟩, q_491⟩
theorem kwRX8_X9_within_58 : CWn RX8 58 yX9_within RX9 cX9_within 3 (some .boolean) 3 := ⟨q_316, List.mem_of_getElem? (i := 5) rfl, q_1, by decide +kernel, q_315⟩
theorem kwRX8_X8_hasSign_62 : CWv RX8 62 yX8_hasSign cX8_hasSign 2 (some .boolean) 1 := ⟨⟨q_324, q_371, q_2, by decide +kernel⟩, q_322, q_323⟩
theorem kwRX9_X0_becomeLike_191 : CWv RX9 191 yX0_becomeLike cX0_becomeLike 3 (none) 2 := ⟨⟨q_721, q_718, q_5, by decide +kernel⟩, q_719, q_720⟩
theorem kwRX9_X8_planAt_159 : CWv RX9 159 yX8_planAt cX8_planAt 2 (some (.object "BellAndDrop$Plan")) 1 := ⟨⟨q_664, q_661, q_2, by decide +kernel⟩, q_662, q_663⟩
theorem kwRX9_X0_goThroughTrial_175 : CWv RX9 175 yX0_goThroughTrial cX0_goThroughTrial 7 (some .int) 2 := ⟨⟨q_676, q_673, q_5, by decide +kernel⟩, q_674, q_675⟩
theorem kwRX9_X0_gainers_199 : CWv RX9 199 yX0_gainers cX0_gainers 4 (some .int) 1 := ⟨⟨q_735, q_732, q_5, by decide +kernel⟩, q_733, q_734⟩
theorem kwRX9_X9_within_70 : CWs RX9 70 yX9_within cX9_within 3 (some .boolean) 3 := ⟨⟨q_316, q_314, q_1, by decide +kernel⟩, q_315⟩
theorem kwRX9_X9_isSheet_261 : CWs RX9 261 yX9_isSheet cX9_isSheet 1 (some .boolean) 1 := ⟨⟨q_836, q_834, q_1, by decide +kernel⟩, q_835⟩
theorem kwRX9_X3_isMissing_268 : CWv RX9 268 yX3_isMissing cX3_isMissing 1 (some .boolean) 0 := ⟨⟨q_849, q_846, q_10, by decide +kernel⟩, q_847, q_848⟩
theorem kwRX9_X3_has_272 : CWv RX9 272 yX3_has cX3_has 2 (some .boolean) 1 := ⟨⟨q_853, q_850, q_10, by decide +kernel⟩, q_851, q_852⟩
theorem kwRX9_X3_put_275 : CWv RX9 275 yX3_put cX3_put 3 (none) 2 := ⟨⟨q_858, q_855, q_10, by decide +kernel⟩, q_856, q_857⟩
theorem kwRX9_X3_hasRun_281 : CWv RX9 281 yX3_hasRun cX3_hasRun 3 (some .boolean) 2 := ⟨⟨q_866, q_863, q_10, by decide +kernel⟩, q_864, q_865⟩
theorem kwRX9_X0_allTrials_202 : CWv RX9 202 yX0_allTrials cX0_allTrials 1 (some .int) 0 := ⟨⟨q_743, q_740, q_5, by decide +kernel⟩, q_741, q_742⟩
theorem kwRX9_X8_hasSign_81 : CWv RX9 81 yX8_hasSign cX8_hasSign 2 (some .boolean) 1 := ⟨⟨q_324, q_321, q_2, by decide +kernel⟩, q_322, q_323⟩
theorem kwRX9_X9_isEnd_103 : CWs RX9 103 yX9_isEnd cX9_isEnd 1 (some .boolean) 1 := ⟨⟨q_362, q_360, q_1, by decide +kernel⟩, q_361⟩
theorem kwRX9_X9_commonDivisor_222 : CWs RX9 222 yX9_commonDivisor cX9_commonDivisor 11 (some .long) 2 := ⟨⟨q_752, q_750, q_1, by decide +kernel⟩, q_751⟩
theorem kwRX9_X0_goThroughDay_187 : CWv RX9 187 yX0_goThroughDay cX0_goThroughDay 3 (none) 1 := ⟨⟨q_711, q_708, q_5, by decide +kernel⟩, q_709, q_710⟩
theorem kwRX9_X0_startAnew_313 : CWv RX9 313 yX0_startAnew cX0_startAnew 3 (none) 2 := ⟨⟨q_784, q_781, q_5, by decide +kernel⟩, q_782, q_783⟩
theorem kwRX9_X0_dropsOf_181 : CWv RX9 181 yX0_dropsOf cX0_dropsOf 3 (some .int) 1 := ⟨⟨q_699, q_696, q_5, by decide +kernel⟩, q_697, q_698⟩
theorem kwRX9_X4_take_127 : CWv RX9 127 yX4_take cX4_take 5 (none) 2 := ⟨⟨q_391, q_388, q_6, by decide +kernel⟩, q_389, q_390⟩
theorem kwRX9_X9_dropsBehind_324 : CWv RX9 324 yX9_dropsBehind cX9_dropsBehind 5 (some .int) 3 := ⟨⟨q_809, q_806, q_1, by decide +kernel⟩, q_808, qs_21⟩
theorem kwRX9_X7_forgetPaces_302 : CWv RX9 302 yX7_forgetPaces cX7_forgetPaces 1 (none) 0 := ⟨⟨q_776, q_773, q_9, by decide +kernel⟩, q_774, q_775⟩
theorem kwRX9_X9_firstOff_305 : CWv RX9 305 yX9_firstOff cX9_firstOff 4 (some .int) 2 := ⟨⟨q_780, q_777, q_1, by decide +kernel⟩, q_779, qs_19⟩
theorem kwRX9_X7_addPace_308 : CWv RX9 308 yX7_addPace cX7_addPace 2 (none) 1 := ⟨⟨q_792, q_789, q_9, by decide +kernel⟩, q_790, q_791⟩
theorem kwRX9_X8_isSet_172 : CWv RX9 172 yX8_isSet cX8_isSet 2 (some .boolean) 1 := ⟨⟨q_672, q_669, q_2, by decide +kernel⟩, q_670, q_671⟩
theorem kwRX9_X9_findPaces_232 : CWv RX9 232 yX9_findPaces cX9_findPaces 4 (none) 1 := ⟨⟨q_772, q_769, q_1, by decide +kernel⟩, q_771, qs_18⟩
theorem kwRX9_X8_areTwoSigns_109 : CWv RX9 109 yX8_areTwoSigns cX8_areTwoSigns 3 (some .boolean) 2 := ⟨⟨q_370, q_367, q_2, by decide +kernel⟩, q_368, q_369⟩
theorem kwRX9_X8_likeOf_113 : CWv RX9 113 yX8_likeOf cX8_likeOf 3 (some .int) 2 := ⟨⟨q_375, q_372, q_2, by decide +kernel⟩, q_373, q_374⟩
theorem kwRX9_X8_setLike_117 : CWv RX9 117 yX8_setLike cX8_setLike 4 (none) 3 := ⟨⟨q_379, q_376, q_2, by decide +kernel⟩, q_377, q_378⟩
theorem kwRX9_X9_dropsApart_257 : CWv RX9 257 yX9_dropsApart cX9_dropsApart 6 (some .int) 4 := ⟨⟨q_817, q_814, q_1, by decide +kernel⟩, q_816, qs_22⟩
theorem kwRX9_X9_isSomeSet_225 : CWv RX9 225 yX9_isSomeSet cX9_isSomeSet 2 (some .boolean) 1 := ⟨⟨q_760, q_757, q_1, by decide +kernel⟩, q_759, qs_17⟩
theorem kwRX9_X9_findFarthest_248 : CWv RX9 248 yX9_findFarthest cX9_findFarthest 6 (none) 1 := ⟨⟨q_805, q_802, q_1, by decide +kernel⟩, q_804, qs_20⟩
theorem kwRX9_X0_staysThroughDay_195 : CWv RX9 195 yX0_staysThroughDay cX0_staysThroughDay 3 (some .boolean) 1 := ⟨⟨q_726, q_723, q_5, by decide +kernel⟩, q_724, q_725⟩
theorem kwRX9_X3_become_264 : CWv RX9 264 yX3_become cX3_become 3 (none) 2 := ⟨⟨q_840, q_837, q_10, by decide +kernel⟩, q_838, q_839⟩
theorem kwRX9_X0_sumOf_178 : CWv RX9 178 yX0_sumOf cX0_sumOf 4 (some .int) 1 := ⟨⟨q_680, q_695, q_5, by decide +kernel⟩, q_678, q_679⟩
theorem kwRX9_X9_isUnder_293 : CWs RX9 293 yX9_isUnder cX9_isUnder 4 (some .boolean) 2 := ⟨⟨q_878, q_876, q_1, by decide +kernel⟩, q_877⟩
theorem kwRX9_X0_loudOf_93 : CWv RX9 93 yX0_loudOf cX0_loudOf 4 (some .int) 1 := ⟨⟨q_330, q_327, q_5, by decide +kernel⟩, q_328, q_329⟩
theorem kwRX9_X0_fadesOf_97 : CWv RX9 97 yX0_fadesOf cX0_fadesOf 4 (some .int) 1 := ⟨⟨q_337, q_334, q_5, by decide +kernel⟩, q_335, q_336⟩
theorem kwRX9_X7_add_229 : CWv RX9 229 yX7_add cX7_add 4 (none) 3 := ⟨⟨q_764, q_761, q_9, by decide +kernel⟩, q_762, q_763⟩
