/-! ===== the law: its calls' words, its reads, its cases ===== -/
section LB
variable {p : Program} {l : Launch} {e : Env} {R : Room} {s : State} {m : MethodId} {args : Array Value} {below : List Frame} {meth : Method} {c : Code} {H : Heap} {locs : List Loc} {Q : State → Prop} {P : EP} {D : va_G} {tys : List (ClassId × FieldType)} {A : Nat → Prop} {cells slots : Nat}
variable {own : String} {cc bytes : ByteArray} {nL maxL n idx pc : Nat} {rt ret : Option FieldType} {y : MethodName} {rm : Room} {b : Addr} {As rest st : List Value} {ls : Array Slot} {S : Type} {w : S → va_W} {k : S}
theorem ev_iA {Qp : Int32 → S → Prop} {mc ms : Nat} (C : CxE P D tys own cc nL rt p s m args meth c A) (h : Hd D (w k) A s H locs) (kw : CWv own idx y bytes maxL (some .int) n) (hC : DiA l P D tys w y bytes maxL rm (.ref b :: As) k Qp mc ms) (hrc : rm.cells = mc) (hrs : rm.slots = ms) (hR : rm.frames + 1 ≤ R.frames ∧ 8 + (maxL + 11) + rm.locals ≤ R.locals) (hv : Rcv (w k) b y.cls) (hls : ls.size = nL) (hn : As.length = n) (hst : st = As.reverse ++ .ref b :: rest) (hW : (rest.map fun v => v.category).sum ≤ 8) (hcs : cells + mc ≤ R.cells ∧ slots + ms ≤ R.slots) (hdg : decode cc pc = .ok (.invokevirtual idx, 3))
    (kk : ∀ (r : Int32) (u : S) (H1 : Heap) (locs1 : List Loc), Qp r u → Hd D (w u) A s H1 locs1 → W p l e R s m args below meth c H1 locs1 (cells + mc) (slots + ms) Q (F0 m (pc + 3) ls (.int r :: rest))) : W p l e R s m args below meth c H locs cells slots Q (F0 m pc ls st) := by
  subst hst
  have ht := C.2.2.2.2.1
  exact va_calli (va_runV (As := As) (rest := rest) ⟨C.1, C.2.1, C.2.2.1, C.2.2.2.1, ht⟩ (hC H.size) ⟨callB_of n ht (Tw_code kw.1.1) rfl hrc hrs (ht _ kw.1.2.2.1) (ht _ kw.1.2.1) kw.1.2.2.2 hR, ht _ kw.2.1, ht _ kw.2.2⟩ ⟨ctBlindE, hv.at C.2.2.2.2.2.1 h.1, HdE_pre C h _⟩ rfl hn hls rfl (lv_room hW) hdg hcs) h.2.2 (fun q _ hq => HdE_free C h q hq) (HdE_free C h) (fun r u t H1 locs1 ht hvm hw hB hz1 hk1 hS => kk r u H1 locs1 hw (HdE_post C h ht hB hS))
theorem lawArg {g : Nat → ClassId} {L i j q1 q2 : Nat} {xs : Nat → Int32} {z : Int} {v : Int32} (C : CxE P D (tyA g) RL cL_law 4 rt p s m args meth c A) (hX : va_X b L xs s s.heap) (hbl : b < s.heap.size) (hbA : ¬ A b) (hS : va_S A s.heap H locs) (hz : Int32.ofInt z = v) (hv : v = nI j) (hj : i + j < L) (hL : L ≤ 384) (hl : lv_has ls 4 [(0, .ref b), (1, .ref q1), (2, .ref q2), (3, .int (nI i))]) (d0 : decode cL_law pc = .ok (.aload_n 0, 1)) (d1 : decode cL_law (pc + 1) = .ok (.iload_n 3, 1)) (d2 : decode cL_law (pc + 1 + 1) = .ok (.iconst z, 1)) (d3 : decode cL_law (pc + 1 + 1 + 1) = .ok (.iadd, 1)) (d4 : decode cL_law (pc + 1 + 1 + 1 + 1) = .ok (.iaload, 1))
    (kk : W p l e R s m args below meth c H locs cells slots Q (F0 m (pc + 1 + 1 + 1 + 1 + 1) ls (.int (xs (i + j)) :: rest))) : W p l e R s m args below meth c H locs cells slots Q (F0 m pc ls rest) := by
  have hx := C.1
  have hb := C.2.1
  refine lv_aload_n hx hb d0 rfl (lv_at hl 0 rfl) ?_
  refine lv_iload_n hx hb d1 rfl (lv_at hl 3 rfl) ?_
  refine lv_iconst hx hb d2 hz ?_
  refine lv_iadd hx hb d3 ?_
  subst hv
  rw [nI_add]
  refine va_sld hx hb hX hbl hbA hS (vp_in_nI hj (by omega)) d4 ?_
  rw [nI_clamp (n := i + j) (by omega)]
  exact kk
end LB
theorem kwL_X9_sign : CWv RL 13 yX9_sign cX9_sign 2 (some .int) 1 := ⟨⟨q_313, q_310, q_1, by decide +kernel⟩, q_311, q_312⟩
theorem kwL_X10_sign : CWv RL 17 yX10_sign cX10_sign 2 (some .int) 1 := ⟨⟨q_1095, q_1092, q_11, by decide +kernel⟩, q_1093, q_1094⟩
theorem kwL_X9_told : CWv RL 18 yX9_told cX9_told 3 (some .long) 2 := ⟨⟨q_320, q_317, q_1, by decide +kernel⟩, q_318, q_319⟩
theorem kwL_X10_told : CWv RL 22 yX10_told cX10_told 3 (some .long) 2 := ⟨⟨q_1103, q_1100, q_11, by decide +kernel⟩, q_1101, q_1102⟩
theorem kwL_X9_worth : CWv RL 23 yX9_worth cX9_worth 4 (some .int) 2 := ⟨⟨q_355, q_352, q_1, by decide +kernel⟩, q_353, q_354⟩
theorem kwL_X10_worth : CWv RL 27 yX10_worth cX10_worth 4 (some .int) 2 := ⟨⟨q_1205, q_1202, q_11, by decide +kernel⟩, q_1203, q_1204⟩
theorem kwL_X9_goes : CWv RL 28 yX9_goes cX9_goes 6 (some .int) 3 := ⟨⟨q_359, q_356, q_1, by decide +kernel⟩, q_357, q_358⟩
theorem kwL_X10_goes : CWv RL 32 yX10_goes cX10_goes 5 (some .int) 3 := ⟨⟨q_1212, q_1209, q_11, by decide +kernel⟩, q_1210, q_1211⟩
theorem kwL_X9_like : CWv RL 33 yX9_like cX9_like 5 (some .int) 3 := ⟨⟨q_366, q_363, q_1, by decide +kernel⟩, q_364, q_365⟩
theorem kwL_X10_like : CWv RL 36 yX10_like cX10_like 5 (some .int) 3 := ⟨⟨q_1217, q_1214, q_11, by decide +kernel⟩, q_1215, q_1216⟩
theorem kwL_X9_pace : CWv RL 37 yX9_pace cX9_pace 3 (some .int) 1 := ⟨⟨q_383, q_380, q_1, by decide +kernel⟩, q_381, q_382⟩
theorem kwL_X10_pace : CWv RL 40 yX10_pace cX10_pace 3 (some .int) 1 := ⟨⟨q_1221, q_1218, q_11, by decide +kernel⟩, q_1219, q_1220⟩
theorem kwL_X9_feed : CWv RL 43 yX9_feed cX9_feed 4 (some .int) 2 := ⟨⟨q_387, q_384, q_1, by decide +kernel⟩, q_385, q_386⟩
theorem kwL_X10_feed : CWv RL 47 yX10_feed cX10_feed 5 (some .int) 2 := ⟨⟨q_1225, q_1222, q_11, by decide +kernel⟩, q_1223, q_1224⟩
theorem kwL_X9_text : CWv RL 48 yX9_text cX9_text 2 (some .int) 0 := ⟨⟨q_396, q_393, q_1, by decide +kernel⟩, q_394, q_395⟩
theorem kwL_X10_text : CWv RL 52 yX10_text cX10_text 2 (some .int) 0 := ⟨⟨q_1230, q_1227, q_11, by decide +kernel⟩, q_1228, q_1229⟩
theorem kwL_X9_force : CWv RL 53 yX9_force cX9_force 3 (some .int) 1 := ⟨⟨q_613, q_610, q_1, by decide +kernel⟩, q_611, q_612⟩
theorem kwL_X10_force : CWv RL 56 yX10_force cX10_force 3 (some .int) 1 := ⟨⟨q_1234, q_1231, q_11, by decide +kernel⟩, q_1232, q_1233⟩
theorem kwL_X9_plan : CWv RL 57 yX9_plan cX9_plan 2 (some .int) 0 := ⟨⟨q_617, q_614, q_1, by decide +kernel⟩, q_615, q_616⟩
theorem kwL_X10_plan : CWv RL 60 yX10_plan cX10_plan 8 (some .int) 0 := ⟨⟨q_1238, q_1235, q_11, by decide +kernel⟩, q_1236, q_1237⟩
theorem kwL_X9_planned : CWv RL 61 yX9_planned cX9_planned 5 (some .int) 3 := ⟨⟨q_660, q_657, q_1, by decide +kernel⟩, q_658, q_659⟩
theorem kwL_X10_planned : CWv RL 64 yX10_planned cX10_planned 4 (some .int) 3 := ⟨⟨q_1245, q_1242, q_11, by decide +kernel⟩, q_1243, q_1244⟩
theorem kwL_X9_trial : CWv RL 65 yX9_trial cX9_trial 3 (some .long) 2 := ⟨⟨q_668, q_665, q_1, by decide +kernel⟩, q_666, q_667⟩
theorem kwL_X10_trial : CWv RL 68 yX10_trial cX10_trial 3 (some .long) 2 := ⟨⟨q_1253, q_1250, q_11, by decide +kernel⟩, q_1251, q_1252⟩
theorem kwL_X9_sum : CWv RL 69 yX9_sum cX9_sum 3 (some .long) 2 := ⟨⟨q_694, q_691, q_1, by decide +kernel⟩, q_692, q_693⟩
theorem kwL_X10_sum : CWv RL 72 yX10_sum cX10_sum 3 (some .long) 2 := ⟨⟨q_1273, q_1270, q_11, by decide +kernel⟩, q_1271, q_1272⟩
theorem kwL_X9_days : CWv RL 73 yX9_days cX9_days 5 (some .int) 2 := ⟨⟨q_707, q_704, q_1, by decide +kernel⟩, q_705, q_706⟩
theorem kwL_X10_days : CWv RL 76 yX10_days cX10_days 4 (some .int) 2 := ⟨⟨q_1285, q_1282, q_11, by decide +kernel⟩, q_1283, q_1284⟩
theorem kwL_X9_rests : CWv RL 77 yX9_rests cX9_rests 5 (some .int) 2 := ⟨⟨q_717, q_714, q_1, by decide +kernel⟩, q_715, q_716⟩
theorem kwL_X10_rests : CWv RL 80 yX10_rests cX10_rests 7 (some .int) 2 := ⟨⟨q_1309, q_1306, q_11, by decide +kernel⟩, q_1307, q_1308⟩
theorem kwL_X9_blocked : CWv RL 81 yX9_blocked cX9_blocked 6 (some .int) 1 := ⟨⟨q_731, q_728, q_1, by decide +kernel⟩, q_729, q_730⟩
theorem kwL_X10_blocked : CWv RL 84 yX10_blocked cX10_blocked 9 (some .int) 1 := ⟨⟨q_1321, q_1318, q_11, by decide +kernel⟩, q_1319, q_1320⟩
theorem kwL_X9_counted : CWv RL 85 yX9_counted cX9_counted 22 (some .long) 3 := ⟨⟨q_739, q_736, q_1, by decide +kernel⟩, q_737, q_738⟩
theorem kwL_X10_counted : CWv RL 89 yX10_counted cX10_counted 18 (some .long) 3 := ⟨⟨q_1298, q_1295, q_11, by decide +kernel⟩, q_1296, q_1297⟩
theorem kwL_X9_watched : CWv RL 90 yX9_watched cX9_watched 4 (some .int) 3 := ⟨⟨q_756, q_753, q_1, by decide +kernel⟩, q_754, q_755⟩
theorem kwL_X10_watched : CWv RL 93 yX10_watched cX10_watched 4 (some .int) 3 := ⟨⟨q_1325, q_1322, q_11, by decide +kernel⟩, q_1323, q_1324⟩
theorem kwL_X9_lets : CWv RL 94 yX9_lets cX9_lets 3 (some .int) 2 := ⟨⟨q_768, q_765, q_1, by decide +kernel⟩, q_766, q_767⟩
theorem kwL_X10_lets : CWv RL 97 yX10_lets cX10_lets 3 (some .int) 2 := ⟨⟨q_1330, q_1327, q_11, by decide +kernel⟩, q_1328, q_1329⟩
theorem kwL_X9_thrownOut : CWv RL 98 yX9_thrownOut cX9_thrownOut 2 (some .int) 1 := ⟨⟨q_797, q_794, q_1, by decide +kernel⟩, q_795, q_796⟩
theorem kwL_X10_thrownOut : CWv RL 101 yX10_thrownOut cX10_thrownOut 2 (some .int) 1 := ⟨⟨q_1343, q_1340, q_11, by decide +kernel⟩, q_1341, q_1342⟩
theorem kwL_X9_next : CWv RL 102 yX9_next cX9_next 4 (some .int) 3 := ⟨⟨q_801, q_798, q_1, by decide +kernel⟩, q_799, q_800⟩
theorem kwL_X10_next_ : CWv RL 105 yX10_next_ cX10_next_ 8 (some .int) 3 := ⟨⟨q_1347, q_1344, q_11, by decide +kernel⟩, q_1345, q_1346⟩
theorem kwL_X9_near : CWv RL 106 yX9_near cX9_near 10 (some .int) 5 := ⟨⟨q_813, q_810, q_1, by decide +kernel⟩, q_811, q_812⟩
theorem kwL_X10_near : CWv RL 110 yX10_near cX10_near 10 (some .int) 5 := ⟨⟨q_1355, q_1352, q_11, by decide +kernel⟩, q_1353, q_1354⟩
theorem kwL_X9_image : CWv RL 111 yX9_image cX9_image 1 (some .int) 0 := ⟨⟨q_821, q_818, q_1, by decide +kernel⟩, q_819, q_820⟩
theorem kwL_X10_image : CWv RL 114 yX10_image cX10_image 2 (some .int) 0 := ⟨⟨q_1360, q_1357, q_11, by decide +kernel⟩, q_1358, q_1359⟩
theorem kwL_X9_back : CWv RL 115 yX9_back cX9_back 1 (some .int) 0 := ⟨⟨q_825, q_822, q_1, by decide +kernel⟩, q_823, q_824⟩
theorem kwL_X10_back : CWv RL 118 yX10_back cX10_back 2 (some .int) 0 := ⟨⟨q_1364, q_1361, q_11, by decide +kernel⟩, q_1362, q_1363⟩
theorem kwL_X9_count : CWv RL 119 yX9_count cX9_count 2 (some .int) 1 := ⟨⟨q_829, q_826, q_1, by decide +kernel⟩, q_827, q_828⟩
theorem kwL_X10_count : CWv RL 122 yX10_count cX10_count 2 (some .int) 1 := ⟨⟨q_1368, q_1365, q_11, by decide +kernel⟩, q_1366, q_1367⟩
theorem kwL_X9_sheet : CWv RL 123 yX9_sheet cX9_sheet 4 (some .int) 3 := ⟨⟨q_833, q_830, q_1, by decide +kernel⟩, q_831, q_832⟩
theorem kwL_X10_sheet : CWv RL 126 yX10_sheet cX10_sheet 5 (some .int) 3 := ⟨⟨q_1372, q_1369, q_11, by decide +kernel⟩, q_1370, q_1371⟩
theorem kwL_X9_cell : CWv RL 127 yX9_cell cX9_cell 5 (some .int) 3 := ⟨⟨q_845, q_842, q_1, by decide +kernel⟩, q_843, q_844⟩
theorem kwL_X10_cell : CWv RL 130 yX10_cell cX10_cell 4 (some .int) 3 := ⟨⟨q_1379, q_1376, q_11, by decide +kernel⟩, q_1377, q_1378⟩
theorem kwL_X9_copy : CWv RL 131 yX9_copy cX9_copy 8 (some .int) 5 := ⟨⟨q_862, q_859, q_1, by decide +kernel⟩, q_860, q_861⟩
theorem kwL_X10_copy : CWv RL 134 yX10_copy cX10_copy 9 (some .int) 5 := ⟨⟨q_1383, q_1380, q_11, by decide +kernel⟩, q_1381, q_1382⟩
theorem kwL_X9_trials : CWv RL 135 yX9_trials cX9_trials 10 (some .int) 4 := ⟨⟨q_871, q_868, q_1, by decide +kernel⟩, q_869, q_870⟩
theorem kwL_X10_trials : CWv RL 139 yX10_trials cX10_trials 8 (some .int) 4 := ⟨⟨q_1387, q_1384, q_11, by decide +kernel⟩, q_1385, q_1386⟩
theorem kwL_X9_taken : CWv RL 140 yX9_taken cX9_taken 3 (some .int) 2 := ⟨⟨q_875, q_872, q_1, by decide +kernel⟩, q_873, q_874⟩
theorem kwL_X10_taken : CWv RL 143 yX10_taken cX10_taken 4 (some .int) 2 := ⟨⟨q_1392, q_1389, q_11, by decide +kernel⟩, q_1390, q_1391⟩
