def rG (d : Nat) : Room := { frames := d + 12, cells := 0, slots := 0, locals := 40 * d + 400 }
theorem rG_ok (d : Nat) {n : Nat} (h : n ≤ 10) : (rG d).frames + 1 ≤ (rG (d + 1)).frames ∧ 8 + (n + 11) + (rG d).locals ≤ (rG (d + 1)).locals := by
  constructor
  · show d + 12 + 1 ≤ d + 1 + 12
    omega
  · show 8 + (n + 11) + (40 * d + 400) ≤ 40 * (d + 1) + 400
    omega
theorem rG_lf (d : Nat) {f x : Nat} (h : f ≤ 12) (h2 : x ≤ 400) : f ≤ (rG (d + 1)).frames ∧ x ≤ (rG (d + 1)).locals := by
  constructor
  · show f ≤ d + 1 + 12
    omega
  · show x ≤ 40 * (d + 1) + 400
    omega
theorem kwRX10_X10_byteAt : CWv RX10 177 yX10_byteAt cX10_byteAt 2 (some .int) 1 := ⟨⟨q_1128, q_1125, q_11, by decide +kernel⟩, q_1127, qs_29⟩
theorem kwRX10_X10_in : CWs RX10 125 yX10_in cX10_in 6 (some .boolean) 3 := ⟨⟨q_1099, q_1097, q_11, by decide +kernel⟩, q_1098⟩
theorem kwRX10_X10_term : CWv RX10 270 yX10_term cX10_term 2 (some .int) 0 := ⟨⟨q_1174, q_1171, q_11, by decide +kernel⟩, q_1173, qs_38⟩
theorem kwRX10_X10_isSign : CWv RX10 253 yX10_isSign cX10_isSign 2 (some .boolean) 1 := ⟨⟨q_1182, q_1179, q_11, by decide +kernel⟩, q_1181, qs_40⟩
theorem kwRX10_X10_next : CWv RX10 219 yX10_next cX10_next 3 (none) 0 := ⟨⟨q_1124, q_1121, q_11, by decide +kernel⟩, q_1123, qs_28⟩
theorem kwRX10_X10_isWord : CWv RX10 224 yX10_isWord cX10_isWord 3 (some .boolean) 1 := ⟨⟨q_1145, q_1142, q_11, by decide +kernel⟩, q_1144, qs_31⟩
theorem kwRX10_X10_fail : CWv RX10 216 yX10_fail cX10_fail 1 (none) 0 := ⟨⟨q_1149, q_1146, q_11, by decide +kernel⟩, q_1148, qs_32⟩
theorem kwRX10_X10_name : CWv RX10 267 yX10_name cX10_name 1 (some .int) 0 := ⟨⟨q_1186, q_1183, q_11, by decide +kernel⟩, q_1185, qs_41⟩
theorem kwRX10_X10_opens : CWv RX10 256 yX10_opens cX10_opens 1 (some .boolean) 0 := ⟨⟨q_1166, q_1163, q_11, by decide +kernel⟩, q_1165, qs_36⟩
theorem kwRX10_X10_either : CWv RX10 264 yX10_either cX10_either 3 (some .int) 0 := ⟨⟨q_1153, q_1150, q_11, by decide +kernel⟩, q_1152, qs_33⟩
theorem kwRX10_X10_one : CWv RX10 260 yX10_one cX10_one 2 (some .int) 0 := ⟨⟨q_1178, q_1175, q_11, by decide +kernel⟩, q_1177, qs_39⟩
theorem kwRX10_X10_added : CWv RX10 280 yX10_added cX10_added 4 (some .int) 0 := ⟨⟨q_1170, q_1167, q_11, by decide +kernel⟩, q_1169, qs_37⟩
theorem kwRX10_X10_not : CWv RX10 277 yX10_not cX10_not 4 (some .int) 0 := ⟨⟨q_1161, q_1158, q_11, by decide +kernel⟩, q_1160, qs_35⟩
theorem kwRX10_X10_both : CWv RX10 287 yX10_both cX10_both 3 (some .int) 0 := ⟨⟨q_1157, q_1154, q_11, by decide +kernel⟩, q_1156, qs_34⟩
theorem kwRX10_X10_part : CWv RX10 294 yX10_part cX10_part 4 (some .int) 1 := ⟨⟨q_1141, q_1138, q_11, by decide +kernel⟩, q_1140, qs_30⟩
theorem kwRX10_X10_leastOf : CWv RX10 311 yX10_leastOf cX10_leastOf 3 (some .int) 1 := ⟨⟨q_1281, q_1278, q_11, by decide +kernel⟩, q_1280, qs_48⟩
theorem kwRX10_X10_sumOf : CWv RX10 314 yX10_sumOf cX10_sumOf 5 (some .int) 1 := ⟨⟨q_1269, q_1266, q_11, by decide +kernel⟩, q_1268, qs_46⟩
theorem kwRX10_X10_read : CWv RX10 134 yX10_read cX10_read 10 (some .int) 6 := ⟨⟨q_1120, q_1117, q_11, by decide +kernel⟩, q_1119, qs_27⟩
theorem kwRX10_X10_within : CWs RX10 138 yX10_within cX10_within 3 (some .int) 3 := ⟨⟨q_1201, q_1199, q_11, by decide +kernel⟩, q_1200⟩
theorem kwRX10_X10_fadesOf : CWv RX10 152 yX10_fadesOf cX10_fadesOf 3 (some .int) 1 := ⟨⟨q_1116, q_1113, q_11, by decide +kernel⟩, q_1115, qs_26⟩
theorem kwRX10_X10_loudOf : CWv RX10 148 yX10_loudOf cX10_loudOf 2 (some .int) 1 := ⟨⟨q_1112, q_1109, q_11, by decide +kernel⟩, q_1111, qs_25⟩
theorem kwRX10_X10_fades : CWv RX10 328 yX10_fades cX10_fades 2 (none) 0 := ⟨⟨q_1294, q_1291, q_11, by decide +kernel⟩, q_1293, qs_50⟩
theorem kwRX10_X10_tries : CWv RX10 320 yX10_tries cX10_tries 8 (some .int) 2 := ⟨⟨q_1265, q_1262, q_11, by decide +kernel⟩, q_1264, qs_45⟩
theorem kwRX10_X10_counts : CWv RX10 324 yX10_counts cX10_counts 4 (none) 2 := ⟨⟨q_1261, q_1258, q_11, by decide +kernel⟩, q_1260, qs_44⟩
theorem kwRX10_X10_laysAside : CWv RX10 359 yX10_laysAside cX10_laysAside 3 (none) 1 := ⟨⟨q_1313, q_1310, q_11, by decide +kernel⟩, q_1312, qs_52⟩
theorem kwRX10_X10_goesBy : CWv RX10 339 yX10_goesBy cX10_goesBy 5 (none) 2 := ⟨⟨q_1290, q_1287, q_11, by decide +kernel⟩, q_1289, qs_49⟩
theorem kwRX10_X10_dropsOf : CWv RX10 334 yX10_dropsOf cX10_dropsOf 2 (some .int) 1 := ⟨⟨q_1277, q_1274, q_11, by decide +kernel⟩, q_1276, qs_47⟩
theorem kwRX10_X10_laysBack : CWv RX10 363 yX10_laysBack cX10_laysBack 2 (none) 0 := ⟨⟨q_1317, q_1314, q_11, by decide +kernel⟩, q_1316, qs_53⟩
theorem kwRX10_X10_isPlan : CWv RX10 308 yX10_isPlan cX10_isPlan 2 (some .boolean) 1 := ⟨⟨q_1249, q_1246, q_11, by decide +kernel⟩, q_1248, qs_42⟩
theorem kwRX10_X10_isSheet : CWs RX10 415 yX10_isSheet cX10_isSheet 1 (some .boolean) 1 := ⟨⟨q_1375, q_1373, q_11, by decide +kernel⟩, q_1374⟩
theorem kwRX10_X10_trialsOfAll : CWv RX10 343 yX10_trialsOfAll cX10_trialsOfAll 1 (some .int) 0 := ⟨⟨q_1302, q_1299, q_11, by decide +kernel⟩, q_1301, qs_51⟩
theorem kwRX10_X10_isOne : CWv RX10 142 yX10_isOne cX10_isOne 2 (some .boolean) 1 := ⟨⟨q_1107, q_1104, q_11, by decide +kernel⟩, q_1106, qs_24⟩
theorem kwRX10_X10_common : CWs RX10 346 yX10_common cX10_common 10 (some .long) 2 := ⟨⟨q_1305, q_1303, q_11, by decide +kernel⟩, q_1304⟩
theorem kwRX10_X10_letsTill : CWv RX10 383 yX10_letsTill cX10_letsTill 5 (some .int) 2 := ⟨⟨q_1339, q_1336, q_11, by decide +kernel⟩, q_1338, qs_55⟩
theorem kwRX10_X10_letsAll : CWv RX10 388 yX10_letsAll cX10_letsAll 4 (none) 1 := ⟨⟨q_1335, q_1332, q_11, by decide +kernel⟩, q_1334, qs_54⟩
theorem kwRX10_X10_isSet : CWv RX10 331 yX10_isSet cX10_isSet 2 (some .boolean) 1 := ⟨⟨q_1257, q_1254, q_11, by decide +kernel⟩, q_1256, qs_43⟩
theorem kwRX10_X10_behind : CWv RX10 392 yX10_behind cX10_behind 5 (some .int) 3 := ⟨⟨q_1351, q_1348, q_11, by decide +kernel⟩, q_1350, qs_56⟩
theorem kwRX10_X10_endOf : CWs RX10 305 yX10_endOf cX10_endOf 1 (some .int) 1 := ⟨⟨q_1241, q_1239, q_11, by decide +kernel⟩, q_1240⟩
theorem kwRX10_X10_over : CWs RX10 422 yX10_over cX10_over 1 (some .int) 1 := ⟨⟨q_1395, q_1393, q_11, by decide +kernel⟩, q_1394⟩
theorem kwRX10_X10_trial : CWv RX10 418 yX10_trial cX10_trial 3 (some .long) 2 := ⟨⟨q_1253, q_1388, q_11, by decide +kernel⟩, q_1251, q_1252⟩
