section
-- ===== PART A: goes FIRST, ahead of the names: the tables' words, and 'selects' of the private methods out of them =====
/-- a private method of a class that the tables say can be made, by its rows of tables_1 -/
def lw_okq (q : MethodName × Nat) : Prop := (q.1.cls ≠ "java/lang/invoke/MethodHandle" ∧ q.1.cls ≠ "java/lang/invoke/VarHandle") ∧ Cond.instantiable q.1.cls q.2 ∈ tables_1 ∧ Cond.privateMethod q.1 ∈ tables_1 ∧ Cond.instanceMethod q.1 ∈ tables_1
theorem lw_p0 : lw_okq (⟨"BellAndDrop$Mind", "says", "(IIIII)I"⟩, 11) := ⟨⟨by decide +kernel, by decide +kernel⟩, List.mem_of_getElem? (i := 105) (by decide +kernel), List.mem_of_getElem? (i := 339) (by decide +kernel), List.mem_of_getElem? (i := 340) (by decide +kernel)⟩
theorem lw_p1 : lw_okq (⟨"BellAndDrop$TextReader", "advance", "()V"⟩, 8) := ⟨⟨by decide +kernel, by decide +kernel⟩, List.mem_of_getElem? (i := 167) (by decide +kernel), List.mem_of_getElem? (i := 402) (by decide +kernel), List.mem_of_getElem? (i := 403) (by decide +kernel)⟩
theorem lw_p2 : lw_okq (⟨"BellAndDrop$TextReader", "wordToken", "()I"⟩, 8) := ⟨⟨by decide +kernel, by decide +kernel⟩, List.mem_of_getElem? (i := 167) (by decide +kernel), List.mem_of_getElem? (i := 418) (by decide +kernel), List.mem_of_getElem? (i := 419) (by decide +kernel)⟩
theorem lw_p3 : lw_okq (⟨"BellAndDrop$TextReader", "isWord", "(Ljava/lang/String;)Z"⟩, 8) := ⟨⟨by decide +kernel, by decide +kernel⟩, List.mem_of_getElem? (i := 167) (by decide +kernel), List.mem_of_getElem? (i := 431) (by decide +kernel), List.mem_of_getElem? (i := 432) (by decide +kernel)⟩
theorem lw_p4 : lw_okq (⟨"BellAndDrop$TextReader", "numberToken", "()I"⟩, 8) := ⟨⟨by decide +kernel, by decide +kernel⟩, List.mem_of_getElem? (i := 167) (by decide +kernel), List.mem_of_getElem? (i := 495) (by decide +kernel), List.mem_of_getElem? (i := 496) (by decide +kernel)⟩
theorem lw_p5 : lw_okq (⟨"BellAndDrop$TextReader", "expect", "(I)V"⟩, 8) := ⟨⟨by decide +kernel, by decide +kernel⟩, List.mem_of_getElem? (i := 167) (by decide +kernel), List.mem_of_getElem? (i := 559) (by decide +kernel), List.mem_of_getElem? (i := 560) (by decide +kernel)⟩
theorem lw_p6 : lw_okq (⟨"BellAndDrop$TextReader", "refuse", "()V"⟩, 8) := ⟨⟨by decide +kernel, by decide +kernel⟩, List.mem_of_getElem? (i := 167) (by decide +kernel), List.mem_of_getElem? (i := 563) (by decide +kernel), List.mem_of_getElem? (i := 564) (by decide +kernel)⟩
theorem lw_p7 : lw_okq (⟨"BellAndDrop$TextReader", "readOr", "(I)V"⟩, 8) := ⟨⟨by decide +kernel, by decide +kernel⟩, List.mem_of_getElem? (i := 167) (by decide +kernel), List.mem_of_getElem? (i := 567) (by decide +kernel), List.mem_of_getElem? (i := 568) (by decide +kernel)⟩
theorem lw_p8 : lw_okq (⟨"BellAndDrop$TextReader", "readAnd", "(I)V"⟩, 8) := ⟨⟨by decide +kernel, by decide +kernel⟩, List.mem_of_getElem? (i := 167) (by decide +kernel), List.mem_of_getElem? (i := 571) (by decide +kernel), List.mem_of_getElem? (i := 572) (by decide +kernel)⟩
theorem lw_p9 : lw_okq (⟨"BellAndDrop$TextReader", "readNot", "(I)V"⟩, 8) := ⟨⟨by decide +kernel, by decide +kernel⟩, List.mem_of_getElem? (i := 167) (by decide +kernel), List.mem_of_getElem? (i := 575) (by decide +kernel), List.mem_of_getElem? (i := 576) (by decide +kernel)⟩
theorem lw_p10 : lw_okq (⟨"BellAndDrop$TextReader", "write", "(I)V"⟩, 8) := ⟨⟨by decide +kernel, by decide +kernel⟩, List.mem_of_getElem? (i := 167) (by decide +kernel), List.mem_of_getElem? (i := 579) (by decide +kernel), List.mem_of_getElem? (i := 580) (by decide +kernel)⟩
theorem lw_p11 : lw_okq (⟨"BellAndDrop$TextReader", "readSum", "(I)V"⟩, 8) := ⟨⟨by decide +kernel, by decide +kernel⟩, List.mem_of_getElem? (i := 167) (by decide +kernel), List.mem_of_getElem? (i := 583) (by decide +kernel), List.mem_of_getElem? (i := 584) (by decide +kernel)⟩
theorem lw_p12 : lw_okq (⟨"BellAndDrop$TextReader", "readTerm", "(I)V"⟩, 8) := ⟨⟨by decide +kernel, by decide +kernel⟩, List.mem_of_getElem? (i := 167) (by decide +kernel), List.mem_of_getElem? (i := 587) (by decide +kernel), List.mem_of_getElem? (i := 588) (by decide +kernel)⟩
theorem lw_p13 : lw_okq (⟨"BellAndDrop$TextReader", "readOne", "(I)V"⟩, 8) := ⟨⟨by decide +kernel, by decide +kernel⟩, List.mem_of_getElem? (i := 167) (by decide +kernel), List.mem_of_getElem? (i := 591) (by decide +kernel), List.mem_of_getElem? (i := 592) (by decide +kernel)⟩
theorem lw_p14 : lw_okq (⟨"BellAndDrop$PlanReader", "refused", "(I)LBellAndDrop$Plan;"⟩, 3) := ⟨⟨by decide +kernel, by decide +kernel⟩, List.mem_of_getElem? (i := 199) (by decide +kernel), List.mem_of_getElem? (i := 628) (by decide +kernel), List.mem_of_getElem? (i := 629) (by decide +kernel)⟩
theorem lw_p15 : lw_okq (⟨"BellAndDrop$Mind", "lentTo", "(II)I"⟩, 11) := ⟨⟨by decide +kernel, by decide +kernel⟩, List.mem_of_getElem? (i := 105) (by decide +kernel), List.mem_of_getElem? (i := 684) (by decide +kernel), List.mem_of_getElem? (i := 685) (by decide +kernel)⟩
def lw_privs_1 : List (MethodName × Nat) := [(⟨"BellAndDrop$Mind", "says", "(IIIII)I"⟩, 11), (⟨"BellAndDrop$TextReader", "advance", "()V"⟩, 8), (⟨"BellAndDrop$TextReader", "wordToken", "()I"⟩, 8), (⟨"BellAndDrop$TextReader", "isWord", "(Ljava/lang/String;)Z"⟩, 8), (⟨"BellAndDrop$TextReader", "numberToken", "()I"⟩, 8), (⟨"BellAndDrop$TextReader", "expect", "(I)V"⟩, 8), (⟨"BellAndDrop$TextReader", "refuse", "()V"⟩, 8), (⟨"BellAndDrop$TextReader", "readOr", "(I)V"⟩, 8), (⟨"BellAndDrop$TextReader", "readAnd", "(I)V"⟩, 8), (⟨"BellAndDrop$TextReader", "readNot", "(I)V"⟩, 8), (⟨"BellAndDrop$TextReader", "write", "(I)V"⟩, 8), (⟨"BellAndDrop$TextReader", "readSum", "(I)V"⟩, 8), (⟨"BellAndDrop$TextReader", "readTerm", "(I)V"⟩, 8), (⟨"BellAndDrop$TextReader", "readOne", "(I)V"⟩, 8), (⟨"BellAndDrop$PlanReader", "refused", "(I)LBellAndDrop$Plan;"⟩, 3), (⟨"BellAndDrop$Mind", "lentTo", "(II)I"⟩, 11)]
theorem lw_r1 : ∀ q ∈ lw_privs_1, lw_okq q := List.forall_mem_cons.mpr ⟨lw_p0, List.forall_mem_cons.mpr ⟨lw_p1, List.forall_mem_cons.mpr ⟨lw_p2, List.forall_mem_cons.mpr ⟨lw_p3, List.forall_mem_cons.mpr ⟨lw_p4, List.forall_mem_cons.mpr ⟨lw_p5, List.forall_mem_cons.mpr ⟨lw_p6, List.forall_mem_cons.mpr ⟨lw_p7, List.forall_mem_cons.mpr ⟨lw_p8, List.forall_mem_cons.mpr ⟨lw_p9, List.forall_mem_cons.mpr ⟨lw_p10, List.forall_mem_cons.mpr ⟨lw_p11, List.forall_mem_cons.mpr ⟨lw_p12, List.forall_mem_cons.mpr ⟨lw_p13, List.forall_mem_cons.mpr ⟨lw_p14, List.forall_mem_cons.mpr ⟨lw_p15, fun _ h => absurd h List.not_mem_nil⟩⟩⟩⟩⟩⟩⟩⟩⟩⟩⟩⟩⟩⟩⟩⟩
theorem lw_p16 : lw_okq (⟨"BellAndDrop$Mind", "gainOf", "(IIII)I"⟩, 11) := ⟨⟨by decide +kernel, by decide +kernel⟩, List.mem_of_getElem? (i := 105) (by decide +kernel), List.mem_of_getElem? (i := 688) (by decide +kernel), List.mem_of_getElem? (i := 689) (by decide +kernel)⟩
theorem lw_p17 : lw_okq (⟨"BellAndDrop", "isSomeSet", "(I)Z"⟩, 10) := ⟨⟨by decide +kernel, by decide +kernel⟩, List.mem_of_getElem? (i := 21) (by decide +kernel), List.mem_of_getElem? (i := 759) (by decide +kernel), List.mem_of_getElem? (i := 760) (by decide +kernel)⟩
theorem lw_p18 : lw_okq (⟨"BellAndDrop", "findPaces", "(I)V"⟩, 10) := ⟨⟨by decide +kernel, by decide +kernel⟩, List.mem_of_getElem? (i := 21) (by decide +kernel), List.mem_of_getElem? (i := 771) (by decide +kernel), List.mem_of_getElem? (i := 772) (by decide +kernel)⟩
theorem lw_p19 : lw_okq (⟨"BellAndDrop", "firstOff", "(II)I"⟩, 10) := ⟨⟨by decide +kernel, by decide +kernel⟩, List.mem_of_getElem? (i := 21) (by decide +kernel), List.mem_of_getElem? (i := 779) (by decide +kernel), List.mem_of_getElem? (i := 780) (by decide +kernel)⟩
theorem lw_p20 : lw_okq (⟨"BellAndDrop", "findFarthest", "(I)V"⟩, 10) := ⟨⟨by decide +kernel, by decide +kernel⟩, List.mem_of_getElem? (i := 21) (by decide +kernel), List.mem_of_getElem? (i := 804) (by decide +kernel), List.mem_of_getElem? (i := 805) (by decide +kernel)⟩
theorem lw_p21 : lw_okq (⟨"BellAndDrop", "dropsBehind", "(III)I"⟩, 10) := ⟨⟨by decide +kernel, by decide +kernel⟩, List.mem_of_getElem? (i := 21) (by decide +kernel), List.mem_of_getElem? (i := 808) (by decide +kernel), List.mem_of_getElem? (i := 809) (by decide +kernel)⟩
theorem lw_p22 : lw_okq (⟨"BellAndDrop", "dropsApart", "(IILBellAndDrop$Plan;I)I"⟩, 10) := ⟨⟨by decide +kernel, by decide +kernel⟩, List.mem_of_getElem? (i := 21) (by decide +kernel), List.mem_of_getElem? (i := 816) (by decide +kernel), List.mem_of_getElem? (i := 817) (by decide +kernel)⟩
theorem lw_p23 : lw_okq (⟨"BellAndDropModel", "spell", "(IJ)V"⟩, 65) := ⟨⟨by decide +kernel, by decide +kernel⟩, List.mem_of_getElem? (i := 883) (by decide +kernel), List.mem_of_getElem? (i := 890) (by decide +kernel), List.mem_of_getElem? (i := 891) (by decide +kernel)⟩
theorem lw_p24 : lw_okq (⟨"BellAndDropModel", "isOne", "(I)Z"⟩, 65) := ⟨⟨by decide +kernel, by decide +kernel⟩, List.mem_of_getElem? (i := 883) (by decide +kernel), List.mem_of_getElem? (i := 1106) (by decide +kernel), List.mem_of_getElem? (i := 1107) (by decide +kernel)⟩
theorem lw_p25 : lw_okq (⟨"BellAndDropModel", "loudOf", "(I)I"⟩, 65) := ⟨⟨by decide +kernel, by decide +kernel⟩, List.mem_of_getElem? (i := 883) (by decide +kernel), List.mem_of_getElem? (i := 1111) (by decide +kernel), List.mem_of_getElem? (i := 1112) (by decide +kernel)⟩
theorem lw_p26 : lw_okq (⟨"BellAndDropModel", "fadesOf", "(I)I"⟩, 65) := ⟨⟨by decide +kernel, by decide +kernel⟩, List.mem_of_getElem? (i := 883) (by decide +kernel), List.mem_of_getElem? (i := 1115) (by decide +kernel), List.mem_of_getElem? (i := 1116) (by decide +kernel)⟩
theorem lw_p27 : lw_okq (⟨"BellAndDropModel", "read", "(IIIIII)I"⟩, 65) := ⟨⟨by decide +kernel, by decide +kernel⟩, List.mem_of_getElem? (i := 883) (by decide +kernel), List.mem_of_getElem? (i := 1119) (by decide +kernel), List.mem_of_getElem? (i := 1120) (by decide +kernel)⟩
theorem lw_p28 : lw_okq (⟨"BellAndDropModel", "next", "()V"⟩, 65) := ⟨⟨by decide +kernel, by decide +kernel⟩, List.mem_of_getElem? (i := 883) (by decide +kernel), List.mem_of_getElem? (i := 1123) (by decide +kernel), List.mem_of_getElem? (i := 1124) (by decide +kernel)⟩
theorem lw_p29 : lw_okq (⟨"BellAndDropModel", "byteAt", "(I)I"⟩, 65) := ⟨⟨by decide +kernel, by decide +kernel⟩, List.mem_of_getElem? (i := 883) (by decide +kernel), List.mem_of_getElem? (i := 1127) (by decide +kernel), List.mem_of_getElem? (i := 1128) (by decide +kernel)⟩
theorem lw_p30 : lw_okq (⟨"BellAndDropModel", "part", "(J)I"⟩, 65) := ⟨⟨by decide +kernel, by decide +kernel⟩, List.mem_of_getElem? (i := 883) (by decide +kernel), List.mem_of_getElem? (i := 1140) (by decide +kernel), List.mem_of_getElem? (i := 1141) (by decide +kernel)⟩
theorem lw_p31 : lw_okq (⟨"BellAndDropModel", "isWord", "(J)Z"⟩, 65) := ⟨⟨by decide +kernel, by decide +kernel⟩, List.mem_of_getElem? (i := 883) (by decide +kernel), List.mem_of_getElem? (i := 1144) (by decide +kernel), List.mem_of_getElem? (i := 1145) (by decide +kernel)⟩
def lw_privs_2 : List (MethodName × Nat) := [(⟨"BellAndDrop$Mind", "gainOf", "(IIII)I"⟩, 11), (⟨"BellAndDrop", "isSomeSet", "(I)Z"⟩, 10), (⟨"BellAndDrop", "findPaces", "(I)V"⟩, 10), (⟨"BellAndDrop", "firstOff", "(II)I"⟩, 10), (⟨"BellAndDrop", "findFarthest", "(I)V"⟩, 10), (⟨"BellAndDrop", "dropsBehind", "(III)I"⟩, 10), (⟨"BellAndDrop", "dropsApart", "(IILBellAndDrop$Plan;I)I"⟩, 10), (⟨"BellAndDropModel", "spell", "(IJ)V"⟩, 65), (⟨"BellAndDropModel", "isOne", "(I)Z"⟩, 65), (⟨"BellAndDropModel", "loudOf", "(I)I"⟩, 65), (⟨"BellAndDropModel", "fadesOf", "(I)I"⟩, 65), (⟨"BellAndDropModel", "read", "(IIIIII)I"⟩, 65), (⟨"BellAndDropModel", "next", "()V"⟩, 65), (⟨"BellAndDropModel", "byteAt", "(I)I"⟩, 65), (⟨"BellAndDropModel", "part", "(J)I"⟩, 65), (⟨"BellAndDropModel", "isWord", "(J)Z"⟩, 65)]
theorem lw_r2 : ∀ q ∈ lw_privs_2, lw_okq q := List.forall_mem_cons.mpr ⟨lw_p16, List.forall_mem_cons.mpr ⟨lw_p17, List.forall_mem_cons.mpr ⟨lw_p18, List.forall_mem_cons.mpr ⟨lw_p19, List.forall_mem_cons.mpr ⟨lw_p20, List.forall_mem_cons.mpr ⟨lw_p21, List.forall_mem_cons.mpr ⟨lw_p22, List.forall_mem_cons.mpr ⟨lw_p23, List.forall_mem_cons.mpr ⟨lw_p24, List.forall_mem_cons.mpr ⟨lw_p25, List.forall_mem_cons.mpr ⟨lw_p26, List.forall_mem_cons.mpr ⟨lw_p27, List.forall_mem_cons.mpr ⟨lw_p28, List.forall_mem_cons.mpr ⟨lw_p29, List.forall_mem_cons.mpr ⟨lw_p30, List.forall_mem_cons.mpr ⟨lw_p31, fun _ h => absurd h List.not_mem_nil⟩⟩⟩⟩⟩⟩⟩⟩⟩⟩⟩⟩⟩⟩⟩⟩
theorem lw_p32 : lw_okq (⟨"BellAndDropModel", "fail", "()V"⟩, 65) := ⟨⟨by decide +kernel, by decide +kernel⟩, List.mem_of_getElem? (i := 883) (by decide +kernel), List.mem_of_getElem? (i := 1148) (by decide +kernel), List.mem_of_getElem? (i := 1149) (by decide +kernel)⟩
theorem lw_p33 : lw_okq (⟨"BellAndDropModel", "either", "()I"⟩, 65) := ⟨⟨by decide +kernel, by decide +kernel⟩, List.mem_of_getElem? (i := 883) (by decide +kernel), List.mem_of_getElem? (i := 1152) (by decide +kernel), List.mem_of_getElem? (i := 1153) (by decide +kernel)⟩
theorem lw_p34 : lw_okq (⟨"BellAndDropModel", "both", "()I"⟩, 65) := ⟨⟨by decide +kernel, by decide +kernel⟩, List.mem_of_getElem? (i := 883) (by decide +kernel), List.mem_of_getElem? (i := 1156) (by decide +kernel), List.mem_of_getElem? (i := 1157) (by decide +kernel)⟩
theorem lw_p35 : lw_okq (⟨"BellAndDropModel", "not", "()I"⟩, 65) := ⟨⟨by decide +kernel, by decide +kernel⟩, List.mem_of_getElem? (i := 883) (by decide +kernel), List.mem_of_getElem? (i := 1160) (by decide +kernel), List.mem_of_getElem? (i := 1161) (by decide +kernel)⟩
theorem lw_p36 : lw_okq (⟨"BellAndDropModel", "opens", "()Z"⟩, 65) := ⟨⟨by decide +kernel, by decide +kernel⟩, List.mem_of_getElem? (i := 883) (by decide +kernel), List.mem_of_getElem? (i := 1165) (by decide +kernel), List.mem_of_getElem? (i := 1166) (by decide +kernel)⟩
theorem lw_p37 : lw_okq (⟨"BellAndDropModel", "added", "()I"⟩, 65) := ⟨⟨by decide +kernel, by decide +kernel⟩, List.mem_of_getElem? (i := 883) (by decide +kernel), List.mem_of_getElem? (i := 1169) (by decide +kernel), List.mem_of_getElem? (i := 1170) (by decide +kernel)⟩
theorem lw_p38 : lw_okq (⟨"BellAndDropModel", "term", "()I"⟩, 65) := ⟨⟨by decide +kernel, by decide +kernel⟩, List.mem_of_getElem? (i := 883) (by decide +kernel), List.mem_of_getElem? (i := 1173) (by decide +kernel), List.mem_of_getElem? (i := 1174) (by decide +kernel)⟩
theorem lw_p39 : lw_okq (⟨"BellAndDropModel", "one", "()I"⟩, 65) := ⟨⟨by decide +kernel, by decide +kernel⟩, List.mem_of_getElem? (i := 883) (by decide +kernel), List.mem_of_getElem? (i := 1177) (by decide +kernel), List.mem_of_getElem? (i := 1178) (by decide +kernel)⟩
theorem lw_p40 : lw_okq (⟨"BellAndDropModel", "isSign", "(I)Z"⟩, 65) := ⟨⟨by decide +kernel, by decide +kernel⟩, List.mem_of_getElem? (i := 883) (by decide +kernel), List.mem_of_getElem? (i := 1181) (by decide +kernel), List.mem_of_getElem? (i := 1182) (by decide +kernel)⟩
theorem lw_p41 : lw_okq (⟨"BellAndDropModel", "name", "()I"⟩, 65) := ⟨⟨by decide +kernel, by decide +kernel⟩, List.mem_of_getElem? (i := 883) (by decide +kernel), List.mem_of_getElem? (i := 1185) (by decide +kernel), List.mem_of_getElem? (i := 1186) (by decide +kernel)⟩
theorem lw_p42 : lw_okq (⟨"BellAndDropModel", "isPlan", "(I)Z"⟩, 65) := ⟨⟨by decide +kernel, by decide +kernel⟩, List.mem_of_getElem? (i := 883) (by decide +kernel), List.mem_of_getElem? (i := 1248) (by decide +kernel), List.mem_of_getElem? (i := 1249) (by decide +kernel)⟩
theorem lw_p43 : lw_okq (⟨"BellAndDropModel", "isSet", "(I)Z"⟩, 65) := ⟨⟨by decide +kernel, by decide +kernel⟩, List.mem_of_getElem? (i := 883) (by decide +kernel), List.mem_of_getElem? (i := 1256) (by decide +kernel), List.mem_of_getElem? (i := 1257) (by decide +kernel)⟩
theorem lw_p44 : lw_okq (⟨"BellAndDropModel", "counts", "(II)V"⟩, 65) := ⟨⟨by decide +kernel, by decide +kernel⟩, List.mem_of_getElem? (i := 883) (by decide +kernel), List.mem_of_getElem? (i := 1260) (by decide +kernel), List.mem_of_getElem? (i := 1261) (by decide +kernel)⟩
theorem lw_p45 : lw_okq (⟨"BellAndDropModel", "tries", "(II)I"⟩, 65) := ⟨⟨by decide +kernel, by decide +kernel⟩, List.mem_of_getElem? (i := 883) (by decide +kernel), List.mem_of_getElem? (i := 1264) (by decide +kernel), List.mem_of_getElem? (i := 1265) (by decide +kernel)⟩
theorem lw_p46 : lw_okq (⟨"BellAndDropModel", "sumOf", "(I)I"⟩, 65) := ⟨⟨by decide +kernel, by decide +kernel⟩, List.mem_of_getElem? (i := 883) (by decide +kernel), List.mem_of_getElem? (i := 1268) (by decide +kernel), List.mem_of_getElem? (i := 1269) (by decide +kernel)⟩
theorem lw_p47 : lw_okq (⟨"BellAndDropModel", "dropsOf", "(I)I"⟩, 65) := ⟨⟨by decide +kernel, by decide +kernel⟩, List.mem_of_getElem? (i := 883) (by decide +kernel), List.mem_of_getElem? (i := 1276) (by decide +kernel), List.mem_of_getElem? (i := 1277) (by decide +kernel)⟩
def lw_privs_3 : List (MethodName × Nat) := [(⟨"BellAndDropModel", "fail", "()V"⟩, 65), (⟨"BellAndDropModel", "either", "()I"⟩, 65), (⟨"BellAndDropModel", "both", "()I"⟩, 65), (⟨"BellAndDropModel", "not", "()I"⟩, 65), (⟨"BellAndDropModel", "opens", "()Z"⟩, 65), (⟨"BellAndDropModel", "added", "()I"⟩, 65), (⟨"BellAndDropModel", "term", "()I"⟩, 65), (⟨"BellAndDropModel", "one", "()I"⟩, 65), (⟨"BellAndDropModel", "isSign", "(I)Z"⟩, 65), (⟨"BellAndDropModel", "name", "()I"⟩, 65), (⟨"BellAndDropModel", "isPlan", "(I)Z"⟩, 65), (⟨"BellAndDropModel", "isSet", "(I)Z"⟩, 65), (⟨"BellAndDropModel", "counts", "(II)V"⟩, 65), (⟨"BellAndDropModel", "tries", "(II)I"⟩, 65), (⟨"BellAndDropModel", "sumOf", "(I)I"⟩, 65), (⟨"BellAndDropModel", "dropsOf", "(I)I"⟩, 65)]
theorem lw_r3 : ∀ q ∈ lw_privs_3, lw_okq q := List.forall_mem_cons.mpr ⟨lw_p32, List.forall_mem_cons.mpr ⟨lw_p33, List.forall_mem_cons.mpr ⟨lw_p34, List.forall_mem_cons.mpr ⟨lw_p35, List.forall_mem_cons.mpr ⟨lw_p36, List.forall_mem_cons.mpr ⟨lw_p37, List.forall_mem_cons.mpr ⟨lw_p38, List.forall_mem_cons.mpr ⟨lw_p39, List.forall_mem_cons.mpr ⟨lw_p40, List.forall_mem_cons.mpr ⟨lw_p41, List.forall_mem_cons.mpr ⟨lw_p42, List.forall_mem_cons.mpr ⟨lw_p43, List.forall_mem_cons.mpr ⟨lw_p44, List.forall_mem_cons.mpr ⟨lw_p45, List.forall_mem_cons.mpr ⟨lw_p46, List.forall_mem_cons.mpr ⟨lw_p47, fun _ h => absurd h List.not_mem_nil⟩⟩⟩⟩⟩⟩⟩⟩⟩⟩⟩⟩⟩⟩⟩⟩
theorem lw_p48 : lw_okq (⟨"BellAndDropModel", "leastOf", "(I)I"⟩, 65) := ⟨⟨by decide +kernel, by decide +kernel⟩, List.mem_of_getElem? (i := 883) (by decide +kernel), List.mem_of_getElem? (i := 1280) (by decide +kernel), List.mem_of_getElem? (i := 1281) (by decide +kernel)⟩
theorem lw_p49 : lw_okq (⟨"BellAndDropModel", "goesBy", "(IZ)V"⟩, 65) := ⟨⟨by decide +kernel, by decide +kernel⟩, List.mem_of_getElem? (i := 883) (by decide +kernel), List.mem_of_getElem? (i := 1289) (by decide +kernel), List.mem_of_getElem? (i := 1290) (by decide +kernel)⟩
theorem lw_p50 : lw_okq (⟨"BellAndDropModel", "fades", "()V"⟩, 65) := ⟨⟨by decide +kernel, by decide +kernel⟩, List.mem_of_getElem? (i := 883) (by decide +kernel), List.mem_of_getElem? (i := 1293) (by decide +kernel), List.mem_of_getElem? (i := 1294) (by decide +kernel)⟩
theorem lw_p51 : lw_okq (⟨"BellAndDropModel", "trialsOfAll", "()I"⟩, 65) := ⟨⟨by decide +kernel, by decide +kernel⟩, List.mem_of_getElem? (i := 883) (by decide +kernel), List.mem_of_getElem? (i := 1301) (by decide +kernel), List.mem_of_getElem? (i := 1302) (by decide +kernel)⟩
theorem lw_p52 : lw_okq (⟨"BellAndDropModel", "laysAside", "(Z)V"⟩, 65) := ⟨⟨by decide +kernel, by decide +kernel⟩, List.mem_of_getElem? (i := 883) (by decide +kernel), List.mem_of_getElem? (i := 1312) (by decide +kernel), List.mem_of_getElem? (i := 1313) (by decide +kernel)⟩
theorem lw_p53 : lw_okq (⟨"BellAndDropModel", "laysBack", "()V"⟩, 65) := ⟨⟨by decide +kernel, by decide +kernel⟩, List.mem_of_getElem? (i := 883) (by decide +kernel), List.mem_of_getElem? (i := 1316) (by decide +kernel), List.mem_of_getElem? (i := 1317) (by decide +kernel)⟩
theorem lw_p54 : lw_okq (⟨"BellAndDropModel", "letsAll", "(I)V"⟩, 65) := ⟨⟨by decide +kernel, by decide +kernel⟩, List.mem_of_getElem? (i := 883) (by decide +kernel), List.mem_of_getElem? (i := 1334) (by decide +kernel), List.mem_of_getElem? (i := 1335) (by decide +kernel)⟩
theorem lw_p55 : lw_okq (⟨"BellAndDropModel", "letsTill", "(II)I"⟩, 65) := ⟨⟨by decide +kernel, by decide +kernel⟩, List.mem_of_getElem? (i := 883) (by decide +kernel), List.mem_of_getElem? (i := 1338) (by decide +kernel), List.mem_of_getElem? (i := 1339) (by decide +kernel)⟩
theorem lw_p56 : lw_okq (⟨"BellAndDropModel", "behind", "(III)I"⟩, 65) := ⟨⟨by decide +kernel, by decide +kernel⟩, List.mem_of_getElem? (i := 883) (by decide +kernel), List.mem_of_getElem? (i := 1350) (by decide +kernel), List.mem_of_getElem? (i := 1351) (by decide +kernel)⟩
def lw_privs_4 : List (MethodName × Nat) := [(⟨"BellAndDropModel", "leastOf", "(I)I"⟩, 65), (⟨"BellAndDropModel", "goesBy", "(IZ)V"⟩, 65), (⟨"BellAndDropModel", "fades", "()V"⟩, 65), (⟨"BellAndDropModel", "trialsOfAll", "()I"⟩, 65), (⟨"BellAndDropModel", "laysAside", "(Z)V"⟩, 65), (⟨"BellAndDropModel", "laysBack", "()V"⟩, 65), (⟨"BellAndDropModel", "letsAll", "(I)V"⟩, 65), (⟨"BellAndDropModel", "letsTill", "(II)I"⟩, 65), (⟨"BellAndDropModel", "behind", "(III)I"⟩, 65)]
theorem lw_r4 : ∀ q ∈ lw_privs_4, lw_okq q := List.forall_mem_cons.mpr ⟨lw_p48, List.forall_mem_cons.mpr ⟨lw_p49, List.forall_mem_cons.mpr ⟨lw_p50, List.forall_mem_cons.mpr ⟨lw_p51, List.forall_mem_cons.mpr ⟨lw_p52, List.forall_mem_cons.mpr ⟨lw_p53, List.forall_mem_cons.mpr ⟨lw_p54, List.forall_mem_cons.mpr ⟨lw_p55, List.forall_mem_cons.mpr ⟨lw_p56, fun _ h => absurd h List.not_mem_nil⟩⟩⟩⟩⟩⟩⟩⟩⟩
def lw_privs : List (MethodName × Nat) := lw_privs_1 ++ (lw_privs_2 ++ (lw_privs_3 ++ (lw_privs_4)))
def lw_tbl : List Cond := k2_sels lw_privs ++ tables_1
theorem lw_privs_ok : ∀ q ∈ lw_privs, lw_okq q := by
  show ∀ q ∈ lw_privs_1 ++ (lw_privs_2 ++ (lw_privs_3 ++ (lw_privs_4))), lw_okq q
  exact List.forall_mem_append.mpr ⟨lw_r1, List.forall_mem_append.mpr ⟨lw_r2, List.forall_mem_append.mpr ⟨lw_r3, lw_r4⟩⟩⟩
end
section
/-! ===== BEGIN words of one list among another's, by their places ===== -/
/-! ===== END ===== -/

/-! ===== BEGIN printed: names, fields, word lists, decode rows ===== -/
def RX0 : String := "BellAndDrop$Mind"
def TX0 : u_T := fun k => match k with
  | 0 => ("BellAndDrop$Mind", "world", "LBellAndDrop$World;", true)
  | 1 => ("BellAndDrop$Mind", "strength", "[I", true)
  | 2 => ("BellAndDrop$Mind", "on", "[I", true)
  | 3 => ("BellAndDrop$Mind", "endedWith", "[I", true)
  | 4 => ("BellAndDrop$Mind", "ended", "[I", true)
  | 5 => ("BellAndDrop$Mind", "gains", "[I", true)
  | 6 => ("BellAndDrop$Mind", "ahead", "[I", true)
  | 7 => ("BellAndDrop$Mind", "day", "I", false)
  | 8 => ("BellAndDrop$Mind", "today", "I", false)
  | 9 => ("BellAndDrop$Mind", "pace", "I", false)
  | _ => ("BellAndDrop$Mind", "rule", "I", false)
def tyX0 : Nat → FieldType := fun k => match k with
  | 0 => .object "BellAndDrop$World"
  | 1 => .array .int
  | 2 => .array .int
  | 3 => .array .int
  | 4 => .array .int
  | 5 => .array .int
  | 6 => .array .int
  | 7 => .int
  | 8 => .int
  | 9 => .int
  | _ => .int
abbrev wsX00 : List Cond := u_ws RX0 TX0 11
theorem nmX0 : ∀ a, a < 11 → ∀ b, b < 11 → a ≠ b → (TX0 a).2.1 ≠ (TX0 b).2.1 := by decide +kernel
theorem tyX0_ok : ∀ k, k < 11 → parseFieldDescriptor (TX0 k).2.2.1 = some (tyX0 k) := by decide +kernel
abbrev cX0_init : ByteArray := prog_2_method_1_code
def yX0_init : MethodName := ⟨RX0, "<init>", "(LBellAndDrop$World;)V"⟩
abbrev cX0_becomeLike : ByteArray := prog_2_method_2_code
def yX0_becomeLike : MethodName := ⟨RX0, "becomeLike", "(LBellAndDrop$Mind;I)V"⟩
abbrev cX0_startAnew : ByteArray := prog_2_method_3_code
def yX0_startAnew : MethodName := ⟨RX0, "startAnew", "(II)V"⟩
abbrev cX0_allTrials : ByteArray := prog_2_method_4_code
def yX0_allTrials : MethodName := ⟨RX0, "allTrials", "()I"⟩
abbrev cX0_loudOf : ByteArray := prog_2_method_5_code
def yX0_loudOf : MethodName := ⟨RX0, "loudOf", "(I)I"⟩
abbrev cX0_fadesOf : ByteArray := prog_2_method_6_code
def yX0_fadesOf : MethodName := ⟨RX0, "fadesOf", "(I)I"⟩
abbrev cX0_sumOf : ByteArray := prog_2_method_7_code
def yX0_sumOf : MethodName := ⟨RX0, "sumOf", "(I)I"⟩
abbrev cX0_lentTo : ByteArray := prog_2_method_8_code
def yX0_lentTo : MethodName := ⟨RX0, "lentTo", "(II)I"⟩
abbrev cX0_dropsOf : ByteArray := prog_2_method_9_code
def yX0_dropsOf : MethodName := ⟨RX0, "dropsOf", "(I)I"⟩
abbrev cX0_goThroughTrial : ByteArray := prog_2_method_10_code
def yX0_goThroughTrial : MethodName := ⟨RX0, "goThroughTrial", "(II)I"⟩
abbrev cX0_gainOf : ByteArray := prog_2_method_11_code
def yX0_gainOf : MethodName := ⟨RX0, "gainOf", "(IIII)I"⟩
abbrev cX0_gainers : ByteArray := prog_2_method_12_code
def yX0_gainers : MethodName := ⟨RX0, "gainers", "(I)I"⟩
abbrev cX0_goThroughDay : ByteArray := prog_2_method_13_code
def yX0_goThroughDay : MethodName := ⟨RX0, "goThroughDay", "(LBellAndDrop$Plan;)V"⟩
abbrev cX0_staysThroughDay : ByteArray := prog_2_method_14_code
def yX0_staysThroughDay : MethodName := ⟨RX0, "staysThroughDay", "(LBellAndDrop$Plan;)Z"⟩
abbrev cX0_says : ByteArray := prog_2_method_15_code
def yX0_says : MethodName := ⟨RX0, "says", "(IIIII)I"⟩
def RX1 : String := "BellAndDrop$Plan"
def TX1 : u_T := fun k => match k with
  | 0 => ("BellAndDrop$Plan", "sets", "[I", true)
  | 1 => ("BellAndDrop$Plan", "ends", "[I", true)
  | _ => ("BellAndDrop$Plan", "size", "I", true)
def tyX1 : Nat → FieldType := fun k => match k with
  | 0 => .array .int
  | 1 => .array .int
  | _ => .int
abbrev wsX10 : List Cond := u_ws RX1 TX1 3
theorem nmX1 : ∀ a, a < 3 → ∀ b, b < 3 → a ≠ b → (TX1 a).2.1 ≠ (TX1 b).2.1 := by decide +kernel
theorem tyX1_ok : ∀ k, k < 3 → parseFieldDescriptor (TX1 k).2.2.1 = some (tyX1 k) := by decide +kernel
abbrev cX1_init : ByteArray := prog_3_method_1_code
def yX1_init : MethodName := ⟨RX1, "<init>", "([I[II)V"⟩
def RX2 : String := "BellAndDrop$PlanReader"
def TX2 : u_T := fun k => match k with
  | 0 => ("BellAndDrop$PlanReader", "sets", "[I", true)
  | 1 => ("BellAndDrop$PlanReader", "ends", "[I", true)
  | _ => ("BellAndDrop$PlanReader", "fault", "I", false)
def tyX2 : Nat → FieldType := fun k => match k with
  | 0 => .array .int
  | 1 => .array .int
  | _ => .int
abbrev wsX20 : List Cond := u_ws RX2 TX2 3
theorem nmX2 : ∀ a, a < 3 → ∀ b, b < 3 → a ≠ b → (TX2 a).2.1 ≠ (TX2 b).2.1 := by decide +kernel
theorem tyX2_ok : ∀ k, k < 3 → parseFieldDescriptor (TX2 k).2.2.1 = some (tyX2 k) := by decide +kernel
abbrev cX2_init : ByteArray := prog_4_method_1_code
def yX2_init : MethodName := ⟨RX2, "<init>", "()V"⟩
abbrev cX2_read : ByteArray := prog_4_method_2_code
def yX2_read : MethodName := ⟨RX2, "read", "(LBellAndDrop$Tape;I)LBellAndDrop$Plan;"⟩
abbrev cX2_refused : ByteArray := prog_4_method_3_code
def yX2_refused : MethodName := ⟨RX2, "refused", "(I)LBellAndDrop$Plan;"⟩
abbrev cX2_endOf : ByteArray := prog_4_method_4_code
def yX2_endOf : MethodName := ⟨RX2, "endOf", "(I)I"⟩
def RX3 : String := "BellAndDrop$Sheet"
def TX3 : u_T := fun k => match k with
  | 0 => ("BellAndDrop$Sheet", "sort", "I", false)
  | 1 => ("BellAndDrop$Sheet", "size", "I", false)
  | _ => ("BellAndDrop$Sheet", "items", "[I", true)
def tyX3 : Nat → FieldType := fun k => match k with
  | 0 => .int
  | 1 => .int
  | _ => .array .int
abbrev wsX30 : List Cond := u_ws RX3 TX3 3
theorem nmX3 : ∀ a, a < 3 → ∀ b, b < 3 → a ≠ b → (TX3 a).2.1 ≠ (TX3 b).2.1 := by decide +kernel
theorem tyX3_ok : ∀ k, k < 3 → parseFieldDescriptor (TX3 k).2.2.1 = some (tyX3 k) := by decide +kernel
abbrev cX3_init : ByteArray := prog_5_method_1_code
def yX3_init : MethodName := ⟨RX3, "<init>", "()V"⟩
abbrev cX3_isMissing : ByteArray := prog_5_method_2_code
def yX3_isMissing : MethodName := ⟨RX3, "isMissing", "()Z"⟩
abbrev cX3_become : ByteArray := prog_5_method_3_code
def yX3_become : MethodName := ⟨RX3, "become", "(II)V"⟩
abbrev cX3_has : ByteArray := prog_5_method_4_code
def yX3_has : MethodName := ⟨RX3, "has", "(I)Z"⟩
abbrev cX3_hasRun : ByteArray := prog_5_method_5_code
def yX3_hasRun : MethodName := ⟨RX3, "hasRun", "(II)Z"⟩
abbrev cX3_put : ByteArray := prog_5_method_6_code
def yX3_put : MethodName := ⟨RX3, "put", "(II)V"⟩
def RX4 : String := "BellAndDrop$Tape"
def TX4 : u_T := fun k => match k with
  | 0 => ("BellAndDrop$Tape", "bytes", "[I", true)
  | _ => ("BellAndDrop$Tape", "size", "I", false)
def tyX4 : Nat → FieldType := fun k => match k with
  | 0 => .array .int
  | _ => .int
abbrev wsX40 : List Cond := u_ws RX4 TX4 2
theorem nmX4 : ∀ a, a < 2 → ∀ b, b < 2 → a ≠ b → (TX4 a).2.1 ≠ (TX4 b).2.1 := by decide +kernel
theorem tyX4_ok : ∀ k, k < 2 → parseFieldDescriptor (TX4 k).2.2.1 = some (tyX4 k) := by decide +kernel
abbrev cX4_init : ByteArray := prog_6_method_1_code
def yX4_init : MethodName := ⟨RX4, "<init>", "()V"⟩
abbrev cX4_take : ByteArray := prog_6_method_2_code
def yX4_take : MethodName := ⟨RX4, "take", "(IJ)V"⟩
abbrev cX4_byteAt : ByteArray := prog_6_method_3_code
def yX4_byteAt : MethodName := ⟨RX4, "byteAt", "(I)I"⟩
def RX5 : String := "BellAndDrop$Text"
def TX5 : u_T := fun k => match k with
  | 0 => ("BellAndDrop$Text", "code", "[I", true)
  | _ => ("BellAndDrop$Text", "begins", "[I", true)
def tyX5 : Nat → FieldType := fun k => match k with
  | 0 => .array .int
  | _ => .array .int
abbrev wsX50 : List Cond := u_ws RX5 TX5 2
theorem nmX5 : ∀ a, a < 2 → ∀ b, b < 2 → a ≠ b → (TX5 a).2.1 ≠ (TX5 b).2.1 := by decide +kernel
theorem tyX5_ok : ∀ k, k < 2 → parseFieldDescriptor (TX5 k).2.2.1 = some (tyX5 k) := by decide +kernel
abbrev cX5_init : ByteArray := prog_7_method_1_code
def yX5_init : MethodName := ⟨RX5, "<init>", "([I[I)V"⟩
abbrev cX5_reckon : ByteArray := prog_7_method_2_code
def yX5_reckon : MethodName := ⟨RX5, "reckon", "(I[I[I)I"⟩
abbrev cX5_byOne : ByteArray := prog_7_method_3_code
def yX5_byOne : MethodName := ⟨RX5, "byOne", "(II)I"⟩
abbrev cX5_byTwo : ByteArray := prog_7_method_4_code
def yX5_byTwo : MethodName := ⟨RX5, "byTwo", "(III)I"⟩
def RX6 : String := "BellAndDrop$TextReader"
def TX6 : u_T := fun k => match k with
  | 0 => ("BellAndDrop$TextReader", "tape", "LBellAndDrop$Tape;", false)
  | 1 => ("BellAndDrop$TextReader", "at", "I", false)
  | 2 => ("BellAndDrop$TextReader", "token", "I", false)
  | 3 => ("BellAndDrop$TextReader", "tokenPlace", "I", false)
  | 4 => ("BellAndDrop$TextReader", "tokenValue", "I", false)
  | 5 => ("BellAndDrop$TextReader", "code", "[I", true)
  | 6 => ("BellAndDrop$TextReader", "size", "I", false)
  | _ => ("BellAndDrop$TextReader", "fault", "I", false)
def tyX6 : Nat → FieldType := fun k => match k with
  | 0 => .object "BellAndDrop$Tape"
  | 1 => .int
  | 2 => .int
  | 3 => .int
  | 4 => .int
  | 5 => .array .int
  | 6 => .int
  | _ => .int
abbrev wsX60 : List Cond := u_ws RX6 TX6 8
theorem nmX6 : ∀ a, a < 8 → ∀ b, b < 8 → a ≠ b → (TX6 a).2.1 ≠ (TX6 b).2.1 := by decide +kernel
theorem tyX6_ok : ∀ k, k < 8 → parseFieldDescriptor (TX6 k).2.2.1 = some (tyX6 k) := by decide +kernel
abbrev cX6_init : ByteArray := prog_8_method_1_code
def yX6_init : MethodName := ⟨RX6, "<init>", "()V"⟩
abbrev cX6_read : ByteArray := prog_8_method_2_code
def yX6_read : MethodName := ⟨RX6, "read", "(LBellAndDrop$Tape;)LBellAndDrop$Text;"⟩
abbrev cX6_refuse : ByteArray := prog_8_method_3_code
def yX6_refuse : MethodName := ⟨RX6, "refuse", "()V"⟩
abbrev cX6_expect : ByteArray := prog_8_method_4_code
def yX6_expect : MethodName := ⟨RX6, "expect", "(I)V"⟩
abbrev cX6_write : ByteArray := prog_8_method_5_code
def yX6_write : MethodName := ⟨RX6, "write", "(I)V"⟩
abbrev cX6_readOr : ByteArray := prog_8_method_6_code
def yX6_readOr : MethodName := ⟨RX6, "readOr", "(I)V"⟩
abbrev cX6_readAnd : ByteArray := prog_8_method_7_code
def yX6_readAnd : MethodName := ⟨RX6, "readAnd", "(I)V"⟩
abbrev cX6_readNot : ByteArray := prog_8_method_8_code
def yX6_readNot : MethodName := ⟨RX6, "readNot", "(I)V"⟩
abbrev cX6_readSum : ByteArray := prog_8_method_9_code
def yX6_readSum : MethodName := ⟨RX6, "readSum", "(I)V"⟩
abbrev cX6_readTerm : ByteArray := prog_8_method_10_code
def yX6_readTerm : MethodName := ⟨RX6, "readTerm", "(I)V"⟩
abbrev cX6_readOne : ByteArray := prog_8_method_11_code
def yX6_readOne : MethodName := ⟨RX6, "readOne", "(I)V"⟩
abbrev cX6_advance : ByteArray := prog_8_method_12_code
def yX6_advance : MethodName := ⟨RX6, "advance", "()V"⟩
abbrev cX6_numberToken : ByteArray := prog_8_method_13_code
def yX6_numberToken : MethodName := ⟨RX6, "numberToken", "()I"⟩
abbrev cX6_wordToken : ByteArray := prog_8_method_14_code
def yX6_wordToken : MethodName := ⟨RX6, "wordToken", "()I"⟩
abbrev cX6_isWord : ByteArray := prog_8_method_15_code
def yX6_isWord : MethodName := ⟨RX6, "isWord", "(Ljava/lang/String;)Z"⟩
abbrev cX6_nameAt : ByteArray := prog_8_method_16_code
def yX6_nameAt : MethodName := ⟨RX6, "nameAt", "(I)Ljava/lang/String;"⟩
abbrev cX6_keyAt : ByteArray := prog_8_method_17_code
def yX6_keyAt : MethodName := ⟨RX6, "keyAt", "(I)Ljava/lang/String;"⟩
abbrev cX6_isBlank : ByteArray := prog_8_method_18_code
def yX6_isBlank : MethodName := ⟨RX6, "isBlank", "(I)Z"⟩
abbrev cX6_isLetter : ByteArray := prog_8_method_19_code
def yX6_isLetter : MethodName := ⟨RX6, "isLetter", "(I)Z"⟩
abbrev cX6_isDigit : ByteArray := prog_8_method_20_code
def yX6_isDigit : MethodName := ⟨RX6, "isDigit", "(I)Z"⟩
def RX7 : String := "BellAndDrop$Watch"
def TX7 : u_T := fun k => match k with
  | 0 => ("BellAndDrop$Watch", "plans", "[I", true)
  | 1 => ("BellAndDrop$Watch", "sets", "[I", true)
  | 2 => ("BellAndDrop$Watch", "drops", "[I", true)
  | 3 => ("BellAndDrop$Watch", "size", "I", false)
  | 4 => ("BellAndDrop$Watch", "paces", "I", false)
  | 5 => ("BellAndDrop$Watch", "leastPace", "I", false)
  | 6 => ("BellAndDrop$Watch", "greatestPace", "I", false)
  | 7 => ("BellAndDrop$Watch", "lastOff", "I", false)
  | 8 => ("BellAndDrop$Watch", "farthestPlan", "I", false)
  | _ => ("BellAndDrop$Watch", "farthest", "I", false)
def tyX7 : Nat → FieldType := fun k => match k with
  | 0 => .array .int
  | 1 => .array .int
  | 2 => .array .int
  | 3 => .int
  | 4 => .int
  | 5 => .int
  | 6 => .int
  | 7 => .int
  | 8 => .int
  | _ => .int
abbrev wsX70 : List Cond := u_ws RX7 TX7 10
theorem nmX7 : ∀ a, a < 10 → ∀ b, b < 10 → a ≠ b → (TX7 a).2.1 ≠ (TX7 b).2.1 := by decide +kernel
theorem tyX7_ok : ∀ k, k < 10 → parseFieldDescriptor (TX7 k).2.2.1 = some (tyX7 k) := by decide +kernel
abbrev cX7_init : ByteArray := prog_9_method_1_code
def yX7_init : MethodName := ⟨RX7, "<init>", "()V"⟩
abbrev cX7_add : ByteArray := prog_9_method_2_code
def yX7_add : MethodName := ⟨RX7, "add", "(III)V"⟩
abbrev cX7_forgetPaces : ByteArray := prog_9_method_3_code
def yX7_forgetPaces : MethodName := ⟨RX7, "forgetPaces", "()V"⟩
abbrev cX7_addPace : ByteArray := prog_9_method_4_code
def yX7_addPace : MethodName := ⟨RX7, "addPace", "(I)V"⟩
def RX8 : String := "BellAndDrop$World"
def TX8 : u_T := fun k => match k with
  | 0 => ("BellAndDrop$World", "signs", "I", false)
  | 1 => ("BellAndDrop$World", "texts", "I", false)
  | 2 => ("BellAndDrop$World", "plans", "I", false)
  | 3 => ("BellAndDrop$World", "kinds", "[I", true)
  | 4 => ("BellAndDrop$World", "worths", "[I", true)
  | 5 => ("BellAndDrop$World", "goesWith", "[I", true)
  | 6 => ("BellAndDrop$World", "likes", "[I", true)
  | 7 => ("BellAndDrop$World", "textRow", "[LBellAndDrop$Text;", true)
  | 8 => ("BellAndDrop$World", "planRow", "[LBellAndDrop$Plan;", true)
  | 9 => ("BellAndDrop$World", "named", "[I", true)
  | _ => ("BellAndDrop$World", "stack", "[I", true)
def tyX8 : Nat → FieldType := fun k => match k with
  | 0 => .int
  | 1 => .int
  | 2 => .int
  | 3 => .array .int
  | 4 => .array .int
  | 5 => .array .int
  | 6 => .array .int
  | 7 => .array (.object "BellAndDrop$Text")
  | 8 => .array (.object "BellAndDrop$Plan")
  | 9 => .array .int
  | _ => .array .int
abbrev wsX80 : List Cond := u_ws RX8 TX8 11
theorem nmX8 : ∀ a, a < 11 → ∀ b, b < 11 → a ≠ b → (TX8 a).2.1 ≠ (TX8 b).2.1 := by decide +kernel
theorem tyX8_ok : ∀ k, k < 11 → parseFieldDescriptor (TX8 k).2.2.1 = some (tyX8 k) := by decide +kernel
abbrev cX8_init : ByteArray := prog_10_method_1_code
def yX8_init : MethodName := ⟨RX8, "<init>", "()V"⟩
abbrev cX8_hasSign : ByteArray := prog_10_method_2_code
def yX8_hasSign : MethodName := ⟨RX8, "hasSign", "(I)Z"⟩
abbrev cX8_areTwoSigns : ByteArray := prog_10_method_3_code
def yX8_areTwoSigns : MethodName := ⟨RX8, "areTwoSigns", "(II)Z"⟩
abbrev cX8_isSet : ByteArray := prog_10_method_4_code
def yX8_isSet : MethodName := ⟨RX8, "isSet", "(I)Z"⟩
abbrev cX8_likeOf : ByteArray := prog_10_method_5_code
def yX8_likeOf : MethodName := ⟨RX8, "likeOf", "(II)I"⟩
abbrev cX8_setLike : ByteArray := prog_10_method_6_code
def yX8_setLike : MethodName := ⟨RX8, "setLike", "(III)V"⟩
abbrev cX8_planAt : ByteArray := prog_10_method_7_code
def yX8_planAt : MethodName := ⟨RX8, "planAt", "(I)LBellAndDrop$Plan;"⟩
def RX9 : String := "BellAndDrop"
def TX9 : u_T := fun k => match k with
  | 0 => ("BellAndDrop", "world", "LBellAndDrop$World;", true)
  | 1 => ("BellAndDrop", "now", "LBellAndDrop$Mind;", true)
  | 2 => ("BellAndDrop", "kept", "LBellAndDrop$Mind;", true)
  | 3 => ("BellAndDrop", "dream", "LBellAndDrop$Mind;", true)
  | 4 => ("BellAndDrop", "tape", "LBellAndDrop$Tape;", true)
  | 5 => ("BellAndDrop", "textReader", "LBellAndDrop$TextReader;", true)
  | 6 => ("BellAndDrop", "planReader", "LBellAndDrop$PlanReader;", true)
  | 7 => ("BellAndDrop", "watch", "LBellAndDrop$Watch;", true)
  | 8 => ("BellAndDrop", "sheets", "[LBellAndDrop$Sheet;", true)
  | _ => ("BellAndDrop", "imageSigns", "I", false)
def tyX9 : Nat → FieldType := fun k => match k with
  | 0 => .object "BellAndDrop$World"
  | 1 => .object "BellAndDrop$Mind"
  | 2 => .object "BellAndDrop$Mind"
  | 3 => .object "BellAndDrop$Mind"
  | 4 => .object "BellAndDrop$Tape"
  | 5 => .object "BellAndDrop$TextReader"
  | 6 => .object "BellAndDrop$PlanReader"
  | 7 => .object "BellAndDrop$Watch"
  | 8 => .array (.object "BellAndDrop$Sheet")
  | _ => .int
abbrev wsX90 : List Cond := u_ws RX9 TX9 10
theorem nmX9 : ∀ a, a < 10 → ∀ b, b < 10 → a ≠ b → (TX9 a).2.1 ≠ (TX9 b).2.1 := by decide +kernel
theorem tyX9_ok : ∀ k, k < 10 → parseFieldDescriptor (TX9 k).2.2.1 = some (tyX9 k) := by decide +kernel
abbrev cX9_init : ByteArray := prog_1_method_1_code
def yX9_init : MethodName := ⟨RX9, "<init>", "()V"⟩
abbrev cX9_sign : ByteArray := prog_1_method_2_code
def yX9_sign : MethodName := ⟨RX9, "sign", "(I)I"⟩
abbrev cX9_told : ByteArray := prog_1_method_3_code
def yX9_told : MethodName := ⟨RX9, "told", "(II)J"⟩
abbrev cX9_worth : ByteArray := prog_1_method_4_code
def yX9_worth : MethodName := ⟨RX9, "worth", "(II)I"⟩
abbrev cX9_goes : ByteArray := prog_1_method_5_code
def yX9_goes : MethodName := ⟨RX9, "goes", "(III)I"⟩
abbrev cX9_like : ByteArray := prog_1_method_6_code
def yX9_like : MethodName := ⟨RX9, "like", "(III)I"⟩
abbrev cX9_pace : ByteArray := prog_1_method_7_code
def yX9_pace : MethodName := ⟨RX9, "pace", "(I)I"⟩
abbrev cX9_feed : ByteArray := prog_1_method_8_code
def yX9_feed : MethodName := ⟨RX9, "feed", "(IJ)I"⟩
abbrev cX9_text : ByteArray := prog_1_method_9_code
def yX9_text : MethodName := ⟨RX9, "text", "()I"⟩
abbrev cX9_force : ByteArray := prog_1_method_10_code
def yX9_force : MethodName := ⟨RX9, "force", "(I)I"⟩
abbrev cX9_plan : ByteArray := prog_1_method_11_code
def yX9_plan : MethodName := ⟨RX9, "plan", "()I"⟩
abbrev cX9_planned : ByteArray := prog_1_method_12_code
def yX9_planned : MethodName := ⟨RX9, "planned", "(III)I"⟩
abbrev cX9_trial : ByteArray := prog_1_method_13_code
def yX9_trial : MethodName := ⟨RX9, "trial", "(II)J"⟩
abbrev cX9_sum : ByteArray := prog_1_method_14_code
def yX9_sum : MethodName := ⟨RX9, "sum", "(II)J"⟩
abbrev cX9_days : ByteArray := prog_1_method_15_code
def yX9_days : MethodName := ⟨RX9, "days", "(II)I"⟩
abbrev cX9_rests : ByteArray := prog_1_method_16_code
def yX9_rests : MethodName := ⟨RX9, "rests", "(II)I"⟩
abbrev cX9_blocked : ByteArray := prog_1_method_17_code
def yX9_blocked : MethodName := ⟨RX9, "blocked", "(I)I"⟩
abbrev cX9_counted : ByteArray := prog_1_method_18_code
def yX9_counted : MethodName := ⟨RX9, "counted", "(III)J"⟩
abbrev cX9_watched : ByteArray := prog_1_method_19_code
def yX9_watched : MethodName := ⟨RX9, "watched", "(III)I"⟩
abbrev cX9_lets : ByteArray := prog_1_method_20_code
def yX9_lets : MethodName := ⟨RX9, "lets", "(II)I"⟩
abbrev cX9_thrownOut : ByteArray := prog_1_method_21_code
def yX9_thrownOut : MethodName := ⟨RX9, "thrownOut", "(I)I"⟩
abbrev cX9_next : ByteArray := prog_1_method_22_code
def yX9_next : MethodName := ⟨RX9, "next", "(III)I"⟩
abbrev cX9_near : ByteArray := prog_1_method_23_code
def yX9_near : MethodName := ⟨RX9, "near", "(IIIII)I"⟩
abbrev cX9_image : ByteArray := prog_1_method_24_code
def yX9_image : MethodName := ⟨RX9, "image", "()I"⟩
abbrev cX9_back : ByteArray := prog_1_method_25_code
def yX9_back : MethodName := ⟨RX9, "back", "()I"⟩
abbrev cX9_count : ByteArray := prog_1_method_26_code
def yX9_count : MethodName := ⟨RX9, "count", "(I)I"⟩
abbrev cX9_sheet : ByteArray := prog_1_method_27_code
def yX9_sheet : MethodName := ⟨RX9, "sheet", "(III)I"⟩
abbrev cX9_cell : ByteArray := prog_1_method_28_code
def yX9_cell : MethodName := ⟨RX9, "cell", "(III)I"⟩
abbrev cX9_copy : ByteArray := prog_1_method_29_code
def yX9_copy : MethodName := ⟨RX9, "copy", "(IIIII)I"⟩
abbrev cX9_trials : ByteArray := prog_1_method_30_code
def yX9_trials : MethodName := ⟨RX9, "trials", "(IIII)I"⟩
abbrev cX9_taken : ByteArray := prog_1_method_31_code
def yX9_taken : MethodName := ⟨RX9, "taken", "(II)I"⟩
abbrev cX9_within : ByteArray := prog_1_method_32_code
def yX9_within : MethodName := ⟨RX9, "within", "(III)Z"⟩
abbrev cX9_bounded : ByteArray := prog_1_method_33_code
def yX9_bounded : MethodName := ⟨RX9, "bounded", "(III)I"⟩
abbrev cX9_isEnd : ByteArray := prog_1_method_34_code
def yX9_isEnd : MethodName := ⟨RX9, "isEnd", "(I)Z"⟩
abbrev cX9_isSheet : ByteArray := prog_1_method_35_code
def yX9_isSheet : MethodName := ⟨RX9, "isSheet", "(I)Z"⟩
abbrev cX9_isOn : ByteArray := prog_1_method_36_code
def yX9_isOn : MethodName := ⟨RX9, "isOn", "(II)Z"⟩
abbrev cX9_leastOf : ByteArray := prog_1_method_37_code
def yX9_leastOf : MethodName := ⟨RX9, "leastOf", "(I)I"⟩
abbrev cX9_isSomeSet : ByteArray := prog_1_method_38_code
def yX9_isSomeSet : MethodName := ⟨RX9, "isSomeSet", "(I)Z"⟩
abbrev cX9_isUnder : ByteArray := prog_1_method_39_code
def yX9_isUnder : MethodName := ⟨RX9, "isUnder", "(II)Z"⟩
abbrev cX9_commonDivisor : ByteArray := prog_1_method_40_code
def yX9_commonDivisor : MethodName := ⟨RX9, "commonDivisor", "(JJ)J"⟩
abbrev cX9_findPaces : ByteArray := prog_1_method_41_code
def yX9_findPaces : MethodName := ⟨RX9, "findPaces", "(I)V"⟩
abbrev cX9_firstOff : ByteArray := prog_1_method_42_code
def yX9_firstOff : MethodName := ⟨RX9, "firstOff", "(II)I"⟩
abbrev cX9_findFarthest : ByteArray := prog_1_method_43_code
def yX9_findFarthest : MethodName := ⟨RX9, "findFarthest", "(I)V"⟩
abbrev cX9_dropsBehind : ByteArray := prog_1_method_44_code
def yX9_dropsBehind : MethodName := ⟨RX9, "dropsBehind", "(III)I"⟩
abbrev cX9_dropsApart : ByteArray := prog_1_method_45_code
def yX9_dropsApart : MethodName := ⟨RX9, "dropsApart", "(IILBellAndDrop$Plan;I)I"⟩
def RX10 : String := "BellAndDropModel"
def TX10 : u_T := fun k => match k with
  | 0 => ("BellAndDropModel", "thrown", "I", false)
  | 1 => ("BellAndDropModel", "texts", "[I", true)
  | 2 => ("BellAndDropModel", "textSize", "[I", true)
  | 3 => ("BellAndDropModel", "textCount", "I", false)
  | 4 => ("BellAndDropModel", "rule", "I", false)
  | 5 => ("BellAndDropModel", "tape", "[I", true)
  | 6 => ("BellAndDropModel", "taped", "I", false)
  | 7 => ("BellAndDropModel", "kind", "[I", true)
  | 8 => ("BellAndDropModel", "strength", "[I", true)
  | 9 => ("BellAndDropModel", "on", "[I", true)
  | 10 => ("BellAndDropModel", "signs", "I", false)
  | 11 => ("BellAndDropModel", "worths", "[I", true)
  | 12 => ("BellAndDropModel", "goesOf", "[I", true)
  | 13 => ("BellAndDropModel", "likes", "[I", true)
  | 14 => ("BellAndDropModel", "pace", "I", false)
  | 15 => ("BellAndDropModel", "day", "I", false)
  | 16 => ("BellAndDropModel", "today", "I", false)
  | 17 => ("BellAndDropModel", "from", "I", false)
  | 18 => ("BellAndDropModel", "size", "I", false)
  | 19 => ("BellAndDropModel", "token", "I", false)
  | 20 => ("BellAndDropModel", "tokenAt", "I", false)
  | 21 => ("BellAndDropModel", "tokenWorth", "J", false)
  | 22 => ("BellAndDropModel", "here", "I", false)
  | 23 => ("BellAndDropModel", "open", "I", false)
  | 24 => ("BellAndDropModel", "bad", "Z", false)
  | 25 => ("BellAndDropModel", "fault", "I", false)
  | 26 => ("BellAndDropModel", "about", "I", false)
  | 27 => ("BellAndDropModel", "aboutSum", "I", false)
  | 28 => ("BellAndDropModel", "aboutWorth", "I", false)
  | 29 => ("BellAndDropModel", "aboutTrial", "I", false)
  | 30 => ("BellAndDropModel", "planSize", "[I", true)
  | 31 => ("BellAndDropModel", "planSigns", "[I", true)
  | 32 => ("BellAndDropModel", "planEnd", "[I", true)
  | 33 => ("BellAndDropModel", "plans", "I", false)
  | 34 => ("BellAndDropModel", "gained", "[I", true)
  | 35 => ("BellAndDropModel", "ended", "[I", true)
  | 36 => ("BellAndDropModel", "with", "[I", true)
  | 37 => ("BellAndDropModel", "asideStrength", "[I", true)
  | 38 => ("BellAndDropModel", "asideOn", "[I", true)
  | 39 => ("BellAndDropModel", "asideDay", "I", false)
  | 40 => ("BellAndDropModel", "asideToday", "I", false)
  | 41 => ("BellAndDropModel", "asidePace", "I", false)
  | 42 => ("BellAndDropModel", "before", "[I", true)
  | 43 => ("BellAndDropModel", "watchPlan", "[I", true)
  | 44 => ("BellAndDropModel", "watchSigns", "[I", true)
  | 45 => ("BellAndDropModel", "watchDrops", "[I", true)
  | 46 => ("BellAndDropModel", "watches", "I", false)
  | 47 => ("BellAndDropModel", "many", "I", false)
  | 48 => ("BellAndDropModel", "least", "I", false)
  | 49 => ("BellAndDropModel", "greatest", "I", false)
  | 50 => ("BellAndDropModel", "longest", "I", false)
  | 51 => ("BellAndDropModel", "imageStrength", "[I", true)
  | 52 => ("BellAndDropModel", "imageOn", "[I", true)
  | 53 => ("BellAndDropModel", "imageEnded", "[I", true)
  | 54 => ("BellAndDropModel", "imageWith", "[I", true)
  | 55 => ("BellAndDropModel", "hasImage", "Z", false)
  | 56 => ("BellAndDropModel", "imageSigns", "I", false)
  | 57 => ("BellAndDropModel", "imageDay", "I", false)
  | 58 => ("BellAndDropModel", "imageToday", "I", false)
  | 59 => ("BellAndDropModel", "imagePace", "I", false)
  | 60 => ("BellAndDropModel", "imageRule", "I", false)
  | 61 => ("BellAndDropModel", "isThere", "[Z", true)
  | 62 => ("BellAndDropModel", "sorts", "[I", true)
  | 63 => ("BellAndDropModel", "sheetSize", "[I", true)
  | _ => ("BellAndDropModel", "items", "[I", true)
def tyX10 : Nat → FieldType := fun k => match k with
  | 0 => .int
  | 1 => .array .int
  | 2 => .array .int
  | 3 => .int
  | 4 => .int
  | 5 => .array .int
  | 6 => .int
  | 7 => .array .int
  | 8 => .array .int
  | 9 => .array .int
  | 10 => .int
  | 11 => .array .int
  | 12 => .array .int
  | 13 => .array .int
  | 14 => .int
  | 15 => .int
  | 16 => .int
  | 17 => .int
  | 18 => .int
  | 19 => .int
  | 20 => .int
  | 21 => .long
  | 22 => .int
  | 23 => .int
  | 24 => .boolean
  | 25 => .int
  | 26 => .int
  | 27 => .int
  | 28 => .int
  | 29 => .int
  | 30 => .array .int
  | 31 => .array .int
  | 32 => .array .int
  | 33 => .int
  | 34 => .array .int
  | 35 => .array .int
  | 36 => .array .int
  | 37 => .array .int
  | 38 => .array .int
  | 39 => .int
  | 40 => .int
  | 41 => .int
  | 42 => .array .int
  | 43 => .array .int
  | 44 => .array .int
  | 45 => .array .int
  | 46 => .int
  | 47 => .int
  | 48 => .int
  | 49 => .int
  | 50 => .int
  | 51 => .array .int
  | 52 => .array .int
  | 53 => .array .int
  | 54 => .array .int
  | 55 => .boolean
  | 56 => .int
  | 57 => .int
  | 58 => .int
  | 59 => .int
  | 60 => .int
  | 61 => .array .boolean
  | 62 => .array .int
  | 63 => .array .int
  | _ => .array .int
abbrev wsX100 : List Cond := u_ws RX10 TX10 65
theorem nmX10 : ∀ a, a < 65 → ∀ b, b < 65 → a ≠ b → (TX10 a).2.1 ≠ (TX10 b).2.1 := by decide +kernel
theorem tyX10_ok : ∀ k, k < 65 → parseFieldDescriptor (TX10 k).2.2.1 = some (tyX10 k) := by decide +kernel
abbrev cX10_in : ByteArray := prog_12_method_2_code
def yX10_in : MethodName := ⟨RX10, "in", "(JJJ)Z"⟩
abbrev cX10_within : ByteArray := prog_12_method_3_code
def yX10_within : MethodName := ⟨RX10, "within", "(III)I"⟩
abbrev cX10_init : ByteArray := prog_12_method_4_code
def yX10_init : MethodName := ⟨RX10, "<init>", "()V"⟩
abbrev cX10_spell : ByteArray := prog_12_method_5_code
def yX10_spell : MethodName := ⟨RX10, "spell", "(IJ)V"⟩
abbrev cX10_isOne : ByteArray := prog_12_method_6_code
def yX10_isOne : MethodName := ⟨RX10, "isOne", "(I)Z"⟩
abbrev cX10_isSet : ByteArray := prog_12_method_7_code
def yX10_isSet : MethodName := ⟨RX10, "isSet", "(I)Z"⟩
abbrev cX10_sign : ByteArray := prog_12_method_8_code
def yX10_sign : MethodName := ⟨RX10, "sign", "(I)I"⟩
abbrev cX10_loudOf : ByteArray := prog_12_method_9_code
def yX10_loudOf : MethodName := ⟨RX10, "loudOf", "(I)I"⟩
abbrev cX10_fadesOf : ByteArray := prog_12_method_10_code
def yX10_fadesOf : MethodName := ⟨RX10, "fadesOf", "(I)I"⟩
abbrev cX10_told : ByteArray := prog_12_method_11_code
def yX10_told : MethodName := ⟨RX10, "told", "(II)J"⟩
abbrev cX10_worth : ByteArray := prog_12_method_12_code
def yX10_worth : MethodName := ⟨RX10, "worth", "(II)I"⟩
abbrev cX10_goes : ByteArray := prog_12_method_13_code
def yX10_goes : MethodName := ⟨RX10, "goes", "(III)I"⟩
abbrev cX10_like : ByteArray := prog_12_method_14_code
def yX10_like : MethodName := ⟨RX10, "like", "(III)I"⟩
abbrev cX10_pace : ByteArray := prog_12_method_15_code
def yX10_pace : MethodName := ⟨RX10, "pace", "(I)I"⟩
abbrev cX10_feed : ByteArray := prog_12_method_16_code
def yX10_feed : MethodName := ⟨RX10, "feed", "(IJ)I"⟩
abbrev cX10_byteAt : ByteArray := prog_12_method_17_code
def yX10_byteAt : MethodName := ⟨RX10, "byteAt", "(I)I"⟩
abbrev cX10_next : ByteArray := prog_12_method_18_code
def yX10_next : MethodName := ⟨RX10, "next", "()V"⟩
abbrev cX10_fail : ByteArray := prog_12_method_19_code
def yX10_fail : MethodName := ⟨RX10, "fail", "()V"⟩
abbrev cX10_isWord : ByteArray := prog_12_method_20_code
def yX10_isWord : MethodName := ⟨RX10, "isWord", "(J)Z"⟩
abbrev cX10_isSign : ByteArray := prog_12_method_21_code
def yX10_isSign : MethodName := ⟨RX10, "isSign", "(I)Z"⟩
abbrev cX10_opens : ByteArray := prog_12_method_22_code
def yX10_opens : MethodName := ⟨RX10, "opens", "()Z"⟩
abbrev cX10_name : ByteArray := prog_12_method_23_code
def yX10_name : MethodName := ⟨RX10, "name", "()I"⟩
abbrev cX10_one : ByteArray := prog_12_method_24_code
def yX10_one : MethodName := ⟨RX10, "one", "()I"⟩
abbrev cX10_term : ByteArray := prog_12_method_25_code
def yX10_term : MethodName := ⟨RX10, "term", "()I"⟩
abbrev cX10_added : ByteArray := prog_12_method_26_code
def yX10_added : MethodName := ⟨RX10, "added", "()I"⟩
abbrev cX10_not : ByteArray := prog_12_method_27_code
def yX10_not : MethodName := ⟨RX10, "not", "()I"⟩
abbrev cX10_both : ByteArray := prog_12_method_28_code
def yX10_both : MethodName := ⟨RX10, "both", "()I"⟩
abbrev cX10_either : ByteArray := prog_12_method_29_code
def yX10_either : MethodName := ⟨RX10, "either", "()I"⟩
abbrev cX10_part : ByteArray := prog_12_method_30_code
def yX10_part : MethodName := ⟨RX10, "part", "(J)I"⟩
abbrev cX10_read : ByteArray := prog_12_method_31_code
def yX10_read : MethodName := ⟨RX10, "read", "(IIIIII)I"⟩
abbrev cX10_text : ByteArray := prog_12_method_32_code
def yX10_text : MethodName := ⟨RX10, "text", "()I"⟩
abbrev cX10_force : ByteArray := prog_12_method_33_code
def yX10_force : MethodName := ⟨RX10, "force", "(I)I"⟩
abbrev cX10_endOf : ByteArray := prog_12_method_34_code
def yX10_endOf : MethodName := ⟨RX10, "endOf", "(I)I"⟩
abbrev cX10_plan : ByteArray := prog_12_method_35_code
def yX10_plan : MethodName := ⟨RX10, "plan", "()I"⟩
abbrev cX10_isPlan : ByteArray := prog_12_method_36_code
def yX10_isPlan : MethodName := ⟨RX10, "isPlan", "(I)Z"⟩
abbrev cX10_planned : ByteArray := prog_12_method_37_code
def yX10_planned : MethodName := ⟨RX10, "planned", "(III)I"⟩
abbrev cX10_sumOf : ByteArray := prog_12_method_38_code
def yX10_sumOf : MethodName := ⟨RX10, "sumOf", "(I)I"⟩
abbrev cX10_leastOf : ByteArray := prog_12_method_39_code
def yX10_leastOf : MethodName := ⟨RX10, "leastOf", "(I)I"⟩
abbrev cX10_dropsOf : ByteArray := prog_12_method_40_code
def yX10_dropsOf : MethodName := ⟨RX10, "dropsOf", "(I)I"⟩
abbrev cX10_tries : ByteArray := prog_12_method_41_code
def yX10_tries : MethodName := ⟨RX10, "tries", "(II)I"⟩
abbrev cX10_fades : ByteArray := prog_12_method_42_code
def yX10_fades : MethodName := ⟨RX10, "fades", "()V"⟩
abbrev cX10_goesBy : ByteArray := prog_12_method_43_code
def yX10_goesBy : MethodName := ⟨RX10, "goesBy", "(IZ)V"⟩
abbrev cX10_trial : ByteArray := prog_12_method_44_code
def yX10_trial : MethodName := ⟨RX10, "trial", "(II)J"⟩
abbrev cX10_sum : ByteArray := prog_12_method_45_code
def yX10_sum : MethodName := ⟨RX10, "sum", "(II)J"⟩
abbrev cX10_days : ByteArray := prog_12_method_46_code
def yX10_days : MethodName := ⟨RX10, "days", "(II)I"⟩
abbrev cX10_counts : ByteArray := prog_12_method_47_code
def yX10_counts : MethodName := ⟨RX10, "counts", "(II)V"⟩
abbrev cX10_trialsOfAll : ByteArray := prog_12_method_48_code
def yX10_trialsOfAll : MethodName := ⟨RX10, "trialsOfAll", "()I"⟩
abbrev cX10_common : ByteArray := prog_12_method_49_code
def yX10_common : MethodName := ⟨RX10, "common", "(JJ)J"⟩
abbrev cX10_counted : ByteArray := prog_12_method_50_code
def yX10_counted : MethodName := ⟨RX10, "counted", "(III)J"⟩
abbrev cX10_laysAside : ByteArray := prog_12_method_51_code
def yX10_laysAside : MethodName := ⟨RX10, "laysAside", "(Z)V"⟩
abbrev cX10_laysBack : ByteArray := prog_12_method_52_code
def yX10_laysBack : MethodName := ⟨RX10, "laysBack", "()V"⟩
abbrev cX10_rests : ByteArray := prog_12_method_53_code
def yX10_rests : MethodName := ⟨RX10, "rests", "(II)I"⟩
abbrev cX10_blocked : ByteArray := prog_12_method_54_code
def yX10_blocked : MethodName := ⟨RX10, "blocked", "(I)I"⟩
abbrev cX10_watched : ByteArray := prog_12_method_55_code
def yX10_watched : MethodName := ⟨RX10, "watched", "(III)I"⟩
abbrev cX10_letsTill : ByteArray := prog_12_method_56_code
def yX10_letsTill : MethodName := ⟨RX10, "letsTill", "(II)I"⟩
abbrev cX10_letsAll : ByteArray := prog_12_method_57_code
def yX10_letsAll : MethodName := ⟨RX10, "letsAll", "(I)V"⟩
abbrev cX10_lets : ByteArray := prog_12_method_58_code
def yX10_lets : MethodName := ⟨RX10, "lets", "(II)I"⟩
abbrev cX10_thrownOut : ByteArray := prog_12_method_59_code
def yX10_thrownOut : MethodName := ⟨RX10, "thrownOut", "(I)I"⟩
abbrev cX10_behind : ByteArray := prog_12_method_60_code
def yX10_behind : MethodName := ⟨RX10, "behind", "(III)I"⟩
abbrev cX10_next_ : ByteArray := prog_12_method_61_code
def yX10_next_ : MethodName := ⟨RX10, "next", "(III)I"⟩
abbrev cX10_near : ByteArray := prog_12_method_62_code
def yX10_near : MethodName := ⟨RX10, "near", "(IIIII)I"⟩
abbrev cX10_image : ByteArray := prog_12_method_63_code
def yX10_image : MethodName := ⟨RX10, "image", "()I"⟩
abbrev cX10_back : ByteArray := prog_12_method_64_code
def yX10_back : MethodName := ⟨RX10, "back", "()I"⟩
abbrev cX10_count : ByteArray := prog_12_method_65_code
def yX10_count : MethodName := ⟨RX10, "count", "(I)I"⟩
abbrev cX10_isSheet : ByteArray := prog_12_method_66_code
def yX10_isSheet : MethodName := ⟨RX10, "isSheet", "(I)Z"⟩
abbrev cX10_sheet : ByteArray := prog_12_method_67_code
def yX10_sheet : MethodName := ⟨RX10, "sheet", "(III)I"⟩
abbrev cX10_cell : ByteArray := prog_12_method_68_code
def yX10_cell : MethodName := ⟨RX10, "cell", "(III)I"⟩
abbrev cX10_copy : ByteArray := prog_12_method_69_code
def yX10_copy : MethodName := ⟨RX10, "copy", "(IIIII)I"⟩
abbrev cX10_trials : ByteArray := prog_12_method_70_code
def yX10_trials : MethodName := ⟨RX10, "trials", "(IIII)I"⟩
abbrev cX10_over : ByteArray := prog_12_method_71_code
def yX10_over : MethodName := ⟨RX10, "over", "(I)I"⟩
abbrev cX10_taken : ByteArray := prog_12_method_72_code
def yX10_taken : MethodName := ⟨RX10, "taken", "(II)I"⟩
def RJx145de : String := "java/io/Serializable"
def TJx145de : u_T := fun k => match k with
  | _ => ("", "", "", false)
def tyJx145de : Nat → FieldType := fun k => match k with
  | _ => .int
abbrev wsJx145de0 : List Cond := u_ws RJx145de TJx145de 0
theorem nmJx145de : ∀ a, a < 0 → ∀ b, b < 0 → a ≠ b → (TJx145de a).2.1 ≠ (TJx145de b).2.1 := by decide +kernel
theorem tyJx145de_ok : ∀ k, k < 0 → parseFieldDescriptor (TJx145de k).2.2.1 = some (tyJx145de k) := by decide +kernel
def RJx9f9b0 : String := "java/lang/CharSequence"
def TJx9f9b0 : u_T := fun k => match k with
  | _ => ("", "", "", false)
def tyJx9f9b0 : Nat → FieldType := fun k => match k with
  | _ => .int
abbrev wsJx9f9b00 : List Cond := u_ws RJx9f9b0 TJx9f9b0 0
theorem nmJx9f9b0 : ∀ a, a < 0 → ∀ b, b < 0 → a ≠ b → (TJx9f9b0 a).2.1 ≠ (TJx9f9b0 b).2.1 := by decide +kernel
theorem tyJx9f9b0_ok : ∀ k, k < 0 → parseFieldDescriptor (TJx9f9b0 k).2.2.1 = some (tyJx9f9b0 k) := by decide +kernel
def RJ11 : String := "java/lang/Character"
def TJ11 : u_T := fun k => match k with
  | _ => ("", "", "", false)
def tyJ11 : Nat → FieldType := fun k => match k with
  | _ => .int
abbrev wsJ110 : List Cond := u_ws RJ11 TJ11 0
theorem nmJ11 : ∀ a, a < 0 → ∀ b, b < 0 → a ≠ b → (TJ11 a).2.1 ≠ (TJ11 b).2.1 := by decide +kernel
theorem tyJ11_ok : ∀ k, k < 0 → parseFieldDescriptor (TJ11 k).2.2.1 = some (tyJ11 k) := by decide +kernel
abbrev cJ11_isValidCodePoint_9a6ad : ByteArray := prog_13_method_11_code
def yJ11_isValidCodePoint_9a6ad : MethodName := ⟨RJ11, "isValidCodePoint", "(I)Z"⟩
abbrev cJ11_highSurrogate_5068e : ByteArray := prog_13_method_28_code
def yJ11_highSurrogate_5068e : MethodName := ⟨RJ11, "highSurrogate", "(I)C"⟩
abbrev cJ11_lowSurrogate_5068e : ByteArray := prog_13_method_29_code
def yJ11_lowSurrogate_5068e : MethodName := ⟨RJ11, "lowSurrogate", "(I)C"⟩
def RJx8e188 : String := "java/lang/Cloneable"
def TJx8e188 : u_T := fun k => match k with
  | _ => ("", "", "", false)
def tyJx8e188 : Nat → FieldType := fun k => match k with
  | _ => .int
abbrev wsJx8e1880 : List Cond := u_ws RJx8e188 TJx8e188 0
theorem nmJx8e188 : ∀ a, a < 0 → ∀ b, b < 0 → a ≠ b → (TJx8e188 a).2.1 ≠ (TJx8e188 b).2.1 := by decide +kernel
theorem tyJx8e188_ok : ∀ k, k < 0 → parseFieldDescriptor (TJx8e188 k).2.2.1 = some (tyJx8e188 k) := by decide +kernel
def RJxb160c : String := "java/lang/Comparable"
def TJxb160c : u_T := fun k => match k with
  | _ => ("", "", "", false)
def tyJxb160c : Nat → FieldType := fun k => match k with
  | _ => .int
abbrev wsJxb160c0 : List Cond := u_ws RJxb160c TJxb160c 0
theorem nmJxb160c : ∀ a, a < 0 → ∀ b, b < 0 → a ≠ b → (TJxb160c a).2.1 ≠ (TJxb160c b).2.1 := by decide +kernel
theorem tyJxb160c_ok : ∀ k, k < 0 → parseFieldDescriptor (TJxb160c k).2.2.1 = some (tyJxb160c k) := by decide +kernel
def RJ9 : String := "java/lang/Math"
def TJ9 : u_T := fun k => match k with
  | _ => ("", "", "", false)
def tyJ9 : Nat → FieldType := fun k => match k with
  | _ => .int
abbrev wsJ90 : List Cond := u_ws RJ9 TJ9 0
theorem nmJ9 : ∀ a, a < 0 → ∀ b, b < 0 → a ≠ b → (TJ9 a).2.1 ≠ (TJ9 b).2.1 := by decide +kernel
theorem tyJ9_ok : ∀ k, k < 0 → parseFieldDescriptor (TJ9 k).2.2.1 = some (tyJ9 k) := by decide +kernel
abbrev cJ9_abs_0f7a4 : ByteArray := prog_15_method_59_code
def yJ9_abs_0f7a4 : MethodName := ⟨RJ9, "abs", "(I)I"⟩
abbrev cJ9_abs_067f4 : ByteArray := prog_15_method_61_code
def yJ9_abs_067f4 : MethodName := ⟨RJ9, "abs", "(J)J"⟩
abbrev cJ9_max_7cf53 : ByteArray := prog_15_method_65_code
def yJ9_max_7cf53 : MethodName := ⟨RJ9, "max", "(II)I"⟩
abbrev cJ9_max_f86c9 : ByteArray := prog_15_method_66_code
def yJ9_max_f86c9 : MethodName := ⟨RJ9, "max", "(JJ)J"⟩
abbrev cJ9_min_7cf53 : ByteArray := prog_15_method_69_code
def yJ9_min_7cf53 : MethodName := ⟨RJ9, "min", "(II)I"⟩
def RJ0 : String := "java/lang/String"
def TJ0 : u_T := fun k => match k with
  | _ => ("", "", "", false)
def tyJ0 : Nat → FieldType := fun k => match k with
  | _ => .int
abbrev wsJ00 : List Cond := u_ws RJ0 TJ0 0
theorem nmJ0 : ∀ a, a < 0 → ∀ b, b < 0 → a ≠ b → (TJ0 a).2.1 ≠ (TJ0 b).2.1 := by decide +kernel
theorem tyJ0_ok : ∀ k, k < 0 → parseFieldDescriptor (TJ0 k).2.2.1 = some (tyJ0 k) := by decide +kernel
abbrev cJ0_length_8abf5 : ByteArray := prog_16_method_54_code
def yJ0_length_8abf5 : MethodName := ⟨RJ0, "length", "()I"⟩
abbrev cJ0_charAt_5068e : ByteArray := prog_16_method_56_code
def yJ0_charAt_5068e : MethodName := ⟨RJ0, "charAt", "(I)C"⟩
abbrev cJ0_indexOf_0f7a4 : ByteArray := prog_16_method_79_code
def yJ0_indexOf_0f7a4 : MethodName := ⟨RJ0, "indexOf", "(I)I"⟩
abbrev cJ0_indexOf_7cf53 : ByteArray := prog_16_method_80_code
def yJ0_indexOf_7cf53 : MethodName := ⟨RJ0, "indexOf", "(II)I"⟩
abbrev cJ0_coder_7d493 : ByteArray := prog_16_method_152_code
def yJ0_coder_7d493 : MethodName := ⟨RJ0, "coder", "()B"⟩
abbrev cJ0_isLatin1_aae02 : ByteArray := prog_16_method_154_code
def yJ0_isLatin1_aae02 : MethodName := ⟨RJ0, "isLatin1", "()Z"⟩
abbrev cJ0_checkIndex_df160 : ByteArray := prog_16_method_155_code
def yJ0_checkIndex_df160 : MethodName := ⟨RJ0, "checkIndex", "(II)V"⟩
abbrev cJ0_checkBoundsBeginEnd_23922 : ByteArray := prog_16_method_158_code
def yJ0_checkBoundsBeginEnd_23922 : MethodName := ⟨RJ0, "checkBoundsBeginEnd", "(III)V"⟩
def RJ1 : String := "java/lang/StringLatin1"
def TJ1 : u_T := fun k => match k with
  | _ => ("", "", "", false)
def tyJ1 : Nat → FieldType := fun k => match k with
  | _ => .int
abbrev wsJ10 : List Cond := u_ws RJ1 TJ1 0
theorem nmJ1 : ∀ a, a < 0 → ∀ b, b < 0 → a ≠ b → (TJ1 a).2.1 ≠ (TJ1 b).2.1 := by decide +kernel
theorem tyJ1_ok : ∀ k, k < 0 → parseFieldDescriptor (TJ1 k).2.2.1 = some (tyJ1 k) := by decide +kernel
abbrev cJ1_charAt_3b067 : ByteArray := prog_17_method_2_code
def yJ1_charAt_3b067 : MethodName := ⟨RJ1, "charAt", "([BI)C"⟩
abbrev cJ1_canEncode_9a6ad : ByteArray := prog_17_method_4_code
def yJ1_canEncode_9a6ad : MethodName := ⟨RJ1, "canEncode", "(I)Z"⟩
abbrev cJ1_indexOf_4cfef : ByteArray := prog_17_method_22_code
def yJ1_indexOf_4cfef : MethodName := ⟨RJ1, "indexOf", "([BIII)I"⟩
abbrev cJ1_indexOfChar_4cfef : ByteArray := prog_17_method_23_code
def yJ1_indexOfChar_4cfef : MethodName := ⟨RJ1, "indexOfChar", "([BIII)I"⟩
def RJ2 : String := "java/lang/StringUTF16"
def TJ2 : u_T := fun k => match k with
  | _ => ("", "", "", false)
def tyJ2 : Nat → FieldType := fun k => match k with
  | _ => .int
abbrev wsJ20 : List Cond := u_ws RJ2 TJ2 0
theorem nmJ2 : ∀ a, a < 0 → ∀ b, b < 0 → a ≠ b → (TJ2 a).2.1 ≠ (TJ2 b).2.1 := by decide +kernel
theorem tyJ2_ok : ∀ k, k < 0 → parseFieldDescriptor (TJ2 k).2.2.1 = some (tyJ2 k) := by decide +kernel
abbrev cJ2_getChar_3b067 : ByteArray := prog_18_method_5_code
def yJ2_getChar_3b067 : MethodName := ⟨RJ2, "getChar", "([BI)C"⟩
abbrev cJ2_length_9d52b : ByteArray := prog_18_method_6_code
def yJ2_length_9d52b : MethodName := ⟨RJ2, "length", "([B)I"⟩
abbrev cJ2_indexOf_4cfef : ByteArray := prog_18_method_40_code
def yJ2_indexOf_4cfef : MethodName := ⟨RJ2, "indexOf", "([BIII)I"⟩
abbrev cJ2_indexOfChar_4cfef : ByteArray := prog_18_method_47_code
def yJ2_indexOfChar_4cfef : MethodName := ⟨RJ2, "indexOfChar", "([BIII)I"⟩
abbrev cJ2_indexOfCharUnsafe_4cfef : ByteArray := prog_18_method_48_code
def yJ2_indexOfCharUnsafe_4cfef : MethodName := ⟨RJ2, "indexOfCharUnsafe", "([BIII)I"⟩
abbrev cJ2_indexOfSupplementary_4cfef : ByteArray := prog_18_method_49_code
def yJ2_indexOfSupplementary_4cfef : MethodName := ⟨RJ2, "indexOfSupplementary", "([BIII)I"⟩
abbrev cJ2_charAt_3b067 : ByteArray := prog_18_method_83_code
def yJ2_charAt_3b067 : MethodName := ⟨RJ2, "charAt", "([BI)C"⟩
abbrev cJ2_checkIndex_2214a : ByteArray := prog_18_method_91_code
def yJ2_checkIndex_2214a : MethodName := ⟨RJ2, "checkIndex", "(I[B)V"⟩
abbrev cJ2_checkBoundsBeginEnd_d044e : ByteArray := prog_18_method_93_code
def yJ2_checkBoundsBeginEnd_d044e : MethodName := ⟨RJ2, "checkBoundsBeginEnd", "(II[B)V"⟩
def RJ10 : String := "java/lang/System"
def TJ10 : u_T := fun k => match k with
  | _ => ("", "", "", false)
def tyJ10 : Nat → FieldType := fun k => match k with
  | _ => .int
abbrev wsJ100 : List Cond := u_ws RJ10 TJ10 0
theorem nmJ10 : ∀ a, a < 0 → ∀ b, b < 0 → a ≠ b → (TJ10 a).2.1 ≠ (TJ10 b).2.1 := by decide +kernel
theorem tyJ10_ok : ∀ k, k < 0 → parseFieldDescriptor (TJ10 k).2.2.1 = some (tyJ10 k) := by decide +kernel
def RJxfd54e : String := "java/lang/constant/Constable"
def TJxfd54e : u_T := fun k => match k with
  | _ => ("", "", "", false)
def tyJxfd54e : Nat → FieldType := fun k => match k with
  | _ => .int
abbrev wsJxfd54e0 : List Cond := u_ws RJxfd54e TJxfd54e 0
theorem nmJxfd54e : ∀ a, a < 0 → ∀ b, b < 0 → a ≠ b → (TJxfd54e a).2.1 ≠ (TJxfd54e b).2.1 := by decide +kernel
theorem tyJxfd54e_ok : ∀ k, k < 0 → parseFieldDescriptor (TJxfd54e k).2.2.1 = some (tyJxfd54e k) := by decide +kernel
def RJx3cf43 : String := "java/lang/constant/ConstantDesc"
def TJx3cf43 : u_T := fun k => match k with
  | _ => ("", "", "", false)
def tyJx3cf43 : Nat → FieldType := fun k => match k with
  | _ => .int
abbrev wsJx3cf430 : List Cond := u_ws RJx3cf43 TJx3cf43 0
theorem nmJx3cf43 : ∀ a, a < 0 → ∀ b, b < 0 → a ≠ b → (TJx3cf43 a).2.1 ≠ (TJx3cf43 b).2.1 := by decide +kernel
theorem tyJx3cf43_ok : ∀ k, k < 0 → parseFieldDescriptor (TJx3cf43 k).2.2.1 = some (tyJx3cf43 k) := by decide +kernel
def RJ7 : String := "java/util/Arrays"
def TJ7 : u_T := fun k => match k with
  | _ => ("", "", "", false)
def tyJ7 : Nat → FieldType := fun k => match k with
  | _ => .int
abbrev wsJ70 : List Cond := u_ws RJ7 TJ7 0
theorem nmJ7 : ∀ a, a < 0 → ∀ b, b < 0 → a ≠ b → (TJ7 a).2.1 ≠ (TJ7 b).2.1 := by decide +kernel
theorem tyJ7_ok : ∀ k, k < 0 → parseFieldDescriptor (TJ7 k).2.2.1 = some (tyJ7 k) := by decide +kernel
abbrev cJ7_fill_53178 : ByteArray := prog_20_method_103_code
def yJ7_fill_53178 : MethodName := ⟨RJ7, "fill", "([II)V"⟩
abbrev cJ7_copyOf_59c91 : ByteArray := prog_20_method_123_code
def yJ7_copyOf_59c91 : MethodName := ⟨RJ7, "copyOf", "([II)[I"⟩
def RJ3 : String := "jdk/internal/util/Preconditions"
def TJ3 : u_T := fun k => match k with
  | _ => ("", "", "", false)
def tyJ3 : Nat → FieldType := fun k => match k with
  | _ => .int
abbrev wsJ30 : List Cond := u_ws RJ3 TJ3 0
theorem nmJ3 : ∀ a, a < 0 → ∀ b, b < 0 → a ≠ b → (TJ3 a).2.1 ≠ (TJ3 b).2.1 := by decide +kernel
theorem tyJ3_ok : ∀ k, k < 0 → parseFieldDescriptor (TJ3 k).2.2.1 = some (tyJ3 k) := by decide +kernel
abbrev cJ3_checkIndex_8e157 : ByteArray := prog_21_method_11_code
def yJ3_checkIndex_8e157 : MethodName := ⟨RJ3, "checkIndex", "(IILjava/util/function/BiFunction;)I"⟩
abbrev cJ3_checkFromToIndex_8c36e : ByteArray := prog_21_method_12_code
def yJ3_checkFromToIndex_8c36e : MethodName := ⟨RJ3, "checkFromToIndex", "(IIILjava/util/function/BiFunction;)I"⟩
def RL : String := "BellAndDropLaw"
abbrev cL_law : ByteArray := code
def yL_law : MethodName := ⟨RL, "law", "([I)Z"⟩
abbrev vwCl : List vw_C := [(RX0, TX0, 11), (RX1, TX1, 3), (RX2, TX2, 3), (RX3, TX3, 3), (RX4, TX4, 2), (RX5, TX5, 2), (RX6, TX6, 8), (RX7, TX7, 10), (RX8, TX8, 11), (RX9, TX9, 10), (RX10, TX10, 65)]
end
section
/-- the words that every contract takes: the tables' good ones -/
def Tw : List Cond := lw_tbl.filter goodWord
theorem Tw_in : ∀ w ∈ Tw, w ∈ lw_tbl := fun _ h => (List.mem_filter.mp h).1
theorem Tw_good : GoodIn Tw Tw := fun _ h => ⟨h, good_of_word (List.mem_filter.mp h).2⟩
theorem Tw_at {w : Cond} (i : Nat) (h : tables_1[i]? = some w) (hg : goodWord w = true) : w ∈ Tw := List.mem_filter.mpr ⟨List.mem_append_right _ (List.mem_of_getElem? h), hg⟩
theorem Tw_sel {w : Cond} (i : Nat) (h : (k2_sels lw_privs)[i]? = some w) (hg : goodWord w = true) : w ∈ Tw := List.mem_filter.mpr ⟨List.mem_append_left _ (List.mem_of_getElem? h), hg⟩
theorem q_0 : Cond.initialized RL ∈ Tw := Tw_at 0 (by decide +kernel) (by decide +kernel)
theorem q_1 : Cond.initialized RX9 ∈ Tw := Tw_at 1 (by decide +kernel) (by decide +kernel)
theorem q_2 : Cond.initialized RX8 ∈ Tw := Tw_at 2 (by decide +kernel) (by decide +kernel)
theorem q_3 : Cond.initialized RJ7 ∈ Tw := Tw_at 3 (by decide +kernel) (by decide +kernel)
theorem q_4 : Cond.initialized RX5 ∈ Tw := Tw_at 4 (by decide +kernel) (by decide +kernel)
theorem q_5 : Cond.initialized RX0 ∈ Tw := Tw_at 5 (by decide +kernel) (by decide +kernel)
theorem q_6 : Cond.initialized RX4 ∈ Tw := Tw_at 6 (by decide +kernel) (by decide +kernel)
theorem q_7 : Cond.initialized RX6 ∈ Tw := Tw_at 7 (by decide +kernel) (by decide +kernel)
theorem q_8 : Cond.initialized RX2 ∈ Tw := Tw_at 8 (by decide +kernel) (by decide +kernel)
theorem q_9 : Cond.initialized RX7 ∈ Tw := Tw_at 9 (by decide +kernel) (by decide +kernel)
theorem q_10 : Cond.initialized RX3 ∈ Tw := Tw_at 10 (by decide +kernel) (by decide +kernel)
theorem q_11 : Cond.initialized RX10 ∈ Tw := Tw_at 11 (by decide +kernel) (by decide +kernel)
theorem q_12 : Cond.initialized RJ0 ∈ Tw := Tw_at 12 (by decide +kernel) (by decide +kernel)
theorem q_13 : Cond.initialized RJ1 ∈ Tw := Tw_at 13 (by decide +kernel) (by decide +kernel)
theorem q_14 : Cond.initialized RJ3 ∈ Tw := Tw_at 14 (by decide +kernel) (by decide +kernel)
theorem q_15 : Cond.initialized RJ2 ∈ Tw := Tw_at 15 (by decide +kernel) (by decide +kernel)
theorem q_16 : Cond.initialized RJ9 ∈ Tw := Tw_at 16 (by decide +kernel) (by decide +kernel)
theorem q_17 : Cond.initialized RJ11 ∈ Tw := Tw_at 17 (by decide +kernel) (by decide +kernel)
theorem q_18 : Cond.initialized RJ10 ∈ Tw := Tw_at 18 (by decide +kernel) (by decide +kernel)
theorem q_19 : Cond.initialized RX1 ∈ Tw := Tw_at 19 (by decide +kernel) (by decide +kernel)
theorem q_20 : Cond.classLink RL 7 RX9 ∈ Tw := Tw_at 20 (by decide +kernel) (by decide +kernel)
theorem q_21 : Cond.instantiable RX9 10 ∈ Tw := Tw_at 21 (by decide +kernel) (by decide +kernel)
theorem q_22 : Cond.methodLink RL 9 yX9_init ∈ Tw := Tw_at 22 (by decide +kernel) (by decide +kernel)
theorem q_23 : Cond.instanceMethod yX9_init ∈ Tw := Tw_at 23 (by decide +kernel) (by decide +kernel)
theorem q_24 : Cond.code yX9_init prog_1_method_1_code 2 (none) ∈ Tw := Tw_at 24 (by decide +kernel) (by decide +kernel)
theorem q_25 : Cond.methodLink RX9 1 ⟨"java/lang/Object", "<init>", "()V"⟩ ∈ Tw := Tw_at 25 (by decide +kernel) (by decide +kernel)
theorem q_26 : Cond.instanceMethod ⟨"java/lang/Object", "<init>", "()V"⟩ ∈ Tw := Tw_at 26 (by decide +kernel) (by decide +kernel)
theorem q_27 : Cond.code ⟨"java/lang/Object", "<init>", "()V"⟩ "object_method_1_code" 1 (none) ∈ Tw := Tw_at 27 (by decide +kernel) (by decide +kernel)
theorem q_28 : Cond.classLink RX9 7 RX8 ∈ Tw := Tw_at 28 (by decide +kernel) (by decide +kernel)
theorem q_29 : Cond.instantiable RX8 11 ∈ Tw := Tw_at 29 (by decide +kernel) (by decide +kernel)
theorem q_30 : Cond.methodLink RX9 9 yX8_init ∈ Tw := Tw_at 30 (by decide +kernel) (by decide +kernel)
theorem q_31 : Cond.instanceMethod yX8_init ∈ Tw := Tw_at 31 (by decide +kernel) (by decide +kernel)
theorem q_32 : Cond.code yX8_init prog_10_method_1_code 1 (none) ∈ Tw := Tw_at 32 (by decide +kernel) (by decide +kernel)
theorem q_33 : Cond.methodLink RX8 3 ⟨"java/lang/Object", "<init>", "()V"⟩ ∈ Tw := Tw_at 33 (by decide +kernel) (by decide +kernel)
theorem q_34 : Cond.classLink RX8 24 RX5 ∈ Tw := Tw_at 34 (by decide +kernel) (by decide +kernel)
theorem q_36 : Cond.classLink RX8 30 RX1 ∈ Tw := Tw_at 36 (by decide +kernel) (by decide +kernel)
theorem q_38 : Cond.methodLink RX8 42 yJ7_fill_53178 ∈ Tw := Tw_at 38 (by decide +kernel) (by decide +kernel)
theorem q_39 : Cond.static yJ7_fill_53178 ∈ Tw := Tw_at 39 (by decide +kernel) (by decide +kernel)
theorem q_40 : Cond.code yJ7_fill_53178 prog_20_method_103_code 4 (none) ∈ Tw := Tw_at 40 (by decide +kernel) (by decide +kernel)
theorem q_41 : Cond.instantiable RX5 2 ∈ Tw := Tw_at 41 (by decide +kernel) (by decide +kernel)
theorem q_42 : Cond.methodLink RX8 48 yX5_init ∈ Tw := Tw_at 42 (by decide +kernel) (by decide +kernel)
theorem q_43 : Cond.instanceMethod yX5_init ∈ Tw := Tw_at 43 (by decide +kernel) (by decide +kernel)
theorem q_44 : Cond.code yX5_init prog_7_method_1_code 3 (none) ∈ Tw := Tw_at 44 (by decide +kernel) (by decide +kernel)
theorem q_45 : Cond.methodLink RX5 3 ⟨"java/lang/Object", "<init>", "()V"⟩ ∈ Tw := Tw_at 45 (by decide +kernel) (by decide +kernel)
theorem q_46 : Cond.fieldLink RX5 9 RX5 "code" "[I" ∈ Tw := Tw_at 46 (by decide +kernel) (by decide +kernel)
theorem q_47 : Cond.fieldLink RX5 15 RX5 "begins" "[I" ∈ Tw := Tw_at 47 (by decide +kernel) (by decide +kernel)
theorem q_48 : Cond.laysFinal RX5 RX5 "code" "[I" ∈ Tw := Tw_at 48 (by decide +kernel) (by decide +kernel)
theorem q_50 : Cond.laysFinal RX5 RX5 "begins" "[I" ∈ Tw := Tw_at 50 (by decide +kernel) (by decide +kernel)
theorem q_52 : Cond.superclass RX5 "java/lang/Object" ∈ Tw := Tw_at 52 (by decide +kernel) (by decide +kernel)
theorem q_53 : Cond.arrayClass .int ∈ Tw := Tw_at 53 (by decide +kernel) (by decide +kernel)
theorem q_54 : Cond.fieldLink RX8 55 RX8 "signs" "I" ∈ Tw := Tw_at 54 (by decide +kernel) (by decide +kernel)
theorem q_55 : Cond.fieldLink RX9 74 RX8 "signs" "I" ∈ Tw := Tw_at 55 (by decide +kernel) (by decide +kernel)
theorem q_56 : Cond.fieldLink RX0 72 RX8 "signs" "I" ∈ Tw := Tw_at 56 (by decide +kernel) (by decide +kernel)
theorem q_57 : Cond.fieldLink RX8 51 RX8 "texts" "I" ∈ Tw := Tw_at 57 (by decide +kernel) (by decide +kernel)
theorem q_58 : Cond.fieldLink RX9 131 RX8 "texts" "I" ∈ Tw := Tw_at 58 (by decide +kernel) (by decide +kernel)
theorem q_59 : Cond.fieldLink RX8 66 RX8 "plans" "I" ∈ Tw := Tw_at 59 (by decide +kernel) (by decide +kernel)
theorem q_60 : Cond.fieldLink RX9 148 RX8 "plans" "I" ∈ Tw := Tw_at 60 (by decide +kernel) (by decide +kernel)
theorem q_61 : Cond.fieldLink RX8 9 RX8 "kinds" "[I" ∈ Tw := Tw_at 61 (by decide +kernel) (by decide +kernel)
theorem q_62 : Cond.fieldLink RX9 77 RX8 "kinds" "[I" ∈ Tw := Tw_at 62 (by decide +kernel) (by decide +kernel)
theorem q_63 : Cond.fieldLink RX0 59 RX8 "kinds" "[I" ∈ Tw := Tw_at 63 (by decide +kernel) (by decide +kernel)
theorem q_64 : Cond.fieldLink RX8 15 RX8 "worths" "[I" ∈ Tw := Tw_at 64 (by decide +kernel) (by decide +kernel)
theorem q_65 : Cond.fieldLink RX9 100 RX8 "worths" "[I" ∈ Tw := Tw_at 65 (by decide +kernel) (by decide +kernel)
theorem q_66 : Cond.fieldLink RX0 93 RX8 "worths" "[I" ∈ Tw := Tw_at 66 (by decide +kernel) (by decide +kernel)
theorem q_67 : Cond.fieldLink RX8 18 RX8 "goesWith" "[I" ∈ Tw := Tw_at 67 (by decide +kernel) (by decide +kernel)
theorem q_68 : Cond.fieldLink RX9 106 RX8 "goesWith" "[I" ∈ Tw := Tw_at 68 (by decide +kernel) (by decide +kernel)
theorem q_69 : Cond.fieldLink RX0 103 RX8 "goesWith" "[I" ∈ Tw := Tw_at 69 (by decide +kernel) (by decide +kernel)
theorem q_70 : Cond.fieldLink RX8 21 RX8 "likes" "[I" ∈ Tw := Tw_at 70 (by decide +kernel) (by decide +kernel)
theorem q_71 : Cond.fieldLink RX0 83 RX8 "likes" "[I" ∈ Tw := Tw_at 71 (by decide +kernel) (by decide +kernel)
theorem q_72 : Cond.fieldLink RX8 26 RX8 "textRow" "[LBellAndDrop$Text;" ∈ Tw := Tw_at 72 (by decide +kernel) (by decide +kernel)
theorem q_73 : Cond.fieldLink RX9 141 RX8 "textRow" "[LBellAndDrop$Text;" ∈ Tw := Tw_at 73 (by decide +kernel) (by decide +kernel)
theorem q_74 : Cond.fieldLink RX0 130 RX8 "textRow" "[LBellAndDrop$Text;" ∈ Tw := Tw_at 74 (by decide +kernel) (by decide +kernel)
theorem q_75 : Cond.fieldLink RX8 32 RX8 "planRow" "[LBellAndDrop$Plan;" ∈ Tw := Tw_at 75 (by decide +kernel) (by decide +kernel)
theorem q_76 : Cond.fieldLink RX9 155 RX8 "planRow" "[LBellAndDrop$Plan;" ∈ Tw := Tw_at 76 (by decide +kernel) (by decide +kernel)
theorem q_77 : Cond.fieldLink RX8 36 RX8 "named" "[I" ∈ Tw := Tw_at 77 (by decide +kernel) (by decide +kernel)
theorem q_78 : Cond.fieldLink RX0 127 RX8 "named" "[I" ∈ Tw := Tw_at 78 (by decide +kernel) (by decide +kernel)
theorem q_79 : Cond.fieldLink RX8 39 RX8 "stack" "[I" ∈ Tw := Tw_at 79 (by decide +kernel) (by decide +kernel)
theorem q_80 : Cond.fieldLink RX0 134 RX8 "stack" "[I" ∈ Tw := Tw_at 80 (by decide +kernel) (by decide +kernel)
theorem q_81 : Cond.lays RX8 RX8 "signs" "I" ∈ Tw := Tw_at 81 (by decide +kernel) (by decide +kernel)
theorem q_83 : Cond.lays RX8 RX8 "texts" "I" ∈ Tw := Tw_at 83 (by decide +kernel) (by decide +kernel)
theorem q_85 : Cond.lays RX8 RX8 "plans" "I" ∈ Tw := Tw_at 85 (by decide +kernel) (by decide +kernel)
theorem q_87 : Cond.laysFinal RX8 RX8 "kinds" "[I" ∈ Tw := Tw_at 87 (by decide +kernel) (by decide +kernel)
theorem q_89 : Cond.laysFinal RX8 RX8 "worths" "[I" ∈ Tw := Tw_at 89 (by decide +kernel) (by decide +kernel)
theorem q_91 : Cond.laysFinal RX8 RX8 "goesWith" "[I" ∈ Tw := Tw_at 91 (by decide +kernel) (by decide +kernel)
theorem q_93 : Cond.laysFinal RX8 RX8 "likes" "[I" ∈ Tw := Tw_at 93 (by decide +kernel) (by decide +kernel)
theorem q_95 : Cond.laysFinal RX8 RX8 "textRow" "[LBellAndDrop$Text;" ∈ Tw := Tw_at 95 (by decide +kernel) (by decide +kernel)
theorem q_97 : Cond.laysFinal RX8 RX8 "planRow" "[LBellAndDrop$Plan;" ∈ Tw := Tw_at 97 (by decide +kernel) (by decide +kernel)
theorem q_99 : Cond.laysFinal RX8 RX8 "named" "[I" ∈ Tw := Tw_at 99 (by decide +kernel) (by decide +kernel)
theorem q_101 : Cond.laysFinal RX8 RX8 "stack" "[I" ∈ Tw := Tw_at 101 (by decide +kernel) (by decide +kernel)
theorem q_103 : Cond.superclass RX8 "java/lang/Object" ∈ Tw := Tw_at 103 (by decide +kernel) (by decide +kernel)
theorem q_104 : Cond.classLink RX9 16 RX0 ∈ Tw := Tw_at 104 (by decide +kernel) (by decide +kernel)
theorem q_105 : Cond.instantiable RX0 11 ∈ Tw := Tw_at 105 (by decide +kernel) (by decide +kernel)
theorem q_106 : Cond.methodLink RX9 18 yX0_init ∈ Tw := Tw_at 106 (by decide +kernel) (by decide +kernel)
theorem q_107 : Cond.instanceMethod yX0_init ∈ Tw := Tw_at 107 (by decide +kernel) (by decide +kernel)
theorem q_108 : Cond.code yX0_init prog_2_method_1_code 2 (none) ∈ Tw := Tw_at 108 (by decide +kernel) (by decide +kernel)
theorem q_109 : Cond.methodLink RX0 3 ⟨"java/lang/Object", "<init>", "()V"⟩ ∈ Tw := Tw_at 109 (by decide +kernel) (by decide +kernel)
theorem q_110 : Cond.fieldLink RX0 34 RX0 "world" "LBellAndDrop$World;" ∈ Tw := Tw_at 110 (by decide +kernel) (by decide +kernel)
theorem q_111 : Cond.fieldLink RX0 9 RX0 "strength" "[I" ∈ Tw := Tw_at 111 (by decide +kernel) (by decide +kernel)
theorem q_112 : Cond.fieldLink RX9 87 RX0 "strength" "[I" ∈ Tw := Tw_at 112 (by decide +kernel) (by decide +kernel)
theorem q_113 : Cond.fieldLink RX0 15 RX0 "on" "[I" ∈ Tw := Tw_at 113 (by decide +kernel) (by decide +kernel)
theorem q_114 : Cond.fieldLink RX9 90 RX0 "on" "[I" ∈ Tw := Tw_at 114 (by decide +kernel) (by decide +kernel)
theorem q_115 : Cond.fieldLink RX0 18 RX0 "endedWith" "[I" ∈ Tw := Tw_at 115 (by decide +kernel) (by decide +kernel)
theorem q_116 : Cond.fieldLink RX9 206 RX0 "endedWith" "[I" ∈ Tw := Tw_at 116 (by decide +kernel) (by decide +kernel)
theorem q_117 : Cond.fieldLink RX0 21 RX0 "ended" "[I" ∈ Tw := Tw_at 117 (by decide +kernel) (by decide +kernel)
theorem q_118 : Cond.fieldLink RX9 209 RX0 "ended" "[I" ∈ Tw := Tw_at 118 (by decide +kernel) (by decide +kernel)
theorem q_119 : Cond.fieldLink RX0 24 RX0 "gains" "[I" ∈ Tw := Tw_at 119 (by decide +kernel) (by decide +kernel)
theorem q_120 : Cond.fieldLink RX0 27 RX0 "ahead" "[I" ∈ Tw := Tw_at 120 (by decide +kernel) (by decide +kernel)
theorem q_121 : Cond.fieldLink RX0 44 RX0 "day" "I" ∈ Tw := Tw_at 121 (by decide +kernel) (by decide +kernel)
theorem q_122 : Cond.fieldLink RX9 184 RX0 "day" "I" ∈ Tw := Tw_at 122 (by decide +kernel) (by decide +kernel)
theorem q_123 : Cond.fieldLink RX0 47 RX0 "today" "I" ∈ Tw := Tw_at 123 (by decide +kernel) (by decide +kernel)
theorem q_124 : Cond.fieldLink RX0 30 RX0 "pace" "I" ∈ Tw := Tw_at 124 (by decide +kernel) (by decide +kernel)
theorem q_125 : Cond.fieldLink RX9 121 RX0 "pace" "I" ∈ Tw := Tw_at 125 (by decide +kernel) (by decide +kernel)
theorem q_126 : Cond.fieldLink RX0 50 RX0 "rule" "I" ∈ Tw := Tw_at 126 (by decide +kernel) (by decide +kernel)
theorem q_127 : Cond.fieldLink RX9 145 RX0 "rule" "I" ∈ Tw := Tw_at 127 (by decide +kernel) (by decide +kernel)
theorem q_128 : Cond.laysFinal RX0 RX0 "world" "LBellAndDrop$World;" ∈ Tw := Tw_at 128 (by decide +kernel) (by decide +kernel)
theorem q_130 : Cond.laysFinal RX0 RX0 "strength" "[I" ∈ Tw := Tw_at 130 (by decide +kernel) (by decide +kernel)
theorem q_132 : Cond.laysFinal RX0 RX0 "on" "[I" ∈ Tw := Tw_at 132 (by decide +kernel) (by decide +kernel)
theorem q_134 : Cond.laysFinal RX0 RX0 "endedWith" "[I" ∈ Tw := Tw_at 134 (by decide +kernel) (by decide +kernel)
theorem q_136 : Cond.laysFinal RX0 RX0 "ended" "[I" ∈ Tw := Tw_at 136 (by decide +kernel) (by decide +kernel)
theorem q_138 : Cond.laysFinal RX0 RX0 "gains" "[I" ∈ Tw := Tw_at 138 (by decide +kernel) (by decide +kernel)
theorem q_140 : Cond.laysFinal RX0 RX0 "ahead" "[I" ∈ Tw := Tw_at 140 (by decide +kernel) (by decide +kernel)
theorem q_142 : Cond.lays RX0 RX0 "day" "I" ∈ Tw := Tw_at 142 (by decide +kernel) (by decide +kernel)
theorem q_144 : Cond.lays RX0 RX0 "today" "I" ∈ Tw := Tw_at 144 (by decide +kernel) (by decide +kernel)
theorem q_146 : Cond.lays RX0 RX0 "pace" "I" ∈ Tw := Tw_at 146 (by decide +kernel) (by decide +kernel)
theorem q_148 : Cond.lays RX0 RX0 "rule" "I" ∈ Tw := Tw_at 148 (by decide +kernel) (by decide +kernel)
theorem q_150 : Cond.superclass RX0 "java/lang/Object" ∈ Tw := Tw_at 150 (by decide +kernel) (by decide +kernel)
theorem q_151 : Cond.classLink RX9 31 RX4 ∈ Tw := Tw_at 151 (by decide +kernel) (by decide +kernel)
theorem q_152 : Cond.instantiable RX4 2 ∈ Tw := Tw_at 152 (by decide +kernel) (by decide +kernel)
theorem q_154 : Cond.instanceMethod yX4_init ∈ Tw := Tw_at 154 (by decide +kernel) (by decide +kernel)
theorem q_155 : Cond.code yX4_init prog_6_method_1_code 1 (none) ∈ Tw := Tw_at 155 (by decide +kernel) (by decide +kernel)
theorem q_156 : Cond.methodLink RX4 3 ⟨"java/lang/Object", "<init>", "()V"⟩ ∈ Tw := Tw_at 156 (by decide +kernel) (by decide +kernel)
theorem q_157 : Cond.fieldLink RX4 9 RX4 "bytes" "[I" ∈ Tw := Tw_at 157 (by decide +kernel) (by decide +kernel)
theorem q_158 : Cond.fieldLink RX4 15 RX4 "size" "I" ∈ Tw := Tw_at 158 (by decide +kernel) (by decide +kernel)
theorem q_159 : Cond.fieldLink RX2 18 RX4 "size" "I" ∈ Tw := Tw_at 159 (by decide +kernel) (by decide +kernel)
theorem q_160 : Cond.fieldLink RX9 124 RX4 "size" "I" ∈ Tw := Tw_at 160 (by decide +kernel) (by decide +kernel)
theorem q_161 : Cond.laysFinal RX4 RX4 "bytes" "[I" ∈ Tw := Tw_at 161 (by decide +kernel) (by decide +kernel)
theorem q_163 : Cond.lays RX4 RX4 "size" "I" ∈ Tw := Tw_at 163 (by decide +kernel) (by decide +kernel)
theorem q_165 : Cond.superclass RX4 "java/lang/Object" ∈ Tw := Tw_at 165 (by decide +kernel) (by decide +kernel)
theorem q_166 : Cond.classLink RX9 38 RX6 ∈ Tw := Tw_at 166 (by decide +kernel) (by decide +kernel)
theorem q_167 : Cond.instantiable RX6 8 ∈ Tw := Tw_at 167 (by decide +kernel) (by decide +kernel)
theorem q_169 : Cond.instanceMethod yX6_init ∈ Tw := Tw_at 169 (by decide +kernel) (by decide +kernel)
theorem q_170 : Cond.code yX6_init prog_8_method_1_code 1 (none) ∈ Tw := Tw_at 170 (by decide +kernel) (by decide +kernel)
theorem q_171 : Cond.methodLink RX6 3 ⟨"java/lang/Object", "<init>", "()V"⟩ ∈ Tw := Tw_at 171 (by decide +kernel) (by decide +kernel)
theorem q_172 : Cond.fieldLink RX6 15 RX6 "tape" "LBellAndDrop$Tape;" ∈ Tw := Tw_at 172 (by decide +kernel) (by decide +kernel)
theorem q_173 : Cond.fieldLink RX6 19 RX6 "at" "I" ∈ Tw := Tw_at 173 (by decide +kernel) (by decide +kernel)
theorem q_174 : Cond.fieldLink RX6 39 RX6 "token" "I" ∈ Tw := Tw_at 174 (by decide +kernel) (by decide +kernel)
theorem q_175 : Cond.fieldLink RX6 56 RX6 "tokenPlace" "I" ∈ Tw := Tw_at 175 (by decide +kernel) (by decide +kernel)
theorem q_176 : Cond.fieldLink RX6 77 RX6 "tokenValue" "I" ∈ Tw := Tw_at 176 (by decide +kernel) (by decide +kernel)
theorem q_177 : Cond.fieldLink RX6 9 RX6 "code" "[I" ∈ Tw := Tw_at 177 (by decide +kernel) (by decide +kernel)
theorem q_178 : Cond.fieldLink RX6 23 RX6 "size" "I" ∈ Tw := Tw_at 178 (by decide +kernel) (by decide +kernel)
theorem q_179 : Cond.fieldLink RX6 26 RX6 "fault" "I" ∈ Tw := Tw_at 179 (by decide +kernel) (by decide +kernel)
theorem q_180 : Cond.fieldLink RX9 138 RX6 "fault" "I" ∈ Tw := Tw_at 180 (by decide +kernel) (by decide +kernel)
theorem q_181 : Cond.lays RX6 RX6 "tape" "LBellAndDrop$Tape;" ∈ Tw := Tw_at 181 (by decide +kernel) (by decide +kernel)
theorem q_183 : Cond.lays RX6 RX6 "at" "I" ∈ Tw := Tw_at 183 (by decide +kernel) (by decide +kernel)
theorem q_185 : Cond.lays RX6 RX6 "token" "I" ∈ Tw := Tw_at 185 (by decide +kernel) (by decide +kernel)
theorem q_187 : Cond.lays RX6 RX6 "tokenPlace" "I" ∈ Tw := Tw_at 187 (by decide +kernel) (by decide +kernel)
theorem q_189 : Cond.lays RX6 RX6 "tokenValue" "I" ∈ Tw := Tw_at 189 (by decide +kernel) (by decide +kernel)
theorem q_191 : Cond.laysFinal RX6 RX6 "code" "[I" ∈ Tw := Tw_at 191 (by decide +kernel) (by decide +kernel)
theorem q_193 : Cond.lays RX6 RX6 "size" "I" ∈ Tw := Tw_at 193 (by decide +kernel) (by decide +kernel)
theorem q_195 : Cond.lays RX6 RX6 "fault" "I" ∈ Tw := Tw_at 195 (by decide +kernel) (by decide +kernel)
theorem q_197 : Cond.superclass RX6 "java/lang/Object" ∈ Tw := Tw_at 197 (by decide +kernel) (by decide +kernel)
theorem q_198 : Cond.classLink RX9 45 RX2 ∈ Tw := Tw_at 198 (by decide +kernel) (by decide +kernel)
theorem q_199 : Cond.instantiable RX2 3 ∈ Tw := Tw_at 199 (by decide +kernel) (by decide +kernel)
theorem q_201 : Cond.instanceMethod yX2_init ∈ Tw := Tw_at 201 (by decide +kernel) (by decide +kernel)
theorem q_202 : Cond.code yX2_init prog_4_method_1_code 1 (none) ∈ Tw := Tw_at 202 (by decide +kernel) (by decide +kernel)
theorem q_203 : Cond.methodLink RX2 3 ⟨"java/lang/Object", "<init>", "()V"⟩ ∈ Tw := Tw_at 203 (by decide +kernel) (by decide +kernel)
theorem q_204 : Cond.fieldLink RX2 9 RX2 "sets" "[I" ∈ Tw := Tw_at 204 (by decide +kernel) (by decide +kernel)
theorem q_205 : Cond.fieldLink RX2 15 RX2 "ends" "[I" ∈ Tw := Tw_at 205 (by decide +kernel) (by decide +kernel)
theorem q_206 : Cond.fieldLink RX2 48 RX2 "fault" "I" ∈ Tw := Tw_at 206 (by decide +kernel) (by decide +kernel)
theorem q_207 : Cond.fieldLink RX9 154 RX2 "fault" "I" ∈ Tw := Tw_at 207 (by decide +kernel) (by decide +kernel)
theorem q_208 : Cond.laysFinal RX2 RX2 "sets" "[I" ∈ Tw := Tw_at 208 (by decide +kernel) (by decide +kernel)
theorem q_210 : Cond.laysFinal RX2 RX2 "ends" "[I" ∈ Tw := Tw_at 210 (by decide +kernel) (by decide +kernel)
theorem q_212 : Cond.lays RX2 RX2 "fault" "I" ∈ Tw := Tw_at 212 (by decide +kernel) (by decide +kernel)
theorem q_214 : Cond.superclass RX2 "java/lang/Object" ∈ Tw := Tw_at 214 (by decide +kernel) (by decide +kernel)
theorem q_215 : Cond.classLink RX9 52 RX7 ∈ Tw := Tw_at 215 (by decide +kernel) (by decide +kernel)
theorem q_216 : Cond.instantiable RX7 10 ∈ Tw := Tw_at 216 (by decide +kernel) (by decide +kernel)
theorem q_218 : Cond.instanceMethod yX7_init ∈ Tw := Tw_at 218 (by decide +kernel) (by decide +kernel)
theorem q_219 : Cond.code yX7_init prog_9_method_1_code 1 (none) ∈ Tw := Tw_at 219 (by decide +kernel) (by decide +kernel)
theorem q_220 : Cond.methodLink RX7 3 ⟨"java/lang/Object", "<init>", "()V"⟩ ∈ Tw := Tw_at 220 (by decide +kernel) (by decide +kernel)
theorem q_221 : Cond.fieldLink RX7 9 RX7 "plans" "[I" ∈ Tw := Tw_at 221 (by decide +kernel) (by decide +kernel)
theorem q_222 : Cond.fieldLink RX9 316 RX7 "plans" "[I" ∈ Tw := Tw_at 222 (by decide +kernel) (by decide +kernel)
theorem q_223 : Cond.fieldLink RX7 15 RX7 "sets" "[I" ∈ Tw := Tw_at 223 (by decide +kernel) (by decide +kernel)
theorem q_224 : Cond.fieldLink RX9 318 RX7 "sets" "[I" ∈ Tw := Tw_at 224 (by decide +kernel) (by decide +kernel)
theorem q_225 : Cond.fieldLink RX7 18 RX7 "drops" "[I" ∈ Tw := Tw_at 225 (by decide +kernel) (by decide +kernel)
theorem q_226 : Cond.fieldLink RX9 319 RX7 "drops" "[I" ∈ Tw := Tw_at 226 (by decide +kernel) (by decide +kernel)
theorem q_227 : Cond.fieldLink RX7 21 RX7 "size" "I" ∈ Tw := Tw_at 227 (by decide +kernel) (by decide +kernel)
theorem q_228 : Cond.fieldLink RX9 228 RX7 "size" "I" ∈ Tw := Tw_at 228 (by decide +kernel) (by decide +kernel)
theorem q_229 : Cond.fieldLink RX7 25 RX7 "paces" "I" ∈ Tw := Tw_at 229 (by decide +kernel) (by decide +kernel)
theorem q_230 : Cond.fieldLink RX9 236 RX7 "paces" "I" ∈ Tw := Tw_at 230 (by decide +kernel) (by decide +kernel)
theorem q_231 : Cond.fieldLink RX7 28 RX7 "leastPace" "I" ∈ Tw := Tw_at 231 (by decide +kernel) (by decide +kernel)
theorem q_232 : Cond.fieldLink RX9 239 RX7 "leastPace" "I" ∈ Tw := Tw_at 232 (by decide +kernel) (by decide +kernel)
theorem q_233 : Cond.fieldLink RX7 31 RX7 "greatestPace" "I" ∈ Tw := Tw_at 233 (by decide +kernel) (by decide +kernel)
theorem q_234 : Cond.fieldLink RX9 242 RX7 "greatestPace" "I" ∈ Tw := Tw_at 234 (by decide +kernel) (by decide +kernel)
theorem q_235 : Cond.fieldLink RX7 34 RX7 "lastOff" "I" ∈ Tw := Tw_at 235 (by decide +kernel) (by decide +kernel)
theorem q_236 : Cond.fieldLink RX9 245 RX7 "lastOff" "I" ∈ Tw := Tw_at 236 (by decide +kernel) (by decide +kernel)
theorem q_237 : Cond.fieldLink RX9 251 RX7 "farthestPlan" "I" ∈ Tw := Tw_at 237 (by decide +kernel) (by decide +kernel)
theorem q_238 : Cond.fieldLink RX9 254 RX7 "farthest" "I" ∈ Tw := Tw_at 238 (by decide +kernel) (by decide +kernel)
theorem q_239 : Cond.laysFinal RX7 RX7 "plans" "[I" ∈ Tw := Tw_at 239 (by decide +kernel) (by decide +kernel)
theorem q_241 : Cond.laysFinal RX7 RX7 "sets" "[I" ∈ Tw := Tw_at 241 (by decide +kernel) (by decide +kernel)
theorem q_243 : Cond.laysFinal RX7 RX7 "drops" "[I" ∈ Tw := Tw_at 243 (by decide +kernel) (by decide +kernel)
theorem q_245 : Cond.lays RX7 RX7 "size" "I" ∈ Tw := Tw_at 245 (by decide +kernel) (by decide +kernel)
theorem q_247 : Cond.lays RX7 RX7 "paces" "I" ∈ Tw := Tw_at 247 (by decide +kernel) (by decide +kernel)
theorem q_249 : Cond.lays RX7 RX7 "leastPace" "I" ∈ Tw := Tw_at 249 (by decide +kernel) (by decide +kernel)
theorem q_251 : Cond.lays RX7 RX7 "greatestPace" "I" ∈ Tw := Tw_at 251 (by decide +kernel) (by decide +kernel)
theorem q_253 : Cond.lays RX7 RX7 "lastOff" "I" ∈ Tw := Tw_at 253 (by decide +kernel) (by decide +kernel)
theorem q_255 : Cond.lays RX7 RX7 "farthestPlan" "I" ∈ Tw := Tw_at 255 (by decide +kernel) (by decide +kernel)
theorem q_257 : Cond.lays RX7 RX7 "farthest" "I" ∈ Tw := Tw_at 257 (by decide +kernel) (by decide +kernel)
theorem q_259 : Cond.superclass RX7 "java/lang/Object" ∈ Tw := Tw_at 259 (by decide +kernel) (by decide +kernel)
theorem q_260 : Cond.classLink RX9 59 RX3 ∈ Tw := Tw_at 260 (by decide +kernel) (by decide +kernel)
theorem q_262 : Cond.instantiable RX3 3 ∈ Tw := Tw_at 262 (by decide +kernel) (by decide +kernel)
theorem q_264 : Cond.instanceMethod yX3_init ∈ Tw := Tw_at 264 (by decide +kernel) (by decide +kernel)
theorem q_265 : Cond.code yX3_init prog_5_method_1_code 1 (none) ∈ Tw := Tw_at 265 (by decide +kernel) (by decide +kernel)
theorem q_266 : Cond.methodLink RX3 3 ⟨"java/lang/Object", "<init>", "()V"⟩ ∈ Tw := Tw_at 266 (by decide +kernel) (by decide +kernel)
theorem q_267 : Cond.fieldLink RX3 11 RX3 "sort" "I" ∈ Tw := Tw_at 267 (by decide +kernel) (by decide +kernel)
theorem q_268 : Cond.fieldLink RX9 278 RX3 "sort" "I" ∈ Tw := Tw_at 268 (by decide +kernel) (by decide +kernel)
theorem q_269 : Cond.fieldLink RX3 19 RX3 "size" "I" ∈ Tw := Tw_at 269 (by decide +kernel) (by decide +kernel)
theorem q_270 : Cond.fieldLink RX3 15 RX3 "items" "[I" ∈ Tw := Tw_at 270 (by decide +kernel) (by decide +kernel)
theorem q_271 : Cond.fieldLink RX9 284 RX3 "items" "[I" ∈ Tw := Tw_at 271 (by decide +kernel) (by decide +kernel)
theorem q_272 : Cond.lays RX3 RX3 "sort" "I" ∈ Tw := Tw_at 272 (by decide +kernel) (by decide +kernel)
theorem q_274 : Cond.lays RX3 RX3 "size" "I" ∈ Tw := Tw_at 274 (by decide +kernel) (by decide +kernel)
theorem q_276 : Cond.laysFinal RX3 RX3 "items" "[I" ∈ Tw := Tw_at 276 (by decide +kernel) (by decide +kernel)
theorem q_278 : Cond.superclass RX3 "java/lang/Object" ∈ Tw := Tw_at 278 (by decide +kernel) (by decide +kernel)
theorem q_279 : Cond.fieldLink RX9 10 RX9 "world" "LBellAndDrop$World;" ∈ Tw := Tw_at 279 (by decide +kernel) (by decide +kernel)
theorem q_280 : Cond.fieldLink RX9 21 RX9 "now" "LBellAndDrop$Mind;" ∈ Tw := Tw_at 280 (by decide +kernel) (by decide +kernel)
theorem q_281 : Cond.fieldLink RX9 25 RX9 "kept" "LBellAndDrop$Mind;" ∈ Tw := Tw_at 281 (by decide +kernel) (by decide +kernel)
theorem q_282 : Cond.fieldLink RX9 28 RX9 "dream" "LBellAndDrop$Mind;" ∈ Tw := Tw_at 282 (by decide +kernel) (by decide +kernel)
theorem q_283 : Cond.fieldLink RX9 34 RX9 "tape" "LBellAndDrop$Tape;" ∈ Tw := Tw_at 283 (by decide +kernel) (by decide +kernel)
theorem q_284 : Cond.fieldLink RX9 41 RX9 "textReader" "LBellAndDrop$TextReader;" ∈ Tw := Tw_at 284 (by decide +kernel) (by decide +kernel)
theorem q_285 : Cond.fieldLink RX9 48 RX9 "planReader" "LBellAndDrop$PlanReader;" ∈ Tw := Tw_at 285 (by decide +kernel) (by decide +kernel)
theorem q_286 : Cond.fieldLink RX9 55 RX9 "watch" "LBellAndDrop$Watch;" ∈ Tw := Tw_at 286 (by decide +kernel) (by decide +kernel)
theorem q_287 : Cond.fieldLink RX9 61 RX9 "sheets" "[LBellAndDrop$Sheet;" ∈ Tw := Tw_at 287 (by decide +kernel) (by decide +kernel)
theorem q_288 : Cond.fieldLink RX9 66 RX9 "imageSigns" "I" ∈ Tw := Tw_at 288 (by decide +kernel) (by decide +kernel)
theorem q_289 : Cond.laysFinal RX9 RX9 "world" "LBellAndDrop$World;" ∈ Tw := Tw_at 289 (by decide +kernel) (by decide +kernel)
theorem q_291 : Cond.laysFinal RX9 RX9 "now" "LBellAndDrop$Mind;" ∈ Tw := Tw_at 291 (by decide +kernel) (by decide +kernel)
theorem q_293 : Cond.laysFinal RX9 RX9 "kept" "LBellAndDrop$Mind;" ∈ Tw := Tw_at 293 (by decide +kernel) (by decide +kernel)
theorem q_295 : Cond.laysFinal RX9 RX9 "dream" "LBellAndDrop$Mind;" ∈ Tw := Tw_at 295 (by decide +kernel) (by decide +kernel)
theorem q_297 : Cond.laysFinal RX9 RX9 "tape" "LBellAndDrop$Tape;" ∈ Tw := Tw_at 297 (by decide +kernel) (by decide +kernel)
theorem q_299 : Cond.laysFinal RX9 RX9 "textReader" "LBellAndDrop$TextReader;" ∈ Tw := Tw_at 299 (by decide +kernel) (by decide +kernel)
theorem q_301 : Cond.laysFinal RX9 RX9 "planReader" "LBellAndDrop$PlanReader;" ∈ Tw := Tw_at 301 (by decide +kernel) (by decide +kernel)
theorem q_303 : Cond.laysFinal RX9 RX9 "watch" "LBellAndDrop$Watch;" ∈ Tw := Tw_at 303 (by decide +kernel) (by decide +kernel)
theorem q_305 : Cond.laysFinal RX9 RX9 "sheets" "[LBellAndDrop$Sheet;" ∈ Tw := Tw_at 305 (by decide +kernel) (by decide +kernel)
theorem q_307 : Cond.lays RX9 RX9 "imageSigns" "I" ∈ Tw := Tw_at 307 (by decide +kernel) (by decide +kernel)
theorem q_309 : Cond.superclass RX9 "java/lang/Object" ∈ Tw := Tw_at 309 (by decide +kernel) (by decide +kernel)
theorem q_310 : Cond.methodLink RL 13 yX9_sign ∈ Tw := Tw_at 310 (by decide +kernel) (by decide +kernel)
theorem q_311 : Cond.instanceMethod yX9_sign ∈ Tw := Tw_at 311 (by decide +kernel) (by decide +kernel)
theorem q_312 : Cond.selects RX9 yX9_sign yX9_sign ∈ Tw := Tw_at 312 (by decide +kernel) (by decide +kernel)
theorem q_313 : Cond.code yX9_sign prog_1_method_2_code 2 (some .int) ∈ Tw := Tw_at 313 (by decide +kernel) (by decide +kernel)
theorem q_314 : Cond.methodLink RX9 70 yX9_within ∈ Tw := Tw_at 314 (by decide +kernel) (by decide +kernel)
theorem q_315 : Cond.static yX9_within ∈ Tw := Tw_at 315 (by decide +kernel) (by decide +kernel)
theorem q_316 : Cond.code yX9_within prog_1_method_32_code 3 (some .boolean) ∈ Tw := Tw_at 316 (by decide +kernel) (by decide +kernel)
theorem q_317 : Cond.methodLink RL 18 yX9_told ∈ Tw := Tw_at 317 (by decide +kernel) (by decide +kernel)
theorem q_318 : Cond.instanceMethod yX9_told ∈ Tw := Tw_at 318 (by decide +kernel) (by decide +kernel)
theorem q_319 : Cond.selects RX9 yX9_told yX9_told ∈ Tw := Tw_at 319 (by decide +kernel) (by decide +kernel)
theorem q_320 : Cond.code yX9_told prog_1_method_3_code 3 (some .long) ∈ Tw := Tw_at 320 (by decide +kernel) (by decide +kernel)
theorem q_321 : Cond.methodLink RX9 81 yX8_hasSign ∈ Tw := Tw_at 321 (by decide +kernel) (by decide +kernel)
theorem q_322 : Cond.instanceMethod yX8_hasSign ∈ Tw := Tw_at 322 (by decide +kernel) (by decide +kernel)
theorem q_323 : Cond.selects RX8 yX8_hasSign yX8_hasSign ∈ Tw := Tw_at 323 (by decide +kernel) (by decide +kernel)
theorem q_324 : Cond.code yX8_hasSign prog_10_method_2_code 2 (some .boolean) ∈ Tw := Tw_at 324 (by decide +kernel) (by decide +kernel)
theorem q_326 : Cond.constantLong RX9 85 (-4611686018427387904 : Int64) ∈ Tw := Tw_at 326 (by decide +kernel) (by decide +kernel)
theorem q_327 : Cond.methodLink RX9 93 yX0_loudOf ∈ Tw := Tw_at 327 (by decide +kernel) (by decide +kernel)
theorem q_328 : Cond.instanceMethod yX0_loudOf ∈ Tw := Tw_at 328 (by decide +kernel) (by decide +kernel)
theorem q_329 : Cond.selects RX0 yX0_loudOf yX0_loudOf ∈ Tw := Tw_at 329 (by decide +kernel) (by decide +kernel)
theorem q_330 : Cond.code yX0_loudOf prog_2_method_5_code 4 (some .int) ∈ Tw := Tw_at 330 (by decide +kernel) (by decide +kernel)
theorem q_332 : Cond.static yX9_bounded ∈ Tw := Tw_at 332 (by decide +kernel) (by decide +kernel)
theorem q_333 : Cond.code yX9_bounded prog_1_method_33_code 3 (some .int) ∈ Tw := Tw_at 333 (by decide +kernel) (by decide +kernel)
theorem q_334 : Cond.methodLink RX9 97 yX0_fadesOf ∈ Tw := Tw_at 334 (by decide +kernel) (by decide +kernel)
theorem q_335 : Cond.instanceMethod yX0_fadesOf ∈ Tw := Tw_at 335 (by decide +kernel) (by decide +kernel)
theorem q_336 : Cond.selects RX0 yX0_fadesOf yX0_fadesOf ∈ Tw := Tw_at 336 (by decide +kernel) (by decide +kernel)
theorem q_337 : Cond.code yX0_fadesOf prog_2_method_6_code 4 (some .int) ∈ Tw := Tw_at 337 (by decide +kernel) (by decide +kernel)
theorem q_338 : Cond.methodLink RX0 68 yX0_says ∈ Tw := Tw_at 338 (by decide +kernel) (by decide +kernel)
theorem q_340 : Cond.instanceMethod yX0_says ∈ Tw := Tw_at 340 (by decide +kernel) (by decide +kernel)
theorem q_341 : Cond.code yX0_says prog_2_method_15_code 8 (some .int) ∈ Tw := Tw_at 341 (by decide +kernel) (by decide +kernel)
theorem q_342 : Cond.methodLink RX0 137 yX5_reckon ∈ Tw := Tw_at 342 (by decide +kernel) (by decide +kernel)
theorem q_343 : Cond.instanceMethod yX5_reckon ∈ Tw := Tw_at 343 (by decide +kernel) (by decide +kernel)
theorem q_344 : Cond.selects RX5 yX5_reckon yX5_reckon ∈ Tw := Tw_at 344 (by decide +kernel) (by decide +kernel)
theorem q_345 : Cond.code yX5_reckon prog_7_method_2_code 7 (some .int) ∈ Tw := Tw_at 345 (by decide +kernel) (by decide +kernel)
theorem q_346 : Cond.methodLink RX5 18 yX5_byOne ∈ Tw := Tw_at 346 (by decide +kernel) (by decide +kernel)
theorem q_347 : Cond.static yX5_byOne ∈ Tw := Tw_at 347 (by decide +kernel) (by decide +kernel)
theorem q_348 : Cond.code yX5_byOne prog_7_method_3_code 2 (some .int) ∈ Tw := Tw_at 348 (by decide +kernel) (by decide +kernel)
theorem q_349 : Cond.methodLink RX5 22 yX5_byTwo ∈ Tw := Tw_at 349 (by decide +kernel) (by decide +kernel)
theorem q_350 : Cond.static yX5_byTwo ∈ Tw := Tw_at 350 (by decide +kernel) (by decide +kernel)
theorem q_351 : Cond.code yX5_byTwo prog_7_method_4_code 3 (some .int) ∈ Tw := Tw_at 351 (by decide +kernel) (by decide +kernel)
theorem q_352 : Cond.methodLink RL 23 yX9_worth ∈ Tw := Tw_at 352 (by decide +kernel) (by decide +kernel)
theorem q_353 : Cond.instanceMethod yX9_worth ∈ Tw := Tw_at 353 (by decide +kernel) (by decide +kernel)
theorem q_354 : Cond.selects RX9 yX9_worth yX9_worth ∈ Tw := Tw_at 354 (by decide +kernel) (by decide +kernel)
theorem q_355 : Cond.code yX9_worth prog_1_method_4_code 4 (some .int) ∈ Tw := Tw_at 355 (by decide +kernel) (by decide +kernel)
theorem q_356 : Cond.methodLink RL 28 yX9_goes ∈ Tw := Tw_at 356 (by decide +kernel) (by decide +kernel)
theorem q_357 : Cond.instanceMethod yX9_goes ∈ Tw := Tw_at 357 (by decide +kernel) (by decide +kernel)
theorem q_358 : Cond.selects RX9 yX9_goes yX9_goes ∈ Tw := Tw_at 358 (by decide +kernel) (by decide +kernel)
theorem q_359 : Cond.code yX9_goes prog_1_method_5_code 6 (some .int) ∈ Tw := Tw_at 359 (by decide +kernel) (by decide +kernel)
theorem q_360 : Cond.methodLink RX9 103 yX9_isEnd ∈ Tw := Tw_at 360 (by decide +kernel) (by decide +kernel)
theorem q_361 : Cond.static yX9_isEnd ∈ Tw := Tw_at 361 (by decide +kernel) (by decide +kernel)
theorem q_362 : Cond.code yX9_isEnd prog_1_method_34_code 1 (some .boolean) ∈ Tw := Tw_at 362 (by decide +kernel) (by decide +kernel)
theorem q_363 : Cond.methodLink RL 33 yX9_like ∈ Tw := Tw_at 363 (by decide +kernel) (by decide +kernel)
theorem q_364 : Cond.instanceMethod yX9_like ∈ Tw := Tw_at 364 (by decide +kernel) (by decide +kernel)
theorem q_365 : Cond.selects RX9 yX9_like yX9_like ∈ Tw := Tw_at 365 (by decide +kernel) (by decide +kernel)
theorem q_366 : Cond.code yX9_like prog_1_method_6_code 5 (some .int) ∈ Tw := Tw_at 366 (by decide +kernel) (by decide +kernel)
theorem q_367 : Cond.methodLink RX9 109 yX8_areTwoSigns ∈ Tw := Tw_at 367 (by decide +kernel) (by decide +kernel)
theorem q_368 : Cond.instanceMethod yX8_areTwoSigns ∈ Tw := Tw_at 368 (by decide +kernel) (by decide +kernel)
theorem q_369 : Cond.selects RX8 yX8_areTwoSigns yX8_areTwoSigns ∈ Tw := Tw_at 369 (by decide +kernel) (by decide +kernel)
theorem q_370 : Cond.code yX8_areTwoSigns prog_10_method_3_code 3 (some .boolean) ∈ Tw := Tw_at 370 (by decide +kernel) (by decide +kernel)
theorem q_371 : Cond.methodLink RX8 62 yX8_hasSign ∈ Tw := Tw_at 371 (by decide +kernel) (by decide +kernel)
theorem q_372 : Cond.methodLink RX9 113 yX8_likeOf ∈ Tw := Tw_at 372 (by decide +kernel) (by decide +kernel)
theorem q_373 : Cond.instanceMethod yX8_likeOf ∈ Tw := Tw_at 373 (by decide +kernel) (by decide +kernel)
theorem q_374 : Cond.selects RX8 yX8_likeOf yX8_likeOf ∈ Tw := Tw_at 374 (by decide +kernel) (by decide +kernel)
theorem q_375 : Cond.code yX8_likeOf prog_10_method_5_code 3 (some .int) ∈ Tw := Tw_at 375 (by decide +kernel) (by decide +kernel)
theorem q_376 : Cond.methodLink RX9 117 yX8_setLike ∈ Tw := Tw_at 376 (by decide +kernel) (by decide +kernel)
theorem q_377 : Cond.instanceMethod yX8_setLike ∈ Tw := Tw_at 377 (by decide +kernel) (by decide +kernel)
theorem q_378 : Cond.selects RX8 yX8_setLike yX8_setLike ∈ Tw := Tw_at 378 (by decide +kernel) (by decide +kernel)
theorem q_379 : Cond.code yX8_setLike prog_10_method_6_code 4 (none) ∈ Tw := Tw_at 379 (by decide +kernel) (by decide +kernel)
theorem q_380 : Cond.methodLink RL 37 yX9_pace ∈ Tw := Tw_at 380 (by decide +kernel) (by decide +kernel)
theorem q_381 : Cond.instanceMethod yX9_pace ∈ Tw := Tw_at 381 (by decide +kernel) (by decide +kernel)
theorem q_382 : Cond.selects RX9 yX9_pace yX9_pace ∈ Tw := Tw_at 382 (by decide +kernel) (by decide +kernel)
theorem q_383 : Cond.code yX9_pace prog_1_method_7_code 3 (some .int) ∈ Tw := Tw_at 383 (by decide +kernel) (by decide +kernel)
theorem q_384 : Cond.methodLink RL 43 yX9_feed ∈ Tw := Tw_at 384 (by decide +kernel) (by decide +kernel)
theorem q_385 : Cond.instanceMethod yX9_feed ∈ Tw := Tw_at 385 (by decide +kernel) (by decide +kernel)
theorem q_386 : Cond.selects RX9 yX9_feed yX9_feed ∈ Tw := Tw_at 386 (by decide +kernel) (by decide +kernel)
theorem q_387 : Cond.code yX9_feed prog_1_method_8_code 4 (some .int) ∈ Tw := Tw_at 387 (by decide +kernel) (by decide +kernel)
theorem q_388 : Cond.methodLink RX9 127 yX4_take ∈ Tw := Tw_at 388 (by decide +kernel) (by decide +kernel)
theorem q_389 : Cond.instanceMethod yX4_take ∈ Tw := Tw_at 389 (by decide +kernel) (by decide +kernel)
theorem q_390 : Cond.selects RX4 yX4_take yX4_take ∈ Tw := Tw_at 390 (by decide +kernel) (by decide +kernel)
theorem q_391 : Cond.code yX4_take prog_6_method_2_code 5 (none) ∈ Tw := Tw_at 391 (by decide +kernel) (by decide +kernel)
theorem q_392 : Cond.constantLong RX4 19 (255 : Int64) ∈ Tw := Tw_at 392 (by decide +kernel) (by decide +kernel)
theorem q_393 : Cond.methodLink RL 48 yX9_text ∈ Tw := Tw_at 393 (by decide +kernel) (by decide +kernel)
theorem q_394 : Cond.instanceMethod yX9_text ∈ Tw := Tw_at 394 (by decide +kernel) (by decide +kernel)
theorem q_395 : Cond.selects RX9 yX9_text yX9_text ∈ Tw := Tw_at 395 (by decide +kernel) (by decide +kernel)
theorem q_396 : Cond.code yX9_text prog_1_method_9_code 2 (some .int) ∈ Tw := Tw_at 396 (by decide +kernel) (by decide +kernel)
theorem q_397 : Cond.methodLink RX9 134 yX6_read ∈ Tw := Tw_at 397 (by decide +kernel) (by decide +kernel)
theorem q_398 : Cond.instanceMethod yX6_read ∈ Tw := Tw_at 398 (by decide +kernel) (by decide +kernel)
theorem q_399 : Cond.selects RX6 yX6_read yX6_read ∈ Tw := Tw_at 399 (by decide +kernel) (by decide +kernel)
theorem q_400 : Cond.code yX6_read prog_8_method_2_code 4 (some (.object "BellAndDrop$Text")) ∈ Tw := Tw_at 400 (by decide +kernel) (by decide +kernel)
theorem q_401 : Cond.methodLink RX6 29 yX6_advance ∈ Tw := Tw_at 401 (by decide +kernel) (by decide +kernel)
theorem q_403 : Cond.instanceMethod yX6_advance ∈ Tw := Tw_at 403 (by decide +kernel) (by decide +kernel)
theorem q_404 : Cond.code yX6_advance prog_8_method_12_code 2 (none) ∈ Tw := Tw_at 404 (by decide +kernel) (by decide +kernel)
theorem q_405 : Cond.methodLink RX6 80 yX4_byteAt ∈ Tw := Tw_at 405 (by decide +kernel) (by decide +kernel)
theorem q_406 : Cond.instanceMethod yX4_byteAt ∈ Tw := Tw_at 406 (by decide +kernel) (by decide +kernel)
theorem q_407 : Cond.selects RX4 yX4_byteAt yX4_byteAt ∈ Tw := Tw_at 407 (by decide +kernel) (by decide +kernel)
theorem q_408 : Cond.code yX4_byteAt prog_6_method_3_code 2 (some .int) ∈ Tw := Tw_at 408 (by decide +kernel) (by decide +kernel)
theorem q_410 : Cond.methodLink RX6 86 yX6_isBlank ∈ Tw := Tw_at 410 (by decide +kernel) (by decide +kernel)
theorem q_411 : Cond.static yX6_isBlank ∈ Tw := Tw_at 411 (by decide +kernel) (by decide +kernel)
theorem q_412 : Cond.code yX6_isBlank prog_8_method_18_code 1 (some .boolean) ∈ Tw := Tw_at 412 (by decide +kernel) (by decide +kernel)
theorem q_413 : Cond.methodLink RX6 90 yX6_isLetter ∈ Tw := Tw_at 413 (by decide +kernel) (by decide +kernel)
theorem q_414 : Cond.static yX6_isLetter ∈ Tw := Tw_at 414 (by decide +kernel) (by decide +kernel)
theorem q_415 : Cond.code yX6_isLetter prog_8_method_19_code 1 (some .boolean) ∈ Tw := Tw_at 415 (by decide +kernel) (by decide +kernel)
theorem q_417 : Cond.methodLink RX6 93 yX6_wordToken ∈ Tw := Tw_at 417 (by decide +kernel) (by decide +kernel)
theorem q_419 : Cond.instanceMethod yX6_wordToken ∈ Tw := Tw_at 419 (by decide +kernel) (by decide +kernel)
theorem q_420 : Cond.code yX6_wordToken prog_8_method_14_code 2 (some .int) ∈ Tw := Tw_at 420 (by decide +kernel) (by decide +kernel)
theorem q_421 : Cond.methodLink RX6 110 yX6_nameAt ∈ Tw := Tw_at 421 (by decide +kernel) (by decide +kernel)
theorem q_422 : Cond.static yX6_nameAt ∈ Tw := Tw_at 422 (by decide +kernel) (by decide +kernel)
theorem q_423 : Cond.code yX6_nameAt prog_8_method_16_code 1 (some (.object "java/lang/String")) ∈ Tw := Tw_at 423 (by decide +kernel) (by decide +kernel)
theorem q_430 : Cond.methodLink RX6 114 yX6_isWord ∈ Tw := Tw_at 430 (by decide +kernel) (by decide +kernel)
theorem q_432 : Cond.instanceMethod yX6_isWord ∈ Tw := Tw_at 432 (by decide +kernel) (by decide +kernel)
theorem q_433 : Cond.code yX6_isWord prog_8_method_15_code 3 (some .boolean) ∈ Tw := Tw_at 433 (by decide +kernel) (by decide +kernel)
theorem q_434 : Cond.methodLink RX6 121 yJ0_length_8abf5 ∈ Tw := Tw_at 434 (by decide +kernel) (by decide +kernel)
theorem q_435 : Cond.instanceMethod yJ0_length_8abf5 ∈ Tw := Tw_at 435 (by decide +kernel) (by decide +kernel)
theorem q_436 : Cond.selects RJ0 yJ0_length_8abf5 yJ0_length_8abf5 ∈ Tw := Tw_at 436 (by decide +kernel) (by decide +kernel)
theorem q_437 : Cond.code yJ0_length_8abf5 prog_16_method_54_code 1 (some .int) ∈ Tw := Tw_at 437 (by decide +kernel) (by decide +kernel)
theorem q_438 : Cond.methodLink RJ0 335 yJ0_coder_7d493 ∈ Tw := Tw_at 438 (by decide +kernel) (by decide +kernel)
theorem q_439 : Cond.instanceMethod yJ0_coder_7d493 ∈ Tw := Tw_at 439 (by decide +kernel) (by decide +kernel)
theorem q_440 : Cond.selects RJ0 yJ0_coder_7d493 yJ0_coder_7d493 ∈ Tw := Tw_at 440 (by decide +kernel) (by decide +kernel)
theorem q_441 : Cond.code yJ0_coder_7d493 prog_16_method_152_code 1 (some .byte) ∈ Tw := Tw_at 441 (by decide +kernel) (by decide +kernel)
theorem q_442 : Cond.fieldLink RJ0 38 RJ0 "COMPACT_STRINGS" "Z" ∈ Tw := Tw_at 442 (by decide +kernel) (by decide +kernel)
theorem q_444 : Cond.methodLink RX6 124 yJ0_charAt_5068e ∈ Tw := Tw_at 444 (by decide +kernel) (by decide +kernel)
theorem q_445 : Cond.instanceMethod yJ0_charAt_5068e ∈ Tw := Tw_at 445 (by decide +kernel) (by decide +kernel)
theorem q_446 : Cond.selects RJ0 yJ0_charAt_5068e yJ0_charAt_5068e ∈ Tw := Tw_at 446 (by decide +kernel) (by decide +kernel)
theorem q_447 : Cond.code yJ0_charAt_5068e prog_16_method_56_code 2 (some .char) ∈ Tw := Tw_at 447 (by decide +kernel) (by decide +kernel)
theorem q_448 : Cond.methodLink RJ0 492 yJ0_isLatin1_aae02 ∈ Tw := Tw_at 448 (by decide +kernel) (by decide +kernel)
theorem q_449 : Cond.instanceMethod yJ0_isLatin1_aae02 ∈ Tw := Tw_at 449 (by decide +kernel) (by decide +kernel)
theorem q_450 : Cond.selects RJ0 yJ0_isLatin1_aae02 yJ0_isLatin1_aae02 ∈ Tw := Tw_at 450 (by decide +kernel) (by decide +kernel)
theorem q_451 : Cond.code yJ0_isLatin1_aae02 prog_16_method_154_code 1 (some .boolean) ∈ Tw := Tw_at 451 (by decide +kernel) (by decide +kernel)
theorem q_452 : Cond.methodLink RJ0 495 yJ1_charAt_3b067 ∈ Tw := Tw_at 452 (by decide +kernel) (by decide +kernel)
theorem q_453 : Cond.static yJ1_charAt_3b067 ∈ Tw := Tw_at 453 (by decide +kernel) (by decide +kernel)
theorem q_454 : Cond.code yJ1_charAt_3b067 prog_17_method_2_code 2 (some .char) ∈ Tw := Tw_at 454 (by decide +kernel) (by decide +kernel)
theorem q_455 : Cond.methodLink RJ1 9 yJ0_checkIndex_df160 ∈ Tw := Tw_at 455 (by decide +kernel) (by decide +kernel)
theorem q_456 : Cond.static yJ0_checkIndex_df160 ∈ Tw := Tw_at 456 (by decide +kernel) (by decide +kernel)
theorem q_457 : Cond.code yJ0_checkIndex_df160 prog_16_method_155_code 2 (none) ∈ Tw := Tw_at 457 (by decide +kernel) (by decide +kernel)
theorem q_458 : Cond.fieldLink RJ0 1053 RJ3 "SIOOBE_FORMATTER" "Ljava/util/function/BiFunction;" ∈ Tw := Tw_at 458 (by decide +kernel) (by decide +kernel)
theorem q_460 : Cond.methodLink RJ0 1059 yJ3_checkIndex_8e157 ∈ Tw := Tw_at 460 (by decide +kernel) (by decide +kernel)
theorem q_461 : Cond.static yJ3_checkIndex_8e157 ∈ Tw := Tw_at 461 (by decide +kernel) (by decide +kernel)
theorem q_462 : Cond.code yJ3_checkIndex_8e157 prog_21_method_11_code 3 (some .int) ∈ Tw := Tw_at 462 (by decide +kernel) (by decide +kernel)
theorem q_463 : Cond.methodLink RJ0 498 yJ2_charAt_3b067 ∈ Tw := Tw_at 463 (by decide +kernel) (by decide +kernel)
theorem q_464 : Cond.static yJ2_charAt_3b067 ∈ Tw := Tw_at 464 (by decide +kernel) (by decide +kernel)
theorem q_465 : Cond.code yJ2_charAt_3b067 prog_18_method_83_code 2 (some .char) ∈ Tw := Tw_at 465 (by decide +kernel) (by decide +kernel)
theorem q_466 : Cond.methodLink RJ2 67 yJ2_checkIndex_2214a ∈ Tw := Tw_at 466 (by decide +kernel) (by decide +kernel)
theorem q_467 : Cond.static yJ2_checkIndex_2214a ∈ Tw := Tw_at 467 (by decide +kernel) (by decide +kernel)
theorem q_468 : Cond.code yJ2_checkIndex_2214a prog_18_method_91_code 2 (none) ∈ Tw := Tw_at 468 (by decide +kernel) (by decide +kernel)
theorem q_469 : Cond.methodLink RJ2 48 yJ2_length_9d52b ∈ Tw := Tw_at 469 (by decide +kernel) (by decide +kernel)
theorem q_470 : Cond.static yJ2_length_9d52b ∈ Tw := Tw_at 470 (by decide +kernel) (by decide +kernel)
theorem q_471 : Cond.code yJ2_length_9d52b prog_18_method_6_code 1 (some .int) ∈ Tw := Tw_at 471 (by decide +kernel) (by decide +kernel)
theorem q_472 : Cond.methodLink RJ2 414 yJ0_checkIndex_df160 ∈ Tw := Tw_at 472 (by decide +kernel) (by decide +kernel)
theorem q_473 : Cond.methodLink RJ2 71 yJ2_getChar_3b067 ∈ Tw := Tw_at 473 (by decide +kernel) (by decide +kernel)
theorem q_474 : Cond.static yJ2_getChar_3b067 ∈ Tw := Tw_at 474 (by decide +kernel) (by decide +kernel)
theorem q_475 : Cond.code yJ2_getChar_3b067 prog_18_method_5_code 2 (some .char) ∈ Tw := Tw_at 475 (by decide +kernel) (by decide +kernel)
theorem q_476 : Cond.fieldLink RJ2 44 RJ2 "$assertionsDisabled" "Z" ∈ Tw := Tw_at 476 (by decide +kernel) (by decide +kernel)
theorem q_478 : Cond.fieldLink RJ2 59 RJ2 "HI_BYTE_SHIFT" "I" ∈ Tw := Tw_at 478 (by decide +kernel) (by decide +kernel)
theorem q_480 : Cond.fieldLink RJ2 63 RJ2 "LO_BYTE_SHIFT" "I" ∈ Tw := Tw_at 480 (by decide +kernel) (by decide +kernel)
theorem q_482 : Cond.methodLink RX6 118 yX6_keyAt ∈ Tw := Tw_at 482 (by decide +kernel) (by decide +kernel)
theorem q_483 : Cond.static yX6_keyAt ∈ Tw := Tw_at 483 (by decide +kernel) (by decide +kernel)
theorem q_484 : Cond.code yX6_keyAt prog_8_method_17_code 1 (some (.object "java/lang/String")) ∈ Tw := Tw_at 484 (by decide +kernel) (by decide +kernel)
theorem q_491 : Cond.methodLink RX6 97 yX6_isDigit ∈ Tw := Tw_at 491 (by decide +kernel) (by decide +kernel)
theorem q_492 : Cond.static yX6_isDigit ∈ Tw := Tw_at 492 (by decide +kernel) (by decide +kernel)
theorem q_493 : Cond.code yX6_isDigit prog_8_method_20_code 1 (some .boolean) ∈ Tw := Tw_at 493 (by decide +kernel) (by decide +kernel)
theorem q_494 : Cond.methodLink RX6 100 yX6_numberToken ∈ Tw := Tw_at 494 (by decide +kernel) (by decide +kernel)
theorem q_496 : Cond.instanceMethod yX6_numberToken ∈ Tw := Tw_at 496 (by decide +kernel) (by decide +kernel)
theorem q_497 : Cond.code yX6_numberToken prog_8_method_13_code 2 (some .int) ∈ Tw := Tw_at 497 (by decide +kernel) (by decide +kernel)
theorem q_499 : Cond.methodLink RX6 105 yJ0_indexOf_0f7a4 ∈ Tw := Tw_at 499 (by decide +kernel) (by decide +kernel)
theorem q_500 : Cond.instanceMethod yJ0_indexOf_0f7a4 ∈ Tw := Tw_at 500 (by decide +kernel) (by decide +kernel)
theorem q_501 : Cond.selects RJ0 yJ0_indexOf_0f7a4 yJ0_indexOf_0f7a4 ∈ Tw := Tw_at 501 (by decide +kernel) (by decide +kernel)
theorem q_502 : Cond.code yJ0_indexOf_0f7a4 prog_16_method_79_code 2 (some .int) ∈ Tw := Tw_at 502 (by decide +kernel) (by decide +kernel)
theorem q_503 : Cond.methodLink RJ0 633 yJ0_indexOf_7cf53 ∈ Tw := Tw_at 503 (by decide +kernel) (by decide +kernel)
theorem q_504 : Cond.instanceMethod yJ0_indexOf_7cf53 ∈ Tw := Tw_at 504 (by decide +kernel) (by decide +kernel)
theorem q_505 : Cond.selects RJ0 yJ0_indexOf_7cf53 yJ0_indexOf_7cf53 ∈ Tw := Tw_at 505 (by decide +kernel) (by decide +kernel)
theorem q_506 : Cond.code yJ0_indexOf_7cf53 prog_16_method_80_code 3 (some .int) ∈ Tw := Tw_at 506 (by decide +kernel) (by decide +kernel)
theorem q_507 : Cond.methodLink RJ0 505 yJ0_length_8abf5 ∈ Tw := Tw_at 507 (by decide +kernel) (by decide +kernel)
theorem q_508 : Cond.methodLink RJ0 637 yJ1_indexOf_4cfef ∈ Tw := Tw_at 508 (by decide +kernel) (by decide +kernel)
theorem q_509 : Cond.static yJ1_indexOf_4cfef ∈ Tw := Tw_at 509 (by decide +kernel) (by decide +kernel)
theorem q_510 : Cond.code yJ1_indexOf_4cfef prog_17_method_22_code 4 (some .int) ∈ Tw := Tw_at 510 (by decide +kernel) (by decide +kernel)
theorem q_511 : Cond.methodLink RJ1 88 yJ1_canEncode_9a6ad ∈ Tw := Tw_at 511 (by decide +kernel) (by decide +kernel)
theorem q_512 : Cond.static yJ1_canEncode_9a6ad ∈ Tw := Tw_at 512 (by decide +kernel) (by decide +kernel)
theorem q_513 : Cond.code yJ1_canEncode_9a6ad prog_17_method_4_code 1 (some .boolean) ∈ Tw := Tw_at 513 (by decide +kernel) (by decide +kernel)
theorem q_514 : Cond.methodLink RJ1 92 yJ9_max_7cf53 ∈ Tw := Tw_at 514 (by decide +kernel) (by decide +kernel)
theorem q_515 : Cond.static yJ9_max_7cf53 ∈ Tw := Tw_at 515 (by decide +kernel) (by decide +kernel)
theorem q_516 : Cond.code yJ9_max_7cf53 prog_15_method_65_code 2 (some .int) ∈ Tw := Tw_at 516 (by decide +kernel) (by decide +kernel)
theorem q_517 : Cond.methodLink RJ1 38 yJ9_min_7cf53 ∈ Tw := Tw_at 517 (by decide +kernel) (by decide +kernel)
theorem q_518 : Cond.static yJ9_min_7cf53 ∈ Tw := Tw_at 518 (by decide +kernel) (by decide +kernel)
theorem q_519 : Cond.code yJ9_min_7cf53 prog_15_method_69_code 2 (some .int) ∈ Tw := Tw_at 519 (by decide +kernel) (by decide +kernel)
theorem q_520 : Cond.methodLink RJ1 95 yJ1_indexOfChar_4cfef ∈ Tw := Tw_at 520 (by decide +kernel) (by decide +kernel)
theorem q_521 : Cond.static yJ1_indexOfChar_4cfef ∈ Tw := Tw_at 521 (by decide +kernel) (by decide +kernel)
theorem q_522 : Cond.code yJ1_indexOfChar_4cfef prog_17_method_23_code 6 (some .int) ∈ Tw := Tw_at 522 (by decide +kernel) (by decide +kernel)
theorem q_523 : Cond.methodLink RJ0 640 yJ2_indexOf_4cfef ∈ Tw := Tw_at 523 (by decide +kernel) (by decide +kernel)
theorem q_524 : Cond.static yJ2_indexOf_4cfef ∈ Tw := Tw_at 524 (by decide +kernel) (by decide +kernel)
theorem q_525 : Cond.code yJ2_indexOf_4cfef prog_18_method_40_code 4 (some .int) ∈ Tw := Tw_at 525 (by decide +kernel) (by decide +kernel)
theorem q_526 : Cond.methodLink RJ2 224 yJ9_max_7cf53 ∈ Tw := Tw_at 526 (by decide +kernel) (by decide +kernel)
theorem q_527 : Cond.methodLink RJ2 183 yJ9_min_7cf53 ∈ Tw := Tw_at 527 (by decide +kernel) (by decide +kernel)
theorem q_528 : Cond.constant RJ2 227 (65536 : Int32) ∈ Tw := Tw_at 528 (by decide +kernel) (by decide +kernel)
theorem q_529 : Cond.methodLink RJ2 228 yJ2_indexOfChar_4cfef ∈ Tw := Tw_at 529 (by decide +kernel) (by decide +kernel)
theorem q_530 : Cond.static yJ2_indexOfChar_4cfef ∈ Tw := Tw_at 530 (by decide +kernel) (by decide +kernel)
theorem q_531 : Cond.code yJ2_indexOfChar_4cfef prog_18_method_47_code 4 (some .int) ∈ Tw := Tw_at 531 (by decide +kernel) (by decide +kernel)
theorem q_532 : Cond.methodLink RJ2 96 yJ2_checkBoundsBeginEnd_d044e ∈ Tw := Tw_at 532 (by decide +kernel) (by decide +kernel)
theorem q_533 : Cond.static yJ2_checkBoundsBeginEnd_d044e ∈ Tw := Tw_at 533 (by decide +kernel) (by decide +kernel)
theorem q_534 : Cond.code yJ2_checkBoundsBeginEnd_d044e prog_18_method_93_code 3 (none) ∈ Tw := Tw_at 534 (by decide +kernel) (by decide +kernel)
theorem q_535 : Cond.methodLink RJ2 241 yJ0_checkBoundsBeginEnd_23922 ∈ Tw := Tw_at 535 (by decide +kernel) (by decide +kernel)
theorem q_536 : Cond.static yJ0_checkBoundsBeginEnd_23922 ∈ Tw := Tw_at 536 (by decide +kernel) (by decide +kernel)
theorem q_537 : Cond.code yJ0_checkBoundsBeginEnd_23922 prog_16_method_158_code 3 (none) ∈ Tw := Tw_at 537 (by decide +kernel) (by decide +kernel)
theorem q_538 : Cond.methodLink RJ0 1062 yJ3_checkFromToIndex_8c36e ∈ Tw := Tw_at 538 (by decide +kernel) (by decide +kernel)
theorem q_539 : Cond.static yJ3_checkFromToIndex_8c36e ∈ Tw := Tw_at 539 (by decide +kernel) (by decide +kernel)
theorem q_540 : Cond.code yJ3_checkFromToIndex_8c36e prog_21_method_12_code 4 (some .int) ∈ Tw := Tw_at 540 (by decide +kernel) (by decide +kernel)
theorem q_541 : Cond.methodLink RJ2 244 yJ2_indexOfCharUnsafe_4cfef ∈ Tw := Tw_at 541 (by decide +kernel) (by decide +kernel)
theorem q_542 : Cond.static yJ2_indexOfCharUnsafe_4cfef ∈ Tw := Tw_at 542 (by decide +kernel) (by decide +kernel)
theorem q_543 : Cond.code yJ2_indexOfCharUnsafe_4cfef prog_18_method_48_code 5 (some .int) ∈ Tw := Tw_at 543 (by decide +kernel) (by decide +kernel)
theorem q_544 : Cond.methodLink RJ2 232 yJ2_indexOfSupplementary_4cfef ∈ Tw := Tw_at 544 (by decide +kernel) (by decide +kernel)
theorem q_545 : Cond.static yJ2_indexOfSupplementary_4cfef ∈ Tw := Tw_at 545 (by decide +kernel) (by decide +kernel)
theorem q_546 : Cond.code yJ2_indexOfSupplementary_4cfef prog_18_method_49_code 7 (some .int) ∈ Tw := Tw_at 546 (by decide +kernel) (by decide +kernel)
theorem q_547 : Cond.methodLink RJ2 164 yJ11_isValidCodePoint_9a6ad ∈ Tw := Tw_at 547 (by decide +kernel) (by decide +kernel)
theorem q_548 : Cond.static yJ11_isValidCodePoint_9a6ad ∈ Tw := Tw_at 548 (by decide +kernel) (by decide +kernel)
theorem q_549 : Cond.code yJ11_isValidCodePoint_9a6ad prog_13_method_11_code 2 (some .boolean) ∈ Tw := Tw_at 549 (by decide +kernel) (by decide +kernel)
theorem q_550 : Cond.methodLink RJ2 157 yJ11_highSurrogate_5068e ∈ Tw := Tw_at 550 (by decide +kernel) (by decide +kernel)
theorem q_551 : Cond.static yJ11_highSurrogate_5068e ∈ Tw := Tw_at 551 (by decide +kernel) (by decide +kernel)
theorem q_552 : Cond.code yJ11_highSurrogate_5068e prog_13_method_28_code 1 (some .char) ∈ Tw := Tw_at 552 (by decide +kernel) (by decide +kernel)
theorem q_553 : Cond.constant RJ11 110 (55232 : Int32) ∈ Tw := Tw_at 553 (by decide +kernel) (by decide +kernel)
theorem q_554 : Cond.methodLink RJ2 161 yJ11_lowSurrogate_5068e ∈ Tw := Tw_at 554 (by decide +kernel) (by decide +kernel)
theorem q_555 : Cond.static yJ11_lowSurrogate_5068e ∈ Tw := Tw_at 555 (by decide +kernel) (by decide +kernel)
theorem q_556 : Cond.code yJ11_lowSurrogate_5068e prog_13_method_29_code 1 (some .char) ∈ Tw := Tw_at 556 (by decide +kernel) (by decide +kernel)
theorem q_557 : Cond.constant RJ11 76 (56320 : Int32) ∈ Tw := Tw_at 557 (by decide +kernel) (by decide +kernel)
theorem q_558 : Cond.methodLink RX6 32 yX6_expect ∈ Tw := Tw_at 558 (by decide +kernel) (by decide +kernel)
theorem q_560 : Cond.instanceMethod yX6_expect ∈ Tw := Tw_at 560 (by decide +kernel) (by decide +kernel)
theorem q_561 : Cond.code yX6_expect prog_8_method_4_code 2 (none) ∈ Tw := Tw_at 561 (by decide +kernel) (by decide +kernel)
theorem q_562 : Cond.methodLink RX6 42 yX6_refuse ∈ Tw := Tw_at 562 (by decide +kernel) (by decide +kernel)
theorem q_564 : Cond.instanceMethod yX6_refuse ∈ Tw := Tw_at 564 (by decide +kernel) (by decide +kernel)
theorem q_565 : Cond.code yX6_refuse prog_8_method_3_code 1 (none) ∈ Tw := Tw_at 565 (by decide +kernel) (by decide +kernel)
theorem q_566 : Cond.methodLink RX6 36 yX6_readOr ∈ Tw := Tw_at 566 (by decide +kernel) (by decide +kernel)
theorem q_568 : Cond.instanceMethod yX6_readOr ∈ Tw := Tw_at 568 (by decide +kernel) (by decide +kernel)
theorem q_569 : Cond.code yX6_readOr prog_8_method_6_code 3 (none) ∈ Tw := Tw_at 569 (by decide +kernel) (by decide +kernel)
theorem q_570 : Cond.methodLink RX6 59 yX6_readAnd ∈ Tw := Tw_at 570 (by decide +kernel) (by decide +kernel)
theorem q_572 : Cond.instanceMethod yX6_readAnd ∈ Tw := Tw_at 572 (by decide +kernel) (by decide +kernel)
theorem q_573 : Cond.code yX6_readAnd prog_8_method_7_code 3 (none) ∈ Tw := Tw_at 573 (by decide +kernel) (by decide +kernel)
theorem q_574 : Cond.methodLink RX6 65 yX6_readNot ∈ Tw := Tw_at 574 (by decide +kernel) (by decide +kernel)
theorem q_576 : Cond.instanceMethod yX6_readNot ∈ Tw := Tw_at 576 (by decide +kernel) (by decide +kernel)
theorem q_577 : Cond.code yX6_readNot prog_8_method_8_code 3 (none) ∈ Tw := Tw_at 577 (by decide +kernel) (by decide +kernel)
theorem q_578 : Cond.methodLink RX6 62 yX6_write ∈ Tw := Tw_at 578 (by decide +kernel) (by decide +kernel)
theorem q_580 : Cond.instanceMethod yX6_write ∈ Tw := Tw_at 580 (by decide +kernel) (by decide +kernel)
theorem q_581 : Cond.code yX6_write prog_8_method_5_code 2 (none) ∈ Tw := Tw_at 581 (by decide +kernel) (by decide +kernel)
theorem q_582 : Cond.methodLink RX6 68 yX6_readSum ∈ Tw := Tw_at 582 (by decide +kernel) (by decide +kernel)
theorem q_584 : Cond.instanceMethod yX6_readSum ∈ Tw := Tw_at 584 (by decide +kernel) (by decide +kernel)
theorem q_585 : Cond.code yX6_readSum prog_8_method_9_code 4 (none) ∈ Tw := Tw_at 585 (by decide +kernel) (by decide +kernel)
theorem q_586 : Cond.methodLink RX6 71 yX6_readTerm ∈ Tw := Tw_at 586 (by decide +kernel) (by decide +kernel)
theorem q_588 : Cond.instanceMethod yX6_readTerm ∈ Tw := Tw_at 588 (by decide +kernel) (by decide +kernel)
theorem q_589 : Cond.code yX6_readTerm prog_8_method_10_code 3 (none) ∈ Tw := Tw_at 589 (by decide +kernel) (by decide +kernel)
theorem q_590 : Cond.methodLink RX6 74 yX6_readOne ∈ Tw := Tw_at 590 (by decide +kernel) (by decide +kernel)
theorem q_592 : Cond.instanceMethod yX6_readOne ∈ Tw := Tw_at 592 (by decide +kernel) (by decide +kernel)
theorem q_593 : Cond.code yX6_readOne prog_8_method_11_code 2 (none) ∈ Tw := Tw_at 593 (by decide +kernel) (by decide +kernel)
theorem q_594 : Cond.classLink RX6 45 RX5 ∈ Tw := Tw_at 594 (by decide +kernel) (by decide +kernel)
theorem q_595 : Cond.methodLink RX6 47 yJ7_copyOf_59c91 ∈ Tw := Tw_at 595 (by decide +kernel) (by decide +kernel)
theorem q_596 : Cond.static yJ7_copyOf_59c91 ∈ Tw := Tw_at 596 (by decide +kernel) (by decide +kernel)
theorem q_597 : Cond.code yJ7_copyOf_59c91 prog_20_method_123_code 3 (some (.array .int)) ∈ Tw := Tw_at 597 (by decide +kernel) (by decide +kernel)
theorem q_598 : Cond.methodLink RJ7 316 ⟨"[I", "clone", "()Ljava/lang/Object;"⟩ ∈ Tw := Tw_at 598 (by decide +kernel) (by decide +kernel)
theorem q_600 : Cond.native ⟨"java/lang/Object", "clone", "()Ljava/lang/Object;"⟩ ∈ Tw := Tw_at 600 (by decide +kernel) (by decide +kernel)
theorem q_601 : Cond.instanceMethod ⟨"java/lang/Object", "clone", "()Ljava/lang/Object;"⟩ ∈ Tw := Tw_at 601 (by decide +kernel) (by decide +kernel)
theorem q_602 : Cond.selects "[I" ⟨"[I", "clone", "()Ljava/lang/Object;"⟩ ⟨"java/lang/Object", "clone", "()Ljava/lang/Object;"⟩ ∈ Tw := Tw_at 602 (by decide +kernel) (by decide +kernel)
theorem q_604 : Cond.classLink RJ7 317 "[I" ∈ Tw := Tw_at 604 (by decide +kernel) (by decide +kernel)
theorem q_605 : Cond.methodLink RJ7 304 yJ9_min_7cf53 ∈ Tw := Tw_at 605 (by decide +kernel) (by decide +kernel)
theorem q_606 : Cond.methodLink RJ7 150 ⟨"java/lang/System", "arraycopy", "(Ljava/lang/Object;ILjava/lang/Object;II)V"⟩ ∈ Tw := Tw_at 606 (by decide +kernel) (by decide +kernel)
theorem q_607 : Cond.static ⟨"java/lang/System", "arraycopy", "(Ljava/lang/Object;ILjava/lang/Object;II)V"⟩ ∈ Tw := Tw_at 607 (by decide +kernel) (by decide +kernel)
theorem q_608 : Cond.native ⟨"java/lang/System", "arraycopy", "(Ljava/lang/Object;ILjava/lang/Object;II)V"⟩ ∈ Tw := Tw_at 608 (by decide +kernel) (by decide +kernel)
theorem q_609 : Cond.methodLink RX6 53 yX5_init ∈ Tw := Tw_at 609 (by decide +kernel) (by decide +kernel)
theorem q_610 : Cond.arrayClass .byte ∈ Tw := Tw_at 610 (by decide +kernel) (by decide +kernel)
theorem q_611 : Cond.methodLink RL 53 yX9_force ∈ Tw := Tw_at 611 (by decide +kernel) (by decide +kernel)
theorem q_612 : Cond.instanceMethod yX9_force ∈ Tw := Tw_at 612 (by decide +kernel) (by decide +kernel)
theorem q_613 : Cond.selects RX9 yX9_force yX9_force ∈ Tw := Tw_at 613 (by decide +kernel) (by decide +kernel)
theorem q_614 : Cond.code yX9_force prog_1_method_10_code 3 (some .int) ∈ Tw := Tw_at 614 (by decide +kernel) (by decide +kernel)
theorem q_615 : Cond.methodLink RL 57 yX9_plan ∈ Tw := Tw_at 615 (by decide +kernel) (by decide +kernel)
theorem q_616 : Cond.instanceMethod yX9_plan ∈ Tw := Tw_at 616 (by decide +kernel) (by decide +kernel)
theorem q_617 : Cond.selects RX9 yX9_plan yX9_plan ∈ Tw := Tw_at 617 (by decide +kernel) (by decide +kernel)
theorem q_618 : Cond.code yX9_plan prog_1_method_11_code 2 (some .int) ∈ Tw := Tw_at 618 (by decide +kernel) (by decide +kernel)
theorem q_619 : Cond.methodLink RX9 151 yX2_read ∈ Tw := Tw_at 619 (by decide +kernel) (by decide +kernel)
theorem q_620 : Cond.instanceMethod yX2_read ∈ Tw := Tw_at 620 (by decide +kernel) (by decide +kernel)
theorem q_621 : Cond.selects RX2 yX2_read yX2_read ∈ Tw := Tw_at 621 (by decide +kernel) (by decide +kernel)
theorem q_622 : Cond.code yX2_read prog_4_method_2_code 8 (some (.object "BellAndDrop$Plan")) ∈ Tw := Tw_at 622 (by decide +kernel) (by decide +kernel)
theorem q_623 : Cond.methodLink RX2 24 yX4_byteAt ∈ Tw := Tw_at 623 (by decide +kernel) (by decide +kernel)
theorem q_624 : Cond.methodLink RX2 28 yX2_endOf ∈ Tw := Tw_at 624 (by decide +kernel) (by decide +kernel)
theorem q_625 : Cond.static yX2_endOf ∈ Tw := Tw_at 625 (by decide +kernel) (by decide +kernel)
theorem q_626 : Cond.code yX2_endOf prog_4_method_4_code 1 (some .int) ∈ Tw := Tw_at 626 (by decide +kernel) (by decide +kernel)
theorem q_627 : Cond.methodLink RX2 31 yX2_refused ∈ Tw := Tw_at 627 (by decide +kernel) (by decide +kernel)
theorem q_629 : Cond.instanceMethod yX2_refused ∈ Tw := Tw_at 629 (by decide +kernel) (by decide +kernel)
theorem q_630 : Cond.code yX2_refused prog_4_method_3_code 2 (some (.object "BellAndDrop$Plan")) ∈ Tw := Tw_at 630 (by decide +kernel) (by decide +kernel)
theorem q_633 : Cond.static yX9_isOn ∈ Tw := Tw_at 633 (by decide +kernel) (by decide +kernel)
theorem q_634 : Cond.code yX9_isOn prog_1_method_36_code 2 (some .boolean) ∈ Tw := Tw_at 634 (by decide +kernel) (by decide +kernel)
theorem q_635 : Cond.classLink RX2 43 RX1 ∈ Tw := Tw_at 635 (by decide +kernel) (by decide +kernel)
theorem q_636 : Cond.instantiable RX1 3 ∈ Tw := Tw_at 636 (by decide +kernel) (by decide +kernel)
theorem q_637 : Cond.methodLink RX2 45 yX1_init ∈ Tw := Tw_at 637 (by decide +kernel) (by decide +kernel)
theorem q_638 : Cond.instanceMethod yX1_init ∈ Tw := Tw_at 638 (by decide +kernel) (by decide +kernel)
theorem q_639 : Cond.code yX1_init prog_3_method_1_code 4 (none) ∈ Tw := Tw_at 639 (by decide +kernel) (by decide +kernel)
theorem q_640 : Cond.methodLink RX1 1 ⟨"java/lang/Object", "<init>", "()V"⟩ ∈ Tw := Tw_at 640 (by decide +kernel) (by decide +kernel)
theorem q_641 : Cond.methodLink RX1 7 yJ7_copyOf_59c91 ∈ Tw := Tw_at 641 (by decide +kernel) (by decide +kernel)
theorem q_642 : Cond.fieldLink RX1 13 RX1 "sets" "[I" ∈ Tw := Tw_at 642 (by decide +kernel) (by decide +kernel)
theorem q_643 : Cond.fieldLink RX9 166 RX1 "sets" "[I" ∈ Tw := Tw_at 643 (by decide +kernel) (by decide +kernel)
theorem q_644 : Cond.fieldLink RX0 111 RX1 "sets" "[I" ∈ Tw := Tw_at 644 (by decide +kernel) (by decide +kernel)
theorem q_645 : Cond.fieldLink RX1 19 RX1 "ends" "[I" ∈ Tw := Tw_at 645 (by decide +kernel) (by decide +kernel)
theorem q_646 : Cond.fieldLink RX9 169 RX1 "ends" "[I" ∈ Tw := Tw_at 646 (by decide +kernel) (by decide +kernel)
theorem q_647 : Cond.fieldLink RX0 114 RX1 "ends" "[I" ∈ Tw := Tw_at 647 (by decide +kernel) (by decide +kernel)
theorem q_648 : Cond.fieldLink RX1 22 RX1 "size" "I" ∈ Tw := Tw_at 648 (by decide +kernel) (by decide +kernel)
theorem q_649 : Cond.fieldLink RX9 163 RX1 "size" "I" ∈ Tw := Tw_at 649 (by decide +kernel) (by decide +kernel)
theorem q_650 : Cond.fieldLink RX0 106 RX1 "size" "I" ∈ Tw := Tw_at 650 (by decide +kernel) (by decide +kernel)
theorem q_651 : Cond.laysFinal RX1 RX1 "sets" "[I" ∈ Tw := Tw_at 651 (by decide +kernel) (by decide +kernel)
theorem q_653 : Cond.laysFinal RX1 RX1 "ends" "[I" ∈ Tw := Tw_at 653 (by decide +kernel) (by decide +kernel)
theorem q_655 : Cond.laysFinal RX1 RX1 "size" "I" ∈ Tw := Tw_at 655 (by decide +kernel) (by decide +kernel)
theorem q_657 : Cond.superclass RX1 "java/lang/Object" ∈ Tw := Tw_at 657 (by decide +kernel) (by decide +kernel)
theorem q_658 : Cond.methodLink RL 61 yX9_planned ∈ Tw := Tw_at 658 (by decide +kernel) (by decide +kernel)
theorem q_659 : Cond.instanceMethod yX9_planned ∈ Tw := Tw_at 659 (by decide +kernel) (by decide +kernel)
theorem q_660 : Cond.selects RX9 yX9_planned yX9_planned ∈ Tw := Tw_at 660 (by decide +kernel) (by decide +kernel)
theorem q_661 : Cond.code yX9_planned prog_1_method_12_code 5 (some .int) ∈ Tw := Tw_at 661 (by decide +kernel) (by decide +kernel)
theorem q_662 : Cond.methodLink RX9 159 yX8_planAt ∈ Tw := Tw_at 662 (by decide +kernel) (by decide +kernel)
theorem q_663 : Cond.instanceMethod yX8_planAt ∈ Tw := Tw_at 663 (by decide +kernel) (by decide +kernel)
theorem q_664 : Cond.selects RX8 yX8_planAt yX8_planAt ∈ Tw := Tw_at 664 (by decide +kernel) (by decide +kernel)
theorem q_665 : Cond.code yX8_planAt prog_10_method_7_code 2 (some (.object "BellAndDrop$Plan")) ∈ Tw := Tw_at 665 (by decide +kernel) (by decide +kernel)
theorem q_666 : Cond.methodLink RL 65 yX9_trial ∈ Tw := Tw_at 666 (by decide +kernel) (by decide +kernel)
theorem q_667 : Cond.instanceMethod yX9_trial ∈ Tw := Tw_at 667 (by decide +kernel) (by decide +kernel)
theorem q_668 : Cond.selects RX9 yX9_trial yX9_trial ∈ Tw := Tw_at 668 (by decide +kernel) (by decide +kernel)
theorem q_669 : Cond.code yX9_trial prog_1_method_13_code 3 (some .long) ∈ Tw := Tw_at 669 (by decide +kernel) (by decide +kernel)
theorem q_670 : Cond.methodLink RX9 172 yX8_isSet ∈ Tw := Tw_at 670 (by decide +kernel) (by decide +kernel)
theorem q_671 : Cond.instanceMethod yX8_isSet ∈ Tw := Tw_at 671 (by decide +kernel) (by decide +kernel)
theorem q_672 : Cond.selects RX8 yX8_isSet yX8_isSet ∈ Tw := Tw_at 672 (by decide +kernel) (by decide +kernel)
theorem q_673 : Cond.code yX8_isSet prog_10_method_4_code 2 (some .boolean) ∈ Tw := Tw_at 673 (by decide +kernel) (by decide +kernel)
theorem q_674 : Cond.methodLink RX9 175 yX0_goThroughTrial ∈ Tw := Tw_at 674 (by decide +kernel) (by decide +kernel)
theorem q_675 : Cond.instanceMethod yX0_goThroughTrial ∈ Tw := Tw_at 675 (by decide +kernel) (by decide +kernel)
theorem q_676 : Cond.selects RX0 yX0_goThroughTrial yX0_goThroughTrial ∈ Tw := Tw_at 676 (by decide +kernel) (by decide +kernel)
theorem q_677 : Cond.code yX0_goThroughTrial prog_2_method_10_code 7 (some .int) ∈ Tw := Tw_at 677 (by decide +kernel) (by decide +kernel)
theorem q_678 : Cond.methodLink RX0 90 yX0_sumOf ∈ Tw := Tw_at 678 (by decide +kernel) (by decide +kernel)
theorem q_679 : Cond.instanceMethod yX0_sumOf ∈ Tw := Tw_at 679 (by decide +kernel) (by decide +kernel)
theorem q_680 : Cond.selects RX0 yX0_sumOf yX0_sumOf ∈ Tw := Tw_at 680 (by decide +kernel) (by decide +kernel)
theorem q_681 : Cond.code yX0_sumOf prog_2_method_7_code 4 (some .int) ∈ Tw := Tw_at 681 (by decide +kernel) (by decide +kernel)
theorem q_683 : Cond.methodLink RX0 79 yX0_lentTo ∈ Tw := Tw_at 683 (by decide +kernel) (by decide +kernel)
theorem q_685 : Cond.instanceMethod yX0_lentTo ∈ Tw := Tw_at 685 (by decide +kernel) (by decide +kernel)
theorem q_686 : Cond.code yX0_lentTo prog_2_method_8_code 5 (some .int) ∈ Tw := Tw_at 686 (by decide +kernel) (by decide +kernel)
theorem q_687 : Cond.methodLink RX0 96 yX0_gainOf ∈ Tw := Tw_at 687 (by decide +kernel) (by decide +kernel)
theorem q_689 : Cond.instanceMethod yX0_gainOf ∈ Tw := Tw_at 689 (by decide +kernel) (by decide +kernel)
theorem q_690 : Cond.code yX0_gainOf prog_2_method_11_code 6 (some .int) ∈ Tw := Tw_at 690 (by decide +kernel) (by decide +kernel)
theorem q_691 : Cond.methodLink RX0 100 yX0_loudOf ∈ Tw := Tw_at 691 (by decide +kernel) (by decide +kernel)
theorem q_692 : Cond.methodLink RL 69 yX9_sum ∈ Tw := Tw_at 692 (by decide +kernel) (by decide +kernel)
theorem q_693 : Cond.instanceMethod yX9_sum ∈ Tw := Tw_at 693 (by decide +kernel) (by decide +kernel)
theorem q_694 : Cond.selects RX9 yX9_sum yX9_sum ∈ Tw := Tw_at 694 (by decide +kernel) (by decide +kernel)
theorem q_695 : Cond.code yX9_sum prog_1_method_14_code 3 (some .long) ∈ Tw := Tw_at 695 (by decide +kernel) (by decide +kernel)
theorem q_696 : Cond.methodLink RX9 178 yX0_sumOf ∈ Tw := Tw_at 696 (by decide +kernel) (by decide +kernel)
theorem q_697 : Cond.methodLink RX9 181 yX0_dropsOf ∈ Tw := Tw_at 697 (by decide +kernel) (by decide +kernel)
theorem q_698 : Cond.instanceMethod yX0_dropsOf ∈ Tw := Tw_at 698 (by decide +kernel) (by decide +kernel)
theorem q_699 : Cond.selects RX0 yX0_dropsOf yX0_dropsOf ∈ Tw := Tw_at 699 (by decide +kernel) (by decide +kernel)
theorem q_700 : Cond.code yX0_dropsOf prog_2_method_9_code 3 (some .int) ∈ Tw := Tw_at 700 (by decide +kernel) (by decide +kernel)
theorem q_702 : Cond.static yX9_leastOf ∈ Tw := Tw_at 702 (by decide +kernel) (by decide +kernel)
theorem q_703 : Cond.code yX9_leastOf prog_1_method_37_code 2 (some .int) ∈ Tw := Tw_at 703 (by decide +kernel) (by decide +kernel)
theorem q_704 : Cond.methodLink RX9 296 yX9_isOn ∈ Tw := Tw_at 704 (by decide +kernel) (by decide +kernel)
theorem q_705 : Cond.methodLink RL 73 yX9_days ∈ Tw := Tw_at 705 (by decide +kernel) (by decide +kernel)
theorem q_706 : Cond.instanceMethod yX9_days ∈ Tw := Tw_at 706 (by decide +kernel) (by decide +kernel)
theorem q_707 : Cond.selects RX9 yX9_days yX9_days ∈ Tw := Tw_at 707 (by decide +kernel) (by decide +kernel)
theorem q_708 : Cond.code yX9_days prog_1_method_15_code 5 (some .int) ∈ Tw := Tw_at 708 (by decide +kernel) (by decide +kernel)
theorem q_709 : Cond.methodLink RX9 187 yX0_goThroughDay ∈ Tw := Tw_at 709 (by decide +kernel) (by decide +kernel)
theorem q_710 : Cond.instanceMethod yX0_goThroughDay ∈ Tw := Tw_at 710 (by decide +kernel) (by decide +kernel)
theorem q_711 : Cond.selects RX0 yX0_goThroughDay yX0_goThroughDay ∈ Tw := Tw_at 711 (by decide +kernel) (by decide +kernel)
theorem q_712 : Cond.code yX0_goThroughDay prog_2_method_13_code 3 (none) ∈ Tw := Tw_at 712 (by decide +kernel) (by decide +kernel)
theorem q_713 : Cond.methodLink RX0 117 yX0_goThroughTrial ∈ Tw := Tw_at 713 (by decide +kernel) (by decide +kernel)
theorem q_714 : Cond.methodLink RX0 120 yX0_fadesOf ∈ Tw := Tw_at 714 (by decide +kernel) (by decide +kernel)
theorem q_715 : Cond.methodLink RL 77 yX9_rests ∈ Tw := Tw_at 715 (by decide +kernel) (by decide +kernel)
theorem q_716 : Cond.instanceMethod yX9_rests ∈ Tw := Tw_at 716 (by decide +kernel) (by decide +kernel)
theorem q_717 : Cond.selects RX9 yX9_rests yX9_rests ∈ Tw := Tw_at 717 (by decide +kernel) (by decide +kernel)
theorem q_718 : Cond.code yX9_rests prog_1_method_16_code 5 (some .int) ∈ Tw := Tw_at 718 (by decide +kernel) (by decide +kernel)
theorem q_719 : Cond.methodLink RX9 191 yX0_becomeLike ∈ Tw := Tw_at 719 (by decide +kernel) (by decide +kernel)
theorem q_720 : Cond.instanceMethod yX0_becomeLike ∈ Tw := Tw_at 720 (by decide +kernel) (by decide +kernel)
theorem q_721 : Cond.selects RX0 yX0_becomeLike yX0_becomeLike ∈ Tw := Tw_at 721 (by decide +kernel) (by decide +kernel)
theorem q_722 : Cond.code yX0_becomeLike prog_2_method_2_code 3 (none) ∈ Tw := Tw_at 722 (by decide +kernel) (by decide +kernel)
theorem q_723 : Cond.methodLink RX0 38 ⟨"java/lang/System", "arraycopy", "(Ljava/lang/Object;ILjava/lang/Object;II)V"⟩ ∈ Tw := Tw_at 723 (by decide +kernel) (by decide +kernel)
theorem q_724 : Cond.methodLink RX9 195 yX0_staysThroughDay ∈ Tw := Tw_at 724 (by decide +kernel) (by decide +kernel)
theorem q_725 : Cond.instanceMethod yX0_staysThroughDay ∈ Tw := Tw_at 725 (by decide +kernel) (by decide +kernel)
theorem q_726 : Cond.selects RX0 yX0_staysThroughDay yX0_staysThroughDay ∈ Tw := Tw_at 726 (by decide +kernel) (by decide +kernel)
theorem q_727 : Cond.code yX0_staysThroughDay prog_2_method_14_code 3 (some .boolean) ∈ Tw := Tw_at 727 (by decide +kernel) (by decide +kernel)
theorem q_728 : Cond.methodLink RX0 123 yX0_goThroughDay ∈ Tw := Tw_at 728 (by decide +kernel) (by decide +kernel)
theorem q_729 : Cond.methodLink RL 81 yX9_blocked ∈ Tw := Tw_at 729 (by decide +kernel) (by decide +kernel)
theorem q_730 : Cond.instanceMethod yX9_blocked ∈ Tw := Tw_at 730 (by decide +kernel) (by decide +kernel)
theorem q_731 : Cond.selects RX9 yX9_blocked yX9_blocked ∈ Tw := Tw_at 731 (by decide +kernel) (by decide +kernel)
theorem q_732 : Cond.code yX9_blocked prog_1_method_17_code 6 (some .int) ∈ Tw := Tw_at 732 (by decide +kernel) (by decide +kernel)
theorem q_733 : Cond.methodLink RX9 199 yX0_gainers ∈ Tw := Tw_at 733 (by decide +kernel) (by decide +kernel)
theorem q_734 : Cond.instanceMethod yX0_gainers ∈ Tw := Tw_at 734 (by decide +kernel) (by decide +kernel)
theorem q_735 : Cond.selects RX0 yX0_gainers yX0_gainers ∈ Tw := Tw_at 735 (by decide +kernel) (by decide +kernel)
theorem q_736 : Cond.code yX0_gainers prog_2_method_12_code 4 (some .int) ∈ Tw := Tw_at 736 (by decide +kernel) (by decide +kernel)
theorem q_737 : Cond.methodLink RL 85 yX9_counted ∈ Tw := Tw_at 737 (by decide +kernel) (by decide +kernel)
theorem q_738 : Cond.instanceMethod yX9_counted ∈ Tw := Tw_at 738 (by decide +kernel) (by decide +kernel)
theorem q_739 : Cond.selects RX9 yX9_counted yX9_counted ∈ Tw := Tw_at 739 (by decide +kernel) (by decide +kernel)
theorem q_740 : Cond.code yX9_counted prog_1_method_18_code 22 (some .long) ∈ Tw := Tw_at 740 (by decide +kernel) (by decide +kernel)
theorem q_741 : Cond.methodLink RX9 202 yX0_allTrials ∈ Tw := Tw_at 741 (by decide +kernel) (by decide +kernel)
theorem q_742 : Cond.instanceMethod yX0_allTrials ∈ Tw := Tw_at 742 (by decide +kernel) (by decide +kernel)
theorem q_743 : Cond.selects RX0 yX0_allTrials yX0_allTrials ∈ Tw := Tw_at 743 (by decide +kernel) (by decide +kernel)
theorem q_744 : Cond.code yX0_allTrials prog_2_method_4_code 1 (some .int) ∈ Tw := Tw_at 744 (by decide +kernel) (by decide +kernel)
theorem q_745 : Cond.methodLink RX9 212 yJ9_max_f86c9 ∈ Tw := Tw_at 745 (by decide +kernel) (by decide +kernel)
theorem q_746 : Cond.static yJ9_max_f86c9 ∈ Tw := Tw_at 746 (by decide +kernel) (by decide +kernel)
theorem q_747 : Cond.code yJ9_max_f86c9 prog_15_method_66_code 4 (some .long) ∈ Tw := Tw_at 747 (by decide +kernel) (by decide +kernel)
theorem q_748 : Cond.methodLink RX9 218 yJ9_abs_067f4 ∈ Tw := Tw_at 748 (by decide +kernel) (by decide +kernel)
theorem q_749 : Cond.static yJ9_abs_067f4 ∈ Tw := Tw_at 749 (by decide +kernel) (by decide +kernel)
theorem q_750 : Cond.code yJ9_abs_067f4 prog_15_method_61_code 2 (some .long) ∈ Tw := Tw_at 750 (by decide +kernel) (by decide +kernel)
theorem q_751 : Cond.methodLink RX9 222 yX9_commonDivisor ∈ Tw := Tw_at 751 (by decide +kernel) (by decide +kernel)
theorem q_752 : Cond.static yX9_commonDivisor ∈ Tw := Tw_at 752 (by decide +kernel) (by decide +kernel)
theorem q_753 : Cond.code yX9_commonDivisor prog_1_method_40_code 11 (some .long) ∈ Tw := Tw_at 753 (by decide +kernel) (by decide +kernel)
theorem q_754 : Cond.methodLink RL 90 yX9_watched ∈ Tw := Tw_at 754 (by decide +kernel) (by decide +kernel)
theorem q_755 : Cond.instanceMethod yX9_watched ∈ Tw := Tw_at 755 (by decide +kernel) (by decide +kernel)
theorem q_756 : Cond.selects RX9 yX9_watched yX9_watched ∈ Tw := Tw_at 756 (by decide +kernel) (by decide +kernel)
theorem q_757 : Cond.code yX9_watched prog_1_method_19_code 4 (some .int) ∈ Tw := Tw_at 757 (by decide +kernel) (by decide +kernel)
theorem q_758 : Cond.methodLink RX9 225 yX9_isSomeSet ∈ Tw := Tw_at 758 (by decide +kernel) (by decide +kernel)
theorem q_760 : Cond.instanceMethod yX9_isSomeSet ∈ Tw := Tw_at 760 (by decide +kernel) (by decide +kernel)
theorem q_761 : Cond.code yX9_isSomeSet prog_1_method_38_code 2 (some .boolean) ∈ Tw := Tw_at 761 (by decide +kernel) (by decide +kernel)
theorem q_762 : Cond.methodLink RX9 229 yX7_add ∈ Tw := Tw_at 762 (by decide +kernel) (by decide +kernel)
theorem q_763 : Cond.instanceMethod yX7_add ∈ Tw := Tw_at 763 (by decide +kernel) (by decide +kernel)
theorem q_764 : Cond.selects RX7 yX7_add yX7_add ∈ Tw := Tw_at 764 (by decide +kernel) (by decide +kernel)
theorem q_765 : Cond.code yX7_add prog_9_method_2_code 4 (none) ∈ Tw := Tw_at 765 (by decide +kernel) (by decide +kernel)
theorem q_766 : Cond.methodLink RL 94 yX9_lets ∈ Tw := Tw_at 766 (by decide +kernel) (by decide +kernel)
theorem q_767 : Cond.instanceMethod yX9_lets ∈ Tw := Tw_at 767 (by decide +kernel) (by decide +kernel)
theorem q_768 : Cond.selects RX9 yX9_lets yX9_lets ∈ Tw := Tw_at 768 (by decide +kernel) (by decide +kernel)
theorem q_769 : Cond.code yX9_lets prog_1_method_20_code 3 (some .int) ∈ Tw := Tw_at 769 (by decide +kernel) (by decide +kernel)
theorem q_770 : Cond.methodLink RX9 232 yX9_findPaces ∈ Tw := Tw_at 770 (by decide +kernel) (by decide +kernel)
theorem q_772 : Cond.instanceMethod yX9_findPaces ∈ Tw := Tw_at 772 (by decide +kernel) (by decide +kernel)
theorem q_773 : Cond.code yX9_findPaces prog_1_method_41_code 4 (none) ∈ Tw := Tw_at 773 (by decide +kernel) (by decide +kernel)
theorem q_774 : Cond.methodLink RX9 302 yX7_forgetPaces ∈ Tw := Tw_at 774 (by decide +kernel) (by decide +kernel)
theorem q_775 : Cond.instanceMethod yX7_forgetPaces ∈ Tw := Tw_at 775 (by decide +kernel) (by decide +kernel)
theorem q_776 : Cond.selects RX7 yX7_forgetPaces yX7_forgetPaces ∈ Tw := Tw_at 776 (by decide +kernel) (by decide +kernel)
theorem q_777 : Cond.code yX7_forgetPaces prog_9_method_3_code 1 (none) ∈ Tw := Tw_at 777 (by decide +kernel) (by decide +kernel)
theorem q_778 : Cond.methodLink RX9 305 yX9_firstOff ∈ Tw := Tw_at 778 (by decide +kernel) (by decide +kernel)
theorem q_780 : Cond.instanceMethod yX9_firstOff ∈ Tw := Tw_at 780 (by decide +kernel) (by decide +kernel)
theorem q_781 : Cond.code yX9_firstOff prog_1_method_42_code 4 (some .int) ∈ Tw := Tw_at 781 (by decide +kernel) (by decide +kernel)
theorem q_782 : Cond.methodLink RX9 313 yX0_startAnew ∈ Tw := Tw_at 782 (by decide +kernel) (by decide +kernel)
theorem q_783 : Cond.instanceMethod yX0_startAnew ∈ Tw := Tw_at 783 (by decide +kernel) (by decide +kernel)
theorem q_784 : Cond.selects RX0 yX0_startAnew yX0_startAnew ∈ Tw := Tw_at 784 (by decide +kernel) (by decide +kernel)
theorem q_785 : Cond.code yX0_startAnew prog_2_method_3_code 3 (none) ∈ Tw := Tw_at 785 (by decide +kernel) (by decide +kernel)
theorem q_786 : Cond.methodLink RX0 53 yJ7_fill_53178 ∈ Tw := Tw_at 786 (by decide +kernel) (by decide +kernel)
theorem q_787 : Cond.methodLink RX9 322 yJ9_abs_0f7a4 ∈ Tw := Tw_at 787 (by decide +kernel) (by decide +kernel)
theorem q_788 : Cond.static yJ9_abs_0f7a4 ∈ Tw := Tw_at 788 (by decide +kernel) (by decide +kernel)
theorem q_789 : Cond.code yJ9_abs_0f7a4 prog_15_method_59_code 1 (some .int) ∈ Tw := Tw_at 789 (by decide +kernel) (by decide +kernel)
theorem q_790 : Cond.methodLink RX9 308 yX7_addPace ∈ Tw := Tw_at 790 (by decide +kernel) (by decide +kernel)
theorem q_791 : Cond.instanceMethod yX7_addPace ∈ Tw := Tw_at 791 (by decide +kernel) (by decide +kernel)
theorem q_792 : Cond.selects RX7 yX7_addPace yX7_addPace ∈ Tw := Tw_at 792 (by decide +kernel) (by decide +kernel)
theorem q_793 : Cond.code yX7_addPace prog_9_method_4_code 2 (none) ∈ Tw := Tw_at 793 (by decide +kernel) (by decide +kernel)
theorem q_794 : Cond.methodLink RX9 311 yJ9_max_7cf53 ∈ Tw := Tw_at 794 (by decide +kernel) (by decide +kernel)
theorem q_795 : Cond.methodLink RL 98 yX9_thrownOut ∈ Tw := Tw_at 795 (by decide +kernel) (by decide +kernel)
theorem q_796 : Cond.instanceMethod yX9_thrownOut ∈ Tw := Tw_at 796 (by decide +kernel) (by decide +kernel)
theorem q_797 : Cond.selects RX9 yX9_thrownOut yX9_thrownOut ∈ Tw := Tw_at 797 (by decide +kernel) (by decide +kernel)
theorem q_798 : Cond.code yX9_thrownOut prog_1_method_21_code 2 (some .int) ∈ Tw := Tw_at 798 (by decide +kernel) (by decide +kernel)
theorem q_799 : Cond.methodLink RL 102 yX9_next ∈ Tw := Tw_at 799 (by decide +kernel) (by decide +kernel)
theorem q_800 : Cond.instanceMethod yX9_next ∈ Tw := Tw_at 800 (by decide +kernel) (by decide +kernel)
theorem q_801 : Cond.selects RX9 yX9_next yX9_next ∈ Tw := Tw_at 801 (by decide +kernel) (by decide +kernel)
theorem q_802 : Cond.code yX9_next prog_1_method_22_code 4 (some .int) ∈ Tw := Tw_at 802 (by decide +kernel) (by decide +kernel)
theorem q_803 : Cond.methodLink RX9 248 yX9_findFarthest ∈ Tw := Tw_at 803 (by decide +kernel) (by decide +kernel)
theorem q_805 : Cond.instanceMethod yX9_findFarthest ∈ Tw := Tw_at 805 (by decide +kernel) (by decide +kernel)
theorem q_806 : Cond.code yX9_findFarthest prog_1_method_43_code 6 (none) ∈ Tw := Tw_at 806 (by decide +kernel) (by decide +kernel)
theorem q_807 : Cond.methodLink RX9 324 yX9_dropsBehind ∈ Tw := Tw_at 807 (by decide +kernel) (by decide +kernel)
theorem q_809 : Cond.instanceMethod yX9_dropsBehind ∈ Tw := Tw_at 809 (by decide +kernel) (by decide +kernel)
theorem q_810 : Cond.code yX9_dropsBehind prog_1_method_44_code 5 (some .int) ∈ Tw := Tw_at 810 (by decide +kernel) (by decide +kernel)
theorem q_811 : Cond.methodLink RL 106 yX9_near ∈ Tw := Tw_at 811 (by decide +kernel) (by decide +kernel)
theorem q_812 : Cond.instanceMethod yX9_near ∈ Tw := Tw_at 812 (by decide +kernel) (by decide +kernel)
theorem q_813 : Cond.selects RX9 yX9_near yX9_near ∈ Tw := Tw_at 813 (by decide +kernel) (by decide +kernel)
theorem q_814 : Cond.code yX9_near prog_1_method_23_code 10 (some .int) ∈ Tw := Tw_at 814 (by decide +kernel) (by decide +kernel)
theorem q_815 : Cond.methodLink RX9 257 yX9_dropsApart ∈ Tw := Tw_at 815 (by decide +kernel) (by decide +kernel)
theorem q_817 : Cond.instanceMethod yX9_dropsApart ∈ Tw := Tw_at 817 (by decide +kernel) (by decide +kernel)
theorem q_818 : Cond.code yX9_dropsApart prog_1_method_45_code 6 (some .int) ∈ Tw := Tw_at 818 (by decide +kernel) (by decide +kernel)
theorem q_819 : Cond.methodLink RL 111 yX9_image ∈ Tw := Tw_at 819 (by decide +kernel) (by decide +kernel)
theorem q_820 : Cond.instanceMethod yX9_image ∈ Tw := Tw_at 820 (by decide +kernel) (by decide +kernel)
theorem q_821 : Cond.selects RX9 yX9_image yX9_image ∈ Tw := Tw_at 821 (by decide +kernel) (by decide +kernel)
theorem q_822 : Cond.code yX9_image prog_1_method_24_code 1 (some .int) ∈ Tw := Tw_at 822 (by decide +kernel) (by decide +kernel)
theorem q_823 : Cond.methodLink RL 115 yX9_back ∈ Tw := Tw_at 823 (by decide +kernel) (by decide +kernel)
theorem q_824 : Cond.instanceMethod yX9_back ∈ Tw := Tw_at 824 (by decide +kernel) (by decide +kernel)
theorem q_825 : Cond.selects RX9 yX9_back yX9_back ∈ Tw := Tw_at 825 (by decide +kernel) (by decide +kernel)
theorem q_826 : Cond.code yX9_back prog_1_method_25_code 1 (some .int) ∈ Tw := Tw_at 826 (by decide +kernel) (by decide +kernel)
theorem q_827 : Cond.methodLink RL 119 yX9_count ∈ Tw := Tw_at 827 (by decide +kernel) (by decide +kernel)
theorem q_828 : Cond.instanceMethod yX9_count ∈ Tw := Tw_at 828 (by decide +kernel) (by decide +kernel)
theorem q_829 : Cond.selects RX9 yX9_count yX9_count ∈ Tw := Tw_at 829 (by decide +kernel) (by decide +kernel)
theorem q_830 : Cond.code yX9_count prog_1_method_26_code 2 (some .int) ∈ Tw := Tw_at 830 (by decide +kernel) (by decide +kernel)
theorem q_831 : Cond.methodLink RL 123 yX9_sheet ∈ Tw := Tw_at 831 (by decide +kernel) (by decide +kernel)
theorem q_832 : Cond.instanceMethod yX9_sheet ∈ Tw := Tw_at 832 (by decide +kernel) (by decide +kernel)
theorem q_833 : Cond.selects RX9 yX9_sheet yX9_sheet ∈ Tw := Tw_at 833 (by decide +kernel) (by decide +kernel)
theorem q_834 : Cond.code yX9_sheet prog_1_method_27_code 4 (some .int) ∈ Tw := Tw_at 834 (by decide +kernel) (by decide +kernel)
theorem q_835 : Cond.methodLink RX9 261 yX9_isSheet ∈ Tw := Tw_at 835 (by decide +kernel) (by decide +kernel)
theorem q_836 : Cond.static yX9_isSheet ∈ Tw := Tw_at 836 (by decide +kernel) (by decide +kernel)
theorem q_837 : Cond.code yX9_isSheet prog_1_method_35_code 1 (some .boolean) ∈ Tw := Tw_at 837 (by decide +kernel) (by decide +kernel)
theorem q_838 : Cond.methodLink RX9 264 yX3_become ∈ Tw := Tw_at 838 (by decide +kernel) (by decide +kernel)
theorem q_839 : Cond.instanceMethod yX3_become ∈ Tw := Tw_at 839 (by decide +kernel) (by decide +kernel)
theorem q_840 : Cond.selects RX3 yX3_become yX3_become ∈ Tw := Tw_at 840 (by decide +kernel) (by decide +kernel)
theorem q_841 : Cond.code yX3_become prog_5_method_3_code 3 (none) ∈ Tw := Tw_at 841 (by decide +kernel) (by decide +kernel)
theorem q_842 : Cond.methodLink RX3 22 yJ7_fill_53178 ∈ Tw := Tw_at 842 (by decide +kernel) (by decide +kernel)
theorem q_843 : Cond.methodLink RL 127 yX9_cell ∈ Tw := Tw_at 843 (by decide +kernel) (by decide +kernel)
theorem q_844 : Cond.instanceMethod yX9_cell ∈ Tw := Tw_at 844 (by decide +kernel) (by decide +kernel)
theorem q_845 : Cond.selects RX9 yX9_cell yX9_cell ∈ Tw := Tw_at 845 (by decide +kernel) (by decide +kernel)
theorem q_846 : Cond.code yX9_cell prog_1_method_28_code 5 (some .int) ∈ Tw := Tw_at 846 (by decide +kernel) (by decide +kernel)
theorem q_847 : Cond.methodLink RX9 268 yX3_isMissing ∈ Tw := Tw_at 847 (by decide +kernel) (by decide +kernel)
theorem q_848 : Cond.instanceMethod yX3_isMissing ∈ Tw := Tw_at 848 (by decide +kernel) (by decide +kernel)
theorem q_849 : Cond.selects RX3 yX3_isMissing yX3_isMissing ∈ Tw := Tw_at 849 (by decide +kernel) (by decide +kernel)
theorem q_850 : Cond.code yX3_isMissing prog_5_method_2_code 1 (some .boolean) ∈ Tw := Tw_at 850 (by decide +kernel) (by decide +kernel)
theorem q_851 : Cond.methodLink RX9 272 yX3_has ∈ Tw := Tw_at 851 (by decide +kernel) (by decide +kernel)
theorem q_852 : Cond.instanceMethod yX3_has ∈ Tw := Tw_at 852 (by decide +kernel) (by decide +kernel)
theorem q_853 : Cond.selects RX3 yX3_has yX3_has ∈ Tw := Tw_at 853 (by decide +kernel) (by decide +kernel)
theorem q_854 : Cond.code yX3_has prog_5_method_4_code 2 (some .boolean) ∈ Tw := Tw_at 854 (by decide +kernel) (by decide +kernel)
theorem q_856 : Cond.methodLink RX9 275 yX3_put ∈ Tw := Tw_at 856 (by decide +kernel) (by decide +kernel)
theorem q_857 : Cond.instanceMethod yX3_put ∈ Tw := Tw_at 857 (by decide +kernel) (by decide +kernel)
theorem q_858 : Cond.selects RX3 yX3_put yX3_put ∈ Tw := Tw_at 858 (by decide +kernel) (by decide +kernel)
theorem q_859 : Cond.code yX3_put prog_5_method_6_code 3 (none) ∈ Tw := Tw_at 859 (by decide +kernel) (by decide +kernel)
theorem q_860 : Cond.methodLink RL 131 yX9_copy ∈ Tw := Tw_at 860 (by decide +kernel) (by decide +kernel)
theorem q_861 : Cond.instanceMethod yX9_copy ∈ Tw := Tw_at 861 (by decide +kernel) (by decide +kernel)
theorem q_862 : Cond.selects RX9 yX9_copy yX9_copy ∈ Tw := Tw_at 862 (by decide +kernel) (by decide +kernel)
theorem q_863 : Cond.code yX9_copy prog_1_method_29_code 8 (some .int) ∈ Tw := Tw_at 863 (by decide +kernel) (by decide +kernel)
theorem q_864 : Cond.methodLink RX9 281 yX3_hasRun ∈ Tw := Tw_at 864 (by decide +kernel) (by decide +kernel)
theorem q_865 : Cond.instanceMethod yX3_hasRun ∈ Tw := Tw_at 865 (by decide +kernel) (by decide +kernel)
theorem q_866 : Cond.selects RX3 yX3_hasRun yX3_hasRun ∈ Tw := Tw_at 866 (by decide +kernel) (by decide +kernel)
theorem q_867 : Cond.code yX3_hasRun prog_5_method_5_code 3 (some .boolean) ∈ Tw := Tw_at 867 (by decide +kernel) (by decide +kernel)
theorem q_868 : Cond.methodLink RX9 287 ⟨"java/lang/System", "arraycopy", "(Ljava/lang/Object;ILjava/lang/Object;II)V"⟩ ∈ Tw := Tw_at 868 (by decide +kernel) (by decide +kernel)
theorem q_869 : Cond.methodLink RL 135 yX9_trials ∈ Tw := Tw_at 869 (by decide +kernel) (by decide +kernel)
theorem q_870 : Cond.instanceMethod yX9_trials ∈ Tw := Tw_at 870 (by decide +kernel) (by decide +kernel)
theorem q_871 : Cond.selects RX9 yX9_trials yX9_trials ∈ Tw := Tw_at 871 (by decide +kernel) (by decide +kernel)
theorem q_872 : Cond.code yX9_trials prog_1_method_30_code 10 (some .int) ∈ Tw := Tw_at 872 (by decide +kernel) (by decide +kernel)
theorem q_873 : Cond.methodLink RL 140 yX9_taken ∈ Tw := Tw_at 873 (by decide +kernel) (by decide +kernel)
theorem q_874 : Cond.instanceMethod yX9_taken ∈ Tw := Tw_at 874 (by decide +kernel) (by decide +kernel)
theorem q_875 : Cond.selects RX9 yX9_taken yX9_taken ∈ Tw := Tw_at 875 (by decide +kernel) (by decide +kernel)
theorem q_876 : Cond.code yX9_taken prog_1_method_31_code 3 (some .int) ∈ Tw := Tw_at 876 (by decide +kernel) (by decide +kernel)
theorem q_877 : Cond.methodLink RX9 293 yX9_isUnder ∈ Tw := Tw_at 877 (by decide +kernel) (by decide +kernel)
theorem q_878 : Cond.static yX9_isUnder ∈ Tw := Tw_at 878 (by decide +kernel) (by decide +kernel)
theorem q_879 : Cond.code yX9_isUnder prog_1_method_39_code 4 (some .boolean) ∈ Tw := Tw_at 879 (by decide +kernel) (by decide +kernel)
theorem q_880 : Cond.fieldLink RX9 299 RX9 "UNDER" "[I" ∈ Tw := Tw_at 880 (by decide +kernel) (by decide +kernel)
theorem q_882 : Cond.classLink RL 10 RX10 ∈ Tw := Tw_at 882 (by decide +kernel) (by decide +kernel)
theorem q_883 : Cond.instantiable RX10 65 ∈ Tw := Tw_at 883 (by decide +kernel) (by decide +kernel)
theorem q_884 : Cond.methodLink RL 12 yX10_init ∈ Tw := Tw_at 884 (by decide +kernel) (by decide +kernel)
theorem q_885 : Cond.instanceMethod yX10_init ∈ Tw := Tw_at 885 (by decide +kernel) (by decide +kernel)
theorem q_886 : Cond.code yX10_init prog_12_method_4_code 2 (none) ∈ Tw := Tw_at 886 (by decide +kernel) (by decide +kernel)
theorem q_887 : Cond.methodLink RX10 7 ⟨"java/lang/Object", "<init>", "()V"⟩ ∈ Tw := Tw_at 887 (by decide +kernel) (by decide +kernel)
theorem q_888 : Cond.constantLong RX10 102 (7449351180354924592 : Int64) ∈ Tw := Tw_at 888 (by decide +kernel) (by decide +kernel)
theorem q_889 : Cond.methodLink RX10 104 yX10_spell ∈ Tw := Tw_at 889 (by decide +kernel) (by decide +kernel)
theorem q_891 : Cond.instanceMethod yX10_spell ∈ Tw := Tw_at 891 (by decide +kernel) (by decide +kernel)
theorem q_892 : Cond.code yX10_spell prog_12_method_5_code 5 (none) ∈ Tw := Tw_at 892 (by decide +kernel) (by decide +kernel)
theorem q_893 : Cond.constantLong RX10 120 (255 : Int64) ∈ Tw := Tw_at 893 (by decide +kernel) (by decide +kernel)
theorem q_894 : Cond.constantLong RX10 108 (2322485656932345120 : Int64) ∈ Tw := Tw_at 894 (by decide +kernel) (by decide +kernel)
theorem q_895 : Cond.constantLong RX10 110 (3756067099537207152 : Int64) ∈ Tw := Tw_at 895 (by decide +kernel) (by decide +kernel)
theorem q_896 : Cond.constantLong RX10 112 (2338341743088050208 : Int64) ∈ Tw := Tw_at 896 (by decide +kernel) (by decide +kernel)
theorem q_897 : Cond.fieldLink RX10 13 RX10 "texts" "[I" ∈ Tw := Tw_at 897 (by decide +kernel) (by decide +kernel)
theorem q_898 : Cond.fieldLink RX10 17 RX10 "textSize" "[I" ∈ Tw := Tw_at 898 (by decide +kernel) (by decide +kernel)
theorem q_899 : Cond.fieldLink RX10 114 RX10 "textCount" "I" ∈ Tw := Tw_at 899 (by decide +kernel) (by decide +kernel)
theorem q_900 : Cond.fieldLink RX10 131 RX10 "rule" "I" ∈ Tw := Tw_at 900 (by decide +kernel) (by decide +kernel)
theorem q_901 : Cond.fieldLink RX10 20 RX10 "tape" "[I" ∈ Tw := Tw_at 901 (by decide +kernel) (by decide +kernel)
theorem q_902 : Cond.fieldLink RX10 165 RX10 "taped" "I" ∈ Tw := Tw_at 902 (by decide +kernel) (by decide +kernel)
theorem q_903 : Cond.fieldLink RX10 23 RX10 "kind" "[I" ∈ Tw := Tw_at 903 (by decide +kernel) (by decide +kernel)
theorem q_904 : Cond.fieldLink RX10 26 RX10 "strength" "[I" ∈ Tw := Tw_at 904 (by decide +kernel) (by decide +kernel)
theorem q_905 : Cond.fieldLink RX10 29 RX10 "on" "[I" ∈ Tw := Tw_at 905 (by decide +kernel) (by decide +kernel)
theorem q_906 : Cond.fieldLink RX10 122 RX10 "signs" "I" ∈ Tw := Tw_at 906 (by decide +kernel) (by decide +kernel)
theorem q_907 : Cond.fieldLink RX10 32 RX10 "worths" "[I" ∈ Tw := Tw_at 907 (by decide +kernel) (by decide +kernel)
theorem q_908 : Cond.fieldLink RX10 35 RX10 "goesOf" "[I" ∈ Tw := Tw_at 908 (by decide +kernel) (by decide +kernel)
theorem q_909 : Cond.fieldLink RX10 38 RX10 "likes" "[I" ∈ Tw := Tw_at 909 (by decide +kernel) (by decide +kernel)
theorem q_910 : Cond.fieldLink RX10 117 RX10 "pace" "I" ∈ Tw := Tw_at 910 (by decide +kernel) (by decide +kernel)
theorem q_911 : Cond.fieldLink RX10 245 RX10 "day" "I" ∈ Tw := Tw_at 911 (by decide +kernel) (by decide +kernel)
theorem q_912 : Cond.fieldLink RX10 317 RX10 "today" "I" ∈ Tw := Tw_at 912 (by decide +kernel) (by decide +kernel)
theorem q_913 : Cond.fieldLink RX10 171 RX10 "from" "I" ∈ Tw := Tw_at 913 (by decide +kernel) (by decide +kernel)
theorem q_914 : Cond.fieldLink RX10 168 RX10 "size" "I" ∈ Tw := Tw_at 914 (by decide +kernel) (by decide +kernel)
theorem q_915 : Cond.fieldLink RX10 183 RX10 "token" "I" ∈ Tw := Tw_at 915 (by decide +kernel) (by decide +kernel)
theorem q_916 : Cond.fieldLink RX10 180 RX10 "tokenAt" "I" ∈ Tw := Tw_at 916 (by decide +kernel) (by decide +kernel)
theorem q_917 : Cond.fieldLink RX10 190 RX10 "tokenWorth" "J" ∈ Tw := Tw_at 917 (by decide +kernel) (by decide +kernel)
theorem q_918 : Cond.fieldLink RX10 174 RX10 "here" "I" ∈ Tw := Tw_at 918 (by decide +kernel) (by decide +kernel)
theorem q_919 : Cond.fieldLink RX10 213 RX10 "open" "I" ∈ Tw := Tw_at 919 (by decide +kernel) (by decide +kernel)
theorem q_920 : Cond.fieldLink RX10 206 RX10 "bad" "Z" ∈ Tw := Tw_at 920 (by decide +kernel) (by decide +kernel)
theorem q_921 : Cond.fieldLink RX10 210 RX10 "fault" "I" ∈ Tw := Tw_at 921 (by decide +kernel) (by decide +kernel)
theorem q_922 : Cond.fieldLink RX10 228 RX10 "about" "I" ∈ Tw := Tw_at 922 (by decide +kernel) (by decide +kernel)
theorem q_923 : Cond.fieldLink RX10 233 RX10 "aboutSum" "I" ∈ Tw := Tw_at 923 (by decide +kernel) (by decide +kernel)
theorem q_924 : Cond.fieldLink RX10 238 RX10 "aboutWorth" "I" ∈ Tw := Tw_at 924 (by decide +kernel) (by decide +kernel)
theorem q_925 : Cond.fieldLink RX10 250 RX10 "aboutTrial" "I" ∈ Tw := Tw_at 925 (by decide +kernel) (by decide +kernel)
theorem q_926 : Cond.fieldLink RX10 41 RX10 "planSize" "[I" ∈ Tw := Tw_at 926 (by decide +kernel) (by decide +kernel)
theorem q_927 : Cond.fieldLink RX10 44 RX10 "planSigns" "[I" ∈ Tw := Tw_at 927 (by decide +kernel) (by decide +kernel)
theorem q_928 : Cond.fieldLink RX10 47 RX10 "planEnd" "[I" ∈ Tw := Tw_at 928 (by decide +kernel) (by decide +kernel)
theorem q_929 : Cond.fieldLink RX10 302 RX10 "plans" "I" ∈ Tw := Tw_at 929 (by decide +kernel) (by decide +kernel)
theorem q_930 : Cond.fieldLink RX10 50 RX10 "gained" "[I" ∈ Tw := Tw_at 930 (by decide +kernel) (by decide +kernel)
theorem q_931 : Cond.fieldLink RX10 53 RX10 "ended" "[I" ∈ Tw := Tw_at 931 (by decide +kernel) (by decide +kernel)
theorem q_932 : Cond.fieldLink RX10 56 RX10 "with" "[I" ∈ Tw := Tw_at 932 (by decide +kernel) (by decide +kernel)
theorem q_933 : Cond.fieldLink RX10 59 RX10 "asideStrength" "[I" ∈ Tw := Tw_at 933 (by decide +kernel) (by decide +kernel)
theorem q_934 : Cond.fieldLink RX10 62 RX10 "asideOn" "[I" ∈ Tw := Tw_at 934 (by decide +kernel) (by decide +kernel)
theorem q_935 : Cond.fieldLink RX10 350 RX10 "asideDay" "I" ∈ Tw := Tw_at 935 (by decide +kernel) (by decide +kernel)
theorem q_936 : Cond.fieldLink RX10 353 RX10 "asideToday" "I" ∈ Tw := Tw_at 936 (by decide +kernel) (by decide +kernel)
theorem q_937 : Cond.fieldLink RX10 356 RX10 "asidePace" "I" ∈ Tw := Tw_at 937 (by decide +kernel) (by decide +kernel)
theorem q_938 : Cond.fieldLink RX10 65 RX10 "before" "[I" ∈ Tw := Tw_at 938 (by decide +kernel) (by decide +kernel)
theorem q_939 : Cond.fieldLink RX10 68 RX10 "watchPlan" "[I" ∈ Tw := Tw_at 939 (by decide +kernel) (by decide +kernel)
theorem q_940 : Cond.fieldLink RX10 71 RX10 "watchSigns" "[I" ∈ Tw := Tw_at 940 (by decide +kernel) (by decide +kernel)
theorem q_941 : Cond.fieldLink RX10 74 RX10 "watchDrops" "[I" ∈ Tw := Tw_at 941 (by decide +kernel) (by decide +kernel)
theorem q_942 : Cond.fieldLink RX10 368 RX10 "watches" "I" ∈ Tw := Tw_at 942 (by decide +kernel) (by decide +kernel)
theorem q_943 : Cond.fieldLink RX10 371 RX10 "many" "I" ∈ Tw := Tw_at 943 (by decide +kernel) (by decide +kernel)
theorem q_944 : Cond.fieldLink RX10 374 RX10 "least" "I" ∈ Tw := Tw_at 944 (by decide +kernel) (by decide +kernel)
theorem q_945 : Cond.fieldLink RX10 377 RX10 "greatest" "I" ∈ Tw := Tw_at 945 (by decide +kernel) (by decide +kernel)
theorem q_946 : Cond.fieldLink RX10 380 RX10 "longest" "I" ∈ Tw := Tw_at 946 (by decide +kernel) (by decide +kernel)
theorem q_947 : Cond.fieldLink RX10 77 RX10 "imageStrength" "[I" ∈ Tw := Tw_at 947 (by decide +kernel) (by decide +kernel)
theorem q_948 : Cond.fieldLink RX10 80 RX10 "imageOn" "[I" ∈ Tw := Tw_at 948 (by decide +kernel) (by decide +kernel)
theorem q_949 : Cond.fieldLink RX10 83 RX10 "imageEnded" "[I" ∈ Tw := Tw_at 949 (by decide +kernel) (by decide +kernel)
theorem q_950 : Cond.fieldLink RX10 86 RX10 "imageWith" "[I" ∈ Tw := Tw_at 950 (by decide +kernel) (by decide +kernel)
theorem q_951 : Cond.fieldLink RX10 397 RX10 "hasImage" "Z" ∈ Tw := Tw_at 951 (by decide +kernel) (by decide +kernel)
theorem q_952 : Cond.fieldLink RX10 400 RX10 "imageSigns" "I" ∈ Tw := Tw_at 952 (by decide +kernel) (by decide +kernel)
theorem q_953 : Cond.fieldLink RX10 403 RX10 "imageDay" "I" ∈ Tw := Tw_at 953 (by decide +kernel) (by decide +kernel)
theorem q_954 : Cond.fieldLink RX10 406 RX10 "imageToday" "I" ∈ Tw := Tw_at 954 (by decide +kernel) (by decide +kernel)
theorem q_955 : Cond.fieldLink RX10 409 RX10 "imagePace" "I" ∈ Tw := Tw_at 955 (by decide +kernel) (by decide +kernel)
theorem q_956 : Cond.fieldLink RX10 412 RX10 "imageRule" "I" ∈ Tw := Tw_at 956 (by decide +kernel) (by decide +kernel)
theorem q_957 : Cond.fieldLink RX10 89 RX10 "isThere" "[Z" ∈ Tw := Tw_at 957 (by decide +kernel) (by decide +kernel)
theorem q_958 : Cond.fieldLink RX10 93 RX10 "sorts" "[I" ∈ Tw := Tw_at 958 (by decide +kernel) (by decide +kernel)
theorem q_959 : Cond.fieldLink RX10 96 RX10 "sheetSize" "[I" ∈ Tw := Tw_at 959 (by decide +kernel) (by decide +kernel)
theorem q_960 : Cond.fieldLink RX10 99 RX10 "items" "[I" ∈ Tw := Tw_at 960 (by decide +kernel) (by decide +kernel)
theorem q_961 : Cond.lays RX10 RX10 "thrown" "I" ∈ Tw := Tw_at 961 (by decide +kernel) (by decide +kernel)
theorem q_963 : Cond.laysFinal RX10 RX10 "texts" "[I" ∈ Tw := Tw_at 963 (by decide +kernel) (by decide +kernel)
theorem q_965 : Cond.laysFinal RX10 RX10 "textSize" "[I" ∈ Tw := Tw_at 965 (by decide +kernel) (by decide +kernel)
theorem q_967 : Cond.lays RX10 RX10 "textCount" "I" ∈ Tw := Tw_at 967 (by decide +kernel) (by decide +kernel)
theorem q_969 : Cond.lays RX10 RX10 "rule" "I" ∈ Tw := Tw_at 969 (by decide +kernel) (by decide +kernel)
theorem q_971 : Cond.laysFinal RX10 RX10 "tape" "[I" ∈ Tw := Tw_at 971 (by decide +kernel) (by decide +kernel)
theorem q_973 : Cond.lays RX10 RX10 "taped" "I" ∈ Tw := Tw_at 973 (by decide +kernel) (by decide +kernel)
theorem q_975 : Cond.laysFinal RX10 RX10 "kind" "[I" ∈ Tw := Tw_at 975 (by decide +kernel) (by decide +kernel)
theorem q_977 : Cond.laysFinal RX10 RX10 "strength" "[I" ∈ Tw := Tw_at 977 (by decide +kernel) (by decide +kernel)
theorem q_979 : Cond.laysFinal RX10 RX10 "on" "[I" ∈ Tw := Tw_at 979 (by decide +kernel) (by decide +kernel)
theorem q_981 : Cond.lays RX10 RX10 "signs" "I" ∈ Tw := Tw_at 981 (by decide +kernel) (by decide +kernel)
theorem q_983 : Cond.laysFinal RX10 RX10 "worths" "[I" ∈ Tw := Tw_at 983 (by decide +kernel) (by decide +kernel)
theorem q_985 : Cond.laysFinal RX10 RX10 "goesOf" "[I" ∈ Tw := Tw_at 985 (by decide +kernel) (by decide +kernel)
theorem q_987 : Cond.laysFinal RX10 RX10 "likes" "[I" ∈ Tw := Tw_at 987 (by decide +kernel) (by decide +kernel)
theorem q_989 : Cond.lays RX10 RX10 "pace" "I" ∈ Tw := Tw_at 989 (by decide +kernel) (by decide +kernel)
theorem q_991 : Cond.lays RX10 RX10 "day" "I" ∈ Tw := Tw_at 991 (by decide +kernel) (by decide +kernel)
theorem q_993 : Cond.lays RX10 RX10 "today" "I" ∈ Tw := Tw_at 993 (by decide +kernel) (by decide +kernel)
theorem q_995 : Cond.lays RX10 RX10 "from" "I" ∈ Tw := Tw_at 995 (by decide +kernel) (by decide +kernel)
theorem q_997 : Cond.lays RX10 RX10 "size" "I" ∈ Tw := Tw_at 997 (by decide +kernel) (by decide +kernel)
theorem q_999 : Cond.lays RX10 RX10 "token" "I" ∈ Tw := Tw_at 999 (by decide +kernel) (by decide +kernel)
theorem q_1001 : Cond.lays RX10 RX10 "tokenAt" "I" ∈ Tw := Tw_at 1001 (by decide +kernel) (by decide +kernel)
theorem q_1003 : Cond.lays RX10 RX10 "tokenWorth" "J" ∈ Tw := Tw_at 1003 (by decide +kernel) (by decide +kernel)
theorem q_1005 : Cond.lays RX10 RX10 "here" "I" ∈ Tw := Tw_at 1005 (by decide +kernel) (by decide +kernel)
theorem q_1007 : Cond.lays RX10 RX10 "open" "I" ∈ Tw := Tw_at 1007 (by decide +kernel) (by decide +kernel)
theorem q_1009 : Cond.lays RX10 RX10 "bad" "Z" ∈ Tw := Tw_at 1009 (by decide +kernel) (by decide +kernel)
theorem q_1011 : Cond.lays RX10 RX10 "fault" "I" ∈ Tw := Tw_at 1011 (by decide +kernel) (by decide +kernel)
theorem q_1013 : Cond.lays RX10 RX10 "about" "I" ∈ Tw := Tw_at 1013 (by decide +kernel) (by decide +kernel)
theorem q_1015 : Cond.lays RX10 RX10 "aboutSum" "I" ∈ Tw := Tw_at 1015 (by decide +kernel) (by decide +kernel)
theorem q_1017 : Cond.lays RX10 RX10 "aboutWorth" "I" ∈ Tw := Tw_at 1017 (by decide +kernel) (by decide +kernel)
theorem q_1019 : Cond.lays RX10 RX10 "aboutTrial" "I" ∈ Tw := Tw_at 1019 (by decide +kernel) (by decide +kernel)
theorem q_1021 : Cond.laysFinal RX10 RX10 "planSize" "[I" ∈ Tw := Tw_at 1021 (by decide +kernel) (by decide +kernel)
theorem q_1023 : Cond.laysFinal RX10 RX10 "planSigns" "[I" ∈ Tw := Tw_at 1023 (by decide +kernel) (by decide +kernel)
theorem q_1025 : Cond.laysFinal RX10 RX10 "planEnd" "[I" ∈ Tw := Tw_at 1025 (by decide +kernel) (by decide +kernel)
theorem q_1027 : Cond.lays RX10 RX10 "plans" "I" ∈ Tw := Tw_at 1027 (by decide +kernel) (by decide +kernel)
theorem q_1029 : Cond.laysFinal RX10 RX10 "gained" "[I" ∈ Tw := Tw_at 1029 (by decide +kernel) (by decide +kernel)
theorem q_1031 : Cond.laysFinal RX10 RX10 "ended" "[I" ∈ Tw := Tw_at 1031 (by decide +kernel) (by decide +kernel)
theorem q_1033 : Cond.laysFinal RX10 RX10 "with" "[I" ∈ Tw := Tw_at 1033 (by decide +kernel) (by decide +kernel)
theorem q_1035 : Cond.laysFinal RX10 RX10 "asideStrength" "[I" ∈ Tw := Tw_at 1035 (by decide +kernel) (by decide +kernel)
theorem q_1037 : Cond.laysFinal RX10 RX10 "asideOn" "[I" ∈ Tw := Tw_at 1037 (by decide +kernel) (by decide +kernel)
theorem q_1039 : Cond.lays RX10 RX10 "asideDay" "I" ∈ Tw := Tw_at 1039 (by decide +kernel) (by decide +kernel)
theorem q_1041 : Cond.lays RX10 RX10 "asideToday" "I" ∈ Tw := Tw_at 1041 (by decide +kernel) (by decide +kernel)
theorem q_1043 : Cond.lays RX10 RX10 "asidePace" "I" ∈ Tw := Tw_at 1043 (by decide +kernel) (by decide +kernel)
theorem q_1045 : Cond.laysFinal RX10 RX10 "before" "[I" ∈ Tw := Tw_at 1045 (by decide +kernel) (by decide +kernel)
theorem q_1047 : Cond.laysFinal RX10 RX10 "watchPlan" "[I" ∈ Tw := Tw_at 1047 (by decide +kernel) (by decide +kernel)
theorem q_1049 : Cond.laysFinal RX10 RX10 "watchSigns" "[I" ∈ Tw := Tw_at 1049 (by decide +kernel) (by decide +kernel)
theorem q_1051 : Cond.laysFinal RX10 RX10 "watchDrops" "[I" ∈ Tw := Tw_at 1051 (by decide +kernel) (by decide +kernel)
theorem q_1053 : Cond.lays RX10 RX10 "watches" "I" ∈ Tw := Tw_at 1053 (by decide +kernel) (by decide +kernel)
theorem q_1055 : Cond.lays RX10 RX10 "many" "I" ∈ Tw := Tw_at 1055 (by decide +kernel) (by decide +kernel)
theorem q_1057 : Cond.lays RX10 RX10 "least" "I" ∈ Tw := Tw_at 1057 (by decide +kernel) (by decide +kernel)
theorem q_1059 : Cond.lays RX10 RX10 "greatest" "I" ∈ Tw := Tw_at 1059 (by decide +kernel) (by decide +kernel)
theorem q_1061 : Cond.lays RX10 RX10 "longest" "I" ∈ Tw := Tw_at 1061 (by decide +kernel) (by decide +kernel)
theorem q_1063 : Cond.laysFinal RX10 RX10 "imageStrength" "[I" ∈ Tw := Tw_at 1063 (by decide +kernel) (by decide +kernel)
theorem q_1065 : Cond.laysFinal RX10 RX10 "imageOn" "[I" ∈ Tw := Tw_at 1065 (by decide +kernel) (by decide +kernel)
theorem q_1067 : Cond.laysFinal RX10 RX10 "imageEnded" "[I" ∈ Tw := Tw_at 1067 (by decide +kernel) (by decide +kernel)
theorem q_1069 : Cond.laysFinal RX10 RX10 "imageWith" "[I" ∈ Tw := Tw_at 1069 (by decide +kernel) (by decide +kernel)
theorem q_1071 : Cond.lays RX10 RX10 "hasImage" "Z" ∈ Tw := Tw_at 1071 (by decide +kernel) (by decide +kernel)
theorem q_1073 : Cond.lays RX10 RX10 "imageSigns" "I" ∈ Tw := Tw_at 1073 (by decide +kernel) (by decide +kernel)
theorem q_1075 : Cond.lays RX10 RX10 "imageDay" "I" ∈ Tw := Tw_at 1075 (by decide +kernel) (by decide +kernel)
theorem q_1077 : Cond.lays RX10 RX10 "imageToday" "I" ∈ Tw := Tw_at 1077 (by decide +kernel) (by decide +kernel)
theorem q_1079 : Cond.lays RX10 RX10 "imagePace" "I" ∈ Tw := Tw_at 1079 (by decide +kernel) (by decide +kernel)
theorem q_1081 : Cond.lays RX10 RX10 "imageRule" "I" ∈ Tw := Tw_at 1081 (by decide +kernel) (by decide +kernel)
theorem q_1083 : Cond.laysFinal RX10 RX10 "isThere" "[Z" ∈ Tw := Tw_at 1083 (by decide +kernel) (by decide +kernel)
theorem q_1085 : Cond.laysFinal RX10 RX10 "sorts" "[I" ∈ Tw := Tw_at 1085 (by decide +kernel) (by decide +kernel)
theorem q_1087 : Cond.laysFinal RX10 RX10 "sheetSize" "[I" ∈ Tw := Tw_at 1087 (by decide +kernel) (by decide +kernel)
theorem q_1089 : Cond.laysFinal RX10 RX10 "items" "[I" ∈ Tw := Tw_at 1089 (by decide +kernel) (by decide +kernel)
theorem q_1091 : Cond.superclass RX10 "java/lang/Object" ∈ Tw := Tw_at 1091 (by decide +kernel) (by decide +kernel)
theorem q_1092 : Cond.arrayClass .boolean ∈ Tw := Tw_at 1092 (by decide +kernel) (by decide +kernel)
theorem q_1093 : Cond.methodLink RL 17 yX10_sign ∈ Tw := Tw_at 1093 (by decide +kernel) (by decide +kernel)
theorem q_1094 : Cond.instanceMethod yX10_sign ∈ Tw := Tw_at 1094 (by decide +kernel) (by decide +kernel)
theorem q_1095 : Cond.selects RX10 yX10_sign yX10_sign ∈ Tw := Tw_at 1095 (by decide +kernel) (by decide +kernel)
theorem q_1096 : Cond.code yX10_sign prog_12_method_8_code 2 (some .int) ∈ Tw := Tw_at 1096 (by decide +kernel) (by decide +kernel)
theorem q_1097 : Cond.constantLong RX10 129 (5 : Int64) ∈ Tw := Tw_at 1097 (by decide +kernel) (by decide +kernel)
theorem q_1098 : Cond.methodLink RX10 125 yX10_in ∈ Tw := Tw_at 1098 (by decide +kernel) (by decide +kernel)
theorem q_1099 : Cond.static yX10_in ∈ Tw := Tw_at 1099 (by decide +kernel) (by decide +kernel)
theorem q_1100 : Cond.code yX10_in prog_12_method_2_code 6 (some .boolean) ∈ Tw := Tw_at 1100 (by decide +kernel) (by decide +kernel)
theorem q_1101 : Cond.methodLink RL 22 yX10_told ∈ Tw := Tw_at 1101 (by decide +kernel) (by decide +kernel)
theorem q_1102 : Cond.instanceMethod yX10_told ∈ Tw := Tw_at 1102 (by decide +kernel) (by decide +kernel)
theorem q_1103 : Cond.selects RX10 yX10_told yX10_told ∈ Tw := Tw_at 1103 (by decide +kernel) (by decide +kernel)
theorem q_1104 : Cond.code yX10_told prog_12_method_11_code 3 (some .long) ∈ Tw := Tw_at 1104 (by decide +kernel) (by decide +kernel)
theorem q_1105 : Cond.methodLink RX10 142 yX10_isOne ∈ Tw := Tw_at 1105 (by decide +kernel) (by decide +kernel)
theorem q_1107 : Cond.instanceMethod yX10_isOne ∈ Tw := Tw_at 1107 (by decide +kernel) (by decide +kernel)
theorem q_1108 : Cond.code yX10_isOne prog_12_method_6_code 2 (some .boolean) ∈ Tw := Tw_at 1108 (by decide +kernel) (by decide +kernel)
theorem q_1109 : Cond.constantLong RX10 146 (-4611686018427387904 : Int64) ∈ Tw := Tw_at 1109 (by decide +kernel) (by decide +kernel)
theorem q_1110 : Cond.methodLink RX10 148 yX10_loudOf ∈ Tw := Tw_at 1110 (by decide +kernel) (by decide +kernel)
theorem q_1112 : Cond.instanceMethod yX10_loudOf ∈ Tw := Tw_at 1112 (by decide +kernel) (by decide +kernel)
theorem q_1113 : Cond.code yX10_loudOf prog_12_method_9_code 2 (some .int) ∈ Tw := Tw_at 1113 (by decide +kernel) (by decide +kernel)
theorem q_1114 : Cond.methodLink RX10 152 yX10_fadesOf ∈ Tw := Tw_at 1114 (by decide +kernel) (by decide +kernel)
theorem q_1116 : Cond.instanceMethod yX10_fadesOf ∈ Tw := Tw_at 1116 (by decide +kernel) (by decide +kernel)
theorem q_1117 : Cond.code yX10_fadesOf prog_12_method_10_code 3 (some .int) ∈ Tw := Tw_at 1117 (by decide +kernel) (by decide +kernel)
theorem q_1118 : Cond.methodLink RX10 134 yX10_read ∈ Tw := Tw_at 1118 (by decide +kernel) (by decide +kernel)
theorem q_1120 : Cond.instanceMethod yX10_read ∈ Tw := Tw_at 1120 (by decide +kernel) (by decide +kernel)
theorem q_1121 : Cond.code yX10_read prog_12_method_31_code 10 (some .int) ∈ Tw := Tw_at 1121 (by decide +kernel) (by decide +kernel)
theorem q_1122 : Cond.methodLink RX10 219 yX10_next ∈ Tw := Tw_at 1122 (by decide +kernel) (by decide +kernel)
theorem q_1124 : Cond.instanceMethod yX10_next ∈ Tw := Tw_at 1124 (by decide +kernel) (by decide +kernel)
theorem q_1125 : Cond.code yX10_next prog_12_method_18_code 3 (none) ∈ Tw := Tw_at 1125 (by decide +kernel) (by decide +kernel)
theorem q_1126 : Cond.methodLink RX10 177 yX10_byteAt ∈ Tw := Tw_at 1126 (by decide +kernel) (by decide +kernel)
theorem q_1128 : Cond.instanceMethod yX10_byteAt ∈ Tw := Tw_at 1128 (by decide +kernel) (by decide +kernel)
theorem q_1129 : Cond.code yX10_byteAt prog_12_method_17_code 2 (some .int) ∈ Tw := Tw_at 1129 (by decide +kernel) (by decide +kernel)
theorem q_1130 : Cond.constantLong RX10 186 (97 : Int64) ∈ Tw := Tw_at 1130 (by decide +kernel) (by decide +kernel)
theorem q_1131 : Cond.constantLong RX10 188 (122 : Int64) ∈ Tw := Tw_at 1131 (by decide +kernel) (by decide +kernel)
theorem q_1132 : Cond.constantLong RX10 194 (27 : Int64) ∈ Tw := Tw_at 1132 (by decide +kernel) (by decide +kernel)
theorem q_1133 : Cond.constantLong RX10 196 (96 : Int64) ∈ Tw := Tw_at 1133 (by decide +kernel) (by decide +kernel)
theorem q_1134 : Cond.constantLong RX10 198 (-1 : Int64) ∈ Tw := Tw_at 1134 (by decide +kernel) (by decide +kernel)
theorem q_1135 : Cond.constantLong RX10 200 (48 : Int64) ∈ Tw := Tw_at 1135 (by decide +kernel) (by decide +kernel)
theorem q_1136 : Cond.constantLong RX10 202 (57 : Int64) ∈ Tw := Tw_at 1136 (by decide +kernel) (by decide +kernel)
theorem q_1137 : Cond.constantLong RX10 204 (10 : Int64) ∈ Tw := Tw_at 1137 (by decide +kernel) (by decide +kernel)
theorem q_1138 : Cond.constantLong RX10 292 (138767 : Int64) ∈ Tw := Tw_at 1138 (by decide +kernel) (by decide +kernel)
theorem q_1139 : Cond.methodLink RX10 294 yX10_part ∈ Tw := Tw_at 1139 (by decide +kernel) (by decide +kernel)
theorem q_1141 : Cond.instanceMethod yX10_part ∈ Tw := Tw_at 1141 (by decide +kernel) (by decide +kernel)
theorem q_1142 : Cond.code yX10_part prog_12_method_30_code 4 (some .int) ∈ Tw := Tw_at 1142 (by decide +kernel) (by decide +kernel)
theorem q_1143 : Cond.methodLink RX10 224 yX10_isWord ∈ Tw := Tw_at 1143 (by decide +kernel) (by decide +kernel)
theorem q_1145 : Cond.instanceMethod yX10_isWord ∈ Tw := Tw_at 1145 (by decide +kernel) (by decide +kernel)
theorem q_1146 : Cond.code yX10_isWord prog_12_method_20_code 3 (some .boolean) ∈ Tw := Tw_at 1146 (by decide +kernel) (by decide +kernel)
theorem q_1147 : Cond.methodLink RX10 216 yX10_fail ∈ Tw := Tw_at 1147 (by decide +kernel) (by decide +kernel)
theorem q_1149 : Cond.instanceMethod yX10_fail ∈ Tw := Tw_at 1149 (by decide +kernel) (by decide +kernel)
theorem q_1150 : Cond.code yX10_fail prog_12_method_19_code 1 (none) ∈ Tw := Tw_at 1150 (by decide +kernel) (by decide +kernel)
theorem q_1151 : Cond.methodLink RX10 264 yX10_either ∈ Tw := Tw_at 1151 (by decide +kernel) (by decide +kernel)
theorem q_1153 : Cond.instanceMethod yX10_either ∈ Tw := Tw_at 1153 (by decide +kernel) (by decide +kernel)
theorem q_1154 : Cond.code yX10_either prog_12_method_29_code 3 (some .int) ∈ Tw := Tw_at 1154 (by decide +kernel) (by decide +kernel)
theorem q_1155 : Cond.methodLink RX10 287 yX10_both ∈ Tw := Tw_at 1155 (by decide +kernel) (by decide +kernel)
theorem q_1157 : Cond.instanceMethod yX10_both ∈ Tw := Tw_at 1157 (by decide +kernel) (by decide +kernel)
theorem q_1158 : Cond.code yX10_both prog_12_method_28_code 3 (some .int) ∈ Tw := Tw_at 1158 (by decide +kernel) (by decide +kernel)
theorem q_1159 : Cond.methodLink RX10 277 yX10_not ∈ Tw := Tw_at 1159 (by decide +kernel) (by decide +kernel)
theorem q_1161 : Cond.instanceMethod yX10_not ∈ Tw := Tw_at 1161 (by decide +kernel) (by decide +kernel)
theorem q_1162 : Cond.code yX10_not prog_12_method_27_code 4 (some .int) ∈ Tw := Tw_at 1162 (by decide +kernel) (by decide +kernel)
theorem q_1163 : Cond.constantLong RX10 275 (10631 : Int64) ∈ Tw := Tw_at 1163 (by decide +kernel) (by decide +kernel)
theorem q_1164 : Cond.methodLink RX10 256 yX10_opens ∈ Tw := Tw_at 1164 (by decide +kernel) (by decide +kernel)
theorem q_1166 : Cond.instanceMethod yX10_opens ∈ Tw := Tw_at 1166 (by decide +kernel) (by decide +kernel)
theorem q_1167 : Cond.code yX10_opens prog_12_method_22_code 1 (some .boolean) ∈ Tw := Tw_at 1167 (by decide +kernel) (by decide +kernel)
theorem q_1168 : Cond.methodLink RX10 280 yX10_added ∈ Tw := Tw_at 1168 (by decide +kernel) (by decide +kernel)
theorem q_1170 : Cond.instanceMethod yX10_added ∈ Tw := Tw_at 1170 (by decide +kernel) (by decide +kernel)
theorem q_1171 : Cond.code yX10_added prog_12_method_26_code 4 (some .int) ∈ Tw := Tw_at 1171 (by decide +kernel) (by decide +kernel)
theorem q_1172 : Cond.methodLink RX10 270 yX10_term ∈ Tw := Tw_at 1172 (by decide +kernel) (by decide +kernel)
theorem q_1174 : Cond.instanceMethod yX10_term ∈ Tw := Tw_at 1174 (by decide +kernel) (by decide +kernel)
theorem q_1175 : Cond.code yX10_term prog_12_method_25_code 2 (some .int) ∈ Tw := Tw_at 1175 (by decide +kernel) (by decide +kernel)
theorem q_1176 : Cond.methodLink RX10 260 yX10_one ∈ Tw := Tw_at 1176 (by decide +kernel) (by decide +kernel)
theorem q_1178 : Cond.instanceMethod yX10_one ∈ Tw := Tw_at 1178 (by decide +kernel) (by decide +kernel)
theorem q_1179 : Cond.code yX10_one prog_12_method_24_code 2 (some .int) ∈ Tw := Tw_at 1179 (by decide +kernel) (by decide +kernel)
theorem q_1180 : Cond.methodLink RX10 253 yX10_isSign ∈ Tw := Tw_at 1180 (by decide +kernel) (by decide +kernel)
theorem q_1182 : Cond.instanceMethod yX10_isSign ∈ Tw := Tw_at 1182 (by decide +kernel) (by decide +kernel)
theorem q_1183 : Cond.code yX10_isSign prog_12_method_21_code 2 (some .boolean) ∈ Tw := Tw_at 1183 (by decide +kernel) (by decide +kernel)
theorem q_1184 : Cond.methodLink RX10 267 yX10_name ∈ Tw := Tw_at 1184 (by decide +kernel) (by decide +kernel)
theorem q_1186 : Cond.instanceMethod yX10_name ∈ Tw := Tw_at 1186 (by decide +kernel) (by decide +kernel)
theorem q_1187 : Cond.code yX10_name prog_12_method_23_code 1 (some .int) ∈ Tw := Tw_at 1187 (by decide +kernel) (by decide +kernel)
theorem q_1188 : Cond.constantLong RX10 222 (206756339381 : Int64) ∈ Tw := Tw_at 1188 (by decide +kernel) (by decide +kernel)
theorem q_1189 : Cond.constantLong RX10 231 (14431 : Int64) ∈ Tw := Tw_at 1189 (by decide +kernel) (by decide +kernel)
theorem q_1190 : Cond.constantLong RX10 236 (12532058 : Int64) ∈ Tw := Tw_at 1190 (by decide +kernel) (by decide +kernel)
theorem q_1191 : Cond.constantLong RX10 241 (223456 : Int64) ∈ Tw := Tw_at 1191 (by decide +kernel) (by decide +kernel)
theorem q_1192 : Cond.constantLong RX10 243 (2968 : Int64) ∈ Tw := Tw_at 1192 (by decide +kernel) (by decide +kernel)
theorem q_1193 : Cond.constantLong RX10 248 (10989714 : Int64) ∈ Tw := Tw_at 1193 (by decide +kernel) (by decide +kernel)
theorem q_1194 : Cond.constantLong RX10 273 (43 : Int64) ∈ Tw := Tw_at 1194 (by decide +kernel) (by decide +kernel)
theorem q_1195 : Cond.constantLong RX10 283 (60 : Int64) ∈ Tw := Tw_at 1195 (by decide +kernel) (by decide +kernel)
theorem q_1196 : Cond.constantLong RX10 285 (1111 : Int64) ∈ Tw := Tw_at 1196 (by decide +kernel) (by decide +kernel)
theorem q_1197 : Cond.constantLong RX10 290 (423 : Int64) ∈ Tw := Tw_at 1197 (by decide +kernel) (by decide +kernel)
theorem q_1198 : Cond.constantLong RX10 298 (118940 : Int64) ∈ Tw := Tw_at 1198 (by decide +kernel) (by decide +kernel)
theorem q_1199 : Cond.constantLong RX10 300 (92275 : Int64) ∈ Tw := Tw_at 1199 (by decide +kernel) (by decide +kernel)
theorem q_1200 : Cond.methodLink RX10 138 yX10_within ∈ Tw := Tw_at 1200 (by decide +kernel) (by decide +kernel)
theorem q_1201 : Cond.static yX10_within ∈ Tw := Tw_at 1201 (by decide +kernel) (by decide +kernel)
theorem q_1202 : Cond.code yX10_within prog_12_method_3_code 3 (some .int) ∈ Tw := Tw_at 1202 (by decide +kernel) (by decide +kernel)
theorem q_1203 : Cond.methodLink RL 27 yX10_worth ∈ Tw := Tw_at 1203 (by decide +kernel) (by decide +kernel)
theorem q_1204 : Cond.instanceMethod yX10_worth ∈ Tw := Tw_at 1204 (by decide +kernel) (by decide +kernel)
theorem q_1205 : Cond.selects RX10 yX10_worth yX10_worth ∈ Tw := Tw_at 1205 (by decide +kernel) (by decide +kernel)
theorem q_1206 : Cond.code yX10_worth prog_12_method_12_code 4 (some .int) ∈ Tw := Tw_at 1206 (by decide +kernel) (by decide +kernel)
theorem q_1207 : Cond.constantLong RX10 155 (3 : Int64) ∈ Tw := Tw_at 1207 (by decide +kernel) (by decide +kernel)
theorem q_1208 : Cond.constantLong RX10 157 (-2000 : Int64) ∈ Tw := Tw_at 1208 (by decide +kernel) (by decide +kernel)
theorem q_1209 : Cond.constantLong RX10 159 (2000 : Int64) ∈ Tw := Tw_at 1209 (by decide +kernel) (by decide +kernel)
theorem q_1210 : Cond.methodLink RL 32 yX10_goes ∈ Tw := Tw_at 1210 (by decide +kernel) (by decide +kernel)
theorem q_1211 : Cond.instanceMethod yX10_goes ∈ Tw := Tw_at 1211 (by decide +kernel) (by decide +kernel)
theorem q_1212 : Cond.selects RX10 yX10_goes yX10_goes ∈ Tw := Tw_at 1212 (by decide +kernel) (by decide +kernel)
theorem q_1213 : Cond.code yX10_goes prog_12_method_13_code 5 (some .int) ∈ Tw := Tw_at 1213 (by decide +kernel) (by decide +kernel)
theorem q_1214 : Cond.constantLong RX10 161 (100 : Int64) ∈ Tw := Tw_at 1214 (by decide +kernel) (by decide +kernel)
theorem q_1215 : Cond.methodLink RL 36 yX10_like ∈ Tw := Tw_at 1215 (by decide +kernel) (by decide +kernel)
theorem q_1216 : Cond.instanceMethod yX10_like ∈ Tw := Tw_at 1216 (by decide +kernel) (by decide +kernel)
theorem q_1217 : Cond.selects RX10 yX10_like yX10_like ∈ Tw := Tw_at 1217 (by decide +kernel) (by decide +kernel)
theorem q_1218 : Cond.code yX10_like prog_12_method_14_code 5 (some .int) ∈ Tw := Tw_at 1218 (by decide +kernel) (by decide +kernel)
theorem q_1219 : Cond.methodLink RL 40 yX10_pace ∈ Tw := Tw_at 1219 (by decide +kernel) (by decide +kernel)
theorem q_1220 : Cond.instanceMethod yX10_pace ∈ Tw := Tw_at 1220 (by decide +kernel) (by decide +kernel)
theorem q_1221 : Cond.selects RX10 yX10_pace yX10_pace ∈ Tw := Tw_at 1221 (by decide +kernel) (by decide +kernel)
theorem q_1222 : Cond.code yX10_pace prog_12_method_15_code 3 (some .int) ∈ Tw := Tw_at 1222 (by decide +kernel) (by decide +kernel)
theorem q_1223 : Cond.methodLink RL 47 yX10_feed ∈ Tw := Tw_at 1223 (by decide +kernel) (by decide +kernel)
theorem q_1224 : Cond.instanceMethod yX10_feed ∈ Tw := Tw_at 1224 (by decide +kernel) (by decide +kernel)
theorem q_1225 : Cond.selects RX10 yX10_feed yX10_feed ∈ Tw := Tw_at 1225 (by decide +kernel) (by decide +kernel)
theorem q_1226 : Cond.code yX10_feed prog_12_method_16_code 5 (some .int) ∈ Tw := Tw_at 1226 (by decide +kernel) (by decide +kernel)
theorem q_1227 : Cond.constantLong RX10 163 (8 : Int64) ∈ Tw := Tw_at 1227 (by decide +kernel) (by decide +kernel)
theorem q_1228 : Cond.methodLink RL 52 yX10_text ∈ Tw := Tw_at 1228 (by decide +kernel) (by decide +kernel)
theorem q_1229 : Cond.instanceMethod yX10_text ∈ Tw := Tw_at 1229 (by decide +kernel) (by decide +kernel)
theorem q_1230 : Cond.selects RX10 yX10_text yX10_text ∈ Tw := Tw_at 1230 (by decide +kernel) (by decide +kernel)
theorem q_1231 : Cond.code yX10_text prog_12_method_32_code 2 (some .int) ∈ Tw := Tw_at 1231 (by decide +kernel) (by decide +kernel)
theorem q_1232 : Cond.methodLink RL 56 yX10_force ∈ Tw := Tw_at 1232 (by decide +kernel) (by decide +kernel)
theorem q_1233 : Cond.instanceMethod yX10_force ∈ Tw := Tw_at 1233 (by decide +kernel) (by decide +kernel)
theorem q_1234 : Cond.selects RX10 yX10_force yX10_force ∈ Tw := Tw_at 1234 (by decide +kernel) (by decide +kernel)
theorem q_1235 : Cond.code yX10_force prog_12_method_33_code 3 (some .int) ∈ Tw := Tw_at 1235 (by decide +kernel) (by decide +kernel)
theorem q_1236 : Cond.methodLink RL 60 yX10_plan ∈ Tw := Tw_at 1236 (by decide +kernel) (by decide +kernel)
theorem q_1237 : Cond.instanceMethod yX10_plan ∈ Tw := Tw_at 1237 (by decide +kernel) (by decide +kernel)
theorem q_1238 : Cond.selects RX10 yX10_plan yX10_plan ∈ Tw := Tw_at 1238 (by decide +kernel) (by decide +kernel)
theorem q_1239 : Cond.code yX10_plan prog_12_method_35_code 8 (some .int) ∈ Tw := Tw_at 1239 (by decide +kernel) (by decide +kernel)
theorem q_1240 : Cond.methodLink RX10 305 yX10_endOf ∈ Tw := Tw_at 1240 (by decide +kernel) (by decide +kernel)
theorem q_1241 : Cond.static yX10_endOf ∈ Tw := Tw_at 1241 (by decide +kernel) (by decide +kernel)
theorem q_1242 : Cond.code yX10_endOf prog_12_method_34_code 1 (some .int) ∈ Tw := Tw_at 1242 (by decide +kernel) (by decide +kernel)
theorem q_1243 : Cond.methodLink RL 64 yX10_planned ∈ Tw := Tw_at 1243 (by decide +kernel) (by decide +kernel)
theorem q_1244 : Cond.instanceMethod yX10_planned ∈ Tw := Tw_at 1244 (by decide +kernel) (by decide +kernel)
theorem q_1245 : Cond.selects RX10 yX10_planned yX10_planned ∈ Tw := Tw_at 1245 (by decide +kernel) (by decide +kernel)
theorem q_1246 : Cond.code yX10_planned prog_12_method_37_code 4 (some .int) ∈ Tw := Tw_at 1246 (by decide +kernel) (by decide +kernel)
theorem q_1247 : Cond.methodLink RX10 308 yX10_isPlan ∈ Tw := Tw_at 1247 (by decide +kernel) (by decide +kernel)
theorem q_1249 : Cond.instanceMethod yX10_isPlan ∈ Tw := Tw_at 1249 (by decide +kernel) (by decide +kernel)
theorem q_1250 : Cond.code yX10_isPlan prog_12_method_36_code 2 (some .boolean) ∈ Tw := Tw_at 1250 (by decide +kernel) (by decide +kernel)
theorem q_1251 : Cond.methodLink RL 68 yX10_trial ∈ Tw := Tw_at 1251 (by decide +kernel) (by decide +kernel)
theorem q_1252 : Cond.instanceMethod yX10_trial ∈ Tw := Tw_at 1252 (by decide +kernel) (by decide +kernel)
theorem q_1253 : Cond.selects RX10 yX10_trial yX10_trial ∈ Tw := Tw_at 1253 (by decide +kernel) (by decide +kernel)
theorem q_1254 : Cond.code yX10_trial prog_12_method_44_code 3 (some .long) ∈ Tw := Tw_at 1254 (by decide +kernel) (by decide +kernel)
theorem q_1255 : Cond.methodLink RX10 331 yX10_isSet ∈ Tw := Tw_at 1255 (by decide +kernel) (by decide +kernel)
theorem q_1257 : Cond.instanceMethod yX10_isSet ∈ Tw := Tw_at 1257 (by decide +kernel) (by decide +kernel)
theorem q_1258 : Cond.code yX10_isSet prog_12_method_7_code 2 (some .boolean) ∈ Tw := Tw_at 1258 (by decide +kernel) (by decide +kernel)
theorem q_1259 : Cond.methodLink RX10 324 yX10_counts ∈ Tw := Tw_at 1259 (by decide +kernel) (by decide +kernel)
theorem q_1261 : Cond.instanceMethod yX10_counts ∈ Tw := Tw_at 1261 (by decide +kernel) (by decide +kernel)
theorem q_1262 : Cond.code yX10_counts prog_12_method_47_code 4 (none) ∈ Tw := Tw_at 1262 (by decide +kernel) (by decide +kernel)
theorem q_1263 : Cond.methodLink RX10 320 yX10_tries ∈ Tw := Tw_at 1263 (by decide +kernel) (by decide +kernel)
theorem q_1265 : Cond.instanceMethod yX10_tries ∈ Tw := Tw_at 1265 (by decide +kernel) (by decide +kernel)
theorem q_1266 : Cond.code yX10_tries prog_12_method_41_code 8 (some .int) ∈ Tw := Tw_at 1266 (by decide +kernel) (by decide +kernel)
theorem q_1267 : Cond.methodLink RX10 314 yX10_sumOf ∈ Tw := Tw_at 1267 (by decide +kernel) (by decide +kernel)
theorem q_1269 : Cond.instanceMethod yX10_sumOf ∈ Tw := Tw_at 1269 (by decide +kernel) (by decide +kernel)
theorem q_1270 : Cond.code yX10_sumOf prog_12_method_38_code 5 (some .int) ∈ Tw := Tw_at 1270 (by decide +kernel) (by decide +kernel)
theorem q_1271 : Cond.methodLink RL 72 yX10_sum ∈ Tw := Tw_at 1271 (by decide +kernel) (by decide +kernel)
theorem q_1272 : Cond.instanceMethod yX10_sum ∈ Tw := Tw_at 1272 (by decide +kernel) (by decide +kernel)
theorem q_1273 : Cond.selects RX10 yX10_sum yX10_sum ∈ Tw := Tw_at 1273 (by decide +kernel) (by decide +kernel)
theorem q_1274 : Cond.code yX10_sum prog_12_method_45_code 3 (some .long) ∈ Tw := Tw_at 1274 (by decide +kernel) (by decide +kernel)
theorem q_1275 : Cond.methodLink RX10 334 yX10_dropsOf ∈ Tw := Tw_at 1275 (by decide +kernel) (by decide +kernel)
theorem q_1277 : Cond.instanceMethod yX10_dropsOf ∈ Tw := Tw_at 1277 (by decide +kernel) (by decide +kernel)
theorem q_1278 : Cond.code yX10_dropsOf prog_12_method_40_code 2 (some .int) ∈ Tw := Tw_at 1278 (by decide +kernel) (by decide +kernel)
theorem q_1279 : Cond.methodLink RX10 311 yX10_leastOf ∈ Tw := Tw_at 1279 (by decide +kernel) (by decide +kernel)
theorem q_1281 : Cond.instanceMethod yX10_leastOf ∈ Tw := Tw_at 1281 (by decide +kernel) (by decide +kernel)
theorem q_1282 : Cond.code yX10_leastOf prog_12_method_39_code 3 (some .int) ∈ Tw := Tw_at 1282 (by decide +kernel) (by decide +kernel)
theorem q_1283 : Cond.methodLink RL 76 yX10_days ∈ Tw := Tw_at 1283 (by decide +kernel) (by decide +kernel)
theorem q_1284 : Cond.instanceMethod yX10_days ∈ Tw := Tw_at 1284 (by decide +kernel) (by decide +kernel)
theorem q_1285 : Cond.selects RX10 yX10_days yX10_days ∈ Tw := Tw_at 1285 (by decide +kernel) (by decide +kernel)
theorem q_1286 : Cond.code yX10_days prog_12_method_46_code 4 (some .int) ∈ Tw := Tw_at 1286 (by decide +kernel) (by decide +kernel)
theorem q_1287 : Cond.constantLong RX10 337 (50 : Int64) ∈ Tw := Tw_at 1287 (by decide +kernel) (by decide +kernel)
theorem q_1288 : Cond.methodLink RX10 339 yX10_goesBy ∈ Tw := Tw_at 1288 (by decide +kernel) (by decide +kernel)
theorem q_1290 : Cond.instanceMethod yX10_goesBy ∈ Tw := Tw_at 1290 (by decide +kernel) (by decide +kernel)
theorem q_1291 : Cond.code yX10_goesBy prog_12_method_43_code 5 (none) ∈ Tw := Tw_at 1291 (by decide +kernel) (by decide +kernel)
theorem q_1292 : Cond.methodLink RX10 328 yX10_fades ∈ Tw := Tw_at 1292 (by decide +kernel) (by decide +kernel)
theorem q_1294 : Cond.instanceMethod yX10_fades ∈ Tw := Tw_at 1294 (by decide +kernel) (by decide +kernel)
theorem q_1295 : Cond.code yX10_fades prog_12_method_42_code 2 (none) ∈ Tw := Tw_at 1295 (by decide +kernel) (by decide +kernel)
theorem q_1296 : Cond.methodLink RL 89 yX10_counted ∈ Tw := Tw_at 1296 (by decide +kernel) (by decide +kernel)
theorem q_1297 : Cond.instanceMethod yX10_counted ∈ Tw := Tw_at 1297 (by decide +kernel) (by decide +kernel)
theorem q_1298 : Cond.selects RX10 yX10_counted yX10_counted ∈ Tw := Tw_at 1298 (by decide +kernel) (by decide +kernel)
theorem q_1299 : Cond.code yX10_counted prog_12_method_50_code 18 (some .long) ∈ Tw := Tw_at 1299 (by decide +kernel) (by decide +kernel)
theorem q_1300 : Cond.methodLink RX10 343 yX10_trialsOfAll ∈ Tw := Tw_at 1300 (by decide +kernel) (by decide +kernel)
theorem q_1302 : Cond.instanceMethod yX10_trialsOfAll ∈ Tw := Tw_at 1302 (by decide +kernel) (by decide +kernel)
theorem q_1303 : Cond.code yX10_trialsOfAll prog_12_method_48_code 1 (some .int) ∈ Tw := Tw_at 1303 (by decide +kernel) (by decide +kernel)
theorem q_1304 : Cond.methodLink RX10 346 yX10_common ∈ Tw := Tw_at 1304 (by decide +kernel) (by decide +kernel)
theorem q_1305 : Cond.static yX10_common ∈ Tw := Tw_at 1305 (by decide +kernel) (by decide +kernel)
theorem q_1306 : Cond.code yX10_common prog_12_method_49_code 10 (some .long) ∈ Tw := Tw_at 1306 (by decide +kernel) (by decide +kernel)
theorem q_1307 : Cond.methodLink RL 80 yX10_rests ∈ Tw := Tw_at 1307 (by decide +kernel) (by decide +kernel)
theorem q_1308 : Cond.instanceMethod yX10_rests ∈ Tw := Tw_at 1308 (by decide +kernel) (by decide +kernel)
theorem q_1309 : Cond.selects RX10 yX10_rests yX10_rests ∈ Tw := Tw_at 1309 (by decide +kernel) (by decide +kernel)
theorem q_1310 : Cond.code yX10_rests prog_12_method_53_code 7 (some .int) ∈ Tw := Tw_at 1310 (by decide +kernel) (by decide +kernel)
theorem q_1311 : Cond.methodLink RX10 359 yX10_laysAside ∈ Tw := Tw_at 1311 (by decide +kernel) (by decide +kernel)
theorem q_1313 : Cond.instanceMethod yX10_laysAside ∈ Tw := Tw_at 1313 (by decide +kernel) (by decide +kernel)
theorem q_1314 : Cond.code yX10_laysAside prog_12_method_51_code 3 (none) ∈ Tw := Tw_at 1314 (by decide +kernel) (by decide +kernel)
theorem q_1315 : Cond.methodLink RX10 363 yX10_laysBack ∈ Tw := Tw_at 1315 (by decide +kernel) (by decide +kernel)
theorem q_1317 : Cond.instanceMethod yX10_laysBack ∈ Tw := Tw_at 1317 (by decide +kernel) (by decide +kernel)
theorem q_1318 : Cond.code yX10_laysBack prog_12_method_52_code 2 (none) ∈ Tw := Tw_at 1318 (by decide +kernel) (by decide +kernel)
theorem q_1319 : Cond.methodLink RL 84 yX10_blocked ∈ Tw := Tw_at 1319 (by decide +kernel) (by decide +kernel)
theorem q_1320 : Cond.instanceMethod yX10_blocked ∈ Tw := Tw_at 1320 (by decide +kernel) (by decide +kernel)
theorem q_1321 : Cond.selects RX10 yX10_blocked yX10_blocked ∈ Tw := Tw_at 1321 (by decide +kernel) (by decide +kernel)
theorem q_1322 : Cond.code yX10_blocked prog_12_method_54_code 9 (some .int) ∈ Tw := Tw_at 1322 (by decide +kernel) (by decide +kernel)
theorem q_1323 : Cond.methodLink RL 93 yX10_watched ∈ Tw := Tw_at 1323 (by decide +kernel) (by decide +kernel)
theorem q_1324 : Cond.instanceMethod yX10_watched ∈ Tw := Tw_at 1324 (by decide +kernel) (by decide +kernel)
theorem q_1325 : Cond.selects RX10 yX10_watched yX10_watched ∈ Tw := Tw_at 1325 (by decide +kernel) (by decide +kernel)
theorem q_1326 : Cond.code yX10_watched prog_12_method_55_code 4 (some .int) ∈ Tw := Tw_at 1326 (by decide +kernel) (by decide +kernel)
theorem q_1327 : Cond.constantLong RX10 366 (99 : Int64) ∈ Tw := Tw_at 1327 (by decide +kernel) (by decide +kernel)
theorem q_1328 : Cond.methodLink RL 97 yX10_lets ∈ Tw := Tw_at 1328 (by decide +kernel) (by decide +kernel)
theorem q_1329 : Cond.instanceMethod yX10_lets ∈ Tw := Tw_at 1329 (by decide +kernel) (by decide +kernel)
theorem q_1330 : Cond.selects RX10 yX10_lets yX10_lets ∈ Tw := Tw_at 1330 (by decide +kernel) (by decide +kernel)
theorem q_1331 : Cond.code yX10_lets prog_12_method_58_code 3 (some .int) ∈ Tw := Tw_at 1331 (by decide +kernel) (by decide +kernel)
theorem q_1332 : Cond.constantLong RX10 386 (2 : Int64) ∈ Tw := Tw_at 1332 (by decide +kernel) (by decide +kernel)
theorem q_1333 : Cond.methodLink RX10 388 yX10_letsAll ∈ Tw := Tw_at 1333 (by decide +kernel) (by decide +kernel)
theorem q_1335 : Cond.instanceMethod yX10_letsAll ∈ Tw := Tw_at 1335 (by decide +kernel) (by decide +kernel)
theorem q_1336 : Cond.code yX10_letsAll prog_12_method_57_code 4 (none) ∈ Tw := Tw_at 1336 (by decide +kernel) (by decide +kernel)
theorem q_1337 : Cond.methodLink RX10 383 yX10_letsTill ∈ Tw := Tw_at 1337 (by decide +kernel) (by decide +kernel)
theorem q_1339 : Cond.instanceMethod yX10_letsTill ∈ Tw := Tw_at 1339 (by decide +kernel) (by decide +kernel)
theorem q_1340 : Cond.code yX10_letsTill prog_12_method_56_code 5 (some .int) ∈ Tw := Tw_at 1340 (by decide +kernel) (by decide +kernel)
theorem q_1341 : Cond.methodLink RL 101 yX10_thrownOut ∈ Tw := Tw_at 1341 (by decide +kernel) (by decide +kernel)
theorem q_1342 : Cond.instanceMethod yX10_thrownOut ∈ Tw := Tw_at 1342 (by decide +kernel) (by decide +kernel)
theorem q_1343 : Cond.selects RX10 yX10_thrownOut yX10_thrownOut ∈ Tw := Tw_at 1343 (by decide +kernel) (by decide +kernel)
theorem q_1344 : Cond.code yX10_thrownOut prog_12_method_59_code 2 (some .int) ∈ Tw := Tw_at 1344 (by decide +kernel) (by decide +kernel)
theorem q_1345 : Cond.methodLink RL 105 yX10_next_ ∈ Tw := Tw_at 1345 (by decide +kernel) (by decide +kernel)
theorem q_1346 : Cond.instanceMethod yX10_next_ ∈ Tw := Tw_at 1346 (by decide +kernel) (by decide +kernel)
theorem q_1347 : Cond.selects RX10 yX10_next_ yX10_next_ ∈ Tw := Tw_at 1347 (by decide +kernel) (by decide +kernel)
theorem q_1348 : Cond.code yX10_next_ prog_12_method_61_code 8 (some .int) ∈ Tw := Tw_at 1348 (by decide +kernel) (by decide +kernel)
theorem q_1349 : Cond.methodLink RX10 392 yX10_behind ∈ Tw := Tw_at 1349 (by decide +kernel) (by decide +kernel)
theorem q_1351 : Cond.instanceMethod yX10_behind ∈ Tw := Tw_at 1351 (by decide +kernel) (by decide +kernel)
theorem q_1352 : Cond.code yX10_behind prog_12_method_60_code 5 (some .int) ∈ Tw := Tw_at 1352 (by decide +kernel) (by decide +kernel)
theorem q_1353 : Cond.methodLink RL 110 yX10_near ∈ Tw := Tw_at 1353 (by decide +kernel) (by decide +kernel)
theorem q_1354 : Cond.instanceMethod yX10_near ∈ Tw := Tw_at 1354 (by decide +kernel) (by decide +kernel)
theorem q_1355 : Cond.selects RX10 yX10_near yX10_near ∈ Tw := Tw_at 1355 (by decide +kernel) (by decide +kernel)
theorem q_1356 : Cond.code yX10_near prog_12_method_62_code 10 (some .int) ∈ Tw := Tw_at 1356 (by decide +kernel) (by decide +kernel)
theorem q_1357 : Cond.constantLong RX10 395 (20 : Int64) ∈ Tw := Tw_at 1357 (by decide +kernel) (by decide +kernel)
theorem q_1358 : Cond.methodLink RL 114 yX10_image ∈ Tw := Tw_at 1358 (by decide +kernel) (by decide +kernel)
theorem q_1359 : Cond.instanceMethod yX10_image ∈ Tw := Tw_at 1359 (by decide +kernel) (by decide +kernel)
theorem q_1360 : Cond.selects RX10 yX10_image yX10_image ∈ Tw := Tw_at 1360 (by decide +kernel) (by decide +kernel)
theorem q_1361 : Cond.code yX10_image prog_12_method_63_code 2 (some .int) ∈ Tw := Tw_at 1361 (by decide +kernel) (by decide +kernel)
theorem q_1362 : Cond.methodLink RL 118 yX10_back ∈ Tw := Tw_at 1362 (by decide +kernel) (by decide +kernel)
theorem q_1363 : Cond.instanceMethod yX10_back ∈ Tw := Tw_at 1363 (by decide +kernel) (by decide +kernel)
theorem q_1364 : Cond.selects RX10 yX10_back yX10_back ∈ Tw := Tw_at 1364 (by decide +kernel) (by decide +kernel)
theorem q_1365 : Cond.code yX10_back prog_12_method_64_code 2 (some .int) ∈ Tw := Tw_at 1365 (by decide +kernel) (by decide +kernel)
theorem q_1366 : Cond.methodLink RL 122 yX10_count ∈ Tw := Tw_at 1366 (by decide +kernel) (by decide +kernel)
theorem q_1367 : Cond.instanceMethod yX10_count ∈ Tw := Tw_at 1367 (by decide +kernel) (by decide +kernel)
theorem q_1368 : Cond.selects RX10 yX10_count yX10_count ∈ Tw := Tw_at 1368 (by decide +kernel) (by decide +kernel)
theorem q_1369 : Cond.code yX10_count prog_12_method_65_code 2 (some .int) ∈ Tw := Tw_at 1369 (by decide +kernel) (by decide +kernel)
theorem q_1370 : Cond.methodLink RL 126 yX10_sheet ∈ Tw := Tw_at 1370 (by decide +kernel) (by decide +kernel)
theorem q_1371 : Cond.instanceMethod yX10_sheet ∈ Tw := Tw_at 1371 (by decide +kernel) (by decide +kernel)
theorem q_1372 : Cond.selects RX10 yX10_sheet yX10_sheet ∈ Tw := Tw_at 1372 (by decide +kernel) (by decide +kernel)
theorem q_1373 : Cond.code yX10_sheet prog_12_method_67_code 5 (some .int) ∈ Tw := Tw_at 1373 (by decide +kernel) (by decide +kernel)
theorem q_1374 : Cond.methodLink RX10 415 yX10_isSheet ∈ Tw := Tw_at 1374 (by decide +kernel) (by decide +kernel)
theorem q_1375 : Cond.static yX10_isSheet ∈ Tw := Tw_at 1375 (by decide +kernel) (by decide +kernel)
theorem q_1376 : Cond.code yX10_isSheet prog_12_method_66_code 1 (some .boolean) ∈ Tw := Tw_at 1376 (by decide +kernel) (by decide +kernel)
theorem q_1377 : Cond.methodLink RL 130 yX10_cell ∈ Tw := Tw_at 1377 (by decide +kernel) (by decide +kernel)
theorem q_1378 : Cond.instanceMethod yX10_cell ∈ Tw := Tw_at 1378 (by decide +kernel) (by decide +kernel)
theorem q_1379 : Cond.selects RX10 yX10_cell yX10_cell ∈ Tw := Tw_at 1379 (by decide +kernel) (by decide +kernel)
theorem q_1380 : Cond.code yX10_cell prog_12_method_68_code 4 (some .int) ∈ Tw := Tw_at 1380 (by decide +kernel) (by decide +kernel)
theorem q_1381 : Cond.methodLink RL 134 yX10_copy ∈ Tw := Tw_at 1381 (by decide +kernel) (by decide +kernel)
theorem q_1382 : Cond.instanceMethod yX10_copy ∈ Tw := Tw_at 1382 (by decide +kernel) (by decide +kernel)
theorem q_1383 : Cond.selects RX10 yX10_copy yX10_copy ∈ Tw := Tw_at 1383 (by decide +kernel) (by decide +kernel)
theorem q_1384 : Cond.code yX10_copy prog_12_method_69_code 9 (some .int) ∈ Tw := Tw_at 1384 (by decide +kernel) (by decide +kernel)
theorem q_1385 : Cond.methodLink RL 139 yX10_trials ∈ Tw := Tw_at 1385 (by decide +kernel) (by decide +kernel)
theorem q_1386 : Cond.instanceMethod yX10_trials ∈ Tw := Tw_at 1386 (by decide +kernel) (by decide +kernel)
theorem q_1387 : Cond.selects RX10 yX10_trials yX10_trials ∈ Tw := Tw_at 1387 (by decide +kernel) (by decide +kernel)
theorem q_1388 : Cond.code yX10_trials prog_12_method_70_code 8 (some .int) ∈ Tw := Tw_at 1388 (by decide +kernel) (by decide +kernel)
theorem q_1389 : Cond.methodLink RX10 418 yX10_trial ∈ Tw := Tw_at 1389 (by decide +kernel) (by decide +kernel)
theorem q_1390 : Cond.methodLink RL 143 yX10_taken ∈ Tw := Tw_at 1390 (by decide +kernel) (by decide +kernel)
theorem q_1391 : Cond.instanceMethod yX10_taken ∈ Tw := Tw_at 1391 (by decide +kernel) (by decide +kernel)
theorem q_1392 : Cond.selects RX10 yX10_taken yX10_taken ∈ Tw := Tw_at 1392 (by decide +kernel) (by decide +kernel)
theorem q_1393 : Cond.code yX10_taken prog_12_method_72_code 4 (some .int) ∈ Tw := Tw_at 1393 (by decide +kernel) (by decide +kernel)
theorem q_1394 : Cond.methodLink RX10 422 yX10_over ∈ Tw := Tw_at 1394 (by decide +kernel) (by decide +kernel)
theorem q_1395 : Cond.static yX10_over ∈ Tw := Tw_at 1395 (by decide +kernel) (by decide +kernel)
theorem q_1396 : Cond.code yX10_over prog_12_method_71_code 1 (some .int) ∈ Tw := Tw_at 1396 (by decide +kernel) (by decide +kernel)
theorem q_1397 : Cond.constantLong RL 41 (4294967295 : Int64) ∈ Tw := Tw_at 1397 (by decide +kernel) (by decide +kernel)
theorem q_1398 : Cond.fieldLink RJ0 9 RJ0 "value" "[B" ∈ Tw := Tw_at 1398 (by decide +kernel) (by decide +kernel)
theorem q_1399 : Cond.fieldLink RJ0 15 RJ0 "coder" "B" ∈ Tw := Tw_at 1399 (by decide +kernel) (by decide +kernel)
theorem qs_0 : Cond.selects RX0 yX0_says yX0_says ∈ Tw := Tw_sel 0 (by decide +kernel) (by decide +kernel)
theorem qs_1 : Cond.selects RX6 yX6_advance yX6_advance ∈ Tw := Tw_sel 1 (by decide +kernel) (by decide +kernel)
theorem qs_2 : Cond.selects RX6 yX6_wordToken yX6_wordToken ∈ Tw := Tw_sel 2 (by decide +kernel) (by decide +kernel)
theorem qs_3 : Cond.selects RX6 yX6_isWord yX6_isWord ∈ Tw := Tw_sel 3 (by decide +kernel) (by decide +kernel)
theorem qs_4 : Cond.selects RX6 yX6_numberToken yX6_numberToken ∈ Tw := Tw_sel 4 (by decide +kernel) (by decide +kernel)
theorem qs_5 : Cond.selects RX6 yX6_expect yX6_expect ∈ Tw := Tw_sel 5 (by decide +kernel) (by decide +kernel)
theorem qs_6 : Cond.selects RX6 yX6_refuse yX6_refuse ∈ Tw := Tw_sel 6 (by decide +kernel) (by decide +kernel)
theorem qs_7 : Cond.selects RX6 yX6_readOr yX6_readOr ∈ Tw := Tw_sel 7 (by decide +kernel) (by decide +kernel)
theorem qs_8 : Cond.selects RX6 yX6_readAnd yX6_readAnd ∈ Tw := Tw_sel 8 (by decide +kernel) (by decide +kernel)
theorem qs_9 : Cond.selects RX6 yX6_readNot yX6_readNot ∈ Tw := Tw_sel 9 (by decide +kernel) (by decide +kernel)
theorem qs_10 : Cond.selects RX6 yX6_write yX6_write ∈ Tw := Tw_sel 10 (by decide +kernel) (by decide +kernel)
theorem qs_11 : Cond.selects RX6 yX6_readSum yX6_readSum ∈ Tw := Tw_sel 11 (by decide +kernel) (by decide +kernel)
theorem qs_12 : Cond.selects RX6 yX6_readTerm yX6_readTerm ∈ Tw := Tw_sel 12 (by decide +kernel) (by decide +kernel)
theorem qs_13 : Cond.selects RX6 yX6_readOne yX6_readOne ∈ Tw := Tw_sel 13 (by decide +kernel) (by decide +kernel)
theorem qs_14 : Cond.selects RX2 yX2_refused yX2_refused ∈ Tw := Tw_sel 14 (by decide +kernel) (by decide +kernel)
theorem qs_15 : Cond.selects RX0 yX0_lentTo yX0_lentTo ∈ Tw := Tw_sel 15 (by decide +kernel) (by decide +kernel)
theorem qs_16 : Cond.selects RX0 yX0_gainOf yX0_gainOf ∈ Tw := Tw_sel 16 (by decide +kernel) (by decide +kernel)
theorem qs_17 : Cond.selects RX9 yX9_isSomeSet yX9_isSomeSet ∈ Tw := Tw_sel 17 (by decide +kernel) (by decide +kernel)
theorem qs_18 : Cond.selects RX9 yX9_findPaces yX9_findPaces ∈ Tw := Tw_sel 18 (by decide +kernel) (by decide +kernel)
theorem qs_19 : Cond.selects RX9 yX9_firstOff yX9_firstOff ∈ Tw := Tw_sel 19 (by decide +kernel) (by decide +kernel)
theorem qs_20 : Cond.selects RX9 yX9_findFarthest yX9_findFarthest ∈ Tw := Tw_sel 20 (by decide +kernel) (by decide +kernel)
theorem qs_21 : Cond.selects RX9 yX9_dropsBehind yX9_dropsBehind ∈ Tw := Tw_sel 21 (by decide +kernel) (by decide +kernel)
theorem qs_22 : Cond.selects RX9 yX9_dropsApart yX9_dropsApart ∈ Tw := Tw_sel 22 (by decide +kernel) (by decide +kernel)
theorem qs_23 : Cond.selects RX10 yX10_spell yX10_spell ∈ Tw := Tw_sel 23 (by decide +kernel) (by decide +kernel)
theorem qs_24 : Cond.selects RX10 yX10_isOne yX10_isOne ∈ Tw := Tw_sel 24 (by decide +kernel) (by decide +kernel)
theorem qs_25 : Cond.selects RX10 yX10_loudOf yX10_loudOf ∈ Tw := Tw_sel 25 (by decide +kernel) (by decide +kernel)
theorem qs_26 : Cond.selects RX10 yX10_fadesOf yX10_fadesOf ∈ Tw := Tw_sel 26 (by decide +kernel) (by decide +kernel)
theorem qs_27 : Cond.selects RX10 yX10_read yX10_read ∈ Tw := Tw_sel 27 (by decide +kernel) (by decide +kernel)
theorem qs_28 : Cond.selects RX10 yX10_next yX10_next ∈ Tw := Tw_sel 28 (by decide +kernel) (by decide +kernel)
theorem qs_29 : Cond.selects RX10 yX10_byteAt yX10_byteAt ∈ Tw := Tw_sel 29 (by decide +kernel) (by decide +kernel)
theorem qs_30 : Cond.selects RX10 yX10_part yX10_part ∈ Tw := Tw_sel 30 (by decide +kernel) (by decide +kernel)
theorem qs_31 : Cond.selects RX10 yX10_isWord yX10_isWord ∈ Tw := Tw_sel 31 (by decide +kernel) (by decide +kernel)
theorem qs_32 : Cond.selects RX10 yX10_fail yX10_fail ∈ Tw := Tw_sel 32 (by decide +kernel) (by decide +kernel)
theorem qs_33 : Cond.selects RX10 yX10_either yX10_either ∈ Tw := Tw_sel 33 (by decide +kernel) (by decide +kernel)
theorem qs_34 : Cond.selects RX10 yX10_both yX10_both ∈ Tw := Tw_sel 34 (by decide +kernel) (by decide +kernel)
theorem qs_35 : Cond.selects RX10 yX10_not yX10_not ∈ Tw := Tw_sel 35 (by decide +kernel) (by decide +kernel)
theorem qs_36 : Cond.selects RX10 yX10_opens yX10_opens ∈ Tw := Tw_sel 36 (by decide +kernel) (by decide +kernel)
theorem qs_37 : Cond.selects RX10 yX10_added yX10_added ∈ Tw := Tw_sel 37 (by decide +kernel) (by decide +kernel)
theorem qs_38 : Cond.selects RX10 yX10_term yX10_term ∈ Tw := Tw_sel 38 (by decide +kernel) (by decide +kernel)
theorem qs_39 : Cond.selects RX10 yX10_one yX10_one ∈ Tw := Tw_sel 39 (by decide +kernel) (by decide +kernel)
theorem qs_40 : Cond.selects RX10 yX10_isSign yX10_isSign ∈ Tw := Tw_sel 40 (by decide +kernel) (by decide +kernel)
theorem qs_41 : Cond.selects RX10 yX10_name yX10_name ∈ Tw := Tw_sel 41 (by decide +kernel) (by decide +kernel)
theorem qs_42 : Cond.selects RX10 yX10_isPlan yX10_isPlan ∈ Tw := Tw_sel 42 (by decide +kernel) (by decide +kernel)
theorem qs_43 : Cond.selects RX10 yX10_isSet yX10_isSet ∈ Tw := Tw_sel 43 (by decide +kernel) (by decide +kernel)
theorem qs_44 : Cond.selects RX10 yX10_counts yX10_counts ∈ Tw := Tw_sel 44 (by decide +kernel) (by decide +kernel)
theorem qs_45 : Cond.selects RX10 yX10_tries yX10_tries ∈ Tw := Tw_sel 45 (by decide +kernel) (by decide +kernel)
theorem qs_46 : Cond.selects RX10 yX10_sumOf yX10_sumOf ∈ Tw := Tw_sel 46 (by decide +kernel) (by decide +kernel)
theorem qs_47 : Cond.selects RX10 yX10_dropsOf yX10_dropsOf ∈ Tw := Tw_sel 47 (by decide +kernel) (by decide +kernel)
theorem qs_48 : Cond.selects RX10 yX10_leastOf yX10_leastOf ∈ Tw := Tw_sel 48 (by decide +kernel) (by decide +kernel)
theorem qs_49 : Cond.selects RX10 yX10_goesBy yX10_goesBy ∈ Tw := Tw_sel 49 (by decide +kernel) (by decide +kernel)
theorem qs_50 : Cond.selects RX10 yX10_fades yX10_fades ∈ Tw := Tw_sel 50 (by decide +kernel) (by decide +kernel)
theorem qs_51 : Cond.selects RX10 yX10_trialsOfAll yX10_trialsOfAll ∈ Tw := Tw_sel 51 (by decide +kernel) (by decide +kernel)
theorem qs_52 : Cond.selects RX10 yX10_laysAside yX10_laysAside ∈ Tw := Tw_sel 52 (by decide +kernel) (by decide +kernel)
theorem qs_53 : Cond.selects RX10 yX10_laysBack yX10_laysBack ∈ Tw := Tw_sel 53 (by decide +kernel) (by decide +kernel)
theorem qs_54 : Cond.selects RX10 yX10_letsAll yX10_letsAll ∈ Tw := Tw_sel 54 (by decide +kernel) (by decide +kernel)
theorem qs_55 : Cond.selects RX10 yX10_letsTill yX10_letsTill ∈ Tw := Tw_sel 55 (by decide +kernel) (by decide +kernel)
theorem qs_56 : Cond.selects RX10 yX10_behind yX10_behind ∈ Tw := Tw_sel 56 (by decide +kernel) (by decide +kernel)
set_option maxRecDepth 20000 in
theorem twX0 : ∀ w ∈ u_ws RX0 TX0 11, w ∈ Tw := List.forall_mem_cons.mpr ⟨q_128, List.forall_mem_cons.mpr ⟨q_130, List.forall_mem_cons.mpr ⟨q_132, List.forall_mem_cons.mpr ⟨q_134, List.forall_mem_cons.mpr ⟨q_136, List.forall_mem_cons.mpr ⟨q_138, List.forall_mem_cons.mpr ⟨q_140, List.forall_mem_cons.mpr ⟨q_142, List.forall_mem_cons.mpr ⟨q_144, List.forall_mem_cons.mpr ⟨q_146, List.forall_mem_cons.mpr ⟨q_148, fun _ h => absurd h List.not_mem_nil⟩⟩⟩⟩⟩⟩⟩⟩⟩⟩⟩
set_option maxRecDepth 20000 in
theorem twX1 : ∀ w ∈ u_ws RX1 TX1 3, w ∈ Tw := List.forall_mem_cons.mpr ⟨q_651, List.forall_mem_cons.mpr ⟨q_653, List.forall_mem_cons.mpr ⟨q_655, fun _ h => absurd h List.not_mem_nil⟩⟩⟩
set_option maxRecDepth 20000 in
theorem twX2 : ∀ w ∈ u_ws RX2 TX2 3, w ∈ Tw := List.forall_mem_cons.mpr ⟨q_208, List.forall_mem_cons.mpr ⟨q_210, List.forall_mem_cons.mpr ⟨q_212, fun _ h => absurd h List.not_mem_nil⟩⟩⟩
set_option maxRecDepth 20000 in
theorem twX3 : ∀ w ∈ u_ws RX3 TX3 3, w ∈ Tw := List.forall_mem_cons.mpr ⟨q_272, List.forall_mem_cons.mpr ⟨q_274, List.forall_mem_cons.mpr ⟨q_276, fun _ h => absurd h List.not_mem_nil⟩⟩⟩
set_option maxRecDepth 20000 in
theorem twX4 : ∀ w ∈ u_ws RX4 TX4 2, w ∈ Tw := List.forall_mem_cons.mpr ⟨q_161, List.forall_mem_cons.mpr ⟨q_163, fun _ h => absurd h List.not_mem_nil⟩⟩
set_option maxRecDepth 20000 in
theorem twX5 : ∀ w ∈ u_ws RX5 TX5 2, w ∈ Tw := List.forall_mem_cons.mpr ⟨q_48, List.forall_mem_cons.mpr ⟨q_50, fun _ h => absurd h List.not_mem_nil⟩⟩
set_option maxRecDepth 20000 in
theorem twX6 : ∀ w ∈ u_ws RX6 TX6 8, w ∈ Tw := List.forall_mem_cons.mpr ⟨q_181, List.forall_mem_cons.mpr ⟨q_183, List.forall_mem_cons.mpr ⟨q_185, List.forall_mem_cons.mpr ⟨q_187, List.forall_mem_cons.mpr ⟨q_189, List.forall_mem_cons.mpr ⟨q_191, List.forall_mem_cons.mpr ⟨q_193, List.forall_mem_cons.mpr ⟨q_195, fun _ h => absurd h List.not_mem_nil⟩⟩⟩⟩⟩⟩⟩⟩
set_option maxRecDepth 20000 in
theorem twX7 : ∀ w ∈ u_ws RX7 TX7 10, w ∈ Tw := List.forall_mem_cons.mpr ⟨q_239, List.forall_mem_cons.mpr ⟨q_241, List.forall_mem_cons.mpr ⟨q_243, List.forall_mem_cons.mpr ⟨q_245, List.forall_mem_cons.mpr ⟨q_247, List.forall_mem_cons.mpr ⟨q_249, List.forall_mem_cons.mpr ⟨q_251, List.forall_mem_cons.mpr ⟨q_253, List.forall_mem_cons.mpr ⟨q_255, List.forall_mem_cons.mpr ⟨q_257, fun _ h => absurd h List.not_mem_nil⟩⟩⟩⟩⟩⟩⟩⟩⟩⟩
set_option maxRecDepth 20000 in
theorem twX8 : ∀ w ∈ u_ws RX8 TX8 11, w ∈ Tw := List.forall_mem_cons.mpr ⟨q_81, List.forall_mem_cons.mpr ⟨q_83, List.forall_mem_cons.mpr ⟨q_85, List.forall_mem_cons.mpr ⟨q_87, List.forall_mem_cons.mpr ⟨q_89, List.forall_mem_cons.mpr ⟨q_91, List.forall_mem_cons.mpr ⟨q_93, List.forall_mem_cons.mpr ⟨q_95, List.forall_mem_cons.mpr ⟨q_97, List.forall_mem_cons.mpr ⟨q_99, List.forall_mem_cons.mpr ⟨q_101, fun _ h => absurd h List.not_mem_nil⟩⟩⟩⟩⟩⟩⟩⟩⟩⟩⟩
set_option maxRecDepth 20000 in
theorem twX9 : ∀ w ∈ u_ws RX9 TX9 10, w ∈ Tw := List.forall_mem_cons.mpr ⟨q_289, List.forall_mem_cons.mpr ⟨q_291, List.forall_mem_cons.mpr ⟨q_293, List.forall_mem_cons.mpr ⟨q_295, List.forall_mem_cons.mpr ⟨q_297, List.forall_mem_cons.mpr ⟨q_299, List.forall_mem_cons.mpr ⟨q_301, List.forall_mem_cons.mpr ⟨q_303, List.forall_mem_cons.mpr ⟨q_305, List.forall_mem_cons.mpr ⟨q_307, fun _ h => absurd h List.not_mem_nil⟩⟩⟩⟩⟩⟩⟩⟩⟩⟩
set_option maxRecDepth 20000 in
theorem twX10 : ∀ w ∈ u_ws RX10 TX10 65, w ∈ Tw := List.forall_mem_cons.mpr ⟨q_961, List.forall_mem_cons.mpr ⟨q_963, List.forall_mem_cons.mpr ⟨q_965, List.forall_mem_cons.mpr ⟨q_967, List.forall_mem_cons.mpr ⟨q_969, List.forall_mem_cons.mpr ⟨q_971, List.forall_mem_cons.mpr ⟨q_973, List.forall_mem_cons.mpr ⟨q_975, List.forall_mem_cons.mpr ⟨q_977, List.forall_mem_cons.mpr ⟨q_979, List.forall_mem_cons.mpr ⟨q_981, List.forall_mem_cons.mpr ⟨q_983, List.forall_mem_cons.mpr ⟨q_985, List.forall_mem_cons.mpr ⟨q_987, List.forall_mem_cons.mpr ⟨q_989, List.forall_mem_cons.mpr ⟨q_991, List.forall_mem_cons.mpr ⟨q_993, List.forall_mem_cons.mpr ⟨q_995, List.forall_mem_cons.mpr ⟨q_997, List.forall_mem_cons.mpr ⟨q_999, List.forall_mem_cons.mpr ⟨q_1001, List.forall_mem_cons.mpr ⟨q_1003, List.forall_mem_cons.mpr ⟨q_1005, List.forall_mem_cons.mpr ⟨q_1007, List.forall_mem_cons.mpr ⟨q_1009, List.forall_mem_cons.mpr ⟨q_1011, List.forall_mem_cons.mpr ⟨q_1013, List.forall_mem_cons.mpr ⟨q_1015, List.forall_mem_cons.mpr ⟨q_1017, List.forall_mem_cons.mpr ⟨q_1019, List.forall_mem_cons.mpr ⟨q_1021, List.forall_mem_cons.mpr ⟨q_1023, List.forall_mem_cons.mpr ⟨q_1025, List.forall_mem_cons.mpr ⟨q_1027, List.forall_mem_cons.mpr ⟨q_1029, List.forall_mem_cons.mpr ⟨q_1031, List.forall_mem_cons.mpr ⟨q_1033, List.forall_mem_cons.mpr ⟨q_1035, List.forall_mem_cons.mpr ⟨q_1037, List.forall_mem_cons.mpr ⟨q_1039, List.forall_mem_cons.mpr ⟨q_1041, List.forall_mem_cons.mpr ⟨q_1043, List.forall_mem_cons.mpr ⟨q_1045, List.forall_mem_cons.mpr ⟨q_1047, List.forall_mem_cons.mpr ⟨q_1049, List.forall_mem_cons.mpr ⟨q_1051, List.forall_mem_cons.mpr ⟨q_1053, List.forall_mem_cons.mpr ⟨q_1055, List.forall_mem_cons.mpr ⟨q_1057, List.forall_mem_cons.mpr ⟨q_1059, List.forall_mem_cons.mpr ⟨q_1061, List.forall_mem_cons.mpr ⟨q_1063, List.forall_mem_cons.mpr ⟨q_1065, List.forall_mem_cons.mpr ⟨q_1067, List.forall_mem_cons.mpr ⟨q_1069, List.forall_mem_cons.mpr ⟨q_1071, List.forall_mem_cons.mpr ⟨q_1073, List.forall_mem_cons.mpr ⟨q_1075, List.forall_mem_cons.mpr ⟨q_1077, List.forall_mem_cons.mpr ⟨q_1079, List.forall_mem_cons.mpr ⟨q_1081, List.forall_mem_cons.mpr ⟨q_1083, List.forall_mem_cons.mpr ⟨q_1085, List.forall_mem_cons.mpr ⟨q_1087, List.forall_mem_cons.mpr ⟨q_1089, fun _ h => absurd h List.not_mem_nil⟩⟩⟩⟩⟩⟩⟩⟩⟩⟩⟩⟩⟩⟩⟩⟩⟩⟩⟩⟩⟩⟩⟩⟩⟩⟩⟩⟩⟩⟩⟩⟩⟩⟩⟩⟩⟩⟩⟩⟩⟩⟩⟩⟩⟩⟩⟩⟩⟩⟩⟩⟩⟩⟩⟩⟩⟩⟩⟩⟩⟩⟩⟩⟩⟩
end
section
theorem dX0_init_0 : decode cX0_init 0 = .ok (.aload_n 0, 1) := by decide +kernel
theorem dX0_init_1 : decode cX0_init 1 = .ok (.invokespecial 3, 3) := by decide +kernel
theorem dX0_init_4 : decode cX0_init 4 = .ok (.aload_n 0, 1) := by decide +kernel
theorem dX0_init_5 : decode cX0_init 5 = .ok (.bipush 8, 2) := by decide +kernel
theorem dX0_init_7 : decode cX0_init 7 = .ok (.newarray .int, 2) := by decide +kernel
theorem dX0_init_9 : decode cX0_init 9 = .ok (.putfield 9, 3) := by decide +kernel
theorem dX0_init_12 : decode cX0_init 12 = .ok (.aload_n 0, 1) := by decide +kernel
theorem dX0_init_13 : decode cX0_init 13 = .ok (.bipush 8, 2) := by decide +kernel
theorem dX0_init_15 : decode cX0_init 15 = .ok (.newarray .int, 2) := by decide +kernel
theorem dX0_init_17 : decode cX0_init 17 = .ok (.putfield 15, 3) := by decide +kernel
theorem dX0_init_20 : decode cX0_init 20 = .ok (.aload_n 0, 1) := by decide +kernel
theorem dX0_init_21 : decode cX0_init 21 = .ok (.bipush 32, 2) := by decide +kernel
theorem dX0_init_23 : decode cX0_init 23 = .ok (.newarray .int, 2) := by decide +kernel
theorem dX0_init_25 : decode cX0_init 25 = .ok (.putfield 18, 3) := by decide +kernel
theorem dX0_init_28 : decode cX0_init 28 = .ok (.aload_n 0, 1) := by decide +kernel
theorem dX0_init_29 : decode cX0_init 29 = .ok (.iconst 4, 1) := by decide +kernel
theorem dX0_init_30 : decode cX0_init 30 = .ok (.newarray .int, 2) := by decide +kernel
theorem dX0_init_32 : decode cX0_init 32 = .ok (.putfield 21, 3) := by decide +kernel
theorem dX0_init_35 : decode cX0_init 35 = .ok (.aload_n 0, 1) := by decide +kernel
theorem dX0_init_36 : decode cX0_init 36 = .ok (.bipush 8, 2) := by decide +kernel
theorem dX0_init_38 : decode cX0_init 38 = .ok (.newarray .int, 2) := by decide +kernel
theorem dX0_init_40 : decode cX0_init 40 = .ok (.putfield 24, 3) := by decide +kernel
theorem dX0_init_43 : decode cX0_init 43 = .ok (.aload_n 0, 1) := by decide +kernel
theorem dX0_init_44 : decode cX0_init 44 = .ok (.bipush 8, 2) := by decide +kernel
theorem dX0_init_46 : decode cX0_init 46 = .ok (.newarray .int, 2) := by decide +kernel
theorem dX0_init_48 : decode cX0_init 48 = .ok (.putfield 27, 3) := by decide +kernel
theorem dX0_init_51 : decode cX0_init 51 = .ok (.aload_n 0, 1) := by decide +kernel
theorem dX0_init_52 : decode cX0_init 52 = .ok (.bipush 30, 2) := by decide +kernel
theorem dX0_init_54 : decode cX0_init 54 = .ok (.putfield 30, 3) := by decide +kernel
theorem dX0_init_57 : decode cX0_init 57 = .ok (.aload_n 0, 1) := by decide +kernel
theorem dX0_init_58 : decode cX0_init 58 = .ok (.aload_n 1, 1) := by decide +kernel
theorem dX0_init_59 : decode cX0_init 59 = .ok (.putfield 34, 3) := by decide +kernel
theorem dX0_init_62 : decode cX0_init 62 = .ok (.return_, 1) := by decide +kernel
theorem dX0_becomeLike_0 : decode cX0_becomeLike 0 = .ok (.aload_n 1, 1) := by decide +kernel
theorem dX0_becomeLike_1 : decode cX0_becomeLike 1 = .ok (.getfield 9, 3) := by decide +kernel
theorem dX0_becomeLike_4 : decode cX0_becomeLike 4 = .ok (.iconst 0, 1) := by decide +kernel
theorem dX0_becomeLike_5 : decode cX0_becomeLike 5 = .ok (.aload_n 0, 1) := by decide +kernel
theorem dX0_becomeLike_6 : decode cX0_becomeLike 6 = .ok (.getfield 9, 3) := by decide +kernel
theorem dX0_becomeLike_9 : decode cX0_becomeLike 9 = .ok (.iconst 0, 1) := by decide +kernel
theorem dX0_becomeLike_10 : decode cX0_becomeLike 10 = .ok (.iload_n 2, 1) := by decide +kernel
theorem dX0_becomeLike_11 : decode cX0_becomeLike 11 = .ok (.invokestatic 38, 3) := by decide +kernel
theorem dX0_becomeLike_14 : decode cX0_becomeLike 14 = .ok (.aload_n 1, 1) := by decide +kernel
theorem dX0_becomeLike_15 : decode cX0_becomeLike 15 = .ok (.getfield 15, 3) := by decide +kernel
theorem dX0_becomeLike_18 : decode cX0_becomeLike 18 = .ok (.iconst 0, 1) := by decide +kernel
theorem dX0_becomeLike_19 : decode cX0_becomeLike 19 = .ok (.aload_n 0, 1) := by decide +kernel
theorem dX0_becomeLike_20 : decode cX0_becomeLike 20 = .ok (.getfield 15, 3) := by decide +kernel
theorem dX0_becomeLike_23 : decode cX0_becomeLike 23 = .ok (.iconst 0, 1) := by decide +kernel
theorem dX0_becomeLike_24 : decode cX0_becomeLike 24 = .ok (.bipush 8, 2) := by decide +kernel
theorem dX0_becomeLike_26 : decode cX0_becomeLike 26 = .ok (.invokestatic 38, 3) := by decide +kernel
theorem dX0_becomeLike_29 : decode cX0_becomeLike 29 = .ok (.aload_n 1, 1) := by decide +kernel
theorem dX0_becomeLike_30 : decode cX0_becomeLike 30 = .ok (.getfield 18, 3) := by decide +kernel
theorem dX0_becomeLike_33 : decode cX0_becomeLike 33 = .ok (.iconst 0, 1) := by decide +kernel
theorem dX0_becomeLike_34 : decode cX0_becomeLike 34 = .ok (.aload_n 0, 1) := by decide +kernel
theorem dX0_becomeLike_35 : decode cX0_becomeLike 35 = .ok (.getfield 18, 3) := by decide +kernel
theorem dX0_becomeLike_38 : decode cX0_becomeLike 38 = .ok (.iconst 0, 1) := by decide +kernel
theorem dX0_becomeLike_39 : decode cX0_becomeLike 39 = .ok (.bipush 32, 2) := by decide +kernel
theorem dX0_becomeLike_41 : decode cX0_becomeLike 41 = .ok (.invokestatic 38, 3) := by decide +kernel
theorem dX0_becomeLike_44 : decode cX0_becomeLike 44 = .ok (.aload_n 1, 1) := by decide +kernel
theorem dX0_becomeLike_45 : decode cX0_becomeLike 45 = .ok (.getfield 21, 3) := by decide +kernel
theorem dX0_becomeLike_48 : decode cX0_becomeLike 48 = .ok (.iconst 0, 1) := by decide +kernel
theorem dX0_becomeLike_49 : decode cX0_becomeLike 49 = .ok (.aload_n 0, 1) := by decide +kernel
theorem dX0_becomeLike_50 : decode cX0_becomeLike 50 = .ok (.getfield 21, 3) := by decide +kernel
theorem dX0_becomeLike_53 : decode cX0_becomeLike 53 = .ok (.iconst 0, 1) := by decide +kernel
theorem dX0_becomeLike_54 : decode cX0_becomeLike 54 = .ok (.iconst 4, 1) := by decide +kernel
theorem dX0_becomeLike_55 : decode cX0_becomeLike 55 = .ok (.invokestatic 38, 3) := by decide +kernel
theorem dX0_becomeLike_58 : decode cX0_becomeLike 58 = .ok (.aload_n 0, 1) := by decide +kernel
theorem dX0_becomeLike_59 : decode cX0_becomeLike 59 = .ok (.aload_n 1, 1) := by decide +kernel
theorem dX0_becomeLike_60 : decode cX0_becomeLike 60 = .ok (.getfield 44, 3) := by decide +kernel
theorem dX0_becomeLike_63 : decode cX0_becomeLike 63 = .ok (.putfield 44, 3) := by decide +kernel
theorem dX0_becomeLike_66 : decode cX0_becomeLike 66 = .ok (.aload_n 0, 1) := by decide +kernel
theorem dX0_becomeLike_67 : decode cX0_becomeLike 67 = .ok (.aload_n 1, 1) := by decide +kernel
theorem dX0_becomeLike_68 : decode cX0_becomeLike 68 = .ok (.getfield 47, 3) := by decide +kernel
theorem dX0_becomeLike_71 : decode cX0_becomeLike 71 = .ok (.putfield 47, 3) := by decide +kernel
theorem dX0_becomeLike_74 : decode cX0_becomeLike 74 = .ok (.aload_n 0, 1) := by decide +kernel
theorem dX0_becomeLike_75 : decode cX0_becomeLike 75 = .ok (.aload_n 1, 1) := by decide +kernel
theorem dX0_becomeLike_76 : decode cX0_becomeLike 76 = .ok (.getfield 30, 3) := by decide +kernel
theorem dX0_becomeLike_79 : decode cX0_becomeLike 79 = .ok (.putfield 30, 3) := by decide +kernel
theorem dX0_becomeLike_82 : decode cX0_becomeLike 82 = .ok (.aload_n 0, 1) := by decide +kernel
theorem dX0_becomeLike_83 : decode cX0_becomeLike 83 = .ok (.aload_n 1, 1) := by decide +kernel
theorem dX0_becomeLike_84 : decode cX0_becomeLike 84 = .ok (.getfield 50, 3) := by decide +kernel
theorem dX0_becomeLike_87 : decode cX0_becomeLike 87 = .ok (.putfield 50, 3) := by decide +kernel
theorem dX0_becomeLike_90 : decode cX0_becomeLike 90 = .ok (.return_, 1) := by decide +kernel
theorem dX0_startAnew_0 : decode cX0_startAnew 0 = .ok (.aload_n 0, 1) := by decide +kernel
theorem dX0_startAnew_1 : decode cX0_startAnew 1 = .ok (.getfield 9, 3) := by decide +kernel
theorem dX0_startAnew_4 : decode cX0_startAnew 4 = .ok (.iconst 0, 1) := by decide +kernel
theorem dX0_startAnew_5 : decode cX0_startAnew 5 = .ok (.invokestatic 53, 3) := by decide +kernel
theorem dX0_startAnew_8 : decode cX0_startAnew 8 = .ok (.aload_n 0, 1) := by decide +kernel
theorem dX0_startAnew_9 : decode cX0_startAnew 9 = .ok (.getfield 15, 3) := by decide +kernel
theorem dX0_startAnew_12 : decode cX0_startAnew 12 = .ok (.iconst 0, 1) := by decide +kernel
theorem dX0_startAnew_13 : decode cX0_startAnew 13 = .ok (.invokestatic 53, 3) := by decide +kernel
theorem dX0_startAnew_16 : decode cX0_startAnew 16 = .ok (.aload_n 0, 1) := by decide +kernel
theorem dX0_startAnew_17 : decode cX0_startAnew 17 = .ok (.iconst 0, 1) := by decide +kernel
theorem dX0_startAnew_18 : decode cX0_startAnew 18 = .ok (.putfield 44, 3) := by decide +kernel
theorem dX0_startAnew_21 : decode cX0_startAnew 21 = .ok (.aload_n 0, 1) := by decide +kernel
theorem dX0_startAnew_22 : decode cX0_startAnew 22 = .ok (.iconst 0, 1) := by decide +kernel
theorem dX0_startAnew_23 : decode cX0_startAnew 23 = .ok (.putfield 47, 3) := by decide +kernel
theorem dX0_startAnew_26 : decode cX0_startAnew 26 = .ok (.aload_n 0, 1) := by decide +kernel
theorem dX0_startAnew_27 : decode cX0_startAnew 27 = .ok (.iload_n 1, 1) := by decide +kernel
theorem dX0_startAnew_28 : decode cX0_startAnew 28 = .ok (.putfield 30, 3) := by decide +kernel
theorem dX0_startAnew_31 : decode cX0_startAnew 31 = .ok (.aload_n 0, 1) := by decide +kernel
theorem dX0_startAnew_32 : decode cX0_startAnew 32 = .ok (.iload_n 2, 1) := by decide +kernel
theorem dX0_startAnew_33 : decode cX0_startAnew 33 = .ok (.putfield 50, 3) := by decide +kernel
theorem dX0_startAnew_36 : decode cX0_startAnew 36 = .ok (.return_, 1) := by decide +kernel
theorem dX0_allTrials_0 : decode cX0_allTrials 0 = .ok (.aload_n 0, 1) := by decide +kernel
theorem dX0_allTrials_1 : decode cX0_allTrials 1 = .ok (.getfield 21, 3) := by decide +kernel
theorem dX0_allTrials_4 : decode cX0_allTrials 4 = .ok (.iconst 0, 1) := by decide +kernel
theorem dX0_allTrials_5 : decode cX0_allTrials 5 = .ok (.iaload, 1) := by decide +kernel
theorem dX0_allTrials_6 : decode cX0_allTrials 6 = .ok (.aload_n 0, 1) := by decide +kernel
theorem dX0_allTrials_7 : decode cX0_allTrials 7 = .ok (.getfield 21, 3) := by decide +kernel
theorem dX0_allTrials_10 : decode cX0_allTrials 10 = .ok (.iconst 1, 1) := by decide +kernel
theorem dX0_allTrials_11 : decode cX0_allTrials 11 = .ok (.iaload, 1) := by decide +kernel
theorem dX0_allTrials_12 : decode cX0_allTrials 12 = .ok (.iadd, 1) := by decide +kernel
theorem dX0_allTrials_13 : decode cX0_allTrials 13 = .ok (.aload_n 0, 1) := by decide +kernel
theorem dX0_allTrials_14 : decode cX0_allTrials 14 = .ok (.getfield 21, 3) := by decide +kernel
theorem dX0_allTrials_17 : decode cX0_allTrials 17 = .ok (.iconst 2, 1) := by decide +kernel
theorem dX0_allTrials_18 : decode cX0_allTrials 18 = .ok (.iaload, 1) := by decide +kernel
theorem dX0_allTrials_19 : decode cX0_allTrials 19 = .ok (.iadd, 1) := by decide +kernel
theorem dX0_allTrials_20 : decode cX0_allTrials 20 = .ok (.aload_n 0, 1) := by decide +kernel
theorem dX0_allTrials_21 : decode cX0_allTrials 21 = .ok (.getfield 21, 3) := by decide +kernel
theorem dX0_allTrials_24 : decode cX0_allTrials 24 = .ok (.iconst 3, 1) := by decide +kernel
theorem dX0_allTrials_25 : decode cX0_allTrials 25 = .ok (.iaload, 1) := by decide +kernel
theorem dX0_allTrials_26 : decode cX0_allTrials 26 = .ok (.iadd, 1) := by decide +kernel
theorem dX0_allTrials_27 : decode cX0_allTrials 27 = .ok (.ireturn, 1) := by decide +kernel
theorem dX0_loudOf_0 : decode cX0_loudOf 0 = .ok (.bipush 20, 2) := by decide +kernel
theorem dX0_loudOf_2 : decode cX0_loudOf 2 = .ok (.istore_n 2, 1) := by decide +kernel
theorem dX0_loudOf_3 : decode cX0_loudOf 3 = .ok (.iload_n 2, 1) := by decide +kernel
theorem dX0_loudOf_4 : decode cX0_loudOf 4 = .ok (.bipush 10, 2) := by decide +kernel
theorem dX0_loudOf_6 : decode cX0_loudOf 6 = .ok (.iadd, 1) := by decide +kernel
theorem dX0_loudOf_7 : decode cX0_loudOf 7 = .ok (.istore_n 3, 1) := by decide +kernel
theorem dX0_loudOf_8 : decode cX0_loudOf 8 = .ok (.aload_n 0, 1) := by decide +kernel
theorem dX0_loudOf_9 : decode cX0_loudOf 9 = .ok (.getfield 34, 3) := by decide +kernel
theorem dX0_loudOf_12 : decode cX0_loudOf 12 = .ok (.getfield 59, 3) := by decide +kernel
theorem dX0_loudOf_15 : decode cX0_loudOf 15 = .ok (.iload_n 1, 1) := by decide +kernel
theorem dX0_loudOf_16 : decode cX0_loudOf 16 = .ok (.iaload, 1) := by decide +kernel
theorem dX0_loudOf_17 : decode cX0_loudOf 17 = .ok (.tableswitch 61 1 5 #[35, 61, 37, 41, 57], 35) := by decide +kernel
theorem dX0_loudOf_52 : decode cX0_loudOf 52 = .ok (.iload_n 3, 1) := by decide +kernel
theorem dX0_loudOf_53 : decode cX0_loudOf 53 = .ok (.ireturn, 1) := by decide +kernel
theorem dX0_loudOf_54 : decode cX0_loudOf 54 = .ok (.iload_n 3, 1) := by decide +kernel
theorem dX0_loudOf_55 : decode cX0_loudOf 55 = .ok (.iconst 2, 1) := by decide +kernel
theorem dX0_loudOf_56 : decode cX0_loudOf 56 = .ok (.idiv, 1) := by decide +kernel
theorem dX0_loudOf_57 : decode cX0_loudOf 57 = .ok (.ireturn, 1) := by decide +kernel
theorem dX0_loudOf_58 : decode cX0_loudOf 58 = .ok (.iload_n 3, 1) := by decide +kernel
theorem dX0_loudOf_59 : decode cX0_loudOf 59 = .ok (.aload_n 0, 1) := by decide +kernel
theorem dX0_loudOf_60 : decode cX0_loudOf 60 = .ok (.getfield 15, 3) := by decide +kernel
theorem dX0_loudOf_63 : decode cX0_loudOf 63 = .ok (.iload_n 1, 1) := by decide +kernel
theorem dX0_loudOf_64 : decode cX0_loudOf 64 = .ok (.iaload, 1) := by decide +kernel
theorem dX0_loudOf_65 : decode cX0_loudOf 65 = .ok (.iconst 4, 1) := by decide +kernel
theorem dX0_loudOf_66 : decode cX0_loudOf 66 = .ok (.idiv, 1) := by decide +kernel
theorem dX0_loudOf_67 : decode cX0_loudOf 67 = .ok (.isub, 1) := by decide +kernel
theorem dX0_loudOf_68 : decode cX0_loudOf 68 = .ok (.iconst 1, 1) := by decide +kernel
theorem dX0_loudOf_69 : decode cX0_loudOf 69 = .ok (.iload_n 3, 1) := by decide +kernel
theorem dX0_loudOf_70 : decode cX0_loudOf 70 = .ok (.invokestatic 64, 3) := by decide +kernel
theorem dX0_loudOf_73 : decode cX0_loudOf 73 = .ok (.ireturn, 1) := by decide +kernel
theorem dX0_loudOf_74 : decode cX0_loudOf 74 = .ok (.iload_n 2, 1) := by decide +kernel
theorem dX0_loudOf_75 : decode cX0_loudOf 75 = .ok (.iconst 4, 1) := by decide +kernel
theorem dX0_loudOf_76 : decode cX0_loudOf 76 = .ok (.idiv, 1) := by decide +kernel
theorem dX0_loudOf_77 : decode cX0_loudOf 77 = .ok (.ireturn, 1) := by decide +kernel
theorem dX0_loudOf_78 : decode cX0_loudOf 78 = .ok (.iload_n 2, 1) := by decide +kernel
theorem dX0_loudOf_79 : decode cX0_loudOf 79 = .ok (.ireturn, 1) := by decide +kernel
theorem dX0_fadesOf_0 : decode cX0_fadesOf 0 = .ok (.aload_n 0, 1) := by decide +kernel
theorem dX0_fadesOf_1 : decode cX0_fadesOf 1 = .ok (.iconst 1, 1) := by decide +kernel
theorem dX0_fadesOf_2 : decode cX0_fadesOf 2 = .ok (.iload_n 1, 1) := by decide +kernel
theorem dX0_fadesOf_3 : decode cX0_fadesOf 3 = .ok (.iconst 0, 1) := by decide +kernel
theorem dX0_fadesOf_4 : decode cX0_fadesOf 4 = .ok (.iconst 0, 1) := by decide +kernel
theorem dX0_fadesOf_5 : decode cX0_fadesOf 5 = .ok (.iconst 0, 1) := by decide +kernel
theorem dX0_fadesOf_6 : decode cX0_fadesOf 6 = .ok (.invokevirtual 68, 3) := by decide +kernel
theorem dX0_fadesOf_9 : decode cX0_fadesOf 9 = .ok (.iconst 0, 1) := by decide +kernel
theorem dX0_fadesOf_10 : decode cX0_fadesOf 10 = .ok (.bipush 100, 2) := by decide +kernel
theorem dX0_fadesOf_12 : decode cX0_fadesOf 12 = .ok (.invokestatic 64, 3) := by decide +kernel
theorem dX0_fadesOf_15 : decode cX0_fadesOf 15 = .ok (.istore_n 2, 1) := by decide +kernel
theorem dX0_fadesOf_16 : decode cX0_fadesOf 16 = .ok (.iload_n 2, 1) := by decide +kernel
theorem dX0_fadesOf_17 : decode cX0_fadesOf 17 = .ok (.iconst 2, 1) := by decide +kernel
theorem dX0_fadesOf_18 : decode cX0_fadesOf 18 = .ok (.idiv, 1) := by decide +kernel
theorem dX0_fadesOf_19 : decode cX0_fadesOf 19 = .ok (.istore_n 3, 1) := by decide +kernel
theorem dX0_fadesOf_20 : decode cX0_fadesOf 20 = .ok (.aload_n 0, 1) := by decide +kernel
theorem dX0_fadesOf_21 : decode cX0_fadesOf 21 = .ok (.getfield 34, 3) := by decide +kernel
theorem dX0_fadesOf_24 : decode cX0_fadesOf 24 = .ok (.getfield 59, 3) := by decide +kernel
theorem dX0_fadesOf_27 : decode cX0_fadesOf 27 = .ok (.iload_n 1, 1) := by decide +kernel
theorem dX0_fadesOf_28 : decode cX0_fadesOf 28 = .ok (.iaload, 1) := by decide +kernel
theorem dX0_fadesOf_29 : decode cX0_fadesOf 29 = .ok (.tableswitch 55 1 5 #[35, 37, 47, 51, 53], 35) := by decide +kernel
theorem dX0_fadesOf_64 : decode cX0_fadesOf 64 = .ok (.iload_n 3, 1) := by decide +kernel
theorem dX0_fadesOf_65 : decode cX0_fadesOf 65 = .ok (.ireturn, 1) := by decide +kernel
theorem dX0_fadesOf_66 : decode cX0_fadesOf 66 = .ok (.iload_n 2, 1) := by decide +kernel
theorem dX0_fadesOf_67 : decode cX0_fadesOf 67 = .ok (.iconst 2, 1) := by decide +kernel
theorem dX0_fadesOf_68 : decode cX0_fadesOf 68 = .ok (.iadd, 1) := by decide +kernel
theorem dX0_fadesOf_69 : decode cX0_fadesOf 69 = .ok (.iconst 0, 1) := by decide +kernel
theorem dX0_fadesOf_70 : decode cX0_fadesOf 70 = .ok (.bipush 100, 2) := by decide +kernel
theorem dX0_fadesOf_72 : decode cX0_fadesOf 72 = .ok (.invokestatic 64, 3) := by decide +kernel
theorem dX0_fadesOf_75 : decode cX0_fadesOf 75 = .ok (.ireturn, 1) := by decide +kernel
theorem dX0_fadesOf_76 : decode cX0_fadesOf 76 = .ok (.iload_n 3, 1) := by decide +kernel
theorem dX0_fadesOf_77 : decode cX0_fadesOf 77 = .ok (.iconst 1, 1) := by decide +kernel
theorem dX0_fadesOf_78 : decode cX0_fadesOf 78 = .ok (.iadd, 1) := by decide +kernel
theorem dX0_fadesOf_79 : decode cX0_fadesOf 79 = .ok (.ireturn, 1) := by decide +kernel
theorem dX0_fadesOf_80 : decode cX0_fadesOf 80 = .ok (.iload_n 3, 1) := by decide +kernel
theorem dX0_fadesOf_81 : decode cX0_fadesOf 81 = .ok (.ireturn, 1) := by decide +kernel
theorem dX0_fadesOf_82 : decode cX0_fadesOf 82 = .ok (.iconst 0, 1) := by decide +kernel
theorem dX0_fadesOf_83 : decode cX0_fadesOf 83 = .ok (.ireturn, 1) := by decide +kernel
theorem dX0_fadesOf_84 : decode cX0_fadesOf 84 = .ok (.iload_n 2, 1) := by decide +kernel
theorem dX0_fadesOf_85 : decode cX0_fadesOf 85 = .ok (.ireturn, 1) := by decide +kernel
theorem dX0_sumOf_0 : decode cX0_sumOf 0 = .ok (.iconst 0, 1) := by decide +kernel
theorem dX0_sumOf_1 : decode cX0_sumOf 1 = .ok (.istore_n 2, 1) := by decide +kernel
theorem dX0_sumOf_2 : decode cX0_sumOf 2 = .ok (.iconst 0, 1) := by decide +kernel
theorem dX0_sumOf_3 : decode cX0_sumOf 3 = .ok (.istore_n 3, 1) := by decide +kernel
theorem dX0_sumOf_4 : decode cX0_sumOf 4 = .ok (.iload_n 3, 1) := by decide +kernel
theorem dX0_sumOf_5 : decode cX0_sumOf 5 = .ok (.aload_n 0, 1) := by decide +kernel
theorem dX0_sumOf_6 : decode cX0_sumOf 6 = .ok (.getfield 34, 3) := by decide +kernel
theorem dX0_sumOf_9 : decode cX0_sumOf 9 = .ok (.getfield 72, 3) := by decide +kernel
theorem dX0_sumOf_12 : decode cX0_sumOf 12 = .ok (.if_icmp .ge 33, 3) := by decide +kernel
theorem dX0_sumOf_15 : decode cX0_sumOf 15 = .ok (.iload_n 1, 1) := by decide +kernel
theorem dX0_sumOf_16 : decode cX0_sumOf 16 = .ok (.iload_n 3, 1) := by decide +kernel
theorem dX0_sumOf_17 : decode cX0_sumOf 17 = .ok (.invokestatic 75, 3) := by decide +kernel
theorem dX0_sumOf_20 : decode cX0_sumOf 20 = .ok (.ifCond .eq 19, 3) := by decide +kernel
theorem dX0_sumOf_23 : decode cX0_sumOf 23 = .ok (.iload_n 2, 1) := by decide +kernel
theorem dX0_sumOf_24 : decode cX0_sumOf 24 = .ok (.aload_n 0, 1) := by decide +kernel
theorem dX0_sumOf_25 : decode cX0_sumOf 25 = .ok (.getfield 9, 3) := by decide +kernel
theorem dX0_sumOf_28 : decode cX0_sumOf 28 = .ok (.iload_n 3, 1) := by decide +kernel
theorem dX0_sumOf_29 : decode cX0_sumOf 29 = .ok (.iaload, 1) := by decide +kernel
theorem dX0_sumOf_30 : decode cX0_sumOf 30 = .ok (.aload_n 0, 1) := by decide +kernel
theorem dX0_sumOf_31 : decode cX0_sumOf 31 = .ok (.iload_n 3, 1) := by decide +kernel
theorem dX0_sumOf_32 : decode cX0_sumOf 32 = .ok (.iload_n 1, 1) := by decide +kernel
theorem dX0_sumOf_33 : decode cX0_sumOf 33 = .ok (.invokevirtual 79, 3) := by decide +kernel
theorem dX0_sumOf_36 : decode cX0_sumOf 36 = .ok (.iadd, 1) := by decide +kernel
theorem dX0_sumOf_37 : decode cX0_sumOf 37 = .ok (.iadd, 1) := by decide +kernel
theorem dX0_sumOf_38 : decode cX0_sumOf 38 = .ok (.istore_n 2, 1) := by decide +kernel
theorem dX0_sumOf_39 : decode cX0_sumOf 39 = .ok (.iinc 3 1, 3) := by decide +kernel
theorem dX0_sumOf_42 : decode cX0_sumOf 42 = .ok (.goto (-38), 3) := by decide +kernel
theorem dX0_sumOf_45 : decode cX0_sumOf 45 = .ok (.iload_n 2, 1) := by decide +kernel
theorem dX0_sumOf_46 : decode cX0_sumOf 46 = .ok (.ireturn, 1) := by decide +kernel
theorem dX0_lentTo_0 : decode cX0_lentTo 0 = .ok (.iconst 0, 1) := by decide +kernel
theorem dX0_lentTo_1 : decode cX0_lentTo 1 = .ok (.istore_n 3, 1) := by decide +kernel
theorem dX0_lentTo_2 : decode cX0_lentTo 2 = .ok (.iconst 0, 1) := by decide +kernel
theorem dX0_lentTo_3 : decode cX0_lentTo 3 = .ok (.istore 4, 2) := by decide +kernel
theorem dX0_lentTo_5 : decode cX0_lentTo 5 = .ok (.iload 4, 2) := by decide +kernel
theorem dX0_lentTo_7 : decode cX0_lentTo 7 = .ok (.aload_n 0, 1) := by decide +kernel
theorem dX0_lentTo_8 : decode cX0_lentTo 8 = .ok (.getfield 34, 3) := by decide +kernel
theorem dX0_lentTo_11 : decode cX0_lentTo 11 = .ok (.getfield 72, 3) := by decide +kernel
theorem dX0_lentTo_14 : decode cX0_lentTo 14 = .ok (.if_icmp .ge 47, 3) := by decide +kernel
theorem dX0_lentTo_17 : decode cX0_lentTo 17 = .ok (.iload_n 2, 1) := by decide +kernel
theorem dX0_lentTo_18 : decode cX0_lentTo 18 = .ok (.iload 4, 2) := by decide +kernel
theorem dX0_lentTo_20 : decode cX0_lentTo 20 = .ok (.invokestatic 75, 3) := by decide +kernel
theorem dX0_lentTo_23 : decode cX0_lentTo 23 = .ok (.ifCond .ne 32, 3) := by decide +kernel
theorem dX0_lentTo_26 : decode cX0_lentTo 26 = .ok (.iload_n 3, 1) := by decide +kernel
theorem dX0_lentTo_27 : decode cX0_lentTo 27 = .ok (.aload_n 0, 1) := by decide +kernel
theorem dX0_lentTo_28 : decode cX0_lentTo 28 = .ok (.getfield 9, 3) := by decide +kernel
theorem dX0_lentTo_31 : decode cX0_lentTo 31 = .ok (.iload 4, 2) := by decide +kernel
theorem dX0_lentTo_33 : decode cX0_lentTo 33 = .ok (.iaload, 1) := by decide +kernel
theorem dX0_lentTo_34 : decode cX0_lentTo 34 = .ok (.aload_n 0, 1) := by decide +kernel
theorem dX0_lentTo_35 : decode cX0_lentTo 35 = .ok (.getfield 34, 3) := by decide +kernel
theorem dX0_lentTo_38 : decode cX0_lentTo 38 = .ok (.getfield 83, 3) := by decide +kernel
theorem dX0_lentTo_41 : decode cX0_lentTo 41 = .ok (.iload_n 1, 1) := by decide +kernel
theorem dX0_lentTo_42 : decode cX0_lentTo 42 = .ok (.bipush 8, 2) := by decide +kernel
theorem dX0_lentTo_44 : decode cX0_lentTo 44 = .ok (.imul, 1) := by decide +kernel
theorem dX0_lentTo_45 : decode cX0_lentTo 45 = .ok (.iload 4, 2) := by decide +kernel
theorem dX0_lentTo_47 : decode cX0_lentTo 47 = .ok (.iadd, 1) := by decide +kernel
theorem dX0_lentTo_48 : decode cX0_lentTo 48 = .ok (.iaload, 1) := by decide +kernel
theorem dX0_lentTo_49 : decode cX0_lentTo 49 = .ok (.imul, 1) := by decide +kernel
theorem dX0_lentTo_50 : decode cX0_lentTo 50 = .ok (.bipush 100, 2) := by decide +kernel
theorem dX0_lentTo_52 : decode cX0_lentTo 52 = .ok (.idiv, 1) := by decide +kernel
theorem dX0_lentTo_53 : decode cX0_lentTo 53 = .ok (.iadd, 1) := by decide +kernel
theorem dX0_lentTo_54 : decode cX0_lentTo 54 = .ok (.istore_n 3, 1) := by decide +kernel
theorem dX0_lentTo_55 : decode cX0_lentTo 55 = .ok (.iinc 4 1, 3) := by decide +kernel
theorem dX0_lentTo_58 : decode cX0_lentTo 58 = .ok (.goto (-53), 3) := by decide +kernel
theorem dX0_lentTo_61 : decode cX0_lentTo 61 = .ok (.iload_n 3, 1) := by decide +kernel
theorem dX0_lentTo_62 : decode cX0_lentTo 62 = .ok (.ireturn, 1) := by decide +kernel
theorem dX0_dropsOf_0 : decode cX0_dropsOf 0 = .ok (.iload_n 1, 1) := by decide +kernel
theorem dX0_dropsOf_1 : decode cX0_dropsOf 1 = .ok (.ifCond .ne 5, 3) := by decide +kernel
theorem dX0_dropsOf_4 : decode cX0_dropsOf 4 = .ok (.iconst 0, 1) := by decide +kernel
theorem dX0_dropsOf_5 : decode cX0_dropsOf 5 = .ok (.ireturn, 1) := by decide +kernel
theorem dX0_dropsOf_6 : decode cX0_dropsOf 6 = .ok (.aload_n 0, 1) := by decide +kernel
theorem dX0_dropsOf_7 : decode cX0_dropsOf 7 = .ok (.iconst 2, 1) := by decide +kernel
theorem dX0_dropsOf_8 : decode cX0_dropsOf 8 = .ok (.iload_n 1, 1) := by decide +kernel
theorem dX0_dropsOf_9 : decode cX0_dropsOf 9 = .ok (.invokestatic 86, 3) := by decide +kernel
theorem dX0_dropsOf_12 : decode cX0_dropsOf 12 = .ok (.aload_n 0, 1) := by decide +kernel
theorem dX0_dropsOf_13 : decode cX0_dropsOf 13 = .ok (.iload_n 1, 1) := by decide +kernel
theorem dX0_dropsOf_14 : decode cX0_dropsOf 14 = .ok (.invokevirtual 90, 3) := by decide +kernel
theorem dX0_dropsOf_17 : decode cX0_dropsOf 17 = .ok (.iconst 0, 1) := by decide +kernel
theorem dX0_dropsOf_18 : decode cX0_dropsOf 18 = .ok (.iconst 0, 1) := by decide +kernel
theorem dX0_dropsOf_19 : decode cX0_dropsOf 19 = .ok (.invokevirtual 68, 3) := by decide +kernel
theorem dX0_dropsOf_22 : decode cX0_dropsOf 22 = .ok (.istore_n 2, 1) := by decide +kernel
theorem dX0_dropsOf_23 : decode cX0_dropsOf 23 = .ok (.iload_n 2, 1) := by decide +kernel
theorem dX0_dropsOf_24 : decode cX0_dropsOf 24 = .ok (.bipush 10, 2) := by decide +kernel
theorem dX0_dropsOf_26 : decode cX0_dropsOf 26 = .ok (.idiv, 1) := by decide +kernel
theorem dX0_dropsOf_27 : decode cX0_dropsOf 27 = .ok (.iconst 0, 1) := by decide +kernel
theorem dX0_dropsOf_28 : decode cX0_dropsOf 28 = .ok (.bipush 99, 2) := by decide +kernel
theorem dX0_dropsOf_30 : decode cX0_dropsOf 30 = .ok (.invokestatic 64, 3) := by decide +kernel
theorem dX0_dropsOf_33 : decode cX0_dropsOf 33 = .ok (.ireturn, 1) := by decide +kernel
theorem dX0_goThroughTrial_0 : decode cX0_goThroughTrial 0 = .ok (.aload_n 0, 1) := by decide +kernel
theorem dX0_goThroughTrial_1 : decode cX0_goThroughTrial 1 = .ok (.iload_n 1, 1) := by decide +kernel
theorem dX0_goThroughTrial_2 : decode cX0_goThroughTrial 2 = .ok (.invokevirtual 90, 3) := by decide +kernel
theorem dX0_goThroughTrial_5 : decode cX0_goThroughTrial 5 = .ok (.istore_n 3, 1) := by decide +kernel
theorem dX0_goThroughTrial_6 : decode cX0_goThroughTrial 6 = .ok (.aload_n 0, 1) := by decide +kernel
theorem dX0_goThroughTrial_7 : decode cX0_goThroughTrial 7 = .ok (.getfield 34, 3) := by decide +kernel
theorem dX0_goThroughTrial_10 : decode cX0_goThroughTrial 10 = .ok (.getfield 93, 3) := by decide +kernel
theorem dX0_goThroughTrial_13 : decode cX0_goThroughTrial 13 = .ok (.iload_n 2, 1) := by decide +kernel
theorem dX0_goThroughTrial_14 : decode cX0_goThroughTrial 14 = .ok (.iaload, 1) := by decide +kernel
theorem dX0_goThroughTrial_15 : decode cX0_goThroughTrial 15 = .ok (.iload_n 3, 1) := by decide +kernel
theorem dX0_goThroughTrial_16 : decode cX0_goThroughTrial 16 = .ok (.isub, 1) := by decide +kernel
theorem dX0_goThroughTrial_17 : decode cX0_goThroughTrial 17 = .ok (.istore 4, 2) := by decide +kernel
theorem dX0_goThroughTrial_19 : decode cX0_goThroughTrial 19 = .ok (.iconst 0, 1) := by decide +kernel
theorem dX0_goThroughTrial_20 : decode cX0_goThroughTrial 20 = .ok (.istore 5, 2) := by decide +kernel
theorem dX0_goThroughTrial_22 : decode cX0_goThroughTrial 22 = .ok (.iload 5, 2) := by decide +kernel
theorem dX0_goThroughTrial_24 : decode cX0_goThroughTrial 24 = .ok (.aload_n 0, 1) := by decide +kernel
theorem dX0_goThroughTrial_25 : decode cX0_goThroughTrial 25 = .ok (.getfield 34, 3) := by decide +kernel
theorem dX0_goThroughTrial_28 : decode cX0_goThroughTrial 28 = .ok (.getfield 72, 3) := by decide +kernel
theorem dX0_goThroughTrial_31 : decode cX0_goThroughTrial 31 = .ok (.if_icmp .ge 66, 3) := by decide +kernel
theorem dX0_goThroughTrial_34 : decode cX0_goThroughTrial 34 = .ok (.iload_n 1, 1) := by decide +kernel
theorem dX0_goThroughTrial_35 : decode cX0_goThroughTrial 35 = .ok (.iload 5, 2) := by decide +kernel
theorem dX0_goThroughTrial_37 : decode cX0_goThroughTrial 37 = .ok (.invokestatic 75, 3) := by decide +kernel
theorem dX0_goThroughTrial_40 : decode cX0_goThroughTrial 40 = .ok (.ifCond .eq 51, 3) := by decide +kernel
theorem dX0_goThroughTrial_43 : decode cX0_goThroughTrial 43 = .ok (.aload_n 0, 1) := by decide +kernel
theorem dX0_goThroughTrial_44 : decode cX0_goThroughTrial 44 = .ok (.iconst 0, 1) := by decide +kernel
theorem dX0_goThroughTrial_45 : decode cX0_goThroughTrial 45 = .ok (.iload 5, 2) := by decide +kernel
theorem dX0_goThroughTrial_47 : decode cX0_goThroughTrial 47 = .ok (.iload_n 3, 1) := by decide +kernel
theorem dX0_goThroughTrial_48 : decode cX0_goThroughTrial 48 = .ok (.aload_n 0, 1) := by decide +kernel
theorem dX0_goThroughTrial_49 : decode cX0_goThroughTrial 49 = .ok (.getfield 34, 3) := by decide +kernel
theorem dX0_goThroughTrial_52 : decode cX0_goThroughTrial 52 = .ok (.getfield 93, 3) := by decide +kernel
theorem dX0_goThroughTrial_55 : decode cX0_goThroughTrial 55 = .ok (.iload_n 2, 1) := by decide +kernel
theorem dX0_goThroughTrial_56 : decode cX0_goThroughTrial 56 = .ok (.iaload, 1) := by decide +kernel
theorem dX0_goThroughTrial_57 : decode cX0_goThroughTrial 57 = .ok (.aload_n 0, 1) := by decide +kernel
theorem dX0_goThroughTrial_58 : decode cX0_goThroughTrial 58 = .ok (.getfield 47, 3) := by decide +kernel
theorem dX0_goThroughTrial_61 : decode cX0_goThroughTrial 61 = .ok (.invokevirtual 68, 3) := by decide +kernel
theorem dX0_goThroughTrial_64 : decode cX0_goThroughTrial 64 = .ok (.istore 6, 2) := by decide +kernel
theorem dX0_goThroughTrial_66 : decode cX0_goThroughTrial 66 = .ok (.aload_n 0, 1) := by decide +kernel
theorem dX0_goThroughTrial_67 : decode cX0_goThroughTrial 67 = .ok (.getfield 24, 3) := by decide +kernel
theorem dX0_goThroughTrial_70 : decode cX0_goThroughTrial 70 = .ok (.iload 5, 2) := by decide +kernel
theorem dX0_goThroughTrial_72 : decode cX0_goThroughTrial 72 = .ok (.aload_n 0, 1) := by decide +kernel
theorem dX0_goThroughTrial_73 : decode cX0_goThroughTrial 73 = .ok (.iload 5, 2) := by decide +kernel
theorem dX0_goThroughTrial_75 : decode cX0_goThroughTrial 75 = .ok (.iload_n 2, 1) := by decide +kernel
theorem dX0_goThroughTrial_76 : decode cX0_goThroughTrial 76 = .ok (.iload 4, 2) := by decide +kernel
theorem dX0_goThroughTrial_78 : decode cX0_goThroughTrial 78 = .ok (.iload 6, 2) := by decide +kernel
theorem dX0_goThroughTrial_80 : decode cX0_goThroughTrial 80 = .ok (.iconst 0, 1) := by decide +kernel
theorem dX0_goThroughTrial_81 : decode cX0_goThroughTrial 81 = .ok (.sipush 400, 3) := by decide +kernel
theorem dX0_goThroughTrial_84 : decode cX0_goThroughTrial 84 = .ok (.invokestatic 64, 3) := by decide +kernel
theorem dX0_goThroughTrial_87 : decode cX0_goThroughTrial 87 = .ok (.invokevirtual 96, 3) := by decide +kernel
theorem dX0_goThroughTrial_90 : decode cX0_goThroughTrial 90 = .ok (.iastore, 1) := by decide +kernel
theorem dX0_goThroughTrial_91 : decode cX0_goThroughTrial 91 = .ok (.iinc 5 1, 3) := by decide +kernel
theorem dX0_goThroughTrial_94 : decode cX0_goThroughTrial 94 = .ok (.goto (-72), 3) := by decide +kernel
theorem dX0_goThroughTrial_97 : decode cX0_goThroughTrial 97 = .ok (.iconst 0, 1) := by decide +kernel
theorem dX0_goThroughTrial_98 : decode cX0_goThroughTrial 98 = .ok (.istore 5, 2) := by decide +kernel
theorem dX0_goThroughTrial_100 : decode cX0_goThroughTrial 100 = .ok (.iload 5, 2) := by decide +kernel
theorem dX0_goThroughTrial_102 : decode cX0_goThroughTrial 102 = .ok (.aload_n 0, 1) := by decide +kernel
theorem dX0_goThroughTrial_103 : decode cX0_goThroughTrial 103 = .ok (.getfield 34, 3) := by decide +kernel
theorem dX0_goThroughTrial_106 : decode cX0_goThroughTrial 106 = .ok (.getfield 72, 3) := by decide +kernel
theorem dX0_goThroughTrial_109 : decode cX0_goThroughTrial 109 = .ok (.if_icmp .ge 75, 3) := by decide +kernel
theorem dX0_goThroughTrial_112 : decode cX0_goThroughTrial 112 = .ok (.iload_n 1, 1) := by decide +kernel
theorem dX0_goThroughTrial_113 : decode cX0_goThroughTrial 113 = .ok (.iload 5, 2) := by decide +kernel
theorem dX0_goThroughTrial_115 : decode cX0_goThroughTrial 115 = .ok (.invokestatic 75, 3) := by decide +kernel
theorem dX0_goThroughTrial_118 : decode cX0_goThroughTrial 118 = .ok (.ifCond .eq 60, 3) := by decide +kernel
theorem dX0_goThroughTrial_121 : decode cX0_goThroughTrial 121 = .ok (.aload_n 0, 1) := by decide +kernel
theorem dX0_goThroughTrial_122 : decode cX0_goThroughTrial 122 = .ok (.getfield 9, 3) := by decide +kernel
theorem dX0_goThroughTrial_125 : decode cX0_goThroughTrial 125 = .ok (.iload 5, 2) := by decide +kernel
theorem dX0_goThroughTrial_127 : decode cX0_goThroughTrial 127 = .ok (.aload_n 0, 1) := by decide +kernel
theorem dX0_goThroughTrial_128 : decode cX0_goThroughTrial 128 = .ok (.getfield 9, 3) := by decide +kernel
theorem dX0_goThroughTrial_131 : decode cX0_goThroughTrial 131 = .ok (.iload 5, 2) := by decide +kernel
theorem dX0_goThroughTrial_133 : decode cX0_goThroughTrial 133 = .ok (.iaload, 1) := by decide +kernel
theorem dX0_goThroughTrial_134 : decode cX0_goThroughTrial 134 = .ok (.aload_n 0, 1) := by decide +kernel
theorem dX0_goThroughTrial_135 : decode cX0_goThroughTrial 135 = .ok (.getfield 24, 3) := by decide +kernel
theorem dX0_goThroughTrial_138 : decode cX0_goThroughTrial 138 = .ok (.iload 5, 2) := by decide +kernel
theorem dX0_goThroughTrial_140 : decode cX0_goThroughTrial 140 = .ok (.iaload, 1) := by decide +kernel
theorem dX0_goThroughTrial_141 : decode cX0_goThroughTrial 141 = .ok (.iadd, 1) := by decide +kernel
theorem dX0_goThroughTrial_142 : decode cX0_goThroughTrial 142 = .ok (.sipush (-9999), 3) := by decide +kernel
theorem dX0_goThroughTrial_145 : decode cX0_goThroughTrial 145 = .ok (.sipush 9999, 3) := by decide +kernel
theorem dX0_goThroughTrial_148 : decode cX0_goThroughTrial 148 = .ok (.invokestatic 64, 3) := by decide +kernel
theorem dX0_goThroughTrial_151 : decode cX0_goThroughTrial 151 = .ok (.iastore, 1) := by decide +kernel
theorem dX0_goThroughTrial_152 : decode cX0_goThroughTrial 152 = .ok (.aload_n 0, 1) := by decide +kernel
theorem dX0_goThroughTrial_153 : decode cX0_goThroughTrial 153 = .ok (.getfield 15, 3) := by decide +kernel
theorem dX0_goThroughTrial_156 : decode cX0_goThroughTrial 156 = .ok (.iload 5, 2) := by decide +kernel
theorem dX0_goThroughTrial_158 : decode cX0_goThroughTrial 158 = .ok (.dup2, 1) := by decide +kernel
theorem dX0_goThroughTrial_159 : decode cX0_goThroughTrial 159 = .ok (.iaload, 1) := by decide +kernel
theorem dX0_goThroughTrial_160 : decode cX0_goThroughTrial 160 = .ok (.iconst 1, 1) := by decide +kernel
theorem dX0_goThroughTrial_161 : decode cX0_goThroughTrial 161 = .ok (.iadd, 1) := by decide +kernel
theorem dX0_goThroughTrial_162 : decode cX0_goThroughTrial 162 = .ok (.iastore, 1) := by decide +kernel
theorem dX0_goThroughTrial_163 : decode cX0_goThroughTrial 163 = .ok (.aload_n 0, 1) := by decide +kernel
theorem dX0_goThroughTrial_164 : decode cX0_goThroughTrial 164 = .ok (.getfield 18, 3) := by decide +kernel
theorem dX0_goThroughTrial_167 : decode cX0_goThroughTrial 167 = .ok (.iload 5, 2) := by decide +kernel
theorem dX0_goThroughTrial_169 : decode cX0_goThroughTrial 169 = .ok (.iconst 4, 1) := by decide +kernel
theorem dX0_goThroughTrial_170 : decode cX0_goThroughTrial 170 = .ok (.imul, 1) := by decide +kernel
theorem dX0_goThroughTrial_171 : decode cX0_goThroughTrial 171 = .ok (.iload_n 2, 1) := by decide +kernel
theorem dX0_goThroughTrial_172 : decode cX0_goThroughTrial 172 = .ok (.iadd, 1) := by decide +kernel
theorem dX0_goThroughTrial_173 : decode cX0_goThroughTrial 173 = .ok (.dup2, 1) := by decide +kernel
theorem dX0_goThroughTrial_174 : decode cX0_goThroughTrial 174 = .ok (.iaload, 1) := by decide +kernel
theorem dX0_goThroughTrial_175 : decode cX0_goThroughTrial 175 = .ok (.iconst 1, 1) := by decide +kernel
theorem dX0_goThroughTrial_176 : decode cX0_goThroughTrial 176 = .ok (.iadd, 1) := by decide +kernel
theorem dX0_goThroughTrial_177 : decode cX0_goThroughTrial 177 = .ok (.iastore, 1) := by decide +kernel
theorem dX0_goThroughTrial_178 : decode cX0_goThroughTrial 178 = .ok (.iinc 5 1, 3) := by decide +kernel
theorem dX0_goThroughTrial_181 : decode cX0_goThroughTrial 181 = .ok (.goto (-81), 3) := by decide +kernel
theorem dX0_goThroughTrial_184 : decode cX0_goThroughTrial 184 = .ok (.aload_n 0, 1) := by decide +kernel
theorem dX0_goThroughTrial_185 : decode cX0_goThroughTrial 185 = .ok (.getfield 21, 3) := by decide +kernel
theorem dX0_goThroughTrial_188 : decode cX0_goThroughTrial 188 = .ok (.iload_n 2, 1) := by decide +kernel
theorem dX0_goThroughTrial_189 : decode cX0_goThroughTrial 189 = .ok (.dup2, 1) := by decide +kernel
theorem dX0_goThroughTrial_190 : decode cX0_goThroughTrial 190 = .ok (.iaload, 1) := by decide +kernel
theorem dX0_goThroughTrial_191 : decode cX0_goThroughTrial 191 = .ok (.iconst 1, 1) := by decide +kernel
theorem dX0_goThroughTrial_192 : decode cX0_goThroughTrial 192 = .ok (.iadd, 1) := by decide +kernel
theorem dX0_goThroughTrial_193 : decode cX0_goThroughTrial 193 = .ok (.iastore, 1) := by decide +kernel
theorem dX0_goThroughTrial_194 : decode cX0_goThroughTrial 194 = .ok (.aload_n 0, 1) := by decide +kernel
theorem dX0_goThroughTrial_195 : decode cX0_goThroughTrial 195 = .ok (.dup, 1) := by decide +kernel
theorem dX0_goThroughTrial_196 : decode cX0_goThroughTrial 196 = .ok (.getfield 47, 3) := by decide +kernel
theorem dX0_goThroughTrial_199 : decode cX0_goThroughTrial 199 = .ok (.iconst 1, 1) := by decide +kernel
theorem dX0_goThroughTrial_200 : decode cX0_goThroughTrial 200 = .ok (.iadd, 1) := by decide +kernel
theorem dX0_goThroughTrial_201 : decode cX0_goThroughTrial 201 = .ok (.putfield 47, 3) := by decide +kernel
theorem dX0_goThroughTrial_204 : decode cX0_goThroughTrial 204 = .ok (.iload 4, 2) := by decide +kernel
theorem dX0_goThroughTrial_206 : decode cX0_goThroughTrial 206 = .ok (.ireturn, 1) := by decide +kernel
theorem dX0_gainOf_0 : decode cX0_gainOf 0 = .ok (.iload_n 3, 1) := by decide +kernel
theorem dX0_gainOf_1 : decode cX0_gainOf 1 = .ok (.aload_n 0, 1) := by decide +kernel
theorem dX0_gainOf_2 : decode cX0_gainOf 2 = .ok (.iload_n 1, 1) := by decide +kernel
theorem dX0_gainOf_3 : decode cX0_gainOf 3 = .ok (.invokevirtual 100, 3) := by decide +kernel
theorem dX0_gainOf_6 : decode cX0_gainOf 6 = .ok (.imul, 1) := by decide +kernel
theorem dX0_gainOf_7 : decode cX0_gainOf 7 = .ok (.bipush 100, 2) := by decide +kernel
theorem dX0_gainOf_9 : decode cX0_gainOf 9 = .ok (.idiv, 1) := by decide +kernel
theorem dX0_gainOf_10 : decode cX0_gainOf 10 = .ok (.istore 5, 2) := by decide +kernel
theorem dX0_gainOf_12 : decode cX0_gainOf 12 = .ok (.iload 5, 2) := by decide +kernel
theorem dX0_gainOf_14 : decode cX0_gainOf 14 = .ok (.aload_n 0, 1) := by decide +kernel
theorem dX0_gainOf_15 : decode cX0_gainOf 15 = .ok (.getfield 30, 3) := by decide +kernel
theorem dX0_gainOf_18 : decode cX0_gainOf 18 = .ok (.imul, 1) := by decide +kernel
theorem dX0_gainOf_19 : decode cX0_gainOf 19 = .ok (.bipush 100, 2) := by decide +kernel
theorem dX0_gainOf_21 : decode cX0_gainOf 21 = .ok (.idiv, 1) := by decide +kernel
theorem dX0_gainOf_22 : decode cX0_gainOf 22 = .ok (.istore 5, 2) := by decide +kernel
theorem dX0_gainOf_24 : decode cX0_gainOf 24 = .ok (.iload 5, 2) := by decide +kernel
theorem dX0_gainOf_26 : decode cX0_gainOf 26 = .ok (.aload_n 0, 1) := by decide +kernel
theorem dX0_gainOf_27 : decode cX0_gainOf 27 = .ok (.getfield 34, 3) := by decide +kernel
theorem dX0_gainOf_30 : decode cX0_gainOf 30 = .ok (.getfield 103, 3) := by decide +kernel
theorem dX0_gainOf_33 : decode cX0_gainOf 33 = .ok (.aload_n 0, 1) := by decide +kernel
theorem dX0_gainOf_34 : decode cX0_gainOf 34 = .ok (.getfield 34, 3) := by decide +kernel
theorem dX0_gainOf_37 : decode cX0_gainOf 37 = .ok (.getfield 59, 3) := by decide +kernel
theorem dX0_gainOf_40 : decode cX0_gainOf 40 = .ok (.iload_n 1, 1) := by decide +kernel
theorem dX0_gainOf_41 : decode cX0_gainOf 41 = .ok (.iaload, 1) := by decide +kernel
theorem dX0_gainOf_42 : decode cX0_gainOf 42 = .ok (.iconst 4, 1) := by decide +kernel
theorem dX0_gainOf_43 : decode cX0_gainOf 43 = .ok (.imul, 1) := by decide +kernel
theorem dX0_gainOf_44 : decode cX0_gainOf 44 = .ok (.iload_n 2, 1) := by decide +kernel
theorem dX0_gainOf_45 : decode cX0_gainOf 45 = .ok (.iadd, 1) := by decide +kernel
theorem dX0_gainOf_46 : decode cX0_gainOf 46 = .ok (.iaload, 1) := by decide +kernel
theorem dX0_gainOf_47 : decode cX0_gainOf 47 = .ok (.imul, 1) := by decide +kernel
theorem dX0_gainOf_48 : decode cX0_gainOf 48 = .ok (.bipush 100, 2) := by decide +kernel
theorem dX0_gainOf_50 : decode cX0_gainOf 50 = .ok (.idiv, 1) := by decide +kernel
theorem dX0_gainOf_51 : decode cX0_gainOf 51 = .ok (.istore 5, 2) := by decide +kernel
theorem dX0_gainOf_53 : decode cX0_gainOf 53 = .ok (.iload 5, 2) := by decide +kernel
theorem dX0_gainOf_55 : decode cX0_gainOf 55 = .ok (.iload 4, 2) := by decide +kernel
theorem dX0_gainOf_57 : decode cX0_gainOf 57 = .ok (.imul, 1) := by decide +kernel
theorem dX0_gainOf_58 : decode cX0_gainOf 58 = .ok (.bipush 100, 2) := by decide +kernel
theorem dX0_gainOf_60 : decode cX0_gainOf 60 = .ok (.idiv, 1) := by decide +kernel
theorem dX0_gainOf_61 : decode cX0_gainOf 61 = .ok (.ireturn, 1) := by decide +kernel
theorem dX0_gainers_0 : decode cX0_gainers 0 = .ok (.iconst 0, 1) := by decide +kernel
theorem dX0_gainers_1 : decode cX0_gainers 1 = .ok (.istore_n 2, 1) := by decide +kernel
theorem dX0_gainers_2 : decode cX0_gainers 2 = .ok (.iconst 0, 1) := by decide +kernel
theorem dX0_gainers_3 : decode cX0_gainers 3 = .ok (.istore_n 3, 1) := by decide +kernel
theorem dX0_gainers_4 : decode cX0_gainers 4 = .ok (.iload_n 3, 1) := by decide +kernel
theorem dX0_gainers_5 : decode cX0_gainers 5 = .ok (.aload_n 0, 1) := by decide +kernel
theorem dX0_gainers_6 : decode cX0_gainers 6 = .ok (.getfield 34, 3) := by decide +kernel
theorem dX0_gainers_9 : decode cX0_gainers 9 = .ok (.getfield 72, 3) := by decide +kernel
theorem dX0_gainers_12 : decode cX0_gainers 12 = .ok (.if_icmp .ge 32, 3) := by decide +kernel
theorem dX0_gainers_15 : decode cX0_gainers 15 = .ok (.iload_n 1, 1) := by decide +kernel
theorem dX0_gainers_16 : decode cX0_gainers 16 = .ok (.iload_n 3, 1) := by decide +kernel
theorem dX0_gainers_17 : decode cX0_gainers 17 = .ok (.invokestatic 75, 3) := by decide +kernel
theorem dX0_gainers_20 : decode cX0_gainers 20 = .ok (.ifCond .eq 18, 3) := by decide +kernel
theorem dX0_gainers_23 : decode cX0_gainers 23 = .ok (.aload_n 0, 1) := by decide +kernel
theorem dX0_gainers_24 : decode cX0_gainers 24 = .ok (.getfield 24, 3) := by decide +kernel
theorem dX0_gainers_27 : decode cX0_gainers 27 = .ok (.iload_n 3, 1) := by decide +kernel
theorem dX0_gainers_28 : decode cX0_gainers 28 = .ok (.iaload, 1) := by decide +kernel
theorem dX0_gainers_29 : decode cX0_gainers 29 = .ok (.ifCond .eq 9, 3) := by decide +kernel
theorem dX0_gainers_32 : decode cX0_gainers 32 = .ok (.iload_n 2, 1) := by decide +kernel
theorem dX0_gainers_33 : decode cX0_gainers 33 = .ok (.iconst 1, 1) := by decide +kernel
theorem dX0_gainers_34 : decode cX0_gainers 34 = .ok (.iload_n 3, 1) := by decide +kernel
theorem dX0_gainers_35 : decode cX0_gainers 35 = .ok (.ishl, 1) := by decide +kernel
theorem dX0_gainers_36 : decode cX0_gainers 36 = .ok (.ior, 1) := by decide +kernel
theorem dX0_gainers_37 : decode cX0_gainers 37 = .ok (.istore_n 2, 1) := by decide +kernel
theorem dX0_gainers_38 : decode cX0_gainers 38 = .ok (.iinc 3 1, 3) := by decide +kernel
theorem dX0_gainers_41 : decode cX0_gainers 41 = .ok (.goto (-37), 3) := by decide +kernel
theorem dX0_gainers_44 : decode cX0_gainers 44 = .ok (.iload_n 2, 1) := by decide +kernel
theorem dX0_gainers_45 : decode cX0_gainers 45 = .ok (.ireturn, 1) := by decide +kernel
theorem dX0_goThroughDay_0 : decode cX0_goThroughDay 0 = .ok (.aload_n 1, 1) := by decide +kernel
theorem dX0_goThroughDay_1 : decode cX0_goThroughDay 1 = .ok (.ifnonnull 4, 3) := by decide +kernel
theorem dX0_goThroughDay_4 : decode cX0_goThroughDay 4 = .ok (.return_, 1) := by decide +kernel
theorem dX0_goThroughDay_5 : decode cX0_goThroughDay 5 = .ok (.iconst 0, 1) := by decide +kernel
theorem dX0_goThroughDay_6 : decode cX0_goThroughDay 6 = .ok (.istore_n 2, 1) := by decide +kernel
theorem dX0_goThroughDay_7 : decode cX0_goThroughDay 7 = .ok (.iload_n 2, 1) := by decide +kernel
theorem dX0_goThroughDay_8 : decode cX0_goThroughDay 8 = .ok (.aload_n 1, 1) := by decide +kernel
theorem dX0_goThroughDay_9 : decode cX0_goThroughDay 9 = .ok (.getfield 106, 3) := by decide +kernel
theorem dX0_goThroughDay_12 : decode cX0_goThroughDay 12 = .ok (.if_icmp .ge 26, 3) := by decide +kernel
theorem dX0_goThroughDay_15 : decode cX0_goThroughDay 15 = .ok (.aload_n 0, 1) := by decide +kernel
theorem dX0_goThroughDay_16 : decode cX0_goThroughDay 16 = .ok (.aload_n 1, 1) := by decide +kernel
theorem dX0_goThroughDay_17 : decode cX0_goThroughDay 17 = .ok (.getfield 111, 3) := by decide +kernel
theorem dX0_goThroughDay_20 : decode cX0_goThroughDay 20 = .ok (.iload_n 2, 1) := by decide +kernel
theorem dX0_goThroughDay_21 : decode cX0_goThroughDay 21 = .ok (.iaload, 1) := by decide +kernel
theorem dX0_goThroughDay_22 : decode cX0_goThroughDay 22 = .ok (.aload_n 1, 1) := by decide +kernel
theorem dX0_goThroughDay_23 : decode cX0_goThroughDay 23 = .ok (.getfield 114, 3) := by decide +kernel
theorem dX0_goThroughDay_26 : decode cX0_goThroughDay 26 = .ok (.iload_n 2, 1) := by decide +kernel
theorem dX0_goThroughDay_27 : decode cX0_goThroughDay 27 = .ok (.iaload, 1) := by decide +kernel
theorem dX0_goThroughDay_28 : decode cX0_goThroughDay 28 = .ok (.invokevirtual 117, 3) := by decide +kernel
theorem dX0_goThroughDay_31 : decode cX0_goThroughDay 31 = .ok (.pop, 1) := by decide +kernel
theorem dX0_goThroughDay_32 : decode cX0_goThroughDay 32 = .ok (.iinc 2 1, 3) := by decide +kernel
theorem dX0_goThroughDay_35 : decode cX0_goThroughDay 35 = .ok (.goto (-28), 3) := by decide +kernel
theorem dX0_goThroughDay_38 : decode cX0_goThroughDay 38 = .ok (.iconst 0, 1) := by decide +kernel
theorem dX0_goThroughDay_39 : decode cX0_goThroughDay 39 = .ok (.istore_n 2, 1) := by decide +kernel
theorem dX0_goThroughDay_40 : decode cX0_goThroughDay 40 = .ok (.iload_n 2, 1) := by decide +kernel
theorem dX0_goThroughDay_41 : decode cX0_goThroughDay 41 = .ok (.aload_n 0, 1) := by decide +kernel
theorem dX0_goThroughDay_42 : decode cX0_goThroughDay 42 = .ok (.getfield 34, 3) := by decide +kernel
theorem dX0_goThroughDay_45 : decode cX0_goThroughDay 45 = .ok (.getfield 72, 3) := by decide +kernel
theorem dX0_goThroughDay_48 : decode cX0_goThroughDay 48 = .ok (.if_icmp .ge 33, 3) := by decide +kernel
theorem dX0_goThroughDay_51 : decode cX0_goThroughDay 51 = .ok (.aload_n 0, 1) := by decide +kernel
theorem dX0_goThroughDay_52 : decode cX0_goThroughDay 52 = .ok (.getfield 9, 3) := by decide +kernel
theorem dX0_goThroughDay_55 : decode cX0_goThroughDay 55 = .ok (.iload_n 2, 1) := by decide +kernel
theorem dX0_goThroughDay_56 : decode cX0_goThroughDay 56 = .ok (.aload_n 0, 1) := by decide +kernel
theorem dX0_goThroughDay_57 : decode cX0_goThroughDay 57 = .ok (.getfield 9, 3) := by decide +kernel
theorem dX0_goThroughDay_60 : decode cX0_goThroughDay 60 = .ok (.iload_n 2, 1) := by decide +kernel
theorem dX0_goThroughDay_61 : decode cX0_goThroughDay 61 = .ok (.iaload, 1) := by decide +kernel
theorem dX0_goThroughDay_62 : decode cX0_goThroughDay 62 = .ok (.bipush 100, 2) := by decide +kernel
theorem dX0_goThroughDay_64 : decode cX0_goThroughDay 64 = .ok (.aload_n 0, 1) := by decide +kernel
theorem dX0_goThroughDay_65 : decode cX0_goThroughDay 65 = .ok (.iload_n 2, 1) := by decide +kernel
theorem dX0_goThroughDay_66 : decode cX0_goThroughDay 66 = .ok (.invokevirtual 120, 3) := by decide +kernel
theorem dX0_goThroughDay_69 : decode cX0_goThroughDay 69 = .ok (.isub, 1) := by decide +kernel
theorem dX0_goThroughDay_70 : decode cX0_goThroughDay 70 = .ok (.imul, 1) := by decide +kernel
theorem dX0_goThroughDay_71 : decode cX0_goThroughDay 71 = .ok (.bipush 100, 2) := by decide +kernel
theorem dX0_goThroughDay_73 : decode cX0_goThroughDay 73 = .ok (.idiv, 1) := by decide +kernel
theorem dX0_goThroughDay_74 : decode cX0_goThroughDay 74 = .ok (.iastore, 1) := by decide +kernel
theorem dX0_goThroughDay_75 : decode cX0_goThroughDay 75 = .ok (.iinc 2 1, 3) := by decide +kernel
theorem dX0_goThroughDay_78 : decode cX0_goThroughDay 78 = .ok (.goto (-38), 3) := by decide +kernel
theorem dX0_goThroughDay_81 : decode cX0_goThroughDay 81 = .ok (.aload_n 0, 1) := by decide +kernel
theorem dX0_goThroughDay_82 : decode cX0_goThroughDay 82 = .ok (.dup, 1) := by decide +kernel
theorem dX0_goThroughDay_83 : decode cX0_goThroughDay 83 = .ok (.getfield 44, 3) := by decide +kernel
theorem dX0_goThroughDay_86 : decode cX0_goThroughDay 86 = .ok (.iconst 1, 1) := by decide +kernel
theorem dX0_goThroughDay_87 : decode cX0_goThroughDay 87 = .ok (.iadd, 1) := by decide +kernel
theorem dX0_goThroughDay_88 : decode cX0_goThroughDay 88 = .ok (.putfield 44, 3) := by decide +kernel
theorem dX0_goThroughDay_91 : decode cX0_goThroughDay 91 = .ok (.aload_n 0, 1) := by decide +kernel
theorem dX0_goThroughDay_92 : decode cX0_goThroughDay 92 = .ok (.iconst 0, 1) := by decide +kernel
theorem dX0_goThroughDay_93 : decode cX0_goThroughDay 93 = .ok (.putfield 47, 3) := by decide +kernel
theorem dX0_goThroughDay_96 : decode cX0_goThroughDay 96 = .ok (.return_, 1) := by decide +kernel
theorem dX0_staysThroughDay_0 : decode cX0_staysThroughDay 0 = .ok (.aload_n 0, 1) := by decide +kernel
theorem dX0_staysThroughDay_1 : decode cX0_staysThroughDay 1 = .ok (.getfield 9, 3) := by decide +kernel
theorem dX0_staysThroughDay_4 : decode cX0_staysThroughDay 4 = .ok (.iconst 0, 1) := by decide +kernel
theorem dX0_staysThroughDay_5 : decode cX0_staysThroughDay 5 = .ok (.aload_n 0, 1) := by decide +kernel
theorem dX0_staysThroughDay_6 : decode cX0_staysThroughDay 6 = .ok (.getfield 27, 3) := by decide +kernel
theorem dX0_staysThroughDay_9 : decode cX0_staysThroughDay 9 = .ok (.iconst 0, 1) := by decide +kernel
theorem dX0_staysThroughDay_10 : decode cX0_staysThroughDay 10 = .ok (.bipush 8, 2) := by decide +kernel
theorem dX0_staysThroughDay_12 : decode cX0_staysThroughDay 12 = .ok (.invokestatic 38, 3) := by decide +kernel
theorem dX0_staysThroughDay_15 : decode cX0_staysThroughDay 15 = .ok (.aload_n 0, 1) := by decide +kernel
theorem dX0_staysThroughDay_16 : decode cX0_staysThroughDay 16 = .ok (.aload_n 1, 1) := by decide +kernel
theorem dX0_staysThroughDay_17 : decode cX0_staysThroughDay 17 = .ok (.invokevirtual 123, 3) := by decide +kernel
theorem dX0_staysThroughDay_20 : decode cX0_staysThroughDay 20 = .ok (.iconst 0, 1) := by decide +kernel
theorem dX0_staysThroughDay_21 : decode cX0_staysThroughDay 21 = .ok (.istore_n 2, 1) := by decide +kernel
theorem dX0_staysThroughDay_22 : decode cX0_staysThroughDay 22 = .ok (.iload_n 2, 1) := by decide +kernel
theorem dX0_staysThroughDay_23 : decode cX0_staysThroughDay 23 = .ok (.bipush 8, 2) := by decide +kernel
theorem dX0_staysThroughDay_25 : decode cX0_staysThroughDay 25 = .ok (.if_icmp .ge 26, 3) := by decide +kernel
theorem dX0_staysThroughDay_28 : decode cX0_staysThroughDay 28 = .ok (.aload_n 0, 1) := by decide +kernel
theorem dX0_staysThroughDay_29 : decode cX0_staysThroughDay 29 = .ok (.getfield 9, 3) := by decide +kernel
theorem dX0_staysThroughDay_32 : decode cX0_staysThroughDay 32 = .ok (.iload_n 2, 1) := by decide +kernel
theorem dX0_staysThroughDay_33 : decode cX0_staysThroughDay 33 = .ok (.iaload, 1) := by decide +kernel
theorem dX0_staysThroughDay_34 : decode cX0_staysThroughDay 34 = .ok (.aload_n 0, 1) := by decide +kernel
theorem dX0_staysThroughDay_35 : decode cX0_staysThroughDay 35 = .ok (.getfield 27, 3) := by decide +kernel
theorem dX0_staysThroughDay_38 : decode cX0_staysThroughDay 38 = .ok (.iload_n 2, 1) := by decide +kernel
theorem dX0_staysThroughDay_39 : decode cX0_staysThroughDay 39 = .ok (.iaload, 1) := by decide +kernel
theorem dX0_staysThroughDay_40 : decode cX0_staysThroughDay 40 = .ok (.if_icmp .eq 5, 3) := by decide +kernel
theorem dX0_staysThroughDay_43 : decode cX0_staysThroughDay 43 = .ok (.iconst 0, 1) := by decide +kernel
theorem dX0_staysThroughDay_44 : decode cX0_staysThroughDay 44 = .ok (.ireturn, 1) := by decide +kernel
theorem dX0_staysThroughDay_45 : decode cX0_staysThroughDay 45 = .ok (.iinc 2 1, 3) := by decide +kernel
theorem dX0_staysThroughDay_48 : decode cX0_staysThroughDay 48 = .ok (.goto (-26), 3) := by decide +kernel
theorem dX0_staysThroughDay_51 : decode cX0_staysThroughDay 51 = .ok (.iconst 1, 1) := by decide +kernel
theorem dX0_staysThroughDay_52 : decode cX0_staysThroughDay 52 = .ok (.ireturn, 1) := by decide +kernel
theorem dX0_says_0 : decode cX0_says 0 = .ok (.aload_n 0, 1) := by decide +kernel
theorem dX0_says_1 : decode cX0_says 1 = .ok (.getfield 34, 3) := by decide +kernel
theorem dX0_says_4 : decode cX0_says 4 = .ok (.getfield 127, 3) := by decide +kernel
theorem dX0_says_7 : decode cX0_says 7 = .ok (.astore 6, 2) := by decide +kernel
theorem dX0_says_9 : decode cX0_says 9 = .ok (.aload 6, 2) := by decide +kernel
theorem dX0_says_11 : decode cX0_says 11 = .ok (.iconst 0, 1) := by decide +kernel
theorem dX0_says_12 : decode cX0_says 12 = .ok (.aload_n 0, 1) := by decide +kernel
theorem dX0_says_13 : decode cX0_says 13 = .ok (.getfield 9, 3) := by decide +kernel
theorem dX0_says_16 : decode cX0_says 16 = .ok (.iload_n 2, 1) := by decide +kernel
theorem dX0_says_17 : decode cX0_says 17 = .ok (.iaload, 1) := by decide +kernel
theorem dX0_says_18 : decode cX0_says 18 = .ok (.iastore, 1) := by decide +kernel
theorem dX0_says_19 : decode cX0_says 19 = .ok (.aload 6, 2) := by decide +kernel
theorem dX0_says_21 : decode cX0_says 21 = .ok (.iconst 1, 1) := by decide +kernel
theorem dX0_says_22 : decode cX0_says 22 = .ok (.iload_n 3, 1) := by decide +kernel
theorem dX0_says_23 : decode cX0_says 23 = .ok (.iastore, 1) := by decide +kernel
theorem dX0_says_24 : decode cX0_says 24 = .ok (.aload 6, 2) := by decide +kernel
theorem dX0_says_26 : decode cX0_says 26 = .ok (.iconst 2, 1) := by decide +kernel
theorem dX0_says_27 : decode cX0_says 27 = .ok (.iload 4, 2) := by decide +kernel
theorem dX0_says_29 : decode cX0_says 29 = .ok (.iastore, 1) := by decide +kernel
theorem dX0_says_30 : decode cX0_says 30 = .ok (.aload 6, 2) := by decide +kernel
theorem dX0_says_32 : decode cX0_says 32 = .ok (.iconst 3, 1) := by decide +kernel
theorem dX0_says_33 : decode cX0_says 33 = .ok (.aload_n 0, 1) := by decide +kernel
theorem dX0_says_34 : decode cX0_says 34 = .ok (.getfield 34, 3) := by decide +kernel
theorem dX0_says_37 : decode cX0_says 37 = .ok (.getfield 59, 3) := by decide +kernel
theorem dX0_says_40 : decode cX0_says 40 = .ok (.iload_n 2, 1) := by decide +kernel
theorem dX0_says_41 : decode cX0_says 41 = .ok (.iaload, 1) := by decide +kernel
theorem dX0_says_42 : decode cX0_says 42 = .ok (.iastore, 1) := by decide +kernel
theorem dX0_says_43 : decode cX0_says 43 = .ok (.aload 6, 2) := by decide +kernel
theorem dX0_says_45 : decode cX0_says 45 = .ok (.iconst 4, 1) := by decide +kernel
theorem dX0_says_46 : decode cX0_says 46 = .ok (.aload_n 0, 1) := by decide +kernel
theorem dX0_says_47 : decode cX0_says 47 = .ok (.getfield 44, 3) := by decide +kernel
theorem dX0_says_50 : decode cX0_says 50 = .ok (.iastore, 1) := by decide +kernel
theorem dX0_says_51 : decode cX0_says 51 = .ok (.aload 6, 2) := by decide +kernel
theorem dX0_says_53 : decode cX0_says 53 = .ok (.iconst 5, 1) := by decide +kernel
theorem dX0_says_54 : decode cX0_says 54 = .ok (.iload 5, 2) := by decide +kernel
theorem dX0_says_56 : decode cX0_says 56 = .ok (.iastore, 1) := by decide +kernel
theorem dX0_says_57 : decode cX0_says 57 = .ok (.aload_n 0, 1) := by decide +kernel
theorem dX0_says_58 : decode cX0_says 58 = .ok (.getfield 34, 3) := by decide +kernel
theorem dX0_says_61 : decode cX0_says 61 = .ok (.getfield 130, 3) := by decide +kernel
theorem dX0_says_64 : decode cX0_says 64 = .ok (.aload_n 0, 1) := by decide +kernel
theorem dX0_says_65 : decode cX0_says 65 = .ok (.getfield 50, 3) := by decide +kernel
theorem dX0_says_68 : decode cX0_says 68 = .ok (.aaload, 1) := by decide +kernel
theorem dX0_says_69 : decode cX0_says 69 = .ok (.astore 7, 2) := by decide +kernel
theorem dX0_says_71 : decode cX0_says 71 = .ok (.aload 7, 2) := by decide +kernel
theorem dX0_says_73 : decode cX0_says 73 = .ok (.ifnonnull 7, 3) := by decide +kernel
theorem dX0_says_76 : decode cX0_says 76 = .ok (.iconst 0, 1) := by decide +kernel
theorem dX0_says_77 : decode cX0_says 77 = .ok (.goto 18, 3) := by decide +kernel
theorem dX0_says_80 : decode cX0_says 80 = .ok (.aload 7, 2) := by decide +kernel
theorem dX0_says_82 : decode cX0_says 82 = .ok (.iload_n 1, 1) := by decide +kernel
theorem dX0_says_83 : decode cX0_says 83 = .ok (.aload 6, 2) := by decide +kernel
theorem dX0_says_85 : decode cX0_says 85 = .ok (.aload_n 0, 1) := by decide +kernel
theorem dX0_says_86 : decode cX0_says 86 = .ok (.getfield 34, 3) := by decide +kernel
theorem dX0_says_89 : decode cX0_says 89 = .ok (.getfield 134, 3) := by decide +kernel
theorem dX0_says_92 : decode cX0_says 92 = .ok (.invokevirtual 137, 3) := by decide +kernel
theorem dX0_says_95 : decode cX0_says 95 = .ok (.ireturn, 1) := by decide +kernel
theorem dX1_init_0 : decode cX1_init 0 = .ok (.aload_n 0, 1) := by decide +kernel
theorem dX1_init_1 : decode cX1_init 1 = .ok (.invokespecial 1, 3) := by decide +kernel
theorem dX1_init_4 : decode cX1_init 4 = .ok (.aload_n 0, 1) := by decide +kernel
theorem dX1_init_5 : decode cX1_init 5 = .ok (.aload_n 1, 1) := by decide +kernel
theorem dX1_init_6 : decode cX1_init 6 = .ok (.iload_n 3, 1) := by decide +kernel
theorem dX1_init_7 : decode cX1_init 7 = .ok (.invokestatic 7, 3) := by decide +kernel
theorem dX1_init_10 : decode cX1_init 10 = .ok (.putfield 13, 3) := by decide +kernel
theorem dX1_init_13 : decode cX1_init 13 = .ok (.aload_n 0, 1) := by decide +kernel
theorem dX1_init_14 : decode cX1_init 14 = .ok (.aload_n 2, 1) := by decide +kernel
theorem dX1_init_15 : decode cX1_init 15 = .ok (.iload_n 3, 1) := by decide +kernel
theorem dX1_init_16 : decode cX1_init 16 = .ok (.invokestatic 7, 3) := by decide +kernel
theorem dX1_init_19 : decode cX1_init 19 = .ok (.putfield 19, 3) := by decide +kernel
theorem dX1_init_22 : decode cX1_init 22 = .ok (.aload_n 0, 1) := by decide +kernel
theorem dX1_init_23 : decode cX1_init 23 = .ok (.iload_n 3, 1) := by decide +kernel
theorem dX1_init_24 : decode cX1_init 24 = .ok (.putfield 22, 3) := by decide +kernel
theorem dX1_init_27 : decode cX1_init 27 = .ok (.return_, 1) := by decide +kernel
theorem dX2_init_0 : decode cX2_init 0 = .ok (.aload_n 0, 1) := by decide +kernel
theorem dX2_init_1 : decode cX2_init 1 = .ok (.invokespecial 3, 3) := by decide +kernel
theorem dX2_init_4 : decode cX2_init 4 = .ok (.aload_n 0, 1) := by decide +kernel
theorem dX2_init_5 : decode cX2_init 5 = .ok (.bipush 24, 2) := by decide +kernel
theorem dX2_init_7 : decode cX2_init 7 = .ok (.newarray .int, 2) := by decide +kernel
theorem dX2_init_9 : decode cX2_init 9 = .ok (.putfield 9, 3) := by decide +kernel
theorem dX2_init_12 : decode cX2_init 12 = .ok (.aload_n 0, 1) := by decide +kernel
theorem dX2_init_13 : decode cX2_init 13 = .ok (.bipush 24, 2) := by decide +kernel
theorem dX2_init_15 : decode cX2_init 15 = .ok (.newarray .int, 2) := by decide +kernel
theorem dX2_init_17 : decode cX2_init 17 = .ok (.putfield 15, 3) := by decide +kernel
theorem dX2_init_20 : decode cX2_init 20 = .ok (.return_, 1) := by decide +kernel
theorem dX2_read_0 : decode cX2_read 0 = .ok (.iconst 0, 1) := by decide +kernel
theorem dX2_read_1 : decode cX2_read 1 = .ok (.istore_n 3, 1) := by decide +kernel
theorem dX2_read_2 : decode cX2_read 2 = .ok (.iconst 0, 1) := by decide +kernel
theorem dX2_read_3 : decode cX2_read 3 = .ok (.istore 4, 2) := by decide +kernel
theorem dX2_read_5 : decode cX2_read 5 = .ok (.iconst 0, 1) := by decide +kernel
theorem dX2_read_6 : decode cX2_read 6 = .ok (.istore 5, 2) := by decide +kernel
theorem dX2_read_8 : decode cX2_read 8 = .ok (.iload 5, 2) := by decide +kernel
theorem dX2_read_10 : decode cX2_read 10 = .ok (.aload_n 1, 1) := by decide +kernel
theorem dX2_read_11 : decode cX2_read 11 = .ok (.getfield 18, 3) := by decide +kernel
theorem dX2_read_14 : decode cX2_read 14 = .ok (.if_icmp .ge 116, 3) := by decide +kernel
theorem dX2_read_17 : decode cX2_read 17 = .ok (.aload_n 1, 1) := by decide +kernel
theorem dX2_read_18 : decode cX2_read 18 = .ok (.iload 5, 2) := by decide +kernel
theorem dX2_read_20 : decode cX2_read 20 = .ok (.invokevirtual 24, 3) := by decide +kernel
theorem dX2_read_23 : decode cX2_read 23 = .ok (.bipush 97, 2) := by decide +kernel
theorem dX2_read_25 : decode cX2_read 25 = .ok (.isub, 1) := by decide +kernel
theorem dX2_read_26 : decode cX2_read 26 = .ok (.istore 6, 2) := by decide +kernel
theorem dX2_read_28 : decode cX2_read 28 = .ok (.aload_n 1, 1) := by decide +kernel
theorem dX2_read_29 : decode cX2_read 29 = .ok (.iload 5, 2) := by decide +kernel
theorem dX2_read_31 : decode cX2_read 31 = .ok (.invokevirtual 24, 3) := by decide +kernel
theorem dX2_read_34 : decode cX2_read 34 = .ok (.invokestatic 28, 3) := by decide +kernel
theorem dX2_read_37 : decode cX2_read 37 = .ok (.istore 7, 2) := by decide +kernel
theorem dX2_read_39 : decode cX2_read 39 = .ok (.iload_n 3, 1) := by decide +kernel
theorem dX2_read_40 : decode cX2_read 40 = .ok (.bipush 24, 2) := by decide +kernel
theorem dX2_read_42 : decode cX2_read 42 = .ok (.if_icmp .ne 10, 3) := by decide +kernel
theorem dX2_read_45 : decode cX2_read 45 = .ok (.aload_n 0, 1) := by decide +kernel
theorem dX2_read_46 : decode cX2_read 46 = .ok (.iload 5, 2) := by decide +kernel
theorem dX2_read_48 : decode cX2_read 48 = .ok (.invokevirtual 31, 3) := by decide +kernel
theorem dX2_read_51 : decode cX2_read 51 = .ok (.areturn, 1) := by decide +kernel
theorem dX2_read_52 : decode cX2_read 52 = .ok (.iload 6, 2) := by decide +kernel
theorem dX2_read_54 : decode cX2_read 54 = .ok (.iconst 0, 1) := by decide +kernel
theorem dX2_read_55 : decode cX2_read 55 = .ok (.iload_n 2, 1) := by decide +kernel
theorem dX2_read_56 : decode cX2_read 56 = .ok (.iconst 1, 1) := by decide +kernel
theorem dX2_read_57 : decode cX2_read 57 = .ok (.isub, 1) := by decide +kernel
theorem dX2_read_58 : decode cX2_read 58 = .ok (.invokestatic 35, 3) := by decide +kernel
theorem dX2_read_61 : decode cX2_read 61 = .ok (.ifCond .eq 25, 3) := by decide +kernel
theorem dX2_read_64 : decode cX2_read 64 = .ok (.iload 4, 2) := by decide +kernel
theorem dX2_read_66 : decode cX2_read 66 = .ok (.iload 6, 2) := by decide +kernel
theorem dX2_read_68 : decode cX2_read 68 = .ok (.invokestatic 39, 3) := by decide +kernel
theorem dX2_read_71 : decode cX2_read 71 = .ok (.ifCond .ne 15, 3) := by decide +kernel
theorem dX2_read_74 : decode cX2_read 74 = .ok (.iload 4, 2) := by decide +kernel
theorem dX2_read_76 : decode cX2_read 76 = .ok (.iconst 1, 1) := by decide +kernel
theorem dX2_read_77 : decode cX2_read 77 = .ok (.iload 6, 2) := by decide +kernel
theorem dX2_read_79 : decode cX2_read 79 = .ok (.ishl, 1) := by decide +kernel
theorem dX2_read_80 : decode cX2_read 80 = .ok (.ior, 1) := by decide +kernel
theorem dX2_read_81 : decode cX2_read 81 = .ok (.istore 4, 2) := by decide +kernel
theorem dX2_read_83 : decode cX2_read 83 = .ok (.goto 41, 3) := by decide +kernel
theorem dX2_read_86 : decode cX2_read 86 = .ok (.iload 7, 2) := by decide +kernel
theorem dX2_read_88 : decode cX2_read 88 = .ok (.iconst (-1), 1) := by decide +kernel
theorem dX2_read_89 : decode cX2_read 89 = .ok (.if_icmp .eq 28, 3) := by decide +kernel
theorem dX2_read_92 : decode cX2_read 92 = .ok (.aload_n 0, 1) := by decide +kernel
theorem dX2_read_93 : decode cX2_read 93 = .ok (.getfield 9, 3) := by decide +kernel
theorem dX2_read_96 : decode cX2_read 96 = .ok (.iload_n 3, 1) := by decide +kernel
theorem dX2_read_97 : decode cX2_read 97 = .ok (.iload 4, 2) := by decide +kernel
theorem dX2_read_99 : decode cX2_read 99 = .ok (.iastore, 1) := by decide +kernel
theorem dX2_read_100 : decode cX2_read 100 = .ok (.aload_n 0, 1) := by decide +kernel
theorem dX2_read_101 : decode cX2_read 101 = .ok (.getfield 15, 3) := by decide +kernel
theorem dX2_read_104 : decode cX2_read 104 = .ok (.iload_n 3, 1) := by decide +kernel
theorem dX2_read_105 : decode cX2_read 105 = .ok (.iload 7, 2) := by decide +kernel
theorem dX2_read_107 : decode cX2_read 107 = .ok (.iastore, 1) := by decide +kernel
theorem dX2_read_108 : decode cX2_read 108 = .ok (.iinc 3 1, 3) := by decide +kernel
theorem dX2_read_111 : decode cX2_read 111 = .ok (.iconst 0, 1) := by decide +kernel
theorem dX2_read_112 : decode cX2_read 112 = .ok (.istore 4, 2) := by decide +kernel
theorem dX2_read_114 : decode cX2_read 114 = .ok (.goto 10, 3) := by decide +kernel
theorem dX2_read_117 : decode cX2_read 117 = .ok (.aload_n 0, 1) := by decide +kernel
theorem dX2_read_118 : decode cX2_read 118 = .ok (.iload 5, 2) := by decide +kernel
theorem dX2_read_120 : decode cX2_read 120 = .ok (.invokevirtual 31, 3) := by decide +kernel
theorem dX2_read_123 : decode cX2_read 123 = .ok (.areturn, 1) := by decide +kernel
theorem dX2_read_124 : decode cX2_read 124 = .ok (.iinc 5 1, 3) := by decide +kernel
theorem dX2_read_127 : decode cX2_read 127 = .ok (.goto (-119), 3) := by decide +kernel
theorem dX2_read_130 : decode cX2_read 130 = .ok (.iload_n 3, 1) := by decide +kernel
theorem dX2_read_131 : decode cX2_read 131 = .ok (.ifCond .eq 8, 3) := by decide +kernel
theorem dX2_read_134 : decode cX2_read 134 = .ok (.iload 4, 2) := by decide +kernel
theorem dX2_read_136 : decode cX2_read 136 = .ok (.ifCond .eq 12, 3) := by decide +kernel
theorem dX2_read_139 : decode cX2_read 139 = .ok (.aload_n 0, 1) := by decide +kernel
theorem dX2_read_140 : decode cX2_read 140 = .ok (.aload_n 1, 1) := by decide +kernel
theorem dX2_read_141 : decode cX2_read 141 = .ok (.getfield 18, 3) := by decide +kernel
theorem dX2_read_144 : decode cX2_read 144 = .ok (.invokevirtual 31, 3) := by decide +kernel
theorem dX2_read_147 : decode cX2_read 147 = .ok (.areturn, 1) := by decide +kernel
theorem dX2_read_148 : decode cX2_read 148 = .ok (.new 43, 3) := by decide +kernel
theorem dX2_read_151 : decode cX2_read 151 = .ok (.dup, 1) := by decide +kernel
theorem dX2_read_152 : decode cX2_read 152 = .ok (.aload_n 0, 1) := by decide +kernel
theorem dX2_read_153 : decode cX2_read 153 = .ok (.getfield 9, 3) := by decide +kernel
theorem dX2_read_156 : decode cX2_read 156 = .ok (.aload_n 0, 1) := by decide +kernel
theorem dX2_read_157 : decode cX2_read 157 = .ok (.getfield 15, 3) := by decide +kernel
theorem dX2_read_160 : decode cX2_read 160 = .ok (.iload_n 3, 1) := by decide +kernel
theorem dX2_read_161 : decode cX2_read 161 = .ok (.invokespecial 45, 3) := by decide +kernel
theorem dX2_read_164 : decode cX2_read 164 = .ok (.areturn, 1) := by decide +kernel
theorem dX2_refused_0 : decode cX2_refused 0 = .ok (.aload_n 0, 1) := by decide +kernel
theorem dX2_refused_1 : decode cX2_refused 1 = .ok (.iload_n 1, 1) := by decide +kernel
theorem dX2_refused_2 : decode cX2_refused 2 = .ok (.putfield 48, 3) := by decide +kernel
theorem dX2_refused_5 : decode cX2_refused 5 = .ok (.aconst_null, 1) := by decide +kernel
theorem dX2_refused_6 : decode cX2_refused 6 = .ok (.areturn, 1) := by decide +kernel
theorem dX2_endOf_0 : decode cX2_endOf 0 = .ok (.iload_n 0, 1) := by decide +kernel
theorem dX2_endOf_1 : decode cX2_endOf 1 = .ok (.lookupswitch 51 #[(33, 47), (43, 45), (45, 43), (63, 49)], 43) := by decide +kernel
theorem dX2_endOf_44 : decode cX2_endOf 44 = .ok (.iconst 0, 1) := by decide +kernel
theorem dX2_endOf_45 : decode cX2_endOf 45 = .ok (.ireturn, 1) := by decide +kernel
theorem dX2_endOf_46 : decode cX2_endOf 46 = .ok (.iconst 1, 1) := by decide +kernel
theorem dX2_endOf_47 : decode cX2_endOf 47 = .ok (.ireturn, 1) := by decide +kernel
theorem dX2_endOf_48 : decode cX2_endOf 48 = .ok (.iconst 2, 1) := by decide +kernel
theorem dX2_endOf_49 : decode cX2_endOf 49 = .ok (.ireturn, 1) := by decide +kernel
theorem dX2_endOf_50 : decode cX2_endOf 50 = .ok (.iconst 3, 1) := by decide +kernel
theorem dX2_endOf_51 : decode cX2_endOf 51 = .ok (.ireturn, 1) := by decide +kernel
theorem dX2_endOf_52 : decode cX2_endOf 52 = .ok (.iconst (-1), 1) := by decide +kernel
theorem dX2_endOf_53 : decode cX2_endOf 53 = .ok (.ireturn, 1) := by decide +kernel
theorem dX3_init_0 : decode cX3_init 0 = .ok (.aload_n 0, 1) := by decide +kernel
theorem dX3_init_1 : decode cX3_init 1 = .ok (.invokespecial 3, 3) := by decide +kernel
theorem dX3_init_4 : decode cX3_init 4 = .ok (.aload_n 0, 1) := by decide +kernel
theorem dX3_init_5 : decode cX3_init 5 = .ok (.iconst (-1), 1) := by decide +kernel
theorem dX3_init_6 : decode cX3_init 6 = .ok (.putfield 11, 3) := by decide +kernel
theorem dX3_init_9 : decode cX3_init 9 = .ok (.aload_n 0, 1) := by decide +kernel
theorem dX3_init_10 : decode cX3_init 10 = .ok (.bipush 40, 2) := by decide +kernel
theorem dX3_init_12 : decode cX3_init 12 = .ok (.newarray .int, 2) := by decide +kernel
theorem dX3_init_14 : decode cX3_init 14 = .ok (.putfield 15, 3) := by decide +kernel
theorem dX3_init_17 : decode cX3_init 17 = .ok (.return_, 1) := by decide +kernel
theorem dX3_isMissing_0 : decode cX3_isMissing 0 = .ok (.aload_n 0, 1) := by decide +kernel
theorem dX3_isMissing_1 : decode cX3_isMissing 1 = .ok (.getfield 11, 3) := by decide +kernel
theorem dX3_isMissing_4 : decode cX3_isMissing 4 = .ok (.iconst (-1), 1) := by decide +kernel
theorem dX3_isMissing_5 : decode cX3_isMissing 5 = .ok (.if_icmp .ne 7, 3) := by decide +kernel
theorem dX3_isMissing_8 : decode cX3_isMissing 8 = .ok (.iconst 1, 1) := by decide +kernel
theorem dX3_isMissing_9 : decode cX3_isMissing 9 = .ok (.goto 4, 3) := by decide +kernel
theorem dX3_isMissing_12 : decode cX3_isMissing 12 = .ok (.iconst 0, 1) := by decide +kernel
theorem dX3_isMissing_13 : decode cX3_isMissing 13 = .ok (.ireturn, 1) := by decide +kernel
theorem dX3_become_0 : decode cX3_become 0 = .ok (.aload_n 0, 1) := by decide +kernel
theorem dX3_become_1 : decode cX3_become 1 = .ok (.iload_n 1, 1) := by decide +kernel
theorem dX3_become_2 : decode cX3_become 2 = .ok (.putfield 11, 3) := by decide +kernel
theorem dX3_become_5 : decode cX3_become 5 = .ok (.aload_n 0, 1) := by decide +kernel
theorem dX3_become_6 : decode cX3_become 6 = .ok (.iload_n 2, 1) := by decide +kernel
theorem dX3_become_7 : decode cX3_become 7 = .ok (.putfield 19, 3) := by decide +kernel
theorem dX3_become_10 : decode cX3_become 10 = .ok (.aload_n 0, 1) := by decide +kernel
theorem dX3_become_11 : decode cX3_become 11 = .ok (.getfield 15, 3) := by decide +kernel
theorem dX3_become_14 : decode cX3_become 14 = .ok (.iconst 0, 1) := by decide +kernel
theorem dX3_become_15 : decode cX3_become 15 = .ok (.invokestatic 22, 3) := by decide +kernel
theorem dX3_become_18 : decode cX3_become 18 = .ok (.return_, 1) := by decide +kernel
theorem dX3_has_0 : decode cX3_has 0 = .ok (.iload_n 1, 1) := by decide +kernel
theorem dX3_has_1 : decode cX3_has 1 = .ok (.iconst 0, 1) := by decide +kernel
theorem dX3_has_2 : decode cX3_has 2 = .ok (.aload_n 0, 1) := by decide +kernel
theorem dX3_has_3 : decode cX3_has 3 = .ok (.getfield 19, 3) := by decide +kernel
theorem dX3_has_6 : decode cX3_has 6 = .ok (.iconst 1, 1) := by decide +kernel
theorem dX3_has_7 : decode cX3_has 7 = .ok (.isub, 1) := by decide +kernel
theorem dX3_has_8 : decode cX3_has 8 = .ok (.invokestatic 28, 3) := by decide +kernel
theorem dX3_has_11 : decode cX3_has 11 = .ok (.ireturn, 1) := by decide +kernel
theorem dX3_hasRun_0 : decode cX3_hasRun 0 = .ok (.iload_n 1, 1) := by decide +kernel
theorem dX3_hasRun_1 : decode cX3_hasRun 1 = .ok (.ifCond .lt 25, 3) := by decide +kernel
theorem dX3_hasRun_4 : decode cX3_hasRun 4 = .ok (.iload_n 2, 1) := by decide +kernel
theorem dX3_hasRun_5 : decode cX3_hasRun 5 = .ok (.ifCond .lt 21, 3) := by decide +kernel
theorem dX3_hasRun_8 : decode cX3_hasRun 8 = .ok (.iload_n 1, 1) := by decide +kernel
theorem dX3_hasRun_9 : decode cX3_hasRun 9 = .ok (.i2l, 1) := by decide +kernel
theorem dX3_hasRun_10 : decode cX3_hasRun 10 = .ok (.iload_n 2, 1) := by decide +kernel
theorem dX3_hasRun_11 : decode cX3_hasRun 11 = .ok (.i2l, 1) := by decide +kernel
theorem dX3_hasRun_12 : decode cX3_hasRun 12 = .ok (.ladd, 1) := by decide +kernel
theorem dX3_hasRun_13 : decode cX3_hasRun 13 = .ok (.aload_n 0, 1) := by decide +kernel
theorem dX3_hasRun_14 : decode cX3_hasRun 14 = .ok (.getfield 19, 3) := by decide +kernel
theorem dX3_hasRun_17 : decode cX3_hasRun 17 = .ok (.i2l, 1) := by decide +kernel
theorem dX3_hasRun_18 : decode cX3_hasRun 18 = .ok (.lcmp, 1) := by decide +kernel
theorem dX3_hasRun_19 : decode cX3_hasRun 19 = .ok (.ifCond .gt 7, 3) := by decide +kernel
theorem dX3_hasRun_22 : decode cX3_hasRun 22 = .ok (.iconst 1, 1) := by decide +kernel
theorem dX3_hasRun_23 : decode cX3_hasRun 23 = .ok (.goto 4, 3) := by decide +kernel
theorem dX3_hasRun_26 : decode cX3_hasRun 26 = .ok (.iconst 0, 1) := by decide +kernel
theorem dX3_hasRun_27 : decode cX3_hasRun 27 = .ok (.ireturn, 1) := by decide +kernel
theorem dX3_put_0 : decode cX3_put 0 = .ok (.aload_n 0, 1) := by decide +kernel
theorem dX3_put_1 : decode cX3_put 1 = .ok (.getfield 11, 3) := by decide +kernel
theorem dX3_put_4 : decode cX3_put 4 = .ok (.ifCond .ne 14, 3) := by decide +kernel
theorem dX3_put_7 : decode cX3_put 7 = .ok (.aload_n 0, 1) := by decide +kernel
theorem dX3_put_8 : decode cX3_put 8 = .ok (.getfield 15, 3) := by decide +kernel
theorem dX3_put_11 : decode cX3_put 11 = .ok (.iload_n 1, 1) := by decide +kernel
theorem dX3_put_12 : decode cX3_put 12 = .ok (.iload_n 2, 1) := by decide +kernel
theorem dX3_put_13 : decode cX3_put 13 = .ok (.i2b, 1) := by decide +kernel
theorem dX3_put_14 : decode cX3_put 14 = .ok (.iastore, 1) := by decide +kernel
theorem dX3_put_15 : decode cX3_put 15 = .ok (.goto 29, 3) := by decide +kernel
theorem dX3_put_18 : decode cX3_put 18 = .ok (.aload_n 0, 1) := by decide +kernel
theorem dX3_put_19 : decode cX3_put 19 = .ok (.getfield 11, 3) := by decide +kernel
theorem dX3_put_22 : decode cX3_put 22 = .ok (.iconst 1, 1) := by decide +kernel
theorem dX3_put_23 : decode cX3_put 23 = .ok (.if_icmp .ne 14, 3) := by decide +kernel
theorem dX3_put_26 : decode cX3_put 26 = .ok (.aload_n 0, 1) := by decide +kernel
theorem dX3_put_27 : decode cX3_put 27 = .ok (.getfield 15, 3) := by decide +kernel
theorem dX3_put_30 : decode cX3_put 30 = .ok (.iload_n 1, 1) := by decide +kernel
theorem dX3_put_31 : decode cX3_put 31 = .ok (.iload_n 2, 1) := by decide +kernel
theorem dX3_put_32 : decode cX3_put 32 = .ok (.i2s, 1) := by decide +kernel
theorem dX3_put_33 : decode cX3_put 33 = .ok (.iastore, 1) := by decide +kernel
theorem dX3_put_34 : decode cX3_put 34 = .ok (.goto 10, 3) := by decide +kernel
theorem dX3_put_37 : decode cX3_put 37 = .ok (.aload_n 0, 1) := by decide +kernel
theorem dX3_put_38 : decode cX3_put 38 = .ok (.getfield 15, 3) := by decide +kernel
theorem dX3_put_41 : decode cX3_put 41 = .ok (.iload_n 1, 1) := by decide +kernel
theorem dX3_put_42 : decode cX3_put 42 = .ok (.iload_n 2, 1) := by decide +kernel
theorem dX3_put_43 : decode cX3_put 43 = .ok (.iastore, 1) := by decide +kernel
theorem dX3_put_44 : decode cX3_put 44 = .ok (.return_, 1) := by decide +kernel
theorem dX4_init_0 : decode cX4_init 0 = .ok (.aload_n 0, 1) := by decide +kernel
theorem dX4_init_1 : decode cX4_init 1 = .ok (.invokespecial 3, 3) := by decide +kernel
theorem dX4_init_4 : decode cX4_init 4 = .ok (.aload_n 0, 1) := by decide +kernel
theorem dX4_init_5 : decode cX4_init 5 = .ok (.sipush 160, 3) := by decide +kernel
theorem dX4_init_8 : decode cX4_init 8 = .ok (.newarray .int, 2) := by decide +kernel
theorem dX4_init_10 : decode cX4_init 10 = .ok (.putfield 9, 3) := by decide +kernel
theorem dX4_init_13 : decode cX4_init 13 = .ok (.return_, 1) := by decide +kernel
theorem dX4_take_0 : decode cX4_take 0 = .ok (.iconst 0, 1) := by decide +kernel
theorem dX4_take_1 : decode cX4_take 1 = .ok (.istore 4, 2) := by decide +kernel
theorem dX4_take_3 : decode cX4_take 3 = .ok (.iload 4, 2) := by decide +kernel
theorem dX4_take_5 : decode cX4_take 5 = .ok (.iload_n 1, 1) := by decide +kernel
theorem dX4_take_6 : decode cX4_take 6 = .ok (.if_icmp .ge 50, 3) := by decide +kernel
theorem dX4_take_9 : decode cX4_take 9 = .ok (.aload_n 0, 1) := by decide +kernel
theorem dX4_take_10 : decode cX4_take 10 = .ok (.getfield 15, 3) := by decide +kernel
theorem dX4_take_13 : decode cX4_take 13 = .ok (.sipush 160, 3) := by decide +kernel
theorem dX4_take_16 : decode cX4_take 16 = .ok (.if_icmp .ge 40, 3) := by decide +kernel
theorem dX4_take_19 : decode cX4_take 19 = .ok (.aload_n 0, 1) := by decide +kernel
theorem dX4_take_20 : decode cX4_take 20 = .ok (.getfield 9, 3) := by decide +kernel
theorem dX4_take_23 : decode cX4_take 23 = .ok (.aload_n 0, 1) := by decide +kernel
theorem dX4_take_24 : decode cX4_take 24 = .ok (.getfield 15, 3) := by decide +kernel
theorem dX4_take_27 : decode cX4_take 27 = .ok (.lload_n 2, 1) := by decide +kernel
theorem dX4_take_28 : decode cX4_take 28 = .ok (.bipush 8, 2) := by decide +kernel
theorem dX4_take_30 : decode cX4_take 30 = .ok (.iload 4, 2) := by decide +kernel
theorem dX4_take_32 : decode cX4_take 32 = .ok (.imul, 1) := by decide +kernel
theorem dX4_take_33 : decode cX4_take 33 = .ok (.lushr, 1) := by decide +kernel
theorem dX4_take_34 : decode cX4_take 34 = .ok (.ldc2_w 19, 3) := by decide +kernel
theorem dX4_take_37 : decode cX4_take 37 = .ok (.land, 1) := by decide +kernel
theorem dX4_take_38 : decode cX4_take 38 = .ok (.l2i, 1) := by decide +kernel
theorem dX4_take_39 : decode cX4_take 39 = .ok (.iastore, 1) := by decide +kernel
theorem dX4_take_40 : decode cX4_take 40 = .ok (.aload_n 0, 1) := by decide +kernel
theorem dX4_take_41 : decode cX4_take 41 = .ok (.dup, 1) := by decide +kernel
theorem dX4_take_42 : decode cX4_take 42 = .ok (.getfield 15, 3) := by decide +kernel
theorem dX4_take_45 : decode cX4_take 45 = .ok (.iconst 1, 1) := by decide +kernel
theorem dX4_take_46 : decode cX4_take 46 = .ok (.iadd, 1) := by decide +kernel
theorem dX4_take_47 : decode cX4_take 47 = .ok (.putfield 15, 3) := by decide +kernel
theorem dX4_take_50 : decode cX4_take 50 = .ok (.iinc 4 1, 3) := by decide +kernel
theorem dX4_take_53 : decode cX4_take 53 = .ok (.goto (-50), 3) := by decide +kernel
theorem dX4_take_56 : decode cX4_take 56 = .ok (.return_, 1) := by decide +kernel
theorem dX4_byteAt_0 : decode cX4_byteAt 0 = .ok (.iload_n 1, 1) := by decide +kernel
theorem dX4_byteAt_1 : decode cX4_byteAt 1 = .ok (.iconst 0, 1) := by decide +kernel
theorem dX4_byteAt_2 : decode cX4_byteAt 2 = .ok (.aload_n 0, 1) := by decide +kernel
theorem dX4_byteAt_3 : decode cX4_byteAt 3 = .ok (.getfield 15, 3) := by decide +kernel
theorem dX4_byteAt_6 : decode cX4_byteAt 6 = .ok (.iconst 1, 1) := by decide +kernel
theorem dX4_byteAt_7 : decode cX4_byteAt 7 = .ok (.isub, 1) := by decide +kernel
theorem dX4_byteAt_8 : decode cX4_byteAt 8 = .ok (.invokestatic 21, 3) := by decide +kernel
theorem dX4_byteAt_11 : decode cX4_byteAt 11 = .ok (.ifCond .eq 12, 3) := by decide +kernel
theorem dX4_byteAt_14 : decode cX4_byteAt 14 = .ok (.aload_n 0, 1) := by decide +kernel
theorem dX4_byteAt_15 : decode cX4_byteAt 15 = .ok (.getfield 9, 3) := by decide +kernel
theorem dX4_byteAt_18 : decode cX4_byteAt 18 = .ok (.iload_n 1, 1) := by decide +kernel
theorem dX4_byteAt_19 : decode cX4_byteAt 19 = .ok (.iaload, 1) := by decide +kernel
theorem dX4_byteAt_20 : decode cX4_byteAt 20 = .ok (.goto 4, 3) := by decide +kernel
theorem dX4_byteAt_23 : decode cX4_byteAt 23 = .ok (.iconst (-1), 1) := by decide +kernel
theorem dX4_byteAt_24 : decode cX4_byteAt 24 = .ok (.ireturn, 1) := by decide +kernel
theorem dX5_init_0 : decode cX5_init 0 = .ok (.aload_n 0, 1) := by decide +kernel
theorem dX5_init_1 : decode cX5_init 1 = .ok (.invokespecial 3, 3) := by decide +kernel
theorem dX5_init_4 : decode cX5_init 4 = .ok (.aload_n 0, 1) := by decide +kernel
theorem dX5_init_5 : decode cX5_init 5 = .ok (.aload_n 1, 1) := by decide +kernel
theorem dX5_init_6 : decode cX5_init 6 = .ok (.putfield 9, 3) := by decide +kernel
theorem dX5_init_9 : decode cX5_init 9 = .ok (.aload_n 0, 1) := by decide +kernel
theorem dX5_init_10 : decode cX5_init 10 = .ok (.aload_n 2, 1) := by decide +kernel
theorem dX5_init_11 : decode cX5_init 11 = .ok (.putfield 15, 3) := by decide +kernel
theorem dX5_init_14 : decode cX5_init 14 = .ok (.return_, 1) := by decide +kernel
theorem dX5_reckon_0 : decode cX5_reckon 0 = .ok (.iconst 0, 1) := by decide +kernel
theorem dX5_reckon_1 : decode cX5_reckon 1 = .ok (.istore 4, 2) := by decide +kernel
theorem dX5_reckon_3 : decode cX5_reckon 3 = .ok (.aload_n 0, 1) := by decide +kernel
theorem dX5_reckon_4 : decode cX5_reckon 4 = .ok (.getfield 15, 3) := by decide +kernel
theorem dX5_reckon_7 : decode cX5_reckon 7 = .ok (.iload_n 1, 1) := by decide +kernel
theorem dX5_reckon_8 : decode cX5_reckon 8 = .ok (.iaload, 1) := by decide +kernel
theorem dX5_reckon_9 : decode cX5_reckon 9 = .ok (.istore 5, 2) := by decide +kernel
theorem dX5_reckon_11 : decode cX5_reckon 11 = .ok (.iload 5, 2) := by decide +kernel
theorem dX5_reckon_13 : decode cX5_reckon 13 = .ok (.aload_n 0, 1) := by decide +kernel
theorem dX5_reckon_14 : decode cX5_reckon 14 = .ok (.getfield 15, 3) := by decide +kernel
theorem dX5_reckon_17 : decode cX5_reckon 17 = .ok (.iload_n 1, 1) := by decide +kernel
theorem dX5_reckon_18 : decode cX5_reckon 18 = .ok (.iconst 1, 1) := by decide +kernel
theorem dX5_reckon_19 : decode cX5_reckon 19 = .ok (.iadd, 1) := by decide +kernel
theorem dX5_reckon_20 : decode cX5_reckon 20 = .ok (.iaload, 1) := by decide +kernel
theorem dX5_reckon_21 : decode cX5_reckon 21 = .ok (.if_icmp .ge 121, 3) := by decide +kernel
theorem dX5_reckon_24 : decode cX5_reckon 24 = .ok (.aload_n 0, 1) := by decide +kernel
theorem dX5_reckon_25 : decode cX5_reckon 25 = .ok (.getfield 9, 3) := by decide +kernel
theorem dX5_reckon_28 : decode cX5_reckon 28 = .ok (.iload 5, 2) := by decide +kernel
theorem dX5_reckon_30 : decode cX5_reckon 30 = .ok (.iaload, 1) := by decide +kernel
theorem dX5_reckon_31 : decode cX5_reckon 31 = .ok (.istore 6, 2) := by decide +kernel
theorem dX5_reckon_33 : decode cX5_reckon 33 = .ok (.iload 6, 2) := by decide +kernel
theorem dX5_reckon_35 : decode cX5_reckon 35 = .ok (.bipush (-6), 2) := by decide +kernel
theorem dX5_reckon_37 : decode cX5_reckon 37 = .ok (.if_icmp .lt 36, 3) := by decide +kernel
theorem dX5_reckon_40 : decode cX5_reckon 40 = .ok (.iload 4, 2) := by decide +kernel
theorem dX5_reckon_42 : decode cX5_reckon 42 = .ok (.aload_n 3, 1) := by decide +kernel
theorem dX5_reckon_43 : decode cX5_reckon 43 = .ok (.arraylength, 1) := by decide +kernel
theorem dX5_reckon_44 : decode cX5_reckon 44 = .ok (.if_icmp .ge 29, 3) := by decide +kernel
theorem dX5_reckon_47 : decode cX5_reckon 47 = .ok (.aload_n 3, 1) := by decide +kernel
theorem dX5_reckon_48 : decode cX5_reckon 48 = .ok (.iload 4, 2) := by decide +kernel
theorem dX5_reckon_50 : decode cX5_reckon 50 = .ok (.iload 6, 2) := by decide +kernel
theorem dX5_reckon_52 : decode cX5_reckon 52 = .ok (.ifCond .lt 8, 3) := by decide +kernel
theorem dX5_reckon_55 : decode cX5_reckon 55 = .ok (.iload 6, 2) := by decide +kernel
theorem dX5_reckon_57 : decode cX5_reckon 57 = .ok (.goto 9, 3) := by decide +kernel
theorem dX5_reckon_60 : decode cX5_reckon 60 = .ok (.aload_n 2, 1) := by decide +kernel
theorem dX5_reckon_61 : decode cX5_reckon 61 = .ok (.iconst (-1), 1) := by decide +kernel
theorem dX5_reckon_62 : decode cX5_reckon 62 = .ok (.iload 6, 2) := by decide +kernel
theorem dX5_reckon_64 : decode cX5_reckon 64 = .ok (.isub, 1) := by decide +kernel
theorem dX5_reckon_65 : decode cX5_reckon 65 = .ok (.iaload, 1) := by decide +kernel
theorem dX5_reckon_66 : decode cX5_reckon 66 = .ok (.iastore, 1) := by decide +kernel
theorem dX5_reckon_67 : decode cX5_reckon 67 = .ok (.iinc 4 1, 3) := by decide +kernel
theorem dX5_reckon_70 : decode cX5_reckon 70 = .ok (.goto 66, 3) := by decide +kernel
theorem dX5_reckon_73 : decode cX5_reckon 73 = .ok (.iload 6, 2) := by decide +kernel
theorem dX5_reckon_75 : decode cX5_reckon 75 = .ok (.bipush (-12), 2) := by decide +kernel
theorem dX5_reckon_77 : decode cX5_reckon 77 = .ok (.if_icmp .lt 29, 3) := by decide +kernel
theorem dX5_reckon_80 : decode cX5_reckon 80 = .ok (.iload 4, 2) := by decide +kernel
theorem dX5_reckon_82 : decode cX5_reckon 82 = .ok (.iconst 1, 1) := by decide +kernel
theorem dX5_reckon_83 : decode cX5_reckon 83 = .ok (.if_icmp .lt 23, 3) := by decide +kernel
theorem dX5_reckon_86 : decode cX5_reckon 86 = .ok (.aload_n 3, 1) := by decide +kernel
theorem dX5_reckon_87 : decode cX5_reckon 87 = .ok (.iload 4, 2) := by decide +kernel
theorem dX5_reckon_89 : decode cX5_reckon 89 = .ok (.iconst 1, 1) := by decide +kernel
theorem dX5_reckon_90 : decode cX5_reckon 90 = .ok (.isub, 1) := by decide +kernel
theorem dX5_reckon_91 : decode cX5_reckon 91 = .ok (.iload 6, 2) := by decide +kernel
theorem dX5_reckon_93 : decode cX5_reckon 93 = .ok (.aload_n 3, 1) := by decide +kernel
theorem dX5_reckon_94 : decode cX5_reckon 94 = .ok (.iload 4, 2) := by decide +kernel
theorem dX5_reckon_96 : decode cX5_reckon 96 = .ok (.iconst 1, 1) := by decide +kernel
theorem dX5_reckon_97 : decode cX5_reckon 97 = .ok (.isub, 1) := by decide +kernel
theorem dX5_reckon_98 : decode cX5_reckon 98 = .ok (.iaload, 1) := by decide +kernel
theorem dX5_reckon_99 : decode cX5_reckon 99 = .ok (.invokestatic 18, 3) := by decide +kernel
theorem dX5_reckon_102 : decode cX5_reckon 102 = .ok (.iastore, 1) := by decide +kernel
theorem dX5_reckon_103 : decode cX5_reckon 103 = .ok (.goto 33, 3) := by decide +kernel
theorem dX5_reckon_106 : decode cX5_reckon 106 = .ok (.iload 4, 2) := by decide +kernel
theorem dX5_reckon_108 : decode cX5_reckon 108 = .ok (.iconst 2, 1) := by decide +kernel
theorem dX5_reckon_109 : decode cX5_reckon 109 = .ok (.if_icmp .lt 27, 3) := by decide +kernel
theorem dX5_reckon_112 : decode cX5_reckon 112 = .ok (.iinc 4 (-1), 3) := by decide +kernel
theorem dX5_reckon_115 : decode cX5_reckon 115 = .ok (.aload_n 3, 1) := by decide +kernel
theorem dX5_reckon_116 : decode cX5_reckon 116 = .ok (.iload 4, 2) := by decide +kernel
theorem dX5_reckon_118 : decode cX5_reckon 118 = .ok (.iconst 1, 1) := by decide +kernel
theorem dX5_reckon_119 : decode cX5_reckon 119 = .ok (.isub, 1) := by decide +kernel
theorem dX5_reckon_120 : decode cX5_reckon 120 = .ok (.iload 6, 2) := by decide +kernel
theorem dX5_reckon_122 : decode cX5_reckon 122 = .ok (.aload_n 3, 1) := by decide +kernel
theorem dX5_reckon_123 : decode cX5_reckon 123 = .ok (.iload 4, 2) := by decide +kernel
theorem dX5_reckon_125 : decode cX5_reckon 125 = .ok (.iconst 1, 1) := by decide +kernel
theorem dX5_reckon_126 : decode cX5_reckon 126 = .ok (.isub, 1) := by decide +kernel
theorem dX5_reckon_127 : decode cX5_reckon 127 = .ok (.iaload, 1) := by decide +kernel
theorem dX5_reckon_128 : decode cX5_reckon 128 = .ok (.aload_n 3, 1) := by decide +kernel
theorem dX5_reckon_129 : decode cX5_reckon 129 = .ok (.iload 4, 2) := by decide +kernel
theorem dX5_reckon_131 : decode cX5_reckon 131 = .ok (.iaload, 1) := by decide +kernel
theorem dX5_reckon_132 : decode cX5_reckon 132 = .ok (.invokestatic 22, 3) := by decide +kernel
theorem dX5_reckon_135 : decode cX5_reckon 135 = .ok (.iastore, 1) := by decide +kernel
theorem dX5_reckon_136 : decode cX5_reckon 136 = .ok (.iinc 5 1, 3) := by decide +kernel
theorem dX5_reckon_139 : decode cX5_reckon 139 = .ok (.goto (-128), 3) := by decide +kernel
theorem dX5_reckon_142 : decode cX5_reckon 142 = .ok (.aload_n 3, 1) := by decide +kernel
theorem dX5_reckon_143 : decode cX5_reckon 143 = .ok (.iconst 0, 1) := by decide +kernel
theorem dX5_reckon_144 : decode cX5_reckon 144 = .ok (.iaload, 1) := by decide +kernel
theorem dX5_reckon_145 : decode cX5_reckon 145 = .ok (.ireturn, 1) := by decide +kernel
theorem dX5_byOne_0 : decode cX5_byOne 0 = .ok (.iload_n 0, 1) := by decide +kernel
theorem dX5_byOne_1 : decode cX5_byOne 1 = .ok (.bipush (-11), 2) := by decide +kernel
theorem dX5_byOne_3 : decode cX5_byOne 3 = .ok (.if_icmp .ne 6, 3) := by decide +kernel
theorem dX5_byOne_6 : decode cX5_byOne 6 = .ok (.iload_n 1, 1) := by decide +kernel
theorem dX5_byOne_7 : decode cX5_byOne 7 = .ok (.ineg, 1) := by decide +kernel
theorem dX5_byOne_8 : decode cX5_byOne 8 = .ok (.ireturn, 1) := by decide +kernel
theorem dX5_byOne_9 : decode cX5_byOne 9 = .ok (.iload_n 1, 1) := by decide +kernel
theorem dX5_byOne_10 : decode cX5_byOne 10 = .ok (.ifCond .ne 7, 3) := by decide +kernel
theorem dX5_byOne_13 : decode cX5_byOne 13 = .ok (.iconst 1, 1) := by decide +kernel
theorem dX5_byOne_14 : decode cX5_byOne 14 = .ok (.goto 4, 3) := by decide +kernel
theorem dX5_byOne_17 : decode cX5_byOne 17 = .ok (.iconst 0, 1) := by decide +kernel
theorem dX5_byOne_18 : decode cX5_byOne 18 = .ok (.ireturn, 1) := by decide +kernel
theorem dX5_byTwo_0 : decode cX5_byTwo 0 = .ok (.iload_n 0, 1) := by decide +kernel
theorem dX5_byTwo_1 : decode cX5_byTwo 1 = .ok (.tableswitch 97 (-26) (-21) #[93, 89, 78, 67, 53, 39], 39) := by decide +kernel
theorem dX5_byTwo_40 : decode cX5_byTwo 40 = .ok (.iload_n 1, 1) := by decide +kernel
theorem dX5_byTwo_41 : decode cX5_byTwo 41 = .ok (.ifCond .ne 7, 3) := by decide +kernel
theorem dX5_byTwo_44 : decode cX5_byTwo 44 = .ok (.iload_n 2, 1) := by decide +kernel
theorem dX5_byTwo_45 : decode cX5_byTwo 45 = .ok (.ifCond .eq 7, 3) := by decide +kernel
theorem dX5_byTwo_48 : decode cX5_byTwo 48 = .ok (.iconst 1, 1) := by decide +kernel
theorem dX5_byTwo_49 : decode cX5_byTwo 49 = .ok (.goto 4, 3) := by decide +kernel
theorem dX5_byTwo_52 : decode cX5_byTwo 52 = .ok (.iconst 0, 1) := by decide +kernel
theorem dX5_byTwo_53 : decode cX5_byTwo 53 = .ok (.ireturn, 1) := by decide +kernel
theorem dX5_byTwo_54 : decode cX5_byTwo 54 = .ok (.iload_n 1, 1) := by decide +kernel
theorem dX5_byTwo_55 : decode cX5_byTwo 55 = .ok (.ifCond .eq 11, 3) := by decide +kernel
theorem dX5_byTwo_58 : decode cX5_byTwo 58 = .ok (.iload_n 2, 1) := by decide +kernel
theorem dX5_byTwo_59 : decode cX5_byTwo 59 = .ok (.ifCond .eq 7, 3) := by decide +kernel
theorem dX5_byTwo_62 : decode cX5_byTwo 62 = .ok (.iconst 1, 1) := by decide +kernel
theorem dX5_byTwo_63 : decode cX5_byTwo 63 = .ok (.goto 4, 3) := by decide +kernel
theorem dX5_byTwo_66 : decode cX5_byTwo 66 = .ok (.iconst 0, 1) := by decide +kernel
theorem dX5_byTwo_67 : decode cX5_byTwo 67 = .ok (.ireturn, 1) := by decide +kernel
theorem dX5_byTwo_68 : decode cX5_byTwo 68 = .ok (.iload_n 1, 1) := by decide +kernel
theorem dX5_byTwo_69 : decode cX5_byTwo 69 = .ok (.iload_n 2, 1) := by decide +kernel
theorem dX5_byTwo_70 : decode cX5_byTwo 70 = .ok (.if_icmp .ge 7, 3) := by decide +kernel
theorem dX5_byTwo_73 : decode cX5_byTwo 73 = .ok (.iconst 1, 1) := by decide +kernel
theorem dX5_byTwo_74 : decode cX5_byTwo 74 = .ok (.goto 4, 3) := by decide +kernel
theorem dX5_byTwo_77 : decode cX5_byTwo 77 = .ok (.iconst 0, 1) := by decide +kernel
theorem dX5_byTwo_78 : decode cX5_byTwo 78 = .ok (.ireturn, 1) := by decide +kernel
theorem dX5_byTwo_79 : decode cX5_byTwo 79 = .ok (.iload_n 1, 1) := by decide +kernel
theorem dX5_byTwo_80 : decode cX5_byTwo 80 = .ok (.iload_n 2, 1) := by decide +kernel
theorem dX5_byTwo_81 : decode cX5_byTwo 81 = .ok (.if_icmp .ne 7, 3) := by decide +kernel
theorem dX5_byTwo_84 : decode cX5_byTwo 84 = .ok (.iconst 1, 1) := by decide +kernel
theorem dX5_byTwo_85 : decode cX5_byTwo 85 = .ok (.goto 4, 3) := by decide +kernel
theorem dX5_byTwo_88 : decode cX5_byTwo 88 = .ok (.iconst 0, 1) := by decide +kernel
theorem dX5_byTwo_89 : decode cX5_byTwo 89 = .ok (.ireturn, 1) := by decide +kernel
theorem dX5_byTwo_90 : decode cX5_byTwo 90 = .ok (.iload_n 1, 1) := by decide +kernel
theorem dX5_byTwo_91 : decode cX5_byTwo 91 = .ok (.iload_n 2, 1) := by decide +kernel
theorem dX5_byTwo_92 : decode cX5_byTwo 92 = .ok (.iadd, 1) := by decide +kernel
theorem dX5_byTwo_93 : decode cX5_byTwo 93 = .ok (.ireturn, 1) := by decide +kernel
theorem dX5_byTwo_94 : decode cX5_byTwo 94 = .ok (.iload_n 1, 1) := by decide +kernel
theorem dX5_byTwo_95 : decode cX5_byTwo 95 = .ok (.iload_n 2, 1) := by decide +kernel
theorem dX5_byTwo_96 : decode cX5_byTwo 96 = .ok (.isub, 1) := by decide +kernel
theorem dX5_byTwo_97 : decode cX5_byTwo 97 = .ok (.ireturn, 1) := by decide +kernel
theorem dX5_byTwo_98 : decode cX5_byTwo 98 = .ok (.iload_n 1, 1) := by decide +kernel
theorem dX5_byTwo_99 : decode cX5_byTwo 99 = .ok (.iload_n 2, 1) := by decide +kernel
theorem dX5_byTwo_100 : decode cX5_byTwo 100 = .ok (.imul, 1) := by decide +kernel
theorem dX5_byTwo_101 : decode cX5_byTwo 101 = .ok (.ireturn, 1) := by decide +kernel
theorem dX6_init_0 : decode cX6_init 0 = .ok (.aload_n 0, 1) := by decide +kernel
theorem dX6_init_1 : decode cX6_init 1 = .ok (.invokespecial 3, 3) := by decide +kernel
theorem dX6_init_4 : decode cX6_init 4 = .ok (.aload_n 0, 1) := by decide +kernel
theorem dX6_init_5 : decode cX6_init 5 = .ok (.sipush 160, 3) := by decide +kernel
theorem dX6_init_8 : decode cX6_init 8 = .ok (.newarray .int, 2) := by decide +kernel
theorem dX6_init_10 : decode cX6_init 10 = .ok (.putfield 9, 3) := by decide +kernel
theorem dX6_init_13 : decode cX6_init 13 = .ok (.return_, 1) := by decide +kernel
theorem dX6_read_0 : decode cX6_read 0 = .ok (.aload_n 0, 1) := by decide +kernel
theorem dX6_read_1 : decode cX6_read 1 = .ok (.aload_n 1, 1) := by decide +kernel
theorem dX6_read_2 : decode cX6_read 2 = .ok (.putfield 15, 3) := by decide +kernel
theorem dX6_read_5 : decode cX6_read 5 = .ok (.aload_n 0, 1) := by decide +kernel
theorem dX6_read_6 : decode cX6_read 6 = .ok (.iconst 0, 1) := by decide +kernel
theorem dX6_read_7 : decode cX6_read 7 = .ok (.putfield 19, 3) := by decide +kernel
theorem dX6_read_10 : decode cX6_read 10 = .ok (.aload_n 0, 1) := by decide +kernel
theorem dX6_read_11 : decode cX6_read 11 = .ok (.iconst 0, 1) := by decide +kernel
theorem dX6_read_12 : decode cX6_read 12 = .ok (.putfield 23, 3) := by decide +kernel
theorem dX6_read_15 : decode cX6_read 15 = .ok (.aload_n 0, 1) := by decide +kernel
theorem dX6_read_16 : decode cX6_read 16 = .ok (.iconst (-1), 1) := by decide +kernel
theorem dX6_read_17 : decode cX6_read 17 = .ok (.putfield 26, 3) := by decide +kernel
theorem dX6_read_20 : decode cX6_read 20 = .ok (.iconst 4, 1) := by decide +kernel
theorem dX6_read_21 : decode cX6_read 21 = .ok (.newarray .int, 2) := by decide +kernel
theorem dX6_read_23 : decode cX6_read 23 = .ok (.astore_n 2, 1) := by decide +kernel
theorem dX6_read_24 : decode cX6_read 24 = .ok (.aload_n 0, 1) := by decide +kernel
theorem dX6_read_25 : decode cX6_read 25 = .ok (.invokevirtual 29, 3) := by decide +kernel
theorem dX6_read_28 : decode cX6_read 28 = .ok (.iconst 0, 1) := by decide +kernel
theorem dX6_read_29 : decode cX6_read 29 = .ok (.istore_n 3, 1) := by decide +kernel
theorem dX6_read_30 : decode cX6_read 30 = .ok (.iload_n 3, 1) := by decide +kernel
theorem dX6_read_31 : decode cX6_read 31 = .ok (.iconst 3, 1) := by decide +kernel
theorem dX6_read_32 : decode cX6_read 32 = .ok (.if_icmp .ge 34, 3) := by decide +kernel
theorem dX6_read_35 : decode cX6_read 35 = .ok (.aload_n 2, 1) := by decide +kernel
theorem dX6_read_36 : decode cX6_read 36 = .ok (.iload_n 3, 1) := by decide +kernel
theorem dX6_read_37 : decode cX6_read 37 = .ok (.aload_n 0, 1) := by decide +kernel
theorem dX6_read_38 : decode cX6_read 38 = .ok (.getfield 23, 3) := by decide +kernel
theorem dX6_read_41 : decode cX6_read 41 = .ok (.iastore, 1) := by decide +kernel
theorem dX6_read_42 : decode cX6_read 42 = .ok (.aload_n 0, 1) := by decide +kernel
theorem dX6_read_43 : decode cX6_read 43 = .ok (.iconst 4, 1) := by decide +kernel
theorem dX6_read_44 : decode cX6_read 44 = .ok (.iload_n 3, 1) := by decide +kernel
theorem dX6_read_45 : decode cX6_read 45 = .ok (.iadd, 1) := by decide +kernel
theorem dX6_read_46 : decode cX6_read 46 = .ok (.invokevirtual 32, 3) := by decide +kernel
theorem dX6_read_49 : decode cX6_read 49 = .ok (.aload_n 0, 1) := by decide +kernel
theorem dX6_read_50 : decode cX6_read 50 = .ok (.iconst 0, 1) := by decide +kernel
theorem dX6_read_51 : decode cX6_read 51 = .ok (.invokevirtual 36, 3) := by decide +kernel
theorem dX6_read_54 : decode cX6_read 54 = .ok (.aload_n 0, 1) := by decide +kernel
theorem dX6_read_55 : decode cX6_read 55 = .ok (.bipush 59, 2) := by decide +kernel
theorem dX6_read_57 : decode cX6_read 57 = .ok (.invokevirtual 32, 3) := by decide +kernel
theorem dX6_read_60 : decode cX6_read 60 = .ok (.iinc 3 1, 3) := by decide +kernel
theorem dX6_read_63 : decode cX6_read 63 = .ok (.goto (-33), 3) := by decide +kernel
theorem dX6_read_66 : decode cX6_read 66 = .ok (.aload_n 2, 1) := by decide +kernel
theorem dX6_read_67 : decode cX6_read 67 = .ok (.iconst 3, 1) := by decide +kernel
theorem dX6_read_68 : decode cX6_read 68 = .ok (.aload_n 0, 1) := by decide +kernel
theorem dX6_read_69 : decode cX6_read 69 = .ok (.getfield 23, 3) := by decide +kernel
theorem dX6_read_72 : decode cX6_read 72 = .ok (.iastore, 1) := by decide +kernel
theorem dX6_read_73 : decode cX6_read 73 = .ok (.aload_n 0, 1) := by decide +kernel
theorem dX6_read_74 : decode cX6_read 74 = .ok (.getfield 39, 3) := by decide +kernel
theorem dX6_read_77 : decode cX6_read 77 = .ok (.ifCond .eq 7, 3) := by decide +kernel
theorem dX6_read_80 : decode cX6_read 80 = .ok (.aload_n 0, 1) := by decide +kernel
theorem dX6_read_81 : decode cX6_read 81 = .ok (.invokevirtual 42, 3) := by decide +kernel
theorem dX6_read_84 : decode cX6_read 84 = .ok (.aload_n 0, 1) := by decide +kernel
theorem dX6_read_85 : decode cX6_read 85 = .ok (.getfield 26, 3) := by decide +kernel
theorem dX6_read_88 : decode cX6_read 88 = .ok (.iconst (-1), 1) := by decide +kernel
theorem dX6_read_89 : decode cX6_read 89 = .ok (.if_icmp .ne 25, 3) := by decide +kernel
theorem dX6_read_92 : decode cX6_read 92 = .ok (.new 45, 3) := by decide +kernel
theorem dX6_read_95 : decode cX6_read 95 = .ok (.dup, 1) := by decide +kernel
theorem dX6_read_96 : decode cX6_read 96 = .ok (.aload_n 0, 1) := by decide +kernel
theorem dX6_read_97 : decode cX6_read 97 = .ok (.getfield 9, 3) := by decide +kernel
theorem dX6_read_100 : decode cX6_read 100 = .ok (.aload_n 0, 1) := by decide +kernel
theorem dX6_read_101 : decode cX6_read 101 = .ok (.getfield 23, 3) := by decide +kernel
theorem dX6_read_104 : decode cX6_read 104 = .ok (.invokestatic 47, 3) := by decide +kernel
theorem dX6_read_107 : decode cX6_read 107 = .ok (.aload_n 2, 1) := by decide +kernel
theorem dX6_read_108 : decode cX6_read 108 = .ok (.invokespecial 53, 3) := by decide +kernel
theorem dX6_read_111 : decode cX6_read 111 = .ok (.goto 4, 3) := by decide +kernel
theorem dX6_read_114 : decode cX6_read 114 = .ok (.aconst_null, 1) := by decide +kernel
theorem dX6_read_115 : decode cX6_read 115 = .ok (.areturn, 1) := by decide +kernel
theorem dX6_refuse_0 : decode cX6_refuse 0 = .ok (.aload_n 0, 1) := by decide +kernel
theorem dX6_refuse_1 : decode cX6_refuse 1 = .ok (.getfield 26, 3) := by decide +kernel
theorem dX6_refuse_4 : decode cX6_refuse 4 = .ok (.iconst (-1), 1) := by decide +kernel
theorem dX6_refuse_5 : decode cX6_refuse 5 = .ok (.if_icmp .ne 11, 3) := by decide +kernel
theorem dX6_refuse_8 : decode cX6_refuse 8 = .ok (.aload_n 0, 1) := by decide +kernel
theorem dX6_refuse_9 : decode cX6_refuse 9 = .ok (.aload_n 0, 1) := by decide +kernel
theorem dX6_refuse_10 : decode cX6_refuse 10 = .ok (.getfield 56, 3) := by decide +kernel
theorem dX6_refuse_13 : decode cX6_refuse 13 = .ok (.putfield 26, 3) := by decide +kernel
theorem dX6_refuse_16 : decode cX6_refuse 16 = .ok (.aload_n 0, 1) := by decide +kernel
theorem dX6_refuse_17 : decode cX6_refuse 17 = .ok (.iconst 1, 1) := by decide +kernel
theorem dX6_refuse_18 : decode cX6_refuse 18 = .ok (.putfield 39, 3) := by decide +kernel
theorem dX6_refuse_21 : decode cX6_refuse 21 = .ok (.return_, 1) := by decide +kernel
theorem dX6_expect_0 : decode cX6_expect 0 = .ok (.aload_n 0, 1) := by decide +kernel
theorem dX6_expect_1 : decode cX6_expect 1 = .ok (.getfield 39, 3) := by decide +kernel
theorem dX6_expect_4 : decode cX6_expect 4 = .ok (.iload_n 1, 1) := by decide +kernel
theorem dX6_expect_5 : decode cX6_expect 5 = .ok (.if_icmp .ne 10, 3) := by decide +kernel
theorem dX6_expect_8 : decode cX6_expect 8 = .ok (.aload_n 0, 1) := by decide +kernel
theorem dX6_expect_9 : decode cX6_expect 9 = .ok (.invokevirtual 29, 3) := by decide +kernel
theorem dX6_expect_12 : decode cX6_expect 12 = .ok (.goto 7, 3) := by decide +kernel
theorem dX6_expect_15 : decode cX6_expect 15 = .ok (.aload_n 0, 1) := by decide +kernel
theorem dX6_expect_16 : decode cX6_expect 16 = .ok (.invokevirtual 42, 3) := by decide +kernel
theorem dX6_expect_19 : decode cX6_expect 19 = .ok (.return_, 1) := by decide +kernel
theorem dX6_write_0 : decode cX6_write 0 = .ok (.aload_n 0, 1) := by decide +kernel
theorem dX6_write_1 : decode cX6_write 1 = .ok (.getfield 23, 3) := by decide +kernel
theorem dX6_write_4 : decode cX6_write 4 = .ok (.aload_n 0, 1) := by decide +kernel
theorem dX6_write_5 : decode cX6_write 5 = .ok (.getfield 9, 3) := by decide +kernel
theorem dX6_write_8 : decode cX6_write 8 = .ok (.arraylength, 1) := by decide +kernel
theorem dX6_write_9 : decode cX6_write 9 = .ok (.if_icmp .ge 23, 3) := by decide +kernel
theorem dX6_write_12 : decode cX6_write 12 = .ok (.aload_n 0, 1) := by decide +kernel
theorem dX6_write_13 : decode cX6_write 13 = .ok (.getfield 9, 3) := by decide +kernel
theorem dX6_write_16 : decode cX6_write 16 = .ok (.aload_n 0, 1) := by decide +kernel
theorem dX6_write_17 : decode cX6_write 17 = .ok (.getfield 23, 3) := by decide +kernel
theorem dX6_write_20 : decode cX6_write 20 = .ok (.iload_n 1, 1) := by decide +kernel
theorem dX6_write_21 : decode cX6_write 21 = .ok (.iastore, 1) := by decide +kernel
theorem dX6_write_22 : decode cX6_write 22 = .ok (.aload_n 0, 1) := by decide +kernel
theorem dX6_write_23 : decode cX6_write 23 = .ok (.dup, 1) := by decide +kernel
theorem dX6_write_24 : decode cX6_write 24 = .ok (.getfield 23, 3) := by decide +kernel
theorem dX6_write_27 : decode cX6_write 27 = .ok (.iconst 1, 1) := by decide +kernel
theorem dX6_write_28 : decode cX6_write 28 = .ok (.iadd, 1) := by decide +kernel
theorem dX6_write_29 : decode cX6_write 29 = .ok (.putfield 23, 3) := by decide +kernel
theorem dX6_write_32 : decode cX6_write 32 = .ok (.return_, 1) := by decide +kernel
theorem dX6_readOr_0 : decode cX6_readOr 0 = .ok (.aload_n 0, 1) := by decide +kernel
theorem dX6_readOr_1 : decode cX6_readOr 1 = .ok (.iload_n 1, 1) := by decide +kernel
theorem dX6_readOr_2 : decode cX6_readOr 2 = .ok (.invokevirtual 59, 3) := by decide +kernel
theorem dX6_readOr_5 : decode cX6_readOr 5 = .ok (.iconst 0, 1) := by decide +kernel
theorem dX6_readOr_6 : decode cX6_readOr 6 = .ok (.istore_n 2, 1) := by decide +kernel
theorem dX6_readOr_7 : decode cX6_readOr 7 = .ok (.iload_n 2, 1) := by decide +kernel
theorem dX6_readOr_8 : decode cX6_readOr 8 = .ok (.sipush 160, 3) := by decide +kernel
theorem dX6_readOr_11 : decode cX6_readOr 11 = .ok (.if_icmp .ge 33, 3) := by decide +kernel
theorem dX6_readOr_14 : decode cX6_readOr 14 = .ok (.aload_n 0, 1) := by decide +kernel
theorem dX6_readOr_15 : decode cX6_readOr 15 = .ok (.getfield 39, 3) := by decide +kernel
theorem dX6_readOr_18 : decode cX6_readOr 18 = .ok (.bipush 7, 2) := by decide +kernel
theorem dX6_readOr_20 : decode cX6_readOr 20 = .ok (.if_icmp .ne 24, 3) := by decide +kernel
theorem dX6_readOr_23 : decode cX6_readOr 23 = .ok (.aload_n 0, 1) := by decide +kernel
theorem dX6_readOr_24 : decode cX6_readOr 24 = .ok (.invokevirtual 29, 3) := by decide +kernel
theorem dX6_readOr_27 : decode cX6_readOr 27 = .ok (.aload_n 0, 1) := by decide +kernel
theorem dX6_readOr_28 : decode cX6_readOr 28 = .ok (.iload_n 1, 1) := by decide +kernel
theorem dX6_readOr_29 : decode cX6_readOr 29 = .ok (.invokevirtual 59, 3) := by decide +kernel
theorem dX6_readOr_32 : decode cX6_readOr 32 = .ok (.aload_n 0, 1) := by decide +kernel
theorem dX6_readOr_33 : decode cX6_readOr 33 = .ok (.bipush (-21), 2) := by decide +kernel
theorem dX6_readOr_35 : decode cX6_readOr 35 = .ok (.invokevirtual 62, 3) := by decide +kernel
theorem dX6_readOr_38 : decode cX6_readOr 38 = .ok (.iinc 2 1, 3) := by decide +kernel
theorem dX6_readOr_41 : decode cX6_readOr 41 = .ok (.goto (-34), 3) := by decide +kernel
theorem dX6_readOr_44 : decode cX6_readOr 44 = .ok (.return_, 1) := by decide +kernel
theorem dX6_readAnd_0 : decode cX6_readAnd 0 = .ok (.aload_n 0, 1) := by decide +kernel
theorem dX6_readAnd_1 : decode cX6_readAnd 1 = .ok (.iload_n 1, 1) := by decide +kernel
theorem dX6_readAnd_2 : decode cX6_readAnd 2 = .ok (.invokevirtual 65, 3) := by decide +kernel
theorem dX6_readAnd_5 : decode cX6_readAnd 5 = .ok (.iconst 0, 1) := by decide +kernel
theorem dX6_readAnd_6 : decode cX6_readAnd 6 = .ok (.istore_n 2, 1) := by decide +kernel
theorem dX6_readAnd_7 : decode cX6_readAnd 7 = .ok (.iload_n 2, 1) := by decide +kernel
theorem dX6_readAnd_8 : decode cX6_readAnd 8 = .ok (.sipush 160, 3) := by decide +kernel
theorem dX6_readAnd_11 : decode cX6_readAnd 11 = .ok (.if_icmp .ge 33, 3) := by decide +kernel
theorem dX6_readAnd_14 : decode cX6_readAnd 14 = .ok (.aload_n 0, 1) := by decide +kernel
theorem dX6_readAnd_15 : decode cX6_readAnd 15 = .ok (.getfield 39, 3) := by decide +kernel
theorem dX6_readAnd_18 : decode cX6_readAnd 18 = .ok (.bipush 8, 2) := by decide +kernel
theorem dX6_readAnd_20 : decode cX6_readAnd 20 = .ok (.if_icmp .ne 24, 3) := by decide +kernel
theorem dX6_readAnd_23 : decode cX6_readAnd 23 = .ok (.aload_n 0, 1) := by decide +kernel
theorem dX6_readAnd_24 : decode cX6_readAnd 24 = .ok (.invokevirtual 29, 3) := by decide +kernel
theorem dX6_readAnd_27 : decode cX6_readAnd 27 = .ok (.aload_n 0, 1) := by decide +kernel
theorem dX6_readAnd_28 : decode cX6_readAnd 28 = .ok (.iload_n 1, 1) := by decide +kernel
theorem dX6_readAnd_29 : decode cX6_readAnd 29 = .ok (.invokevirtual 65, 3) := by decide +kernel
theorem dX6_readAnd_32 : decode cX6_readAnd 32 = .ok (.aload_n 0, 1) := by decide +kernel
theorem dX6_readAnd_33 : decode cX6_readAnd 33 = .ok (.bipush (-22), 2) := by decide +kernel
theorem dX6_readAnd_35 : decode cX6_readAnd 35 = .ok (.invokevirtual 62, 3) := by decide +kernel
theorem dX6_readAnd_38 : decode cX6_readAnd 38 = .ok (.iinc 2 1, 3) := by decide +kernel
theorem dX6_readAnd_41 : decode cX6_readAnd 41 = .ok (.goto (-34), 3) := by decide +kernel
theorem dX6_readAnd_44 : decode cX6_readAnd 44 = .ok (.return_, 1) := by decide +kernel
theorem dX6_readNot_0 : decode cX6_readNot 0 = .ok (.aload_n 0, 1) := by decide +kernel
theorem dX6_readNot_1 : decode cX6_readNot 1 = .ok (.getfield 39, 3) := by decide +kernel
theorem dX6_readNot_4 : decode cX6_readNot 4 = .ok (.bipush 9, 2) := by decide +kernel
theorem dX6_readNot_6 : decode cX6_readNot 6 = .ok (.if_icmp .ne 26, 3) := by decide +kernel
theorem dX6_readNot_9 : decode cX6_readNot 9 = .ok (.iload_n 1, 1) := by decide +kernel
theorem dX6_readNot_10 : decode cX6_readNot 10 = .ok (.iconst 5, 1) := by decide +kernel
theorem dX6_readNot_11 : decode cX6_readNot 11 = .ok (.if_icmp .ge 21, 3) := by decide +kernel
theorem dX6_readNot_14 : decode cX6_readNot 14 = .ok (.aload_n 0, 1) := by decide +kernel
theorem dX6_readNot_15 : decode cX6_readNot 15 = .ok (.invokevirtual 29, 3) := by decide +kernel
theorem dX6_readNot_18 : decode cX6_readNot 18 = .ok (.aload_n 0, 1) := by decide +kernel
theorem dX6_readNot_19 : decode cX6_readNot 19 = .ok (.iload_n 1, 1) := by decide +kernel
theorem dX6_readNot_20 : decode cX6_readNot 20 = .ok (.iconst 1, 1) := by decide +kernel
theorem dX6_readNot_21 : decode cX6_readNot 21 = .ok (.iadd, 1) := by decide +kernel
theorem dX6_readNot_22 : decode cX6_readNot 22 = .ok (.invokevirtual 65, 3) := by decide +kernel
theorem dX6_readNot_25 : decode cX6_readNot 25 = .ok (.aload_n 0, 1) := by decide +kernel
theorem dX6_readNot_26 : decode cX6_readNot 26 = .ok (.bipush (-12), 2) := by decide +kernel
theorem dX6_readNot_28 : decode cX6_readNot 28 = .ok (.invokevirtual 62, 3) := by decide +kernel
theorem dX6_readNot_31 : decode cX6_readNot 31 = .ok (.return_, 1) := by decide +kernel
theorem dX6_readNot_32 : decode cX6_readNot 32 = .ok (.aload_n 0, 1) := by decide +kernel
theorem dX6_readNot_33 : decode cX6_readNot 33 = .ok (.iload_n 1, 1) := by decide +kernel
theorem dX6_readNot_34 : decode cX6_readNot 34 = .ok (.invokevirtual 68, 3) := by decide +kernel
theorem dX6_readNot_37 : decode cX6_readNot 37 = .ok (.aload_n 0, 1) := by decide +kernel
theorem dX6_readNot_38 : decode cX6_readNot 38 = .ok (.getfield 39, 3) := by decide +kernel
theorem dX6_readNot_41 : decode cX6_readNot 41 = .ok (.bipush 60, 2) := by decide +kernel
theorem dX6_readNot_43 : decode cX6_readNot 43 = .ok (.if_icmp .eq 12, 3) := by decide +kernel
theorem dX6_readNot_46 : decode cX6_readNot 46 = .ok (.aload_n 0, 1) := by decide +kernel
theorem dX6_readNot_47 : decode cX6_readNot 47 = .ok (.getfield 39, 3) := by decide +kernel
theorem dX6_readNot_50 : decode cX6_readNot 50 = .ok (.bipush 61, 2) := by decide +kernel
theorem dX6_readNot_52 : decode cX6_readNot 52 = .ok (.if_icmp .ne 34, 3) := by decide +kernel
theorem dX6_readNot_55 : decode cX6_readNot 55 = .ok (.aload_n 0, 1) := by decide +kernel
theorem dX6_readNot_56 : decode cX6_readNot 56 = .ok (.getfield 39, 3) := by decide +kernel
theorem dX6_readNot_59 : decode cX6_readNot 59 = .ok (.bipush 60, 2) := by decide +kernel
theorem dX6_readNot_61 : decode cX6_readNot 61 = .ok (.if_icmp .ne 8, 3) := by decide +kernel
theorem dX6_readNot_64 : decode cX6_readNot 64 = .ok (.bipush (-23), 2) := by decide +kernel
theorem dX6_readNot_66 : decode cX6_readNot 66 = .ok (.goto 5, 3) := by decide +kernel
theorem dX6_readNot_69 : decode cX6_readNot 69 = .ok (.bipush (-24), 2) := by decide +kernel
theorem dX6_readNot_71 : decode cX6_readNot 71 = .ok (.istore_n 2, 1) := by decide +kernel
theorem dX6_readNot_72 : decode cX6_readNot 72 = .ok (.aload_n 0, 1) := by decide +kernel
theorem dX6_readNot_73 : decode cX6_readNot 73 = .ok (.invokevirtual 29, 3) := by decide +kernel
theorem dX6_readNot_76 : decode cX6_readNot 76 = .ok (.aload_n 0, 1) := by decide +kernel
theorem dX6_readNot_77 : decode cX6_readNot 77 = .ok (.iload_n 1, 1) := by decide +kernel
theorem dX6_readNot_78 : decode cX6_readNot 78 = .ok (.invokevirtual 68, 3) := by decide +kernel
theorem dX6_readNot_81 : decode cX6_readNot 81 = .ok (.aload_n 0, 1) := by decide +kernel
theorem dX6_readNot_82 : decode cX6_readNot 82 = .ok (.iload_n 2, 1) := by decide +kernel
theorem dX6_readNot_83 : decode cX6_readNot 83 = .ok (.invokevirtual 62, 3) := by decide +kernel
theorem dX6_readNot_86 : decode cX6_readNot 86 = .ok (.return_, 1) := by decide +kernel
theorem dX6_readSum_0 : decode cX6_readSum 0 = .ok (.aload_n 0, 1) := by decide +kernel
theorem dX6_readSum_1 : decode cX6_readSum 1 = .ok (.iload_n 1, 1) := by decide +kernel
theorem dX6_readSum_2 : decode cX6_readSum 2 = .ok (.invokevirtual 71, 3) := by decide +kernel
theorem dX6_readSum_5 : decode cX6_readSum 5 = .ok (.iconst 0, 1) := by decide +kernel
theorem dX6_readSum_6 : decode cX6_readSum 6 = .ok (.istore_n 2, 1) := by decide +kernel
theorem dX6_readSum_7 : decode cX6_readSum 7 = .ok (.iload_n 2, 1) := by decide +kernel
theorem dX6_readSum_8 : decode cX6_readSum 8 = .ok (.sipush 160, 3) := by decide +kernel
theorem dX6_readSum_11 : decode cX6_readSum 11 = .ok (.if_icmp .ge 58, 3) := by decide +kernel
theorem dX6_readSum_14 : decode cX6_readSum 14 = .ok (.aload_n 0, 1) := by decide +kernel
theorem dX6_readSum_15 : decode cX6_readSum 15 = .ok (.getfield 39, 3) := by decide +kernel
theorem dX6_readSum_18 : decode cX6_readSum 18 = .ok (.bipush 43, 2) := by decide +kernel
theorem dX6_readSum_20 : decode cX6_readSum 20 = .ok (.if_icmp .eq 12, 3) := by decide +kernel
theorem dX6_readSum_23 : decode cX6_readSum 23 = .ok (.aload_n 0, 1) := by decide +kernel
theorem dX6_readSum_24 : decode cX6_readSum 24 = .ok (.getfield 39, 3) := by decide +kernel
theorem dX6_readSum_27 : decode cX6_readSum 27 = .ok (.bipush 45, 2) := by decide +kernel
theorem dX6_readSum_29 : decode cX6_readSum 29 = .ok (.if_icmp .ne 40, 3) := by decide +kernel
theorem dX6_readSum_32 : decode cX6_readSum 32 = .ok (.aload_n 0, 1) := by decide +kernel
theorem dX6_readSum_33 : decode cX6_readSum 33 = .ok (.getfield 39, 3) := by decide +kernel
theorem dX6_readSum_36 : decode cX6_readSum 36 = .ok (.bipush 43, 2) := by decide +kernel
theorem dX6_readSum_38 : decode cX6_readSum 38 = .ok (.if_icmp .ne 8, 3) := by decide +kernel
theorem dX6_readSum_41 : decode cX6_readSum 41 = .ok (.bipush (-25), 2) := by decide +kernel
theorem dX6_readSum_43 : decode cX6_readSum 43 = .ok (.goto 5, 3) := by decide +kernel
theorem dX6_readSum_46 : decode cX6_readSum 46 = .ok (.bipush (-26), 2) := by decide +kernel
theorem dX6_readSum_48 : decode cX6_readSum 48 = .ok (.istore_n 3, 1) := by decide +kernel
theorem dX6_readSum_49 : decode cX6_readSum 49 = .ok (.aload_n 0, 1) := by decide +kernel
theorem dX6_readSum_50 : decode cX6_readSum 50 = .ok (.invokevirtual 29, 3) := by decide +kernel
theorem dX6_readSum_53 : decode cX6_readSum 53 = .ok (.aload_n 0, 1) := by decide +kernel
theorem dX6_readSum_54 : decode cX6_readSum 54 = .ok (.iload_n 1, 1) := by decide +kernel
theorem dX6_readSum_55 : decode cX6_readSum 55 = .ok (.invokevirtual 71, 3) := by decide +kernel
theorem dX6_readSum_58 : decode cX6_readSum 58 = .ok (.aload_n 0, 1) := by decide +kernel
theorem dX6_readSum_59 : decode cX6_readSum 59 = .ok (.iload_n 3, 1) := by decide +kernel
theorem dX6_readSum_60 : decode cX6_readSum 60 = .ok (.invokevirtual 62, 3) := by decide +kernel
theorem dX6_readSum_63 : decode cX6_readSum 63 = .ok (.iinc 2 1, 3) := by decide +kernel
theorem dX6_readSum_66 : decode cX6_readSum 66 = .ok (.goto (-59), 3) := by decide +kernel
theorem dX6_readSum_69 : decode cX6_readSum 69 = .ok (.return_, 1) := by decide +kernel
theorem dX6_readTerm_0 : decode cX6_readTerm 0 = .ok (.aload_n 0, 1) := by decide +kernel
theorem dX6_readTerm_1 : decode cX6_readTerm 1 = .ok (.iload_n 1, 1) := by decide +kernel
theorem dX6_readTerm_2 : decode cX6_readTerm 2 = .ok (.invokevirtual 74, 3) := by decide +kernel
theorem dX6_readTerm_5 : decode cX6_readTerm 5 = .ok (.iconst 0, 1) := by decide +kernel
theorem dX6_readTerm_6 : decode cX6_readTerm 6 = .ok (.istore_n 2, 1) := by decide +kernel
theorem dX6_readTerm_7 : decode cX6_readTerm 7 = .ok (.iload_n 2, 1) := by decide +kernel
theorem dX6_readTerm_8 : decode cX6_readTerm 8 = .ok (.sipush 160, 3) := by decide +kernel
theorem dX6_readTerm_11 : decode cX6_readTerm 11 = .ok (.if_icmp .ge 33, 3) := by decide +kernel
theorem dX6_readTerm_14 : decode cX6_readTerm 14 = .ok (.aload_n 0, 1) := by decide +kernel
theorem dX6_readTerm_15 : decode cX6_readTerm 15 = .ok (.getfield 39, 3) := by decide +kernel
theorem dX6_readTerm_18 : decode cX6_readTerm 18 = .ok (.bipush 42, 2) := by decide +kernel
theorem dX6_readTerm_20 : decode cX6_readTerm 20 = .ok (.if_icmp .ne 24, 3) := by decide +kernel
theorem dX6_readTerm_23 : decode cX6_readTerm 23 = .ok (.aload_n 0, 1) := by decide +kernel
theorem dX6_readTerm_24 : decode cX6_readTerm 24 = .ok (.invokevirtual 29, 3) := by decide +kernel
theorem dX6_readTerm_27 : decode cX6_readTerm 27 = .ok (.aload_n 0, 1) := by decide +kernel
theorem dX6_readTerm_28 : decode cX6_readTerm 28 = .ok (.iload_n 1, 1) := by decide +kernel
theorem dX6_readTerm_29 : decode cX6_readTerm 29 = .ok (.invokevirtual 74, 3) := by decide +kernel
theorem dX6_readTerm_32 : decode cX6_readTerm 32 = .ok (.aload_n 0, 1) := by decide +kernel
theorem dX6_readTerm_33 : decode cX6_readTerm 33 = .ok (.bipush (-27), 2) := by decide +kernel
theorem dX6_readTerm_35 : decode cX6_readTerm 35 = .ok (.invokevirtual 62, 3) := by decide +kernel
theorem dX6_readTerm_38 : decode cX6_readTerm 38 = .ok (.iinc 2 1, 3) := by decide +kernel
theorem dX6_readTerm_41 : decode cX6_readTerm 41 = .ok (.goto (-34), 3) := by decide +kernel
theorem dX6_readTerm_44 : decode cX6_readTerm 44 = .ok (.return_, 1) := by decide +kernel
theorem dX6_readOne_0 : decode cX6_readOne 0 = .ok (.aload_n 0, 1) := by decide +kernel
theorem dX6_readOne_1 : decode cX6_readOne 1 = .ok (.getfield 39, 3) := by decide +kernel
theorem dX6_readOne_4 : decode cX6_readOne 4 = .ok (.iconst 2, 1) := by decide +kernel
theorem dX6_readOne_5 : decode cX6_readOne 5 = .ok (.if_icmp .eq 11, 3) := by decide +kernel
theorem dX6_readOne_8 : decode cX6_readOne 8 = .ok (.aload_n 0, 1) := by decide +kernel
theorem dX6_readOne_9 : decode cX6_readOne 9 = .ok (.getfield 39, 3) := by decide +kernel
theorem dX6_readOne_12 : decode cX6_readOne 12 = .ok (.iconst 3, 1) := by decide +kernel
theorem dX6_readOne_13 : decode cX6_readOne 13 = .ok (.if_icmp .ne 18, 3) := by decide +kernel
theorem dX6_readOne_16 : decode cX6_readOne 16 = .ok (.aload_n 0, 1) := by decide +kernel
theorem dX6_readOne_17 : decode cX6_readOne 17 = .ok (.aload_n 0, 1) := by decide +kernel
theorem dX6_readOne_18 : decode cX6_readOne 18 = .ok (.getfield 77, 3) := by decide +kernel
theorem dX6_readOne_21 : decode cX6_readOne 21 = .ok (.invokevirtual 62, 3) := by decide +kernel
theorem dX6_readOne_24 : decode cX6_readOne 24 = .ok (.aload_n 0, 1) := by decide +kernel
theorem dX6_readOne_25 : decode cX6_readOne 25 = .ok (.invokevirtual 29, 3) := by decide +kernel
theorem dX6_readOne_28 : decode cX6_readOne 28 = .ok (.goto 75, 3) := by decide +kernel
theorem dX6_readOne_31 : decode cX6_readOne 31 = .ok (.aload_n 0, 1) := by decide +kernel
theorem dX6_readOne_32 : decode cX6_readOne 32 = .ok (.getfield 39, 3) := by decide +kernel
theorem dX6_readOne_35 : decode cX6_readOne 35 = .ok (.bipush 45, 2) := by decide +kernel
theorem dX6_readOne_37 : decode cX6_readOne 37 = .ok (.if_icmp .ne 28, 3) := by decide +kernel
theorem dX6_readOne_40 : decode cX6_readOne 40 = .ok (.iload_n 1, 1) := by decide +kernel
theorem dX6_readOne_41 : decode cX6_readOne 41 = .ok (.iconst 5, 1) := by decide +kernel
theorem dX6_readOne_42 : decode cX6_readOne 42 = .ok (.if_icmp .ge 23, 3) := by decide +kernel
theorem dX6_readOne_45 : decode cX6_readOne 45 = .ok (.aload_n 0, 1) := by decide +kernel
theorem dX6_readOne_46 : decode cX6_readOne 46 = .ok (.invokevirtual 29, 3) := by decide +kernel
theorem dX6_readOne_49 : decode cX6_readOne 49 = .ok (.aload_n 0, 1) := by decide +kernel
theorem dX6_readOne_50 : decode cX6_readOne 50 = .ok (.iload_n 1, 1) := by decide +kernel
theorem dX6_readOne_51 : decode cX6_readOne 51 = .ok (.iconst 1, 1) := by decide +kernel
theorem dX6_readOne_52 : decode cX6_readOne 52 = .ok (.iadd, 1) := by decide +kernel
theorem dX6_readOne_53 : decode cX6_readOne 53 = .ok (.invokevirtual 74, 3) := by decide +kernel
theorem dX6_readOne_56 : decode cX6_readOne 56 = .ok (.aload_n 0, 1) := by decide +kernel
theorem dX6_readOne_57 : decode cX6_readOne 57 = .ok (.bipush (-11), 2) := by decide +kernel
theorem dX6_readOne_59 : decode cX6_readOne 59 = .ok (.invokevirtual 62, 3) := by decide +kernel
theorem dX6_readOne_62 : decode cX6_readOne 62 = .ok (.goto 41, 3) := by decide +kernel
theorem dX6_readOne_65 : decode cX6_readOne 65 = .ok (.aload_n 0, 1) := by decide +kernel
theorem dX6_readOne_66 : decode cX6_readOne 66 = .ok (.getfield 39, 3) := by decide +kernel
theorem dX6_readOne_69 : decode cX6_readOne 69 = .ok (.bipush 40, 2) := by decide +kernel
theorem dX6_readOne_71 : decode cX6_readOne 71 = .ok (.if_icmp .ne 28, 3) := by decide +kernel
theorem dX6_readOne_74 : decode cX6_readOne 74 = .ok (.iload_n 1, 1) := by decide +kernel
theorem dX6_readOne_75 : decode cX6_readOne 75 = .ok (.iconst 5, 1) := by decide +kernel
theorem dX6_readOne_76 : decode cX6_readOne 76 = .ok (.if_icmp .ge 23, 3) := by decide +kernel
theorem dX6_readOne_79 : decode cX6_readOne 79 = .ok (.aload_n 0, 1) := by decide +kernel
theorem dX6_readOne_80 : decode cX6_readOne 80 = .ok (.invokevirtual 29, 3) := by decide +kernel
theorem dX6_readOne_83 : decode cX6_readOne 83 = .ok (.aload_n 0, 1) := by decide +kernel
theorem dX6_readOne_84 : decode cX6_readOne 84 = .ok (.iload_n 1, 1) := by decide +kernel
theorem dX6_readOne_85 : decode cX6_readOne 85 = .ok (.iconst 1, 1) := by decide +kernel
theorem dX6_readOne_86 : decode cX6_readOne 86 = .ok (.iadd, 1) := by decide +kernel
theorem dX6_readOne_87 : decode cX6_readOne 87 = .ok (.invokevirtual 36, 3) := by decide +kernel
theorem dX6_readOne_90 : decode cX6_readOne 90 = .ok (.aload_n 0, 1) := by decide +kernel
theorem dX6_readOne_91 : decode cX6_readOne 91 = .ok (.bipush 41, 2) := by decide +kernel
theorem dX6_readOne_93 : decode cX6_readOne 93 = .ok (.invokevirtual 32, 3) := by decide +kernel
theorem dX6_readOne_96 : decode cX6_readOne 96 = .ok (.goto 7, 3) := by decide +kernel
theorem dX6_readOne_99 : decode cX6_readOne 99 = .ok (.aload_n 0, 1) := by decide +kernel
theorem dX6_readOne_100 : decode cX6_readOne 100 = .ok (.invokevirtual 42, 3) := by decide +kernel
theorem dX6_readOne_103 : decode cX6_readOne 103 = .ok (.return_, 1) := by decide +kernel
theorem dX6_advance_0 : decode cX6_advance 0 = .ok (.aload_n 0, 1) := by decide +kernel
theorem dX6_advance_1 : decode cX6_advance 1 = .ok (.getfield 26, 3) := by decide +kernel
theorem dX6_advance_4 : decode cX6_advance 4 = .ok (.iconst (-1), 1) := by decide +kernel
theorem dX6_advance_5 : decode cX6_advance 5 = .ok (.if_icmp .eq 4, 3) := by decide +kernel
theorem dX6_advance_8 : decode cX6_advance 8 = .ok (.return_, 1) := by decide +kernel
theorem dX6_advance_9 : decode cX6_advance 9 = .ok (.iconst 0, 1) := by decide +kernel
theorem dX6_advance_10 : decode cX6_advance 10 = .ok (.istore_n 1, 1) := by decide +kernel
theorem dX6_advance_11 : decode cX6_advance 11 = .ok (.iload_n 1, 1) := by decide +kernel
theorem dX6_advance_12 : decode cX6_advance 12 = .ok (.sipush 160, 3) := by decide +kernel
theorem dX6_advance_15 : decode cX6_advance 15 = .ok (.if_icmp .ge 36, 3) := by decide +kernel
theorem dX6_advance_18 : decode cX6_advance 18 = .ok (.aload_n 0, 1) := by decide +kernel
theorem dX6_advance_19 : decode cX6_advance 19 = .ok (.getfield 15, 3) := by decide +kernel
theorem dX6_advance_22 : decode cX6_advance 22 = .ok (.aload_n 0, 1) := by decide +kernel
theorem dX6_advance_23 : decode cX6_advance 23 = .ok (.getfield 19, 3) := by decide +kernel
theorem dX6_advance_26 : decode cX6_advance 26 = .ok (.invokevirtual 80, 3) := by decide +kernel
theorem dX6_advance_29 : decode cX6_advance 29 = .ok (.invokestatic 86, 3) := by decide +kernel
theorem dX6_advance_32 : decode cX6_advance 32 = .ok (.ifCond .eq 19, 3) := by decide +kernel
theorem dX6_advance_35 : decode cX6_advance 35 = .ok (.aload_n 0, 1) := by decide +kernel
theorem dX6_advance_36 : decode cX6_advance 36 = .ok (.dup, 1) := by decide +kernel
theorem dX6_advance_37 : decode cX6_advance 37 = .ok (.getfield 19, 3) := by decide +kernel
theorem dX6_advance_40 : decode cX6_advance 40 = .ok (.iconst 1, 1) := by decide +kernel
theorem dX6_advance_41 : decode cX6_advance 41 = .ok (.iadd, 1) := by decide +kernel
theorem dX6_advance_42 : decode cX6_advance 42 = .ok (.putfield 19, 3) := by decide +kernel
theorem dX6_advance_45 : decode cX6_advance 45 = .ok (.iinc 1 1, 3) := by decide +kernel
theorem dX6_advance_48 : decode cX6_advance 48 = .ok (.goto (-37), 3) := by decide +kernel
theorem dX6_advance_51 : decode cX6_advance 51 = .ok (.aload_n 0, 1) := by decide +kernel
theorem dX6_advance_52 : decode cX6_advance 52 = .ok (.aload_n 0, 1) := by decide +kernel
theorem dX6_advance_53 : decode cX6_advance 53 = .ok (.getfield 19, 3) := by decide +kernel
theorem dX6_advance_56 : decode cX6_advance 56 = .ok (.putfield 56, 3) := by decide +kernel
theorem dX6_advance_59 : decode cX6_advance 59 = .ok (.aload_n 0, 1) := by decide +kernel
theorem dX6_advance_60 : decode cX6_advance 60 = .ok (.getfield 15, 3) := by decide +kernel
theorem dX6_advance_63 : decode cX6_advance 63 = .ok (.aload_n 0, 1) := by decide +kernel
theorem dX6_advance_64 : decode cX6_advance 64 = .ok (.getfield 19, 3) := by decide +kernel
theorem dX6_advance_67 : decode cX6_advance 67 = .ok (.invokevirtual 80, 3) := by decide +kernel
theorem dX6_advance_70 : decode cX6_advance 70 = .ok (.istore_n 1, 1) := by decide +kernel
theorem dX6_advance_71 : decode cX6_advance 71 = .ok (.iload_n 1, 1) := by decide +kernel
theorem dX6_advance_72 : decode cX6_advance 72 = .ok (.iconst (-1), 1) := by decide +kernel
theorem dX6_advance_73 : decode cX6_advance 73 = .ok (.if_icmp .ne 11, 3) := by decide +kernel
theorem dX6_advance_76 : decode cX6_advance 76 = .ok (.aload_n 0, 1) := by decide +kernel
theorem dX6_advance_77 : decode cX6_advance 77 = .ok (.iconst 0, 1) := by decide +kernel
theorem dX6_advance_78 : decode cX6_advance 78 = .ok (.putfield 39, 3) := by decide +kernel
theorem dX6_advance_81 : decode cX6_advance 81 = .ok (.goto 68, 3) := by decide +kernel
theorem dX6_advance_84 : decode cX6_advance 84 = .ok (.iload_n 1, 1) := by decide +kernel
theorem dX6_advance_85 : decode cX6_advance 85 = .ok (.invokestatic 90, 3) := by decide +kernel
theorem dX6_advance_88 : decode cX6_advance 88 = .ok (.ifCond .eq 14, 3) := by decide +kernel
theorem dX6_advance_91 : decode cX6_advance 91 = .ok (.aload_n 0, 1) := by decide +kernel
theorem dX6_advance_92 : decode cX6_advance 92 = .ok (.aload_n 0, 1) := by decide +kernel
theorem dX6_advance_93 : decode cX6_advance 93 = .ok (.invokevirtual 93, 3) := by decide +kernel
theorem dX6_advance_96 : decode cX6_advance 96 = .ok (.putfield 39, 3) := by decide +kernel
theorem dX6_advance_99 : decode cX6_advance 99 = .ok (.goto 50, 3) := by decide +kernel
theorem dX6_advance_102 : decode cX6_advance 102 = .ok (.iload_n 1, 1) := by decide +kernel
theorem dX6_advance_103 : decode cX6_advance 103 = .ok (.invokestatic 97, 3) := by decide +kernel
theorem dX6_advance_106 : decode cX6_advance 106 = .ok (.ifCond .eq 14, 3) := by decide +kernel
theorem dX6_advance_109 : decode cX6_advance 109 = .ok (.aload_n 0, 1) := by decide +kernel
theorem dX6_advance_110 : decode cX6_advance 110 = .ok (.aload_n 0, 1) := by decide +kernel
theorem dX6_advance_111 : decode cX6_advance 111 = .ok (.invokevirtual 100, 3) := by decide +kernel
theorem dX6_advance_114 : decode cX6_advance 114 = .ok (.putfield 39, 3) := by decide +kernel
theorem dX6_advance_117 : decode cX6_advance 117 = .ok (.goto 32, 3) := by decide +kernel
theorem dX6_advance_120 : decode cX6_advance 120 = .ok (.aload_n 0, 1) := by decide +kernel
theorem dX6_advance_121 : decode cX6_advance 121 = .ok (.dup, 1) := by decide +kernel
theorem dX6_advance_122 : decode cX6_advance 122 = .ok (.getfield 19, 3) := by decide +kernel
theorem dX6_advance_125 : decode cX6_advance 125 = .ok (.iconst 1, 1) := by decide +kernel
theorem dX6_advance_126 : decode cX6_advance 126 = .ok (.iadd, 1) := by decide +kernel
theorem dX6_advance_127 : decode cX6_advance 127 = .ok (.putfield 19, 3) := by decide +kernel
theorem dX6_advance_130 : decode cX6_advance 130 = .ok (.aload_n 0, 1) := by decide +kernel
theorem dX6_advance_131 : decode cX6_advance 131 = .ok (.ldc 103, 2) := by decide +kernel
theorem dX6_advance_133 : decode cX6_advance 133 = .ok (.iload_n 1, 1) := by decide +kernel
theorem dX6_advance_134 : decode cX6_advance 134 = .ok (.i2c, 1) := by decide +kernel
theorem dX6_advance_135 : decode cX6_advance 135 = .ok (.invokevirtual 105, 3) := by decide +kernel
theorem dX6_advance_138 : decode cX6_advance 138 = .ok (.ifCond .lt 7, 3) := by decide +kernel
theorem dX6_advance_141 : decode cX6_advance 141 = .ok (.iload_n 1, 1) := by decide +kernel
theorem dX6_advance_142 : decode cX6_advance 142 = .ok (.goto 4, 3) := by decide +kernel
theorem dX6_advance_145 : decode cX6_advance 145 = .ok (.iconst 1, 1) := by decide +kernel
theorem dX6_advance_146 : decode cX6_advance 146 = .ok (.putfield 39, 3) := by decide +kernel
theorem dX6_advance_149 : decode cX6_advance 149 = .ok (.return_, 1) := by decide +kernel
theorem dX6_numberToken_0 : decode cX6_numberToken 0 = .ok (.aload_n 0, 1) := by decide +kernel
theorem dX6_numberToken_1 : decode cX6_numberToken 1 = .ok (.iconst 0, 1) := by decide +kernel
theorem dX6_numberToken_2 : decode cX6_numberToken 2 = .ok (.putfield 77, 3) := by decide +kernel
theorem dX6_numberToken_5 : decode cX6_numberToken 5 = .ok (.iconst 0, 1) := by decide +kernel
theorem dX6_numberToken_6 : decode cX6_numberToken 6 = .ok (.istore_n 1, 1) := by decide +kernel
theorem dX6_numberToken_7 : decode cX6_numberToken 7 = .ok (.iload_n 1, 1) := by decide +kernel
theorem dX6_numberToken_8 : decode cX6_numberToken 8 = .ok (.iconst 4, 1) := by decide +kernel
theorem dX6_numberToken_9 : decode cX6_numberToken 9 = .ok (.if_icmp .ge 62, 3) := by decide +kernel
theorem dX6_numberToken_12 : decode cX6_numberToken 12 = .ok (.aload_n 0, 1) := by decide +kernel
theorem dX6_numberToken_13 : decode cX6_numberToken 13 = .ok (.getfield 15, 3) := by decide +kernel
theorem dX6_numberToken_16 : decode cX6_numberToken 16 = .ok (.aload_n 0, 1) := by decide +kernel
theorem dX6_numberToken_17 : decode cX6_numberToken 17 = .ok (.getfield 19, 3) := by decide +kernel
theorem dX6_numberToken_20 : decode cX6_numberToken 20 = .ok (.invokevirtual 80, 3) := by decide +kernel
theorem dX6_numberToken_23 : decode cX6_numberToken 23 = .ok (.invokestatic 97, 3) := by decide +kernel
theorem dX6_numberToken_26 : decode cX6_numberToken 26 = .ok (.ifCond .eq 45, 3) := by decide +kernel
theorem dX6_numberToken_29 : decode cX6_numberToken 29 = .ok (.aload_n 0, 1) := by decide +kernel
theorem dX6_numberToken_30 : decode cX6_numberToken 30 = .ok (.aload_n 0, 1) := by decide +kernel
theorem dX6_numberToken_31 : decode cX6_numberToken 31 = .ok (.getfield 77, 3) := by decide +kernel
theorem dX6_numberToken_34 : decode cX6_numberToken 34 = .ok (.bipush 10, 2) := by decide +kernel
theorem dX6_numberToken_36 : decode cX6_numberToken 36 = .ok (.imul, 1) := by decide +kernel
theorem dX6_numberToken_37 : decode cX6_numberToken 37 = .ok (.aload_n 0, 1) := by decide +kernel
theorem dX6_numberToken_38 : decode cX6_numberToken 38 = .ok (.getfield 15, 3) := by decide +kernel
theorem dX6_numberToken_41 : decode cX6_numberToken 41 = .ok (.aload_n 0, 1) := by decide +kernel
theorem dX6_numberToken_42 : decode cX6_numberToken 42 = .ok (.getfield 19, 3) := by decide +kernel
theorem dX6_numberToken_45 : decode cX6_numberToken 45 = .ok (.invokevirtual 80, 3) := by decide +kernel
theorem dX6_numberToken_48 : decode cX6_numberToken 48 = .ok (.iadd, 1) := by decide +kernel
theorem dX6_numberToken_49 : decode cX6_numberToken 49 = .ok (.bipush 48, 2) := by decide +kernel
theorem dX6_numberToken_51 : decode cX6_numberToken 51 = .ok (.isub, 1) := by decide +kernel
theorem dX6_numberToken_52 : decode cX6_numberToken 52 = .ok (.putfield 77, 3) := by decide +kernel
theorem dX6_numberToken_55 : decode cX6_numberToken 55 = .ok (.aload_n 0, 1) := by decide +kernel
theorem dX6_numberToken_56 : decode cX6_numberToken 56 = .ok (.dup, 1) := by decide +kernel
theorem dX6_numberToken_57 : decode cX6_numberToken 57 = .ok (.getfield 19, 3) := by decide +kernel
theorem dX6_numberToken_60 : decode cX6_numberToken 60 = .ok (.iconst 1, 1) := by decide +kernel
theorem dX6_numberToken_61 : decode cX6_numberToken 61 = .ok (.iadd, 1) := by decide +kernel
theorem dX6_numberToken_62 : decode cX6_numberToken 62 = .ok (.putfield 19, 3) := by decide +kernel
theorem dX6_numberToken_65 : decode cX6_numberToken 65 = .ok (.iinc 1 1, 3) := by decide +kernel
theorem dX6_numberToken_68 : decode cX6_numberToken 68 = .ok (.goto (-61), 3) := by decide +kernel
theorem dX6_numberToken_71 : decode cX6_numberToken 71 = .ok (.aload_n 0, 1) := by decide +kernel
theorem dX6_numberToken_72 : decode cX6_numberToken 72 = .ok (.getfield 15, 3) := by decide +kernel
theorem dX6_numberToken_75 : decode cX6_numberToken 75 = .ok (.aload_n 0, 1) := by decide +kernel
theorem dX6_numberToken_76 : decode cX6_numberToken 76 = .ok (.getfield 19, 3) := by decide +kernel
theorem dX6_numberToken_79 : decode cX6_numberToken 79 = .ok (.invokevirtual 80, 3) := by decide +kernel
theorem dX6_numberToken_82 : decode cX6_numberToken 82 = .ok (.invokestatic 97, 3) := by decide +kernel
theorem dX6_numberToken_85 : decode cX6_numberToken 85 = .ok (.ifCond .eq 7, 3) := by decide +kernel
theorem dX6_numberToken_88 : decode cX6_numberToken 88 = .ok (.iconst 1, 1) := by decide +kernel
theorem dX6_numberToken_89 : decode cX6_numberToken 89 = .ok (.goto 4, 3) := by decide +kernel
theorem dX6_numberToken_92 : decode cX6_numberToken 92 = .ok (.iconst 2, 1) := by decide +kernel
theorem dX6_numberToken_93 : decode cX6_numberToken 93 = .ok (.ireturn, 1) := by decide +kernel
theorem dX6_wordToken_0 : decode cX6_wordToken 0 = .ok (.iconst 0, 1) := by decide +kernel
theorem dX6_wordToken_1 : decode cX6_wordToken 1 = .ok (.istore_n 1, 1) := by decide +kernel
theorem dX6_wordToken_2 : decode cX6_wordToken 2 = .ok (.iload_n 1, 1) := by decide +kernel
theorem dX6_wordToken_3 : decode cX6_wordToken 3 = .ok (.sipush 160, 3) := by decide +kernel
theorem dX6_wordToken_6 : decode cX6_wordToken 6 = .ok (.if_icmp .ge 36, 3) := by decide +kernel
theorem dX6_wordToken_9 : decode cX6_wordToken 9 = .ok (.aload_n 0, 1) := by decide +kernel
theorem dX6_wordToken_10 : decode cX6_wordToken 10 = .ok (.getfield 15, 3) := by decide +kernel
theorem dX6_wordToken_13 : decode cX6_wordToken 13 = .ok (.aload_n 0, 1) := by decide +kernel
theorem dX6_wordToken_14 : decode cX6_wordToken 14 = .ok (.getfield 19, 3) := by decide +kernel
theorem dX6_wordToken_17 : decode cX6_wordToken 17 = .ok (.invokevirtual 80, 3) := by decide +kernel
theorem dX6_wordToken_20 : decode cX6_wordToken 20 = .ok (.invokestatic 90, 3) := by decide +kernel
theorem dX6_wordToken_23 : decode cX6_wordToken 23 = .ok (.ifCond .eq 19, 3) := by decide +kernel
theorem dX6_wordToken_26 : decode cX6_wordToken 26 = .ok (.aload_n 0, 1) := by decide +kernel
theorem dX6_wordToken_27 : decode cX6_wordToken 27 = .ok (.dup, 1) := by decide +kernel
theorem dX6_wordToken_28 : decode cX6_wordToken 28 = .ok (.getfield 19, 3) := by decide +kernel
theorem dX6_wordToken_31 : decode cX6_wordToken 31 = .ok (.iconst 1, 1) := by decide +kernel
theorem dX6_wordToken_32 : decode cX6_wordToken 32 = .ok (.iadd, 1) := by decide +kernel
theorem dX6_wordToken_33 : decode cX6_wordToken 33 = .ok (.putfield 19, 3) := by decide +kernel
theorem dX6_wordToken_36 : decode cX6_wordToken 36 = .ok (.iinc 1 1, 3) := by decide +kernel
theorem dX6_wordToken_39 : decode cX6_wordToken 39 = .ok (.goto (-37), 3) := by decide +kernel
theorem dX6_wordToken_42 : decode cX6_wordToken 42 = .ok (.iconst 0, 1) := by decide +kernel
theorem dX6_wordToken_43 : decode cX6_wordToken 43 = .ok (.istore_n 1, 1) := by decide +kernel
theorem dX6_wordToken_44 : decode cX6_wordToken 44 = .ok (.iload_n 1, 1) := by decide +kernel
theorem dX6_wordToken_45 : decode cX6_wordToken 45 = .ok (.bipush 6, 2) := by decide +kernel
theorem dX6_wordToken_47 : decode cX6_wordToken 47 = .ok (.if_icmp .ge 29, 3) := by decide +kernel
theorem dX6_wordToken_50 : decode cX6_wordToken 50 = .ok (.aload_n 0, 1) := by decide +kernel
theorem dX6_wordToken_51 : decode cX6_wordToken 51 = .ok (.iload_n 1, 1) := by decide +kernel
theorem dX6_wordToken_52 : decode cX6_wordToken 52 = .ok (.invokestatic 110, 3) := by decide +kernel
theorem dX6_wordToken_55 : decode cX6_wordToken 55 = .ok (.invokevirtual 114, 3) := by decide +kernel
theorem dX6_wordToken_58 : decode cX6_wordToken 58 = .ok (.ifCond .eq 12, 3) := by decide +kernel
theorem dX6_wordToken_61 : decode cX6_wordToken 61 = .ok (.aload_n 0, 1) := by decide +kernel
theorem dX6_wordToken_62 : decode cX6_wordToken 62 = .ok (.iconst (-1), 1) := by decide +kernel
theorem dX6_wordToken_63 : decode cX6_wordToken 63 = .ok (.iload_n 1, 1) := by decide +kernel
theorem dX6_wordToken_64 : decode cX6_wordToken 64 = .ok (.isub, 1) := by decide +kernel
theorem dX6_wordToken_65 : decode cX6_wordToken 65 = .ok (.putfield 77, 3) := by decide +kernel
theorem dX6_wordToken_68 : decode cX6_wordToken 68 = .ok (.iconst 3, 1) := by decide +kernel
theorem dX6_wordToken_69 : decode cX6_wordToken 69 = .ok (.ireturn, 1) := by decide +kernel
theorem dX6_wordToken_70 : decode cX6_wordToken 70 = .ok (.iinc 1 1, 3) := by decide +kernel
theorem dX6_wordToken_73 : decode cX6_wordToken 73 = .ok (.goto (-29), 3) := by decide +kernel
theorem dX6_wordToken_76 : decode cX6_wordToken 76 = .ok (.iconst 4, 1) := by decide +kernel
theorem dX6_wordToken_77 : decode cX6_wordToken 77 = .ok (.istore_n 1, 1) := by decide +kernel
theorem dX6_wordToken_78 : decode cX6_wordToken 78 = .ok (.iload_n 1, 1) := by decide +kernel
theorem dX6_wordToken_79 : decode cX6_wordToken 79 = .ok (.bipush 9, 2) := by decide +kernel
theorem dX6_wordToken_81 : decode cX6_wordToken 81 = .ok (.if_icmp .gt 22, 3) := by decide +kernel
theorem dX6_wordToken_84 : decode cX6_wordToken 84 = .ok (.aload_n 0, 1) := by decide +kernel
theorem dX6_wordToken_85 : decode cX6_wordToken 85 = .ok (.iload_n 1, 1) := by decide +kernel
theorem dX6_wordToken_86 : decode cX6_wordToken 86 = .ok (.invokestatic 118, 3) := by decide +kernel
theorem dX6_wordToken_89 : decode cX6_wordToken 89 = .ok (.invokevirtual 114, 3) := by decide +kernel
theorem dX6_wordToken_92 : decode cX6_wordToken 92 = .ok (.ifCond .eq 5, 3) := by decide +kernel
theorem dX6_wordToken_95 : decode cX6_wordToken 95 = .ok (.iload_n 1, 1) := by decide +kernel
theorem dX6_wordToken_96 : decode cX6_wordToken 96 = .ok (.ireturn, 1) := by decide +kernel
theorem dX6_wordToken_97 : decode cX6_wordToken 97 = .ok (.iinc 1 1, 3) := by decide +kernel
theorem dX6_wordToken_100 : decode cX6_wordToken 100 = .ok (.goto (-22), 3) := by decide +kernel
theorem dX6_wordToken_103 : decode cX6_wordToken 103 = .ok (.iconst 1, 1) := by decide +kernel
theorem dX6_wordToken_104 : decode cX6_wordToken 104 = .ok (.ireturn, 1) := by decide +kernel
theorem dX6_isWord_0 : decode cX6_isWord 0 = .ok (.aload_n 0, 1) := by decide +kernel
theorem dX6_isWord_1 : decode cX6_isWord 1 = .ok (.getfield 19, 3) := by decide +kernel
theorem dX6_isWord_4 : decode cX6_isWord 4 = .ok (.aload_n 0, 1) := by decide +kernel
theorem dX6_isWord_5 : decode cX6_isWord 5 = .ok (.getfield 56, 3) := by decide +kernel
theorem dX6_isWord_8 : decode cX6_isWord 8 = .ok (.isub, 1) := by decide +kernel
theorem dX6_isWord_9 : decode cX6_isWord 9 = .ok (.aload_n 1, 1) := by decide +kernel
theorem dX6_isWord_10 : decode cX6_isWord 10 = .ok (.invokevirtual 121, 3) := by decide +kernel
theorem dX6_isWord_13 : decode cX6_isWord 13 = .ok (.if_icmp .eq 5, 3) := by decide +kernel
theorem dX6_isWord_16 : decode cX6_isWord 16 = .ok (.iconst 0, 1) := by decide +kernel
theorem dX6_isWord_17 : decode cX6_isWord 17 = .ok (.ireturn, 1) := by decide +kernel
theorem dX6_isWord_18 : decode cX6_isWord 18 = .ok (.iconst 0, 1) := by decide +kernel
theorem dX6_isWord_19 : decode cX6_isWord 19 = .ok (.istore_n 2, 1) := by decide +kernel
theorem dX6_isWord_20 : decode cX6_isWord 20 = .ok (.iload_n 2, 1) := by decide +kernel
theorem dX6_isWord_21 : decode cX6_isWord 21 = .ok (.aload_n 1, 1) := by decide +kernel
theorem dX6_isWord_22 : decode cX6_isWord 22 = .ok (.invokevirtual 121, 3) := by decide +kernel
theorem dX6_isWord_25 : decode cX6_isWord 25 = .ok (.if_icmp .ge 32, 3) := by decide +kernel
theorem dX6_isWord_28 : decode cX6_isWord 28 = .ok (.aload_n 0, 1) := by decide +kernel
theorem dX6_isWord_29 : decode cX6_isWord 29 = .ok (.getfield 15, 3) := by decide +kernel
theorem dX6_isWord_32 : decode cX6_isWord 32 = .ok (.aload_n 0, 1) := by decide +kernel
theorem dX6_isWord_33 : decode cX6_isWord 33 = .ok (.getfield 56, 3) := by decide +kernel
theorem dX6_isWord_36 : decode cX6_isWord 36 = .ok (.iload_n 2, 1) := by decide +kernel
theorem dX6_isWord_37 : decode cX6_isWord 37 = .ok (.iadd, 1) := by decide +kernel
theorem dX6_isWord_38 : decode cX6_isWord 38 = .ok (.invokevirtual 80, 3) := by decide +kernel
theorem dX6_isWord_41 : decode cX6_isWord 41 = .ok (.aload_n 1, 1) := by decide +kernel
theorem dX6_isWord_42 : decode cX6_isWord 42 = .ok (.iload_n 2, 1) := by decide +kernel
theorem dX6_isWord_43 : decode cX6_isWord 43 = .ok (.invokevirtual 124, 3) := by decide +kernel
theorem dX6_isWord_46 : decode cX6_isWord 46 = .ok (.if_icmp .eq 5, 3) := by decide +kernel
theorem dX6_isWord_49 : decode cX6_isWord 49 = .ok (.iconst 0, 1) := by decide +kernel
theorem dX6_isWord_50 : decode cX6_isWord 50 = .ok (.ireturn, 1) := by decide +kernel
theorem dX6_isWord_51 : decode cX6_isWord 51 = .ok (.iinc 2 1, 3) := by decide +kernel
theorem dX6_isWord_54 : decode cX6_isWord 54 = .ok (.goto (-34), 3) := by decide +kernel
theorem dX6_isWord_57 : decode cX6_isWord 57 = .ok (.iconst 1, 1) := by decide +kernel
theorem dX6_isWord_58 : decode cX6_isWord 58 = .ok (.ireturn, 1) := by decide +kernel
theorem dX6_nameAt_0 : decode cX6_nameAt 0 = .ok (.iload_n 0, 1) := by decide +kernel
theorem dX6_nameAt_1 : decode cX6_nameAt 1 = .ok (.tableswitch 50 0 4 #[35, 38, 41, 44, 47], 35) := by decide +kernel
theorem dX6_nameAt_36 : decode cX6_nameAt 36 = .ok (.ldc 128, 2) := by decide +kernel
theorem dX6_nameAt_38 : decode cX6_nameAt 38 = .ok (.areturn, 1) := by decide +kernel
theorem dX6_nameAt_39 : decode cX6_nameAt 39 = .ok (.ldc 130, 2) := by decide +kernel
theorem dX6_nameAt_41 : decode cX6_nameAt 41 = .ok (.areturn, 1) := by decide +kernel
theorem dX6_nameAt_42 : decode cX6_nameAt 42 = .ok (.ldc 132, 2) := by decide +kernel
theorem dX6_nameAt_44 : decode cX6_nameAt 44 = .ok (.areturn, 1) := by decide +kernel
theorem dX6_nameAt_45 : decode cX6_nameAt 45 = .ok (.ldc 134, 2) := by decide +kernel
theorem dX6_nameAt_47 : decode cX6_nameAt 47 = .ok (.areturn, 1) := by decide +kernel
theorem dX6_nameAt_48 : decode cX6_nameAt 48 = .ok (.ldc 136, 2) := by decide +kernel
theorem dX6_nameAt_50 : decode cX6_nameAt 50 = .ok (.areturn, 1) := by decide +kernel
theorem dX6_nameAt_51 : decode cX6_nameAt 51 = .ok (.ldc 138, 2) := by decide +kernel
theorem dX6_nameAt_53 : decode cX6_nameAt 53 = .ok (.areturn, 1) := by decide +kernel
theorem dX6_keyAt_0 : decode cX6_keyAt 0 = .ok (.iload_n 0, 1) := by decide +kernel
theorem dX6_keyAt_1 : decode cX6_keyAt 1 = .ok (.tableswitch 50 4 8 #[35, 38, 41, 44, 47], 35) := by decide +kernel
theorem dX6_keyAt_36 : decode cX6_keyAt 36 = .ok (.ldc 140, 2) := by decide +kernel
theorem dX6_keyAt_38 : decode cX6_keyAt 38 = .ok (.areturn, 1) := by decide +kernel
theorem dX6_keyAt_39 : decode cX6_keyAt 39 = .ok (.ldc 142, 2) := by decide +kernel
theorem dX6_keyAt_41 : decode cX6_keyAt 41 = .ok (.areturn, 1) := by decide +kernel
theorem dX6_keyAt_42 : decode cX6_keyAt 42 = .ok (.ldc 144, 2) := by decide +kernel
theorem dX6_keyAt_44 : decode cX6_keyAt 44 = .ok (.areturn, 1) := by decide +kernel
theorem dX6_keyAt_45 : decode cX6_keyAt 45 = .ok (.ldc 146, 2) := by decide +kernel
theorem dX6_keyAt_47 : decode cX6_keyAt 47 = .ok (.areturn, 1) := by decide +kernel
theorem dX6_keyAt_48 : decode cX6_keyAt 48 = .ok (.ldc 148, 2) := by decide +kernel
theorem dX6_keyAt_50 : decode cX6_keyAt 50 = .ok (.areturn, 1) := by decide +kernel
theorem dX6_keyAt_51 : decode cX6_keyAt 51 = .ok (.ldc 150, 2) := by decide +kernel
theorem dX6_keyAt_53 : decode cX6_keyAt 53 = .ok (.areturn, 1) := by decide +kernel
theorem dX6_isBlank_0 : decode cX6_isBlank 0 = .ok (.iload_n 0, 1) := by decide +kernel
theorem dX6_isBlank_1 : decode cX6_isBlank 1 = .ok (.bipush 32, 2) := by decide +kernel
theorem dX6_isBlank_3 : decode cX6_isBlank 3 = .ok (.if_icmp .eq 9, 3) := by decide +kernel
theorem dX6_isBlank_6 : decode cX6_isBlank 6 = .ok (.iload_n 0, 1) := by decide +kernel
theorem dX6_isBlank_7 : decode cX6_isBlank 7 = .ok (.bipush 10, 2) := by decide +kernel
theorem dX6_isBlank_9 : decode cX6_isBlank 9 = .ok (.if_icmp .ne 7, 3) := by decide +kernel
theorem dX6_isBlank_12 : decode cX6_isBlank 12 = .ok (.iconst 1, 1) := by decide +kernel
theorem dX6_isBlank_13 : decode cX6_isBlank 13 = .ok (.goto 4, 3) := by decide +kernel
theorem dX6_isBlank_16 : decode cX6_isBlank 16 = .ok (.iconst 0, 1) := by decide +kernel
theorem dX6_isBlank_17 : decode cX6_isBlank 17 = .ok (.ireturn, 1) := by decide +kernel
theorem dX6_isLetter_0 : decode cX6_isLetter 0 = .ok (.iload_n 0, 1) := by decide +kernel
theorem dX6_isLetter_1 : decode cX6_isLetter 1 = .ok (.bipush 97, 2) := by decide +kernel
theorem dX6_isLetter_3 : decode cX6_isLetter 3 = .ok (.bipush 122, 2) := by decide +kernel
theorem dX6_isLetter_5 : decode cX6_isLetter 5 = .ok (.invokestatic 152, 3) := by decide +kernel
theorem dX6_isLetter_8 : decode cX6_isLetter 8 = .ok (.ireturn, 1) := by decide +kernel
theorem dX6_isDigit_0 : decode cX6_isDigit 0 = .ok (.iload_n 0, 1) := by decide +kernel
theorem dX6_isDigit_1 : decode cX6_isDigit 1 = .ok (.bipush 48, 2) := by decide +kernel
theorem dX6_isDigit_3 : decode cX6_isDigit 3 = .ok (.bipush 57, 2) := by decide +kernel
theorem dX6_isDigit_5 : decode cX6_isDigit 5 = .ok (.invokestatic 152, 3) := by decide +kernel
theorem dX6_isDigit_8 : decode cX6_isDigit 8 = .ok (.ireturn, 1) := by decide +kernel
theorem dX7_init_0 : decode cX7_init 0 = .ok (.aload_n 0, 1) := by decide +kernel
theorem dX7_init_1 : decode cX7_init 1 = .ok (.invokespecial 3, 3) := by decide +kernel
theorem dX7_init_4 : decode cX7_init 4 = .ok (.aload_n 0, 1) := by decide +kernel
theorem dX7_init_5 : decode cX7_init 5 = .ok (.bipush 20, 2) := by decide +kernel
theorem dX7_init_7 : decode cX7_init 7 = .ok (.newarray .int, 2) := by decide +kernel
theorem dX7_init_9 : decode cX7_init 9 = .ok (.putfield 9, 3) := by decide +kernel
theorem dX7_init_12 : decode cX7_init 12 = .ok (.aload_n 0, 1) := by decide +kernel
theorem dX7_init_13 : decode cX7_init 13 = .ok (.bipush 20, 2) := by decide +kernel
theorem dX7_init_15 : decode cX7_init 15 = .ok (.newarray .int, 2) := by decide +kernel
theorem dX7_init_17 : decode cX7_init 17 = .ok (.putfield 15, 3) := by decide +kernel
theorem dX7_init_20 : decode cX7_init 20 = .ok (.aload_n 0, 1) := by decide +kernel
theorem dX7_init_21 : decode cX7_init 21 = .ok (.bipush 20, 2) := by decide +kernel
theorem dX7_init_23 : decode cX7_init 23 = .ok (.newarray .int, 2) := by decide +kernel
theorem dX7_init_25 : decode cX7_init 25 = .ok (.putfield 18, 3) := by decide +kernel
theorem dX7_init_28 : decode cX7_init 28 = .ok (.return_, 1) := by decide +kernel
theorem dX7_add_0 : decode cX7_add 0 = .ok (.aload_n 0, 1) := by decide +kernel
theorem dX7_add_1 : decode cX7_add 1 = .ok (.getfield 9, 3) := by decide +kernel
theorem dX7_add_4 : decode cX7_add 4 = .ok (.aload_n 0, 1) := by decide +kernel
theorem dX7_add_5 : decode cX7_add 5 = .ok (.getfield 21, 3) := by decide +kernel
theorem dX7_add_8 : decode cX7_add 8 = .ok (.iload_n 1, 1) := by decide +kernel
theorem dX7_add_9 : decode cX7_add 9 = .ok (.iastore, 1) := by decide +kernel
theorem dX7_add_10 : decode cX7_add 10 = .ok (.aload_n 0, 1) := by decide +kernel
theorem dX7_add_11 : decode cX7_add 11 = .ok (.getfield 15, 3) := by decide +kernel
theorem dX7_add_14 : decode cX7_add 14 = .ok (.aload_n 0, 1) := by decide +kernel
theorem dX7_add_15 : decode cX7_add 15 = .ok (.getfield 21, 3) := by decide +kernel
theorem dX7_add_18 : decode cX7_add 18 = .ok (.iload_n 2, 1) := by decide +kernel
theorem dX7_add_19 : decode cX7_add 19 = .ok (.iastore, 1) := by decide +kernel
theorem dX7_add_20 : decode cX7_add 20 = .ok (.aload_n 0, 1) := by decide +kernel
theorem dX7_add_21 : decode cX7_add 21 = .ok (.getfield 18, 3) := by decide +kernel
theorem dX7_add_24 : decode cX7_add 24 = .ok (.aload_n 0, 1) := by decide +kernel
theorem dX7_add_25 : decode cX7_add 25 = .ok (.getfield 21, 3) := by decide +kernel
theorem dX7_add_28 : decode cX7_add 28 = .ok (.iload_n 3, 1) := by decide +kernel
theorem dX7_add_29 : decode cX7_add 29 = .ok (.iastore, 1) := by decide +kernel
theorem dX7_add_30 : decode cX7_add 30 = .ok (.aload_n 0, 1) := by decide +kernel
theorem dX7_add_31 : decode cX7_add 31 = .ok (.dup, 1) := by decide +kernel
theorem dX7_add_32 : decode cX7_add 32 = .ok (.getfield 21, 3) := by decide +kernel
theorem dX7_add_35 : decode cX7_add 35 = .ok (.iconst 1, 1) := by decide +kernel
theorem dX7_add_36 : decode cX7_add 36 = .ok (.iadd, 1) := by decide +kernel
theorem dX7_add_37 : decode cX7_add 37 = .ok (.putfield 21, 3) := by decide +kernel
theorem dX7_add_40 : decode cX7_add 40 = .ok (.return_, 1) := by decide +kernel
theorem dX7_forgetPaces_0 : decode cX7_forgetPaces 0 = .ok (.aload_n 0, 1) := by decide +kernel
theorem dX7_forgetPaces_1 : decode cX7_forgetPaces 1 = .ok (.iconst 0, 1) := by decide +kernel
theorem dX7_forgetPaces_2 : decode cX7_forgetPaces 2 = .ok (.putfield 25, 3) := by decide +kernel
theorem dX7_forgetPaces_5 : decode cX7_forgetPaces 5 = .ok (.aload_n 0, 1) := by decide +kernel
theorem dX7_forgetPaces_6 : decode cX7_forgetPaces 6 = .ok (.iconst (-1), 1) := by decide +kernel
theorem dX7_forgetPaces_7 : decode cX7_forgetPaces 7 = .ok (.putfield 28, 3) := by decide +kernel
theorem dX7_forgetPaces_10 : decode cX7_forgetPaces 10 = .ok (.aload_n 0, 1) := by decide +kernel
theorem dX7_forgetPaces_11 : decode cX7_forgetPaces 11 = .ok (.iconst (-1), 1) := by decide +kernel
theorem dX7_forgetPaces_12 : decode cX7_forgetPaces 12 = .ok (.putfield 31, 3) := by decide +kernel
theorem dX7_forgetPaces_15 : decode cX7_forgetPaces 15 = .ok (.aload_n 0, 1) := by decide +kernel
theorem dX7_forgetPaces_16 : decode cX7_forgetPaces 16 = .ok (.iconst (-1), 1) := by decide +kernel
theorem dX7_forgetPaces_17 : decode cX7_forgetPaces 17 = .ok (.putfield 34, 3) := by decide +kernel
theorem dX7_forgetPaces_20 : decode cX7_forgetPaces 20 = .ok (.return_, 1) := by decide +kernel
theorem dX7_addPace_0 : decode cX7_addPace 0 = .ok (.aload_n 0, 1) := by decide +kernel
theorem dX7_addPace_1 : decode cX7_addPace 1 = .ok (.dup, 1) := by decide +kernel
theorem dX7_addPace_2 : decode cX7_addPace 2 = .ok (.getfield 25, 3) := by decide +kernel
theorem dX7_addPace_5 : decode cX7_addPace 5 = .ok (.iconst 1, 1) := by decide +kernel
theorem dX7_addPace_6 : decode cX7_addPace 6 = .ok (.iadd, 1) := by decide +kernel
theorem dX7_addPace_7 : decode cX7_addPace 7 = .ok (.putfield 25, 3) := by decide +kernel
theorem dX7_addPace_10 : decode cX7_addPace 10 = .ok (.aload_n 0, 1) := by decide +kernel
theorem dX7_addPace_11 : decode cX7_addPace 11 = .ok (.getfield 28, 3) := by decide +kernel
theorem dX7_addPace_14 : decode cX7_addPace 14 = .ok (.iconst (-1), 1) := by decide +kernel
theorem dX7_addPace_15 : decode cX7_addPace 15 = .ok (.if_icmp .ne 8, 3) := by decide +kernel
theorem dX7_addPace_18 : decode cX7_addPace 18 = .ok (.aload_n 0, 1) := by decide +kernel
theorem dX7_addPace_19 : decode cX7_addPace 19 = .ok (.iload_n 1, 1) := by decide +kernel
theorem dX7_addPace_20 : decode cX7_addPace 20 = .ok (.putfield 28, 3) := by decide +kernel
theorem dX7_addPace_23 : decode cX7_addPace 23 = .ok (.aload_n 0, 1) := by decide +kernel
theorem dX7_addPace_24 : decode cX7_addPace 24 = .ok (.iload_n 1, 1) := by decide +kernel
theorem dX7_addPace_25 : decode cX7_addPace 25 = .ok (.putfield 31, 3) := by decide +kernel
theorem dX7_addPace_28 : decode cX7_addPace 28 = .ok (.return_, 1) := by decide +kernel
theorem dX8_init_0 : decode cX8_init 0 = .ok (.aload_n 0, 1) := by decide +kernel
theorem dX8_init_1 : decode cX8_init 1 = .ok (.invokespecial 3, 3) := by decide +kernel
theorem dX8_init_4 : decode cX8_init 4 = .ok (.aload_n 0, 1) := by decide +kernel
theorem dX8_init_5 : decode cX8_init 5 = .ok (.bipush 8, 2) := by decide +kernel
theorem dX8_init_7 : decode cX8_init 7 = .ok (.newarray .int, 2) := by decide +kernel
theorem dX8_init_9 : decode cX8_init 9 = .ok (.putfield 9, 3) := by decide +kernel
theorem dX8_init_12 : decode cX8_init 12 = .ok (.aload_n 0, 1) := by decide +kernel
theorem dX8_init_13 : decode cX8_init 13 = .ok (.iconst 4, 1) := by decide +kernel
theorem dX8_init_14 : decode cX8_init 14 = .ok (.newarray .int, 2) := by decide +kernel
theorem dX8_init_16 : decode cX8_init 16 = .ok (.dup, 1) := by decide +kernel
theorem dX8_init_17 : decode cX8_init 17 = .ok (.iconst 0, 1) := by decide +kernel
theorem dX8_init_18 : decode cX8_init 18 = .ok (.iconst 0, 1) := by decide +kernel
theorem dX8_init_19 : decode cX8_init 19 = .ok (.iastore, 1) := by decide +kernel
theorem dX8_init_20 : decode cX8_init 20 = .ok (.dup, 1) := by decide +kernel
theorem dX8_init_21 : decode cX8_init 21 = .ok (.iconst 1, 1) := by decide +kernel
theorem dX8_init_22 : decode cX8_init 22 = .ok (.sipush 1000, 3) := by decide +kernel
theorem dX8_init_25 : decode cX8_init 25 = .ok (.iastore, 1) := by decide +kernel
theorem dX8_init_26 : decode cX8_init 26 = .ok (.dup, 1) := by decide +kernel
theorem dX8_init_27 : decode cX8_init 27 = .ok (.iconst 2, 1) := by decide +kernel
theorem dX8_init_28 : decode cX8_init 28 = .ok (.sipush (-800), 3) := by decide +kernel
theorem dX8_init_31 : decode cX8_init 31 = .ok (.iastore, 1) := by decide +kernel
theorem dX8_init_32 : decode cX8_init 32 = .ok (.dup, 1) := by decide +kernel
theorem dX8_init_33 : decode cX8_init 33 = .ok (.iconst 3, 1) := by decide +kernel
theorem dX8_init_34 : decode cX8_init 34 = .ok (.sipush (-600), 3) := by decide +kernel
theorem dX8_init_37 : decode cX8_init 37 = .ok (.iastore, 1) := by decide +kernel
theorem dX8_init_38 : decode cX8_init 38 = .ok (.putfield 15, 3) := by decide +kernel
theorem dX8_init_41 : decode cX8_init 41 = .ok (.aload_n 0, 1) := by decide +kernel
theorem dX8_init_42 : decode cX8_init 42 = .ok (.bipush 24, 2) := by decide +kernel
theorem dX8_init_44 : decode cX8_init 44 = .ok (.newarray .int, 2) := by decide +kernel
theorem dX8_init_46 : decode cX8_init 46 = .ok (.putfield 18, 3) := by decide +kernel
theorem dX8_init_49 : decode cX8_init 49 = .ok (.aload_n 0, 1) := by decide +kernel
theorem dX8_init_50 : decode cX8_init 50 = .ok (.bipush 64, 2) := by decide +kernel
theorem dX8_init_52 : decode cX8_init 52 = .ok (.newarray .int, 2) := by decide +kernel
theorem dX8_init_54 : decode cX8_init 54 = .ok (.putfield 21, 3) := by decide +kernel
theorem dX8_init_57 : decode cX8_init 57 = .ok (.aload_n 0, 1) := by decide +kernel
theorem dX8_init_58 : decode cX8_init 58 = .ok (.bipush 6, 2) := by decide +kernel
theorem dX8_init_60 : decode cX8_init 60 = .ok (.anewarray 24, 3) := by decide +kernel
theorem dX8_init_63 : decode cX8_init 63 = .ok (.putfield 26, 3) := by decide +kernel
theorem dX8_init_66 : decode cX8_init 66 = .ok (.aload_n 0, 1) := by decide +kernel
theorem dX8_init_67 : decode cX8_init 67 = .ok (.bipush 8, 2) := by decide +kernel
theorem dX8_init_69 : decode cX8_init 69 = .ok (.anewarray 30, 3) := by decide +kernel
theorem dX8_init_72 : decode cX8_init 72 = .ok (.putfield 32, 3) := by decide +kernel
theorem dX8_init_75 : decode cX8_init 75 = .ok (.aload_n 0, 1) := by decide +kernel
theorem dX8_init_76 : decode cX8_init 76 = .ok (.bipush 6, 2) := by decide +kernel
theorem dX8_init_78 : decode cX8_init 78 = .ok (.newarray .int, 2) := by decide +kernel
theorem dX8_init_80 : decode cX8_init 80 = .ok (.putfield 36, 3) := by decide +kernel
theorem dX8_init_83 : decode cX8_init 83 = .ok (.aload_n 0, 1) := by decide +kernel
theorem dX8_init_84 : decode cX8_init 84 = .ok (.sipush 160, 3) := by decide +kernel
theorem dX8_init_87 : decode cX8_init 87 = .ok (.newarray .int, 2) := by decide +kernel
theorem dX8_init_89 : decode cX8_init 89 = .ok (.putfield 39, 3) := by decide +kernel
theorem dX8_init_92 : decode cX8_init 92 = .ok (.aload_n 0, 1) := by decide +kernel
theorem dX8_init_93 : decode cX8_init 93 = .ok (.getfield 18, 3) := by decide +kernel
theorem dX8_init_96 : decode cX8_init 96 = .ok (.bipush 100, 2) := by decide +kernel
theorem dX8_init_98 : decode cX8_init 98 = .ok (.invokestatic 42, 3) := by decide +kernel
theorem dX8_init_101 : decode cX8_init 101 = .ok (.aload_n 0, 1) := by decide +kernel
theorem dX8_init_102 : decode cX8_init 102 = .ok (.getfield 26, 3) := by decide +kernel
theorem dX8_init_105 : decode cX8_init 105 = .ok (.iconst 0, 1) := by decide +kernel
theorem dX8_init_106 : decode cX8_init 106 = .ok (.new 24, 3) := by decide +kernel
theorem dX8_init_109 : decode cX8_init 109 = .ok (.dup, 1) := by decide +kernel
theorem dX8_init_110 : decode cX8_init 110 = .ok (.iconst 3, 1) := by decide +kernel
theorem dX8_init_111 : decode cX8_init 111 = .ok (.newarray .int, 2) := by decide +kernel
theorem dX8_init_113 : decode cX8_init 113 = .ok (.dup, 1) := by decide +kernel
theorem dX8_init_114 : decode cX8_init 114 = .ok (.iconst 0, 1) := by decide +kernel
theorem dX8_init_115 : decode cX8_init 115 = .ok (.bipush 100, 2) := by decide +kernel
theorem dX8_init_117 : decode cX8_init 117 = .ok (.iastore, 1) := by decide +kernel
theorem dX8_init_118 : decode cX8_init 118 = .ok (.dup, 1) := by decide +kernel
theorem dX8_init_119 : decode cX8_init 119 = .ok (.iconst 1, 1) := by decide +kernel
theorem dX8_init_120 : decode cX8_init 120 = .ok (.iconst 4, 1) := by decide +kernel
theorem dX8_init_121 : decode cX8_init 121 = .ok (.iastore, 1) := by decide +kernel
theorem dX8_init_122 : decode cX8_init 122 = .ok (.dup, 1) := by decide +kernel
theorem dX8_init_123 : decode cX8_init 123 = .ok (.iconst 2, 1) := by decide +kernel
theorem dX8_init_124 : decode cX8_init 124 = .ok (.bipush (-2), 2) := by decide +kernel
theorem dX8_init_126 : decode cX8_init 126 = .ok (.iastore, 1) := by decide +kernel
theorem dX8_init_127 : decode cX8_init 127 = .ok (.iconst 4, 1) := by decide +kernel
theorem dX8_init_128 : decode cX8_init 128 = .ok (.newarray .int, 2) := by decide +kernel
theorem dX8_init_130 : decode cX8_init 130 = .ok (.dup, 1) := by decide +kernel
theorem dX8_init_131 : decode cX8_init 131 = .ok (.iconst 0, 1) := by decide +kernel
theorem dX8_init_132 : decode cX8_init 132 = .ok (.iconst 0, 1) := by decide +kernel
theorem dX8_init_133 : decode cX8_init 133 = .ok (.iastore, 1) := by decide +kernel
theorem dX8_init_134 : decode cX8_init 134 = .ok (.dup, 1) := by decide +kernel
theorem dX8_init_135 : decode cX8_init 135 = .ok (.iconst 1, 1) := by decide +kernel
theorem dX8_init_136 : decode cX8_init 136 = .ok (.iconst 1, 1) := by decide +kernel
theorem dX8_init_137 : decode cX8_init 137 = .ok (.iastore, 1) := by decide +kernel
theorem dX8_init_138 : decode cX8_init 138 = .ok (.dup, 1) := by decide +kernel
theorem dX8_init_139 : decode cX8_init 139 = .ok (.iconst 2, 1) := by decide +kernel
theorem dX8_init_140 : decode cX8_init 140 = .ok (.iconst 2, 1) := by decide +kernel
theorem dX8_init_141 : decode cX8_init 141 = .ok (.iastore, 1) := by decide +kernel
theorem dX8_init_142 : decode cX8_init 142 = .ok (.dup, 1) := by decide +kernel
theorem dX8_init_143 : decode cX8_init 143 = .ok (.iconst 3, 1) := by decide +kernel
theorem dX8_init_144 : decode cX8_init 144 = .ok (.iconst 3, 1) := by decide +kernel
theorem dX8_init_145 : decode cX8_init 145 = .ok (.iastore, 1) := by decide +kernel
theorem dX8_init_146 : decode cX8_init 146 = .ok (.invokespecial 48, 3) := by decide +kernel
theorem dX8_init_149 : decode cX8_init 149 = .ok (.aastore, 1) := by decide +kernel
theorem dX8_init_150 : decode cX8_init 150 = .ok (.aload_n 0, 1) := by decide +kernel
theorem dX8_init_151 : decode cX8_init 151 = .ok (.iconst 1, 1) := by decide +kernel
theorem dX8_init_152 : decode cX8_init 152 = .ok (.putfield 51, 3) := by decide +kernel
theorem dX8_init_155 : decode cX8_init 155 = .ok (.return_, 1) := by decide +kernel
theorem dX8_hasSign_0 : decode cX8_hasSign 0 = .ok (.iload_n 1, 1) := by decide +kernel
theorem dX8_hasSign_1 : decode cX8_hasSign 1 = .ok (.iconst 0, 1) := by decide +kernel
theorem dX8_hasSign_2 : decode cX8_hasSign 2 = .ok (.aload_n 0, 1) := by decide +kernel
theorem dX8_hasSign_3 : decode cX8_hasSign 3 = .ok (.getfield 55, 3) := by decide +kernel
theorem dX8_hasSign_6 : decode cX8_hasSign 6 = .ok (.iconst 1, 1) := by decide +kernel
theorem dX8_hasSign_7 : decode cX8_hasSign 7 = .ok (.isub, 1) := by decide +kernel
theorem dX8_hasSign_8 : decode cX8_hasSign 8 = .ok (.invokestatic 58, 3) := by decide +kernel
theorem dX8_hasSign_11 : decode cX8_hasSign 11 = .ok (.ireturn, 1) := by decide +kernel
theorem dX8_areTwoSigns_0 : decode cX8_areTwoSigns 0 = .ok (.aload_n 0, 1) := by decide +kernel
theorem dX8_areTwoSigns_1 : decode cX8_areTwoSigns 1 = .ok (.iload_n 1, 1) := by decide +kernel
theorem dX8_areTwoSigns_2 : decode cX8_areTwoSigns 2 = .ok (.invokevirtual 62, 3) := by decide +kernel
theorem dX8_areTwoSigns_5 : decode cX8_areTwoSigns 5 = .ok (.ifCond .eq 20, 3) := by decide +kernel
theorem dX8_areTwoSigns_8 : decode cX8_areTwoSigns 8 = .ok (.aload_n 0, 1) := by decide +kernel
theorem dX8_areTwoSigns_9 : decode cX8_areTwoSigns 9 = .ok (.iload_n 2, 1) := by decide +kernel
theorem dX8_areTwoSigns_10 : decode cX8_areTwoSigns 10 = .ok (.invokevirtual 62, 3) := by decide +kernel
theorem dX8_areTwoSigns_13 : decode cX8_areTwoSigns 13 = .ok (.ifCond .eq 12, 3) := by decide +kernel
theorem dX8_areTwoSigns_16 : decode cX8_areTwoSigns 16 = .ok (.iload_n 1, 1) := by decide +kernel
theorem dX8_areTwoSigns_17 : decode cX8_areTwoSigns 17 = .ok (.iload_n 2, 1) := by decide +kernel
theorem dX8_areTwoSigns_18 : decode cX8_areTwoSigns 18 = .ok (.if_icmp .eq 7, 3) := by decide +kernel
theorem dX8_areTwoSigns_21 : decode cX8_areTwoSigns 21 = .ok (.iconst 1, 1) := by decide +kernel
theorem dX8_areTwoSigns_22 : decode cX8_areTwoSigns 22 = .ok (.goto 4, 3) := by decide +kernel
theorem dX8_areTwoSigns_25 : decode cX8_areTwoSigns 25 = .ok (.iconst 0, 1) := by decide +kernel
theorem dX8_areTwoSigns_26 : decode cX8_areTwoSigns 26 = .ok (.ireturn, 1) := by decide +kernel
theorem dX8_isSet_0 : decode cX8_isSet 0 = .ok (.iload_n 1, 1) := by decide +kernel
theorem dX8_isSet_1 : decode cX8_isSet 1 = .ok (.iconst 0, 1) := by decide +kernel
theorem dX8_isSet_2 : decode cX8_isSet 2 = .ok (.iconst 1, 1) := by decide +kernel
theorem dX8_isSet_3 : decode cX8_isSet 3 = .ok (.aload_n 0, 1) := by decide +kernel
theorem dX8_isSet_4 : decode cX8_isSet 4 = .ok (.getfield 55, 3) := by decide +kernel
theorem dX8_isSet_7 : decode cX8_isSet 7 = .ok (.ishl, 1) := by decide +kernel
theorem dX8_isSet_8 : decode cX8_isSet 8 = .ok (.iconst 1, 1) := by decide +kernel
theorem dX8_isSet_9 : decode cX8_isSet 9 = .ok (.isub, 1) := by decide +kernel
theorem dX8_isSet_10 : decode cX8_isSet 10 = .ok (.invokestatic 58, 3) := by decide +kernel
theorem dX8_isSet_13 : decode cX8_isSet 13 = .ok (.ireturn, 1) := by decide +kernel
theorem dX8_likeOf_0 : decode cX8_likeOf 0 = .ok (.aload_n 0, 1) := by decide +kernel
theorem dX8_likeOf_1 : decode cX8_likeOf 1 = .ok (.getfield 21, 3) := by decide +kernel
theorem dX8_likeOf_4 : decode cX8_likeOf 4 = .ok (.iload_n 1, 1) := by decide +kernel
theorem dX8_likeOf_5 : decode cX8_likeOf 5 = .ok (.bipush 8, 2) := by decide +kernel
theorem dX8_likeOf_7 : decode cX8_likeOf 7 = .ok (.imul, 1) := by decide +kernel
theorem dX8_likeOf_8 : decode cX8_likeOf 8 = .ok (.iload_n 2, 1) := by decide +kernel
theorem dX8_likeOf_9 : decode cX8_likeOf 9 = .ok (.iadd, 1) := by decide +kernel
theorem dX8_likeOf_10 : decode cX8_likeOf 10 = .ok (.iaload, 1) := by decide +kernel
theorem dX8_likeOf_11 : decode cX8_likeOf 11 = .ok (.ireturn, 1) := by decide +kernel
theorem dX8_setLike_0 : decode cX8_setLike 0 = .ok (.aload_n 0, 1) := by decide +kernel
theorem dX8_setLike_1 : decode cX8_setLike 1 = .ok (.getfield 21, 3) := by decide +kernel
theorem dX8_setLike_4 : decode cX8_setLike 4 = .ok (.iload_n 1, 1) := by decide +kernel
theorem dX8_setLike_5 : decode cX8_setLike 5 = .ok (.bipush 8, 2) := by decide +kernel
theorem dX8_setLike_7 : decode cX8_setLike 7 = .ok (.imul, 1) := by decide +kernel
theorem dX8_setLike_8 : decode cX8_setLike 8 = .ok (.iload_n 2, 1) := by decide +kernel
theorem dX8_setLike_9 : decode cX8_setLike 9 = .ok (.iadd, 1) := by decide +kernel
theorem dX8_setLike_10 : decode cX8_setLike 10 = .ok (.iload_n 3, 1) := by decide +kernel
theorem dX8_setLike_11 : decode cX8_setLike 11 = .ok (.iastore, 1) := by decide +kernel
theorem dX8_setLike_12 : decode cX8_setLike 12 = .ok (.aload_n 0, 1) := by decide +kernel
theorem dX8_setLike_13 : decode cX8_setLike 13 = .ok (.getfield 21, 3) := by decide +kernel
theorem dX8_setLike_16 : decode cX8_setLike 16 = .ok (.iload_n 2, 1) := by decide +kernel
theorem dX8_setLike_17 : decode cX8_setLike 17 = .ok (.bipush 8, 2) := by decide +kernel
theorem dX8_setLike_19 : decode cX8_setLike 19 = .ok (.imul, 1) := by decide +kernel
theorem dX8_setLike_20 : decode cX8_setLike 20 = .ok (.iload_n 1, 1) := by decide +kernel
theorem dX8_setLike_21 : decode cX8_setLike 21 = .ok (.iadd, 1) := by decide +kernel
theorem dX8_setLike_22 : decode cX8_setLike 22 = .ok (.iload_n 3, 1) := by decide +kernel
theorem dX8_setLike_23 : decode cX8_setLike 23 = .ok (.iastore, 1) := by decide +kernel
theorem dX8_setLike_24 : decode cX8_setLike 24 = .ok (.return_, 1) := by decide +kernel
theorem dX8_planAt_0 : decode cX8_planAt 0 = .ok (.iload_n 1, 1) := by decide +kernel
theorem dX8_planAt_1 : decode cX8_planAt 1 = .ok (.iconst 0, 1) := by decide +kernel
theorem dX8_planAt_2 : decode cX8_planAt 2 = .ok (.aload_n 0, 1) := by decide +kernel
theorem dX8_planAt_3 : decode cX8_planAt 3 = .ok (.getfield 66, 3) := by decide +kernel
theorem dX8_planAt_6 : decode cX8_planAt 6 = .ok (.iconst 1, 1) := by decide +kernel
theorem dX8_planAt_7 : decode cX8_planAt 7 = .ok (.isub, 1) := by decide +kernel
theorem dX8_planAt_8 : decode cX8_planAt 8 = .ok (.invokestatic 58, 3) := by decide +kernel
theorem dX8_planAt_11 : decode cX8_planAt 11 = .ok (.ifCond .eq 12, 3) := by decide +kernel
theorem dX8_planAt_14 : decode cX8_planAt 14 = .ok (.aload_n 0, 1) := by decide +kernel
theorem dX8_planAt_15 : decode cX8_planAt 15 = .ok (.getfield 32, 3) := by decide +kernel
theorem dX8_planAt_18 : decode cX8_planAt 18 = .ok (.iload_n 1, 1) := by decide +kernel
theorem dX8_planAt_19 : decode cX8_planAt 19 = .ok (.aaload, 1) := by decide +kernel
theorem dX8_planAt_20 : decode cX8_planAt 20 = .ok (.goto 4, 3) := by decide +kernel
theorem dX8_planAt_23 : decode cX8_planAt 23 = .ok (.aconst_null, 1) := by decide +kernel
theorem dX8_planAt_24 : decode cX8_planAt 24 = .ok (.areturn, 1) := by decide +kernel
theorem dX9_init_0 : decode cX9_init 0 = .ok (.aload_n 0, 1) := by decide +kernel
theorem dX9_init_1 : decode cX9_init 1 = .ok (.invokespecial 1, 3) := by decide +kernel
theorem dX9_init_4 : decode cX9_init 4 = .ok (.aload_n 0, 1) := by decide +kernel
theorem dX9_init_5 : decode cX9_init 5 = .ok (.new 7, 3) := by decide +kernel
theorem dX9_init_8 : decode cX9_init 8 = .ok (.dup, 1) := by decide +kernel
theorem dX9_init_9 : decode cX9_init 9 = .ok (.invokespecial 9, 3) := by decide +kernel
theorem dX9_init_12 : decode cX9_init 12 = .ok (.putfield 10, 3) := by decide +kernel
theorem dX9_init_15 : decode cX9_init 15 = .ok (.aload_n 0, 1) := by decide +kernel
theorem dX9_init_16 : decode cX9_init 16 = .ok (.new 16, 3) := by decide +kernel
theorem dX9_init_19 : decode cX9_init 19 = .ok (.dup, 1) := by decide +kernel
theorem dX9_init_20 : decode cX9_init 20 = .ok (.aload_n 0, 1) := by decide +kernel
theorem dX9_init_21 : decode cX9_init 21 = .ok (.getfield 10, 3) := by decide +kernel
theorem dX9_init_24 : decode cX9_init 24 = .ok (.invokespecial 18, 3) := by decide +kernel
theorem dX9_init_27 : decode cX9_init 27 = .ok (.putfield 21, 3) := by decide +kernel
theorem dX9_init_30 : decode cX9_init 30 = .ok (.aload_n 0, 1) := by decide +kernel
theorem dX9_init_31 : decode cX9_init 31 = .ok (.new 16, 3) := by decide +kernel
theorem dX9_init_34 : decode cX9_init 34 = .ok (.dup, 1) := by decide +kernel
theorem dX9_init_35 : decode cX9_init 35 = .ok (.aload_n 0, 1) := by decide +kernel
theorem dX9_init_36 : decode cX9_init 36 = .ok (.getfield 10, 3) := by decide +kernel
theorem dX9_init_39 : decode cX9_init 39 = .ok (.invokespecial 18, 3) := by decide +kernel
theorem dX9_init_42 : decode cX9_init 42 = .ok (.putfield 25, 3) := by decide +kernel
theorem dX9_init_45 : decode cX9_init 45 = .ok (.aload_n 0, 1) := by decide +kernel
theorem dX9_init_46 : decode cX9_init 46 = .ok (.new 16, 3) := by decide +kernel
theorem dX9_init_49 : decode cX9_init 49 = .ok (.dup, 1) := by decide +kernel
theorem dX9_init_50 : decode cX9_init 50 = .ok (.aload_n 0, 1) := by decide +kernel
theorem dX9_init_51 : decode cX9_init 51 = .ok (.getfield 10, 3) := by decide +kernel
theorem dX9_init_54 : decode cX9_init 54 = .ok (.invokespecial 18, 3) := by decide +kernel
theorem dX9_init_57 : decode cX9_init 57 = .ok (.putfield 28, 3) := by decide +kernel
theorem dX9_init_60 : decode cX9_init 60 = .ok (.aload_n 0, 1) := by decide +kernel
theorem dX9_init_61 : decode cX9_init 61 = .ok (.new 31, 3) := by decide +kernel
theorem dX9_init_64 : decode cX9_init 64 = .ok (.dup, 1) := by decide +kernel
theorem dX9_init_65 : decode cX9_init 65 = .ok (.invokespecial 33, 3) := by decide +kernel
theorem dX9_init_68 : decode cX9_init 68 = .ok (.putfield 34, 3) := by decide +kernel
theorem dX9_init_71 : decode cX9_init 71 = .ok (.aload_n 0, 1) := by decide +kernel
theorem dX9_init_72 : decode cX9_init 72 = .ok (.new 38, 3) := by decide +kernel
theorem dX9_init_75 : decode cX9_init 75 = .ok (.dup, 1) := by decide +kernel
theorem dX9_init_76 : decode cX9_init 76 = .ok (.invokespecial 40, 3) := by decide +kernel
theorem dX9_init_79 : decode cX9_init 79 = .ok (.putfield 41, 3) := by decide +kernel
theorem dX9_init_82 : decode cX9_init 82 = .ok (.aload_n 0, 1) := by decide +kernel
theorem dX9_init_83 : decode cX9_init 83 = .ok (.new 45, 3) := by decide +kernel
theorem dX9_init_86 : decode cX9_init 86 = .ok (.dup, 1) := by decide +kernel
theorem dX9_init_87 : decode cX9_init 87 = .ok (.invokespecial 47, 3) := by decide +kernel
theorem dX9_init_90 : decode cX9_init 90 = .ok (.putfield 48, 3) := by decide +kernel
theorem dX9_init_93 : decode cX9_init 93 = .ok (.aload_n 0, 1) := by decide +kernel
theorem dX9_init_94 : decode cX9_init 94 = .ok (.new 52, 3) := by decide +kernel
theorem dX9_init_97 : decode cX9_init 97 = .ok (.dup, 1) := by decide +kernel
theorem dX9_init_98 : decode cX9_init 98 = .ok (.invokespecial 54, 3) := by decide +kernel
theorem dX9_init_101 : decode cX9_init 101 = .ok (.putfield 55, 3) := by decide +kernel
theorem dX9_init_104 : decode cX9_init 104 = .ok (.aload_n 0, 1) := by decide +kernel
theorem dX9_init_105 : decode cX9_init 105 = .ok (.iconst 4, 1) := by decide +kernel
theorem dX9_init_106 : decode cX9_init 106 = .ok (.anewarray 59, 3) := by decide +kernel
theorem dX9_init_109 : decode cX9_init 109 = .ok (.putfield 61, 3) := by decide +kernel
theorem dX9_init_112 : decode cX9_init 112 = .ok (.iconst 0, 1) := by decide +kernel
theorem dX9_init_113 : decode cX9_init 113 = .ok (.istore_n 1, 1) := by decide +kernel
theorem dX9_init_114 : decode cX9_init 114 = .ok (.iload_n 1, 1) := by decide +kernel
theorem dX9_init_115 : decode cX9_init 115 = .ok (.iconst 4, 1) := by decide +kernel
theorem dX9_init_116 : decode cX9_init 116 = .ok (.if_icmp .ge 22, 3) := by decide +kernel
theorem dX9_init_119 : decode cX9_init 119 = .ok (.aload_n 0, 1) := by decide +kernel
theorem dX9_init_120 : decode cX9_init 120 = .ok (.getfield 61, 3) := by decide +kernel
theorem dX9_init_123 : decode cX9_init 123 = .ok (.iload_n 1, 1) := by decide +kernel
theorem dX9_init_124 : decode cX9_init 124 = .ok (.new 59, 3) := by decide +kernel
theorem dX9_init_127 : decode cX9_init 127 = .ok (.dup, 1) := by decide +kernel
theorem dX9_init_128 : decode cX9_init 128 = .ok (.invokespecial 65, 3) := by decide +kernel
theorem dX9_init_131 : decode cX9_init 131 = .ok (.aastore, 1) := by decide +kernel
theorem dX9_init_132 : decode cX9_init 132 = .ok (.iinc 1 1, 3) := by decide +kernel
theorem dX9_init_135 : decode cX9_init 135 = .ok (.goto (-21), 3) := by decide +kernel
theorem dX9_init_138 : decode cX9_init 138 = .ok (.aload_n 0, 1) := by decide +kernel
theorem dX9_init_139 : decode cX9_init 139 = .ok (.iconst (-1), 1) := by decide +kernel
theorem dX9_init_140 : decode cX9_init 140 = .ok (.putfield 66, 3) := by decide +kernel
theorem dX9_init_143 : decode cX9_init 143 = .ok (.return_, 1) := by decide +kernel
theorem dX9_sign_0 : decode cX9_sign 0 = .ok (.iload_n 1, 1) := by decide +kernel
theorem dX9_sign_1 : decode cX9_sign 1 = .ok (.iconst 0, 1) := by decide +kernel
theorem dX9_sign_2 : decode cX9_sign 2 = .ok (.iconst 5, 1) := by decide +kernel
theorem dX9_sign_3 : decode cX9_sign 3 = .ok (.invokestatic 70, 3) := by decide +kernel
theorem dX9_sign_6 : decode cX9_sign 6 = .ok (.ifCond .ne 6, 3) := by decide +kernel
theorem dX9_sign_9 : decode cX9_sign 9 = .ok (.bipush (-2), 2) := by decide +kernel
theorem dX9_sign_11 : decode cX9_sign 11 = .ok (.ireturn, 1) := by decide +kernel
theorem dX9_sign_12 : decode cX9_sign 12 = .ok (.aload_n 0, 1) := by decide +kernel
theorem dX9_sign_13 : decode cX9_sign 13 = .ok (.getfield 10, 3) := by decide +kernel
theorem dX9_sign_16 : decode cX9_sign 16 = .ok (.getfield 74, 3) := by decide +kernel
theorem dX9_sign_19 : decode cX9_sign 19 = .ok (.bipush 8, 2) := by decide +kernel
theorem dX9_sign_21 : decode cX9_sign 21 = .ok (.if_icmp .lt 6, 3) := by decide +kernel
theorem dX9_sign_24 : decode cX9_sign 24 = .ok (.bipush (-4), 2) := by decide +kernel
theorem dX9_sign_26 : decode cX9_sign 26 = .ok (.ireturn, 1) := by decide +kernel
theorem dX9_sign_27 : decode cX9_sign 27 = .ok (.aload_n 0, 1) := by decide +kernel
theorem dX9_sign_28 : decode cX9_sign 28 = .ok (.getfield 10, 3) := by decide +kernel
theorem dX9_sign_31 : decode cX9_sign 31 = .ok (.getfield 77, 3) := by decide +kernel
theorem dX9_sign_34 : decode cX9_sign 34 = .ok (.aload_n 0, 1) := by decide +kernel
theorem dX9_sign_35 : decode cX9_sign 35 = .ok (.getfield 10, 3) := by decide +kernel
theorem dX9_sign_38 : decode cX9_sign 38 = .ok (.getfield 74, 3) := by decide +kernel
theorem dX9_sign_41 : decode cX9_sign 41 = .ok (.iload_n 1, 1) := by decide +kernel
theorem dX9_sign_42 : decode cX9_sign 42 = .ok (.iastore, 1) := by decide +kernel
theorem dX9_sign_43 : decode cX9_sign 43 = .ok (.aload_n 0, 1) := by decide +kernel
theorem dX9_sign_44 : decode cX9_sign 44 = .ok (.getfield 10, 3) := by decide +kernel
theorem dX9_sign_47 : decode cX9_sign 47 = .ok (.dup, 1) := by decide +kernel
theorem dX9_sign_48 : decode cX9_sign 48 = .ok (.getfield 74, 3) := by decide +kernel
theorem dX9_sign_51 : decode cX9_sign 51 = .ok (.iconst 1, 1) := by decide +kernel
theorem dX9_sign_52 : decode cX9_sign 52 = .ok (.iadd, 1) := by decide +kernel
theorem dX9_sign_53 : decode cX9_sign 53 = .ok (.putfield 74, 3) := by decide +kernel
theorem dX9_sign_56 : decode cX9_sign 56 = .ok (.aload_n 0, 1) := by decide +kernel
theorem dX9_sign_57 : decode cX9_sign 57 = .ok (.getfield 10, 3) := by decide +kernel
theorem dX9_sign_60 : decode cX9_sign 60 = .ok (.getfield 74, 3) := by decide +kernel
theorem dX9_sign_63 : decode cX9_sign 63 = .ok (.iconst 1, 1) := by decide +kernel
theorem dX9_sign_64 : decode cX9_sign 64 = .ok (.isub, 1) := by decide +kernel
theorem dX9_sign_65 : decode cX9_sign 65 = .ok (.ireturn, 1) := by decide +kernel
theorem dX9_told_0 : decode cX9_told 0 = .ok (.aload_n 0, 1) := by decide +kernel
theorem dX9_told_1 : decode cX9_told 1 = .ok (.getfield 10, 3) := by decide +kernel
theorem dX9_told_4 : decode cX9_told 4 = .ok (.iload_n 1, 1) := by decide +kernel
theorem dX9_told_5 : decode cX9_told 5 = .ok (.invokevirtual 81, 3) := by decide +kernel
theorem dX9_told_8 : decode cX9_told 8 = .ok (.ifCond .ne 7, 3) := by decide +kernel
theorem dX9_told_11 : decode cX9_told 11 = .ok (.ldc2_w 85, 3) := by decide +kernel
theorem dX9_told_14 : decode cX9_told 14 = .ok (.lreturn, 1) := by decide +kernel
theorem dX9_told_15 : decode cX9_told 15 = .ok (.iload_n 2, 1) := by decide +kernel
theorem dX9_told_16 : decode cX9_told 16 = .ok (.tableswitch 89 0 4 #[36, 47, 58, 69, 79], 36) := by decide +kernel
theorem dX9_told_52 : decode cX9_told 52 = .ok (.aload_n 0, 1) := by decide +kernel
theorem dX9_told_53 : decode cX9_told 53 = .ok (.getfield 10, 3) := by decide +kernel
theorem dX9_told_56 : decode cX9_told 56 = .ok (.getfield 77, 3) := by decide +kernel
theorem dX9_told_59 : decode cX9_told 59 = .ok (.iload_n 1, 1) := by decide +kernel
theorem dX9_told_60 : decode cX9_told 60 = .ok (.iaload, 1) := by decide +kernel
theorem dX9_told_61 : decode cX9_told 61 = .ok (.i2l, 1) := by decide +kernel
theorem dX9_told_62 : decode cX9_told 62 = .ok (.lreturn, 1) := by decide +kernel
theorem dX9_told_63 : decode cX9_told 63 = .ok (.aload_n 0, 1) := by decide +kernel
theorem dX9_told_64 : decode cX9_told 64 = .ok (.getfield 21, 3) := by decide +kernel
theorem dX9_told_67 : decode cX9_told 67 = .ok (.getfield 87, 3) := by decide +kernel
theorem dX9_told_70 : decode cX9_told 70 = .ok (.iload_n 1, 1) := by decide +kernel
theorem dX9_told_71 : decode cX9_told 71 = .ok (.iaload, 1) := by decide +kernel
theorem dX9_told_72 : decode cX9_told 72 = .ok (.i2l, 1) := by decide +kernel
theorem dX9_told_73 : decode cX9_told 73 = .ok (.lreturn, 1) := by decide +kernel
theorem dX9_told_74 : decode cX9_told 74 = .ok (.aload_n 0, 1) := by decide +kernel
theorem dX9_told_75 : decode cX9_told 75 = .ok (.getfield 21, 3) := by decide +kernel
theorem dX9_told_78 : decode cX9_told 78 = .ok (.getfield 90, 3) := by decide +kernel
theorem dX9_told_81 : decode cX9_told 81 = .ok (.iload_n 1, 1) := by decide +kernel
theorem dX9_told_82 : decode cX9_told 82 = .ok (.iaload, 1) := by decide +kernel
theorem dX9_told_83 : decode cX9_told 83 = .ok (.i2l, 1) := by decide +kernel
theorem dX9_told_84 : decode cX9_told 84 = .ok (.lreturn, 1) := by decide +kernel
theorem dX9_told_85 : decode cX9_told 85 = .ok (.aload_n 0, 1) := by decide +kernel
theorem dX9_told_86 : decode cX9_told 86 = .ok (.getfield 21, 3) := by decide +kernel
theorem dX9_told_89 : decode cX9_told 89 = .ok (.iload_n 1, 1) := by decide +kernel
theorem dX9_told_90 : decode cX9_told 90 = .ok (.invokevirtual 93, 3) := by decide +kernel
theorem dX9_told_93 : decode cX9_told 93 = .ok (.i2l, 1) := by decide +kernel
theorem dX9_told_94 : decode cX9_told 94 = .ok (.lreturn, 1) := by decide +kernel
theorem dX9_told_95 : decode cX9_told 95 = .ok (.aload_n 0, 1) := by decide +kernel
theorem dX9_told_96 : decode cX9_told 96 = .ok (.getfield 21, 3) := by decide +kernel
theorem dX9_told_99 : decode cX9_told 99 = .ok (.iload_n 1, 1) := by decide +kernel
theorem dX9_told_100 : decode cX9_told 100 = .ok (.invokevirtual 97, 3) := by decide +kernel
theorem dX9_told_103 : decode cX9_told 103 = .ok (.i2l, 1) := by decide +kernel
theorem dX9_told_104 : decode cX9_told 104 = .ok (.lreturn, 1) := by decide +kernel
theorem dX9_told_105 : decode cX9_told 105 = .ok (.ldc2_w 85, 3) := by decide +kernel
theorem dX9_told_108 : decode cX9_told 108 = .ok (.lreturn, 1) := by decide +kernel
theorem dX9_worth_0 : decode cX9_worth 0 = .ok (.iload_n 1, 1) := by decide +kernel
theorem dX9_worth_1 : decode cX9_worth 1 = .ok (.iconst 1, 1) := by decide +kernel
theorem dX9_worth_2 : decode cX9_worth 2 = .ok (.iconst 3, 1) := by decide +kernel
theorem dX9_worth_3 : decode cX9_worth 3 = .ok (.invokestatic 70, 3) := by decide +kernel
theorem dX9_worth_6 : decode cX9_worth 6 = .ok (.ifCond .eq 16, 3) := by decide +kernel
theorem dX9_worth_9 : decode cX9_worth 9 = .ok (.iload_n 2, 1) := by decide +kernel
theorem dX9_worth_10 : decode cX9_worth 10 = .ok (.sipush (-2000), 3) := by decide +kernel
theorem dX9_worth_13 : decode cX9_worth 13 = .ok (.sipush 2000, 3) := by decide +kernel
theorem dX9_worth_16 : decode cX9_worth 16 = .ok (.invokestatic 70, 3) := by decide +kernel
theorem dX9_worth_19 : decode cX9_worth 19 = .ok (.ifCond .ne 7, 3) := by decide +kernel
theorem dX9_worth_22 : decode cX9_worth 22 = .ok (.sipush (-9999), 3) := by decide +kernel
theorem dX9_worth_25 : decode cX9_worth 25 = .ok (.ireturn, 1) := by decide +kernel
theorem dX9_worth_26 : decode cX9_worth 26 = .ok (.aload_n 0, 1) := by decide +kernel
theorem dX9_worth_27 : decode cX9_worth 27 = .ok (.getfield 10, 3) := by decide +kernel
theorem dX9_worth_30 : decode cX9_worth 30 = .ok (.getfield 100, 3) := by decide +kernel
theorem dX9_worth_33 : decode cX9_worth 33 = .ok (.iload_n 1, 1) := by decide +kernel
theorem dX9_worth_34 : decode cX9_worth 34 = .ok (.iaload, 1) := by decide +kernel
theorem dX9_worth_35 : decode cX9_worth 35 = .ok (.istore_n 3, 1) := by decide +kernel
theorem dX9_worth_36 : decode cX9_worth 36 = .ok (.aload_n 0, 1) := by decide +kernel
theorem dX9_worth_37 : decode cX9_worth 37 = .ok (.getfield 10, 3) := by decide +kernel
theorem dX9_worth_40 : decode cX9_worth 40 = .ok (.getfield 100, 3) := by decide +kernel
theorem dX9_worth_43 : decode cX9_worth 43 = .ok (.iload_n 1, 1) := by decide +kernel
theorem dX9_worth_44 : decode cX9_worth 44 = .ok (.iload_n 2, 1) := by decide +kernel
theorem dX9_worth_45 : decode cX9_worth 45 = .ok (.iastore, 1) := by decide +kernel
theorem dX9_worth_46 : decode cX9_worth 46 = .ok (.iload_n 3, 1) := by decide +kernel
theorem dX9_worth_47 : decode cX9_worth 47 = .ok (.ireturn, 1) := by decide +kernel
theorem dX9_goes_0 : decode cX9_goes 0 = .ok (.iload_n 1, 1) := by decide +kernel
theorem dX9_goes_1 : decode cX9_goes 1 = .ok (.iconst 0, 1) := by decide +kernel
theorem dX9_goes_2 : decode cX9_goes 2 = .ok (.iconst 5, 1) := by decide +kernel
theorem dX9_goes_3 : decode cX9_goes 3 = .ok (.invokestatic 70, 3) := by decide +kernel
theorem dX9_goes_6 : decode cX9_goes 6 = .ok (.ifCond .eq 20, 3) := by decide +kernel
theorem dX9_goes_9 : decode cX9_goes 9 = .ok (.iload_n 2, 1) := by decide +kernel
theorem dX9_goes_10 : decode cX9_goes 10 = .ok (.invokestatic 103, 3) := by decide +kernel
theorem dX9_goes_13 : decode cX9_goes 13 = .ok (.ifCond .eq 13, 3) := by decide +kernel
theorem dX9_goes_16 : decode cX9_goes 16 = .ok (.iload_n 3, 1) := by decide +kernel
theorem dX9_goes_17 : decode cX9_goes 17 = .ok (.iconst 0, 1) := by decide +kernel
theorem dX9_goes_18 : decode cX9_goes 18 = .ok (.bipush 100, 2) := by decide +kernel
theorem dX9_goes_20 : decode cX9_goes 20 = .ok (.invokestatic 70, 3) := by decide +kernel
theorem dX9_goes_23 : decode cX9_goes 23 = .ok (.ifCond .ne 6, 3) := by decide +kernel
theorem dX9_goes_26 : decode cX9_goes 26 = .ok (.bipush (-2), 2) := by decide +kernel
theorem dX9_goes_28 : decode cX9_goes 28 = .ok (.ireturn, 1) := by decide +kernel
theorem dX9_goes_29 : decode cX9_goes 29 = .ok (.iload_n 1, 1) := by decide +kernel
theorem dX9_goes_30 : decode cX9_goes 30 = .ok (.iconst 4, 1) := by decide +kernel
theorem dX9_goes_31 : decode cX9_goes 31 = .ok (.imul, 1) := by decide +kernel
theorem dX9_goes_32 : decode cX9_goes 32 = .ok (.iload_n 2, 1) := by decide +kernel
theorem dX9_goes_33 : decode cX9_goes 33 = .ok (.iadd, 1) := by decide +kernel
theorem dX9_goes_34 : decode cX9_goes 34 = .ok (.istore 4, 2) := by decide +kernel
theorem dX9_goes_36 : decode cX9_goes 36 = .ok (.aload_n 0, 1) := by decide +kernel
theorem dX9_goes_37 : decode cX9_goes 37 = .ok (.getfield 10, 3) := by decide +kernel
theorem dX9_goes_40 : decode cX9_goes 40 = .ok (.getfield 106, 3) := by decide +kernel
theorem dX9_goes_43 : decode cX9_goes 43 = .ok (.iload 4, 2) := by decide +kernel
theorem dX9_goes_45 : decode cX9_goes 45 = .ok (.iaload, 1) := by decide +kernel
theorem dX9_goes_46 : decode cX9_goes 46 = .ok (.istore 5, 2) := by decide +kernel
theorem dX9_goes_48 : decode cX9_goes 48 = .ok (.aload_n 0, 1) := by decide +kernel
theorem dX9_goes_49 : decode cX9_goes 49 = .ok (.getfield 10, 3) := by decide +kernel
theorem dX9_goes_52 : decode cX9_goes 52 = .ok (.getfield 106, 3) := by decide +kernel
theorem dX9_goes_55 : decode cX9_goes 55 = .ok (.iload 4, 2) := by decide +kernel
theorem dX9_goes_57 : decode cX9_goes 57 = .ok (.iload_n 3, 1) := by decide +kernel
theorem dX9_goes_58 : decode cX9_goes 58 = .ok (.iastore, 1) := by decide +kernel
theorem dX9_goes_59 : decode cX9_goes 59 = .ok (.iload 5, 2) := by decide +kernel
theorem dX9_goes_61 : decode cX9_goes 61 = .ok (.ireturn, 1) := by decide +kernel
theorem dX9_like_0 : decode cX9_like 0 = .ok (.aload_n 0, 1) := by decide +kernel
theorem dX9_like_1 : decode cX9_like 1 = .ok (.getfield 10, 3) := by decide +kernel
theorem dX9_like_4 : decode cX9_like 4 = .ok (.iload_n 1, 1) := by decide +kernel
theorem dX9_like_5 : decode cX9_like 5 = .ok (.iload_n 2, 1) := by decide +kernel
theorem dX9_like_6 : decode cX9_like 6 = .ok (.invokevirtual 109, 3) := by decide +kernel
theorem dX9_like_9 : decode cX9_like 9 = .ok (.ifCond .eq 13, 3) := by decide +kernel
theorem dX9_like_12 : decode cX9_like 12 = .ok (.iload_n 3, 1) := by decide +kernel
theorem dX9_like_13 : decode cX9_like 13 = .ok (.iconst 0, 1) := by decide +kernel
theorem dX9_like_14 : decode cX9_like 14 = .ok (.bipush 100, 2) := by decide +kernel
theorem dX9_like_16 : decode cX9_like 16 = .ok (.invokestatic 70, 3) := by decide +kernel
theorem dX9_like_19 : decode cX9_like 19 = .ok (.ifCond .ne 6, 3) := by decide +kernel
theorem dX9_like_22 : decode cX9_like 22 = .ok (.bipush (-2), 2) := by decide +kernel
theorem dX9_like_24 : decode cX9_like 24 = .ok (.ireturn, 1) := by decide +kernel
theorem dX9_like_25 : decode cX9_like 25 = .ok (.aload_n 0, 1) := by decide +kernel
theorem dX9_like_26 : decode cX9_like 26 = .ok (.getfield 10, 3) := by decide +kernel
theorem dX9_like_29 : decode cX9_like 29 = .ok (.iload_n 1, 1) := by decide +kernel
theorem dX9_like_30 : decode cX9_like 30 = .ok (.iload_n 2, 1) := by decide +kernel
theorem dX9_like_31 : decode cX9_like 31 = .ok (.invokevirtual 113, 3) := by decide +kernel
theorem dX9_like_34 : decode cX9_like 34 = .ok (.istore 4, 2) := by decide +kernel
theorem dX9_like_36 : decode cX9_like 36 = .ok (.aload_n 0, 1) := by decide +kernel
theorem dX9_like_37 : decode cX9_like 37 = .ok (.getfield 10, 3) := by decide +kernel
theorem dX9_like_40 : decode cX9_like 40 = .ok (.iload_n 1, 1) := by decide +kernel
theorem dX9_like_41 : decode cX9_like 41 = .ok (.iload_n 2, 1) := by decide +kernel
theorem dX9_like_42 : decode cX9_like 42 = .ok (.iload_n 3, 1) := by decide +kernel
theorem dX9_like_43 : decode cX9_like 43 = .ok (.invokevirtual 117, 3) := by decide +kernel
theorem dX9_like_46 : decode cX9_like 46 = .ok (.iload 4, 2) := by decide +kernel
theorem dX9_like_48 : decode cX9_like 48 = .ok (.ireturn, 1) := by decide +kernel
theorem dX9_pace_0 : decode cX9_pace 0 = .ok (.iload_n 1, 1) := by decide +kernel
theorem dX9_pace_1 : decode cX9_pace 1 = .ok (.iconst 1, 1) := by decide +kernel
theorem dX9_pace_2 : decode cX9_pace 2 = .ok (.bipush 100, 2) := by decide +kernel
theorem dX9_pace_4 : decode cX9_pace 4 = .ok (.invokestatic 70, 3) := by decide +kernel
theorem dX9_pace_7 : decode cX9_pace 7 = .ok (.ifCond .ne 6, 3) := by decide +kernel
theorem dX9_pace_10 : decode cX9_pace 10 = .ok (.bipush (-2), 2) := by decide +kernel
theorem dX9_pace_12 : decode cX9_pace 12 = .ok (.ireturn, 1) := by decide +kernel
theorem dX9_pace_13 : decode cX9_pace 13 = .ok (.aload_n 0, 1) := by decide +kernel
theorem dX9_pace_14 : decode cX9_pace 14 = .ok (.getfield 21, 3) := by decide +kernel
theorem dX9_pace_17 : decode cX9_pace 17 = .ok (.getfield 121, 3) := by decide +kernel
theorem dX9_pace_20 : decode cX9_pace 20 = .ok (.istore_n 2, 1) := by decide +kernel
theorem dX9_pace_21 : decode cX9_pace 21 = .ok (.aload_n 0, 1) := by decide +kernel
theorem dX9_pace_22 : decode cX9_pace 22 = .ok (.getfield 21, 3) := by decide +kernel
theorem dX9_pace_25 : decode cX9_pace 25 = .ok (.iload_n 1, 1) := by decide +kernel
theorem dX9_pace_26 : decode cX9_pace 26 = .ok (.putfield 121, 3) := by decide +kernel
end
section
theorem dX9_pace_29 : decode cX9_pace 29 = .ok (.iload_n 2, 1) := by decide +kernel
theorem dX9_pace_30 : decode cX9_pace 30 = .ok (.ireturn, 1) := by decide +kernel
theorem dX9_feed_0 : decode cX9_feed 0 = .ok (.iload_n 1, 1) := by decide +kernel
theorem dX9_feed_1 : decode cX9_feed 1 = .ok (.iconst 1, 1) := by decide +kernel
theorem dX9_feed_2 : decode cX9_feed 2 = .ok (.bipush 8, 2) := by decide +kernel
theorem dX9_feed_4 : decode cX9_feed 4 = .ok (.invokestatic 70, 3) := by decide +kernel
theorem dX9_feed_7 : decode cX9_feed 7 = .ok (.ifCond .ne 6, 3) := by decide +kernel
theorem dX9_feed_10 : decode cX9_feed 10 = .ok (.bipush (-2), 2) := by decide +kernel
theorem dX9_feed_12 : decode cX9_feed 12 = .ok (.ireturn, 1) := by decide +kernel
theorem dX9_feed_13 : decode cX9_feed 13 = .ok (.aload_n 0, 1) := by decide +kernel
theorem dX9_feed_14 : decode cX9_feed 14 = .ok (.getfield 34, 3) := by decide +kernel
theorem dX9_feed_17 : decode cX9_feed 17 = .ok (.getfield 124, 3) := by decide +kernel
theorem dX9_feed_20 : decode cX9_feed 20 = .ok (.iload_n 1, 1) := by decide +kernel
theorem dX9_feed_21 : decode cX9_feed 21 = .ok (.iadd, 1) := by decide +kernel
theorem dX9_feed_22 : decode cX9_feed 22 = .ok (.sipush 160, 3) := by decide +kernel
theorem dX9_feed_25 : decode cX9_feed 25 = .ok (.if_icmp .le 6, 3) := by decide +kernel
theorem dX9_feed_28 : decode cX9_feed 28 = .ok (.bipush (-4), 2) := by decide +kernel
theorem dX9_feed_30 : decode cX9_feed 30 = .ok (.ireturn, 1) := by decide +kernel
theorem dX9_feed_31 : decode cX9_feed 31 = .ok (.aload_n 0, 1) := by decide +kernel
theorem dX9_feed_32 : decode cX9_feed 32 = .ok (.getfield 34, 3) := by decide +kernel
theorem dX9_feed_35 : decode cX9_feed 35 = .ok (.iload_n 1, 1) := by decide +kernel
theorem dX9_feed_36 : decode cX9_feed 36 = .ok (.lload_n 2, 1) := by decide +kernel
theorem dX9_feed_37 : decode cX9_feed 37 = .ok (.invokevirtual 127, 3) := by decide +kernel
theorem dX9_feed_40 : decode cX9_feed 40 = .ok (.aload_n 0, 1) := by decide +kernel
theorem dX9_feed_41 : decode cX9_feed 41 = .ok (.getfield 34, 3) := by decide +kernel
theorem dX9_feed_44 : decode cX9_feed 44 = .ok (.getfield 124, 3) := by decide +kernel
theorem dX9_feed_47 : decode cX9_feed 47 = .ok (.ireturn, 1) := by decide +kernel
theorem dX9_text_0 : decode cX9_text 0 = .ok (.aload_n 0, 1) := by decide +kernel
theorem dX9_text_1 : decode cX9_text 1 = .ok (.getfield 10, 3) := by decide +kernel
theorem dX9_text_4 : decode cX9_text 4 = .ok (.getfield 131, 3) := by decide +kernel
theorem dX9_text_7 : decode cX9_text 7 = .ok (.bipush 6, 2) := by decide +kernel
theorem dX9_text_9 : decode cX9_text 9 = .ok (.if_icmp .lt 6, 3) := by decide +kernel
theorem dX9_text_12 : decode cX9_text 12 = .ok (.bipush (-4), 2) := by decide +kernel
theorem dX9_text_14 : decode cX9_text 14 = .ok (.ireturn, 1) := by decide +kernel
theorem dX9_text_15 : decode cX9_text 15 = .ok (.aload_n 0, 1) := by decide +kernel
theorem dX9_text_16 : decode cX9_text 16 = .ok (.getfield 41, 3) := by decide +kernel
theorem dX9_text_19 : decode cX9_text 19 = .ok (.aload_n 0, 1) := by decide +kernel
theorem dX9_text_20 : decode cX9_text 20 = .ok (.getfield 34, 3) := by decide +kernel
theorem dX9_text_23 : decode cX9_text 23 = .ok (.invokevirtual 134, 3) := by decide +kernel
theorem dX9_text_26 : decode cX9_text 26 = .ok (.astore_n 1, 1) := by decide +kernel
theorem dX9_text_27 : decode cX9_text 27 = .ok (.aload_n 0, 1) := by decide +kernel
theorem dX9_text_28 : decode cX9_text 28 = .ok (.getfield 34, 3) := by decide +kernel
theorem dX9_text_31 : decode cX9_text 31 = .ok (.iconst 0, 1) := by decide +kernel
theorem dX9_text_32 : decode cX9_text 32 = .ok (.putfield 124, 3) := by decide +kernel
theorem dX9_text_35 : decode cX9_text 35 = .ok (.aload_n 1, 1) := by decide +kernel
theorem dX9_text_36 : decode cX9_text 36 = .ok (.ifnonnull 14, 3) := by decide +kernel
theorem dX9_text_39 : decode cX9_text 39 = .ok (.bipush (-100), 2) := by decide +kernel
theorem dX9_text_41 : decode cX9_text 41 = .ok (.aload_n 0, 1) := by decide +kernel
theorem dX9_text_42 : decode cX9_text 42 = .ok (.getfield 41, 3) := by decide +kernel
theorem dX9_text_45 : decode cX9_text 45 = .ok (.getfield 138, 3) := by decide +kernel
theorem dX9_text_48 : decode cX9_text 48 = .ok (.isub, 1) := by decide +kernel
theorem dX9_text_49 : decode cX9_text 49 = .ok (.ireturn, 1) := by decide +kernel
theorem dX9_text_50 : decode cX9_text 50 = .ok (.aload_n 0, 1) := by decide +kernel
theorem dX9_text_51 : decode cX9_text 51 = .ok (.getfield 10, 3) := by decide +kernel
theorem dX9_text_54 : decode cX9_text 54 = .ok (.getfield 141, 3) := by decide +kernel
theorem dX9_text_57 : decode cX9_text 57 = .ok (.aload_n 0, 1) := by decide +kernel
theorem dX9_text_58 : decode cX9_text 58 = .ok (.getfield 10, 3) := by decide +kernel
theorem dX9_text_61 : decode cX9_text 61 = .ok (.getfield 131, 3) := by decide +kernel
theorem dX9_text_64 : decode cX9_text 64 = .ok (.aload_n 1, 1) := by decide +kernel
theorem dX9_text_65 : decode cX9_text 65 = .ok (.aastore, 1) := by decide +kernel
theorem dX9_text_66 : decode cX9_text 66 = .ok (.aload_n 0, 1) := by decide +kernel
theorem dX9_text_67 : decode cX9_text 67 = .ok (.getfield 10, 3) := by decide +kernel
theorem dX9_text_70 : decode cX9_text 70 = .ok (.dup, 1) := by decide +kernel
theorem dX9_text_71 : decode cX9_text 71 = .ok (.getfield 131, 3) := by decide +kernel
theorem dX9_text_74 : decode cX9_text 74 = .ok (.iconst 1, 1) := by decide +kernel
theorem dX9_text_75 : decode cX9_text 75 = .ok (.iadd, 1) := by decide +kernel
theorem dX9_text_76 : decode cX9_text 76 = .ok (.putfield 131, 3) := by decide +kernel
theorem dX9_text_79 : decode cX9_text 79 = .ok (.aload_n 0, 1) := by decide +kernel
theorem dX9_text_80 : decode cX9_text 80 = .ok (.getfield 10, 3) := by decide +kernel
theorem dX9_text_83 : decode cX9_text 83 = .ok (.getfield 131, 3) := by decide +kernel
theorem dX9_text_86 : decode cX9_text 86 = .ok (.iconst 1, 1) := by decide +kernel
theorem dX9_text_87 : decode cX9_text 87 = .ok (.isub, 1) := by decide +kernel
theorem dX9_text_88 : decode cX9_text 88 = .ok (.ireturn, 1) := by decide +kernel
theorem dX9_force_0 : decode cX9_force 0 = .ok (.iload_n 1, 1) := by decide +kernel
theorem dX9_force_1 : decode cX9_force 1 = .ok (.iconst 0, 1) := by decide +kernel
theorem dX9_force_2 : decode cX9_force 2 = .ok (.aload_n 0, 1) := by decide +kernel
theorem dX9_force_3 : decode cX9_force 3 = .ok (.getfield 10, 3) := by decide +kernel
theorem dX9_force_6 : decode cX9_force 6 = .ok (.getfield 131, 3) := by decide +kernel
theorem dX9_force_9 : decode cX9_force 9 = .ok (.iconst 1, 1) := by decide +kernel
theorem dX9_force_10 : decode cX9_force 10 = .ok (.isub, 1) := by decide +kernel
theorem dX9_force_11 : decode cX9_force 11 = .ok (.invokestatic 70, 3) := by decide +kernel
theorem dX9_force_14 : decode cX9_force 14 = .ok (.ifCond .ne 6, 3) := by decide +kernel
theorem dX9_force_17 : decode cX9_force 17 = .ok (.bipush (-2), 2) := by decide +kernel
theorem dX9_force_19 : decode cX9_force 19 = .ok (.ireturn, 1) := by decide +kernel
theorem dX9_force_20 : decode cX9_force 20 = .ok (.aload_n 0, 1) := by decide +kernel
theorem dX9_force_21 : decode cX9_force 21 = .ok (.getfield 21, 3) := by decide +kernel
theorem dX9_force_24 : decode cX9_force 24 = .ok (.getfield 145, 3) := by decide +kernel
theorem dX9_force_27 : decode cX9_force 27 = .ok (.istore_n 2, 1) := by decide +kernel
theorem dX9_force_28 : decode cX9_force 28 = .ok (.aload_n 0, 1) := by decide +kernel
theorem dX9_force_29 : decode cX9_force 29 = .ok (.getfield 21, 3) := by decide +kernel
theorem dX9_force_32 : decode cX9_force 32 = .ok (.iload_n 1, 1) := by decide +kernel
theorem dX9_force_33 : decode cX9_force 33 = .ok (.putfield 145, 3) := by decide +kernel
theorem dX9_force_36 : decode cX9_force 36 = .ok (.iload_n 2, 1) := by decide +kernel
theorem dX9_force_37 : decode cX9_force 37 = .ok (.ireturn, 1) := by decide +kernel
theorem dX9_plan_0 : decode cX9_plan 0 = .ok (.aload_n 0, 1) := by decide +kernel
theorem dX9_plan_1 : decode cX9_plan 1 = .ok (.getfield 10, 3) := by decide +kernel
theorem dX9_plan_4 : decode cX9_plan 4 = .ok (.getfield 148, 3) := by decide +kernel
theorem dX9_plan_7 : decode cX9_plan 7 = .ok (.bipush 8, 2) := by decide +kernel
theorem dX9_plan_9 : decode cX9_plan 9 = .ok (.if_icmp .lt 6, 3) := by decide +kernel
theorem dX9_plan_12 : decode cX9_plan 12 = .ok (.bipush (-4), 2) := by decide +kernel
theorem dX9_plan_14 : decode cX9_plan 14 = .ok (.ireturn, 1) := by decide +kernel
theorem dX9_plan_15 : decode cX9_plan 15 = .ok (.aload_n 0, 1) := by decide +kernel
theorem dX9_plan_16 : decode cX9_plan 16 = .ok (.getfield 48, 3) := by decide +kernel
theorem dX9_plan_19 : decode cX9_plan 19 = .ok (.aload_n 0, 1) := by decide +kernel
theorem dX9_plan_20 : decode cX9_plan 20 = .ok (.getfield 34, 3) := by decide +kernel
theorem dX9_plan_23 : decode cX9_plan 23 = .ok (.aload_n 0, 1) := by decide +kernel
theorem dX9_plan_24 : decode cX9_plan 24 = .ok (.getfield 10, 3) := by decide +kernel
theorem dX9_plan_27 : decode cX9_plan 27 = .ok (.getfield 74, 3) := by decide +kernel
theorem dX9_plan_30 : decode cX9_plan 30 = .ok (.invokevirtual 151, 3) := by decide +kernel
theorem dX9_plan_33 : decode cX9_plan 33 = .ok (.astore_n 1, 1) := by decide +kernel
theorem dX9_plan_34 : decode cX9_plan 34 = .ok (.aload_n 0, 1) := by decide +kernel
theorem dX9_plan_35 : decode cX9_plan 35 = .ok (.getfield 34, 3) := by decide +kernel
theorem dX9_plan_38 : decode cX9_plan 38 = .ok (.iconst 0, 1) := by decide +kernel
theorem dX9_plan_39 : decode cX9_plan 39 = .ok (.putfield 124, 3) := by decide +kernel
theorem dX9_plan_42 : decode cX9_plan 42 = .ok (.aload_n 1, 1) := by decide +kernel
theorem dX9_plan_43 : decode cX9_plan 43 = .ok (.ifnonnull 14, 3) := by decide +kernel
theorem dX9_plan_46 : decode cX9_plan 46 = .ok (.bipush (-100), 2) := by decide +kernel
theorem dX9_plan_48 : decode cX9_plan 48 = .ok (.aload_n 0, 1) := by decide +kernel
theorem dX9_plan_49 : decode cX9_plan 49 = .ok (.getfield 48, 3) := by decide +kernel
theorem dX9_plan_52 : decode cX9_plan 52 = .ok (.getfield 154, 3) := by decide +kernel
theorem dX9_plan_55 : decode cX9_plan 55 = .ok (.isub, 1) := by decide +kernel
theorem dX9_plan_56 : decode cX9_plan 56 = .ok (.ireturn, 1) := by decide +kernel
theorem dX9_plan_57 : decode cX9_plan 57 = .ok (.aload_n 0, 1) := by decide +kernel
theorem dX9_plan_58 : decode cX9_plan 58 = .ok (.getfield 10, 3) := by decide +kernel
theorem dX9_plan_61 : decode cX9_plan 61 = .ok (.getfield 155, 3) := by decide +kernel
theorem dX9_plan_64 : decode cX9_plan 64 = .ok (.aload_n 0, 1) := by decide +kernel
theorem dX9_plan_65 : decode cX9_plan 65 = .ok (.getfield 10, 3) := by decide +kernel
theorem dX9_plan_68 : decode cX9_plan 68 = .ok (.getfield 148, 3) := by decide +kernel
theorem dX9_plan_71 : decode cX9_plan 71 = .ok (.aload_n 1, 1) := by decide +kernel
theorem dX9_plan_72 : decode cX9_plan 72 = .ok (.aastore, 1) := by decide +kernel
theorem dX9_plan_73 : decode cX9_plan 73 = .ok (.aload_n 0, 1) := by decide +kernel
theorem dX9_plan_74 : decode cX9_plan 74 = .ok (.getfield 10, 3) := by decide +kernel
theorem dX9_plan_77 : decode cX9_plan 77 = .ok (.dup, 1) := by decide +kernel
theorem dX9_plan_78 : decode cX9_plan 78 = .ok (.getfield 148, 3) := by decide +kernel
theorem dX9_plan_81 : decode cX9_plan 81 = .ok (.iconst 1, 1) := by decide +kernel
theorem dX9_plan_82 : decode cX9_plan 82 = .ok (.iadd, 1) := by decide +kernel
theorem dX9_plan_83 : decode cX9_plan 83 = .ok (.putfield 148, 3) := by decide +kernel
theorem dX9_plan_86 : decode cX9_plan 86 = .ok (.aload_n 0, 1) := by decide +kernel
theorem dX9_plan_87 : decode cX9_plan 87 = .ok (.getfield 10, 3) := by decide +kernel
theorem dX9_plan_90 : decode cX9_plan 90 = .ok (.getfield 148, 3) := by decide +kernel
theorem dX9_plan_93 : decode cX9_plan 93 = .ok (.iconst 1, 1) := by decide +kernel
theorem dX9_plan_94 : decode cX9_plan 94 = .ok (.isub, 1) := by decide +kernel
theorem dX9_plan_95 : decode cX9_plan 95 = .ok (.ireturn, 1) := by decide +kernel
theorem dX9_planned_0 : decode cX9_planned 0 = .ok (.aload_n 0, 1) := by decide +kernel
theorem dX9_planned_1 : decode cX9_planned 1 = .ok (.getfield 10, 3) := by decide +kernel
theorem dX9_planned_4 : decode cX9_planned 4 = .ok (.iload_n 1, 1) := by decide +kernel
theorem dX9_planned_5 : decode cX9_planned 5 = .ok (.invokevirtual 159, 3) := by decide +kernel
theorem dX9_planned_8 : decode cX9_planned 8 = .ok (.astore 4, 2) := by decide +kernel
theorem dX9_planned_10 : decode cX9_planned 10 = .ok (.aload 4, 2) := by decide +kernel
theorem dX9_planned_12 : decode cX9_planned 12 = .ok (.ifnonnull 5, 3) := by decide +kernel
theorem dX9_planned_15 : decode cX9_planned 15 = .ok (.iconst (-1), 1) := by decide +kernel
theorem dX9_planned_16 : decode cX9_planned 16 = .ok (.ireturn, 1) := by decide +kernel
theorem dX9_planned_17 : decode cX9_planned 17 = .ok (.iload_n 2, 1) := by decide +kernel
theorem dX9_planned_18 : decode cX9_planned 18 = .ok (.iconst (-1), 1) := by decide +kernel
theorem dX9_planned_19 : decode cX9_planned 19 = .ok (.if_icmp .ne 9, 3) := by decide +kernel
theorem dX9_planned_22 : decode cX9_planned 22 = .ok (.aload 4, 2) := by decide +kernel
theorem dX9_planned_24 : decode cX9_planned 24 = .ok (.getfield 163, 3) := by decide +kernel
theorem dX9_planned_27 : decode cX9_planned 27 = .ok (.ireturn, 1) := by decide +kernel
theorem dX9_planned_28 : decode cX9_planned 28 = .ok (.iload_n 2, 1) := by decide +kernel
theorem dX9_planned_29 : decode cX9_planned 29 = .ok (.iconst 0, 1) := by decide +kernel
theorem dX9_planned_30 : decode cX9_planned 30 = .ok (.aload 4, 2) := by decide +kernel
theorem dX9_planned_32 : decode cX9_planned 32 = .ok (.getfield 163, 3) := by decide +kernel
theorem dX9_planned_35 : decode cX9_planned 35 = .ok (.iconst 1, 1) := by decide +kernel
theorem dX9_planned_36 : decode cX9_planned 36 = .ok (.isub, 1) := by decide +kernel
theorem dX9_planned_37 : decode cX9_planned 37 = .ok (.invokestatic 70, 3) := by decide +kernel
theorem dX9_planned_40 : decode cX9_planned 40 = .ok (.ifCond .eq 12, 3) := by decide +kernel
theorem dX9_planned_43 : decode cX9_planned 43 = .ok (.iload_n 3, 1) := by decide +kernel
theorem dX9_planned_44 : decode cX9_planned 44 = .ok (.iconst 0, 1) := by decide +kernel
theorem dX9_planned_45 : decode cX9_planned 45 = .ok (.iconst 1, 1) := by decide +kernel
theorem dX9_planned_46 : decode cX9_planned 46 = .ok (.invokestatic 70, 3) := by decide +kernel
theorem dX9_planned_49 : decode cX9_planned 49 = .ok (.ifCond .ne 5, 3) := by decide +kernel
theorem dX9_planned_52 : decode cX9_planned 52 = .ok (.iconst (-1), 1) := by decide +kernel
theorem dX9_planned_53 : decode cX9_planned 53 = .ok (.ireturn, 1) := by decide +kernel
theorem dX9_planned_54 : decode cX9_planned 54 = .ok (.iload_n 3, 1) := by decide +kernel
theorem dX9_planned_55 : decode cX9_planned 55 = .ok (.ifCond .ne 13, 3) := by decide +kernel
theorem dX9_planned_58 : decode cX9_planned 58 = .ok (.aload 4, 2) := by decide +kernel
theorem dX9_planned_60 : decode cX9_planned 60 = .ok (.getfield 166, 3) := by decide +kernel
theorem dX9_planned_63 : decode cX9_planned 63 = .ok (.iload_n 2, 1) := by decide +kernel
theorem dX9_planned_64 : decode cX9_planned 64 = .ok (.iaload, 1) := by decide +kernel
theorem dX9_planned_65 : decode cX9_planned 65 = .ok (.goto 10, 3) := by decide +kernel
theorem dX9_planned_68 : decode cX9_planned 68 = .ok (.aload 4, 2) := by decide +kernel
theorem dX9_planned_70 : decode cX9_planned 70 = .ok (.getfield 169, 3) := by decide +kernel
theorem dX9_planned_73 : decode cX9_planned 73 = .ok (.iload_n 2, 1) := by decide +kernel
theorem dX9_planned_74 : decode cX9_planned 74 = .ok (.iaload, 1) := by decide +kernel
theorem dX9_planned_75 : decode cX9_planned 75 = .ok (.ireturn, 1) := by decide +kernel
theorem dX9_trial_0 : decode cX9_trial 0 = .ok (.aload_n 0, 1) := by decide +kernel
theorem dX9_trial_1 : decode cX9_trial 1 = .ok (.getfield 10, 3) := by decide +kernel
theorem dX9_trial_4 : decode cX9_trial 4 = .ok (.iload_n 1, 1) := by decide +kernel
theorem dX9_trial_5 : decode cX9_trial 5 = .ok (.invokevirtual 172, 3) := by decide +kernel
theorem dX9_trial_8 : decode cX9_trial 8 = .ok (.ifCond .eq 10, 3) := by decide +kernel
theorem dX9_trial_11 : decode cX9_trial 11 = .ok (.iload_n 2, 1) := by decide +kernel
theorem dX9_trial_12 : decode cX9_trial 12 = .ok (.invokestatic 103, 3) := by decide +kernel
theorem dX9_trial_15 : decode cX9_trial 15 = .ok (.ifCond .ne 7, 3) := by decide +kernel
theorem dX9_trial_18 : decode cX9_trial 18 = .ok (.ldc2_w 85, 3) := by decide +kernel
theorem dX9_trial_21 : decode cX9_trial 21 = .ok (.lreturn, 1) := by decide +kernel
theorem dX9_trial_22 : decode cX9_trial 22 = .ok (.aload_n 0, 1) := by decide +kernel
theorem dX9_trial_23 : decode cX9_trial 23 = .ok (.getfield 21, 3) := by decide +kernel
theorem dX9_trial_26 : decode cX9_trial 26 = .ok (.iload_n 1, 1) := by decide +kernel
theorem dX9_trial_27 : decode cX9_trial 27 = .ok (.iload_n 2, 1) := by decide +kernel
theorem dX9_trial_28 : decode cX9_trial 28 = .ok (.invokevirtual 175, 3) := by decide +kernel
theorem dX9_trial_31 : decode cX9_trial 31 = .ok (.i2l, 1) := by decide +kernel
theorem dX9_trial_32 : decode cX9_trial 32 = .ok (.lreturn, 1) := by decide +kernel
theorem dX9_sum_0 : decode cX9_sum 0 = .ok (.aload_n 0, 1) := by decide +kernel
theorem dX9_sum_1 : decode cX9_sum 1 = .ok (.getfield 10, 3) := by decide +kernel
theorem dX9_sum_4 : decode cX9_sum 4 = .ok (.iload_n 1, 1) := by decide +kernel
theorem dX9_sum_5 : decode cX9_sum 5 = .ok (.invokevirtual 172, 3) := by decide +kernel
theorem dX9_sum_8 : decode cX9_sum 8 = .ok (.ifCond .eq 12, 3) := by decide +kernel
theorem dX9_sum_11 : decode cX9_sum 11 = .ok (.iload_n 2, 1) := by decide +kernel
theorem dX9_sum_12 : decode cX9_sum 12 = .ok (.iconst 0, 1) := by decide +kernel
theorem dX9_sum_13 : decode cX9_sum 13 = .ok (.iconst 1, 1) := by decide +kernel
theorem dX9_sum_14 : decode cX9_sum 14 = .ok (.invokestatic 70, 3) := by decide +kernel
theorem dX9_sum_17 : decode cX9_sum 17 = .ok (.ifCond .ne 7, 3) := by decide +kernel
theorem dX9_sum_20 : decode cX9_sum 20 = .ok (.ldc2_w 85, 3) := by decide +kernel
theorem dX9_sum_23 : decode cX9_sum 23 = .ok (.lreturn, 1) := by decide +kernel
theorem dX9_sum_24 : decode cX9_sum 24 = .ok (.iload_n 2, 1) := by decide +kernel
theorem dX9_sum_25 : decode cX9_sum 25 = .ok (.ifCond .ne 15, 3) := by decide +kernel
theorem dX9_sum_28 : decode cX9_sum 28 = .ok (.aload_n 0, 1) := by decide +kernel
theorem dX9_sum_29 : decode cX9_sum 29 = .ok (.getfield 21, 3) := by decide +kernel
theorem dX9_sum_32 : decode cX9_sum 32 = .ok (.iload_n 1, 1) := by decide +kernel
theorem dX9_sum_33 : decode cX9_sum 33 = .ok (.invokevirtual 178, 3) := by decide +kernel
theorem dX9_sum_36 : decode cX9_sum 36 = .ok (.i2l, 1) := by decide +kernel
theorem dX9_sum_37 : decode cX9_sum 37 = .ok (.goto 12, 3) := by decide +kernel
theorem dX9_sum_40 : decode cX9_sum 40 = .ok (.aload_n 0, 1) := by decide +kernel
theorem dX9_sum_41 : decode cX9_sum 41 = .ok (.getfield 21, 3) := by decide +kernel
theorem dX9_sum_44 : decode cX9_sum 44 = .ok (.iload_n 1, 1) := by decide +kernel
theorem dX9_sum_45 : decode cX9_sum 45 = .ok (.invokevirtual 181, 3) := by decide +kernel
theorem dX9_sum_48 : decode cX9_sum 48 = .ok (.i2l, 1) := by decide +kernel
theorem dX9_sum_49 : decode cX9_sum 49 = .ok (.lreturn, 1) := by decide +kernel
theorem dX9_days_0 : decode cX9_days 0 = .ok (.aload_n 0, 1) := by decide +kernel
theorem dX9_days_1 : decode cX9_days 1 = .ok (.getfield 10, 3) := by decide +kernel
theorem dX9_days_4 : decode cX9_days 4 = .ok (.iload_n 1, 1) := by decide +kernel
theorem dX9_days_5 : decode cX9_days 5 = .ok (.invokevirtual 159, 3) := by decide +kernel
theorem dX9_days_8 : decode cX9_days 8 = .ok (.astore_n 3, 1) := by decide +kernel
theorem dX9_days_9 : decode cX9_days 9 = .ok (.aload_n 3, 1) := by decide +kernel
theorem dX9_days_10 : decode cX9_days 10 = .ok (.ifnull 13, 3) := by decide +kernel
theorem dX9_days_13 : decode cX9_days 13 = .ok (.iload_n 2, 1) := by decide +kernel
theorem dX9_days_14 : decode cX9_days 14 = .ok (.iconst 1, 1) := by decide +kernel
theorem dX9_days_15 : decode cX9_days 15 = .ok (.bipush 50, 2) := by decide +kernel
theorem dX9_days_17 : decode cX9_days 17 = .ok (.invokestatic 70, 3) := by decide +kernel
theorem dX9_days_20 : decode cX9_days 20 = .ok (.ifCond .ne 6, 3) := by decide +kernel
theorem dX9_days_23 : decode cX9_days 23 = .ok (.bipush (-2), 2) := by decide +kernel
theorem dX9_days_25 : decode cX9_days 25 = .ok (.ireturn, 1) := by decide +kernel
theorem dX9_days_26 : decode cX9_days 26 = .ok (.aload_n 0, 1) := by decide +kernel
theorem dX9_days_27 : decode cX9_days 27 = .ok (.getfield 21, 3) := by decide +kernel
theorem dX9_days_30 : decode cX9_days 30 = .ok (.getfield 184, 3) := by decide +kernel
theorem dX9_days_33 : decode cX9_days 33 = .ok (.iload_n 2, 1) := by decide +kernel
theorem dX9_days_34 : decode cX9_days 34 = .ok (.iadd, 1) := by decide +kernel
theorem dX9_days_35 : decode cX9_days 35 = .ok (.sipush 400, 3) := by decide +kernel
theorem dX9_days_38 : decode cX9_days 38 = .ok (.if_icmp .le 6, 3) := by decide +kernel
theorem dX9_days_41 : decode cX9_days 41 = .ok (.bipush (-4), 2) := by decide +kernel
theorem dX9_days_43 : decode cX9_days 43 = .ok (.ireturn, 1) := by decide +kernel
theorem dX9_days_44 : decode cX9_days 44 = .ok (.iconst 0, 1) := by decide +kernel
theorem dX9_days_45 : decode cX9_days 45 = .ok (.istore 4, 2) := by decide +kernel
theorem dX9_days_47 : decode cX9_days 47 = .ok (.iload 4, 2) := by decide +kernel
theorem dX9_days_49 : decode cX9_days 49 = .ok (.iload_n 2, 1) := by decide +kernel
theorem dX9_days_50 : decode cX9_days 50 = .ok (.if_icmp .ge 17, 3) := by decide +kernel
theorem dX9_days_53 : decode cX9_days 53 = .ok (.aload_n 0, 1) := by decide +kernel
theorem dX9_days_54 : decode cX9_days 54 = .ok (.getfield 21, 3) := by decide +kernel
theorem dX9_days_57 : decode cX9_days 57 = .ok (.aload_n 3, 1) := by decide +kernel
theorem dX9_days_58 : decode cX9_days 58 = .ok (.invokevirtual 187, 3) := by decide +kernel
theorem dX9_days_61 : decode cX9_days 61 = .ok (.iinc 4 1, 3) := by decide +kernel
theorem dX9_days_64 : decode cX9_days 64 = .ok (.goto (-17), 3) := by decide +kernel
theorem dX9_days_67 : decode cX9_days 67 = .ok (.aload_n 0, 1) := by decide +kernel
theorem dX9_days_68 : decode cX9_days 68 = .ok (.getfield 21, 3) := by decide +kernel
theorem dX9_days_71 : decode cX9_days 71 = .ok (.getfield 184, 3) := by decide +kernel
theorem dX9_days_74 : decode cX9_days 74 = .ok (.ireturn, 1) := by decide +kernel
theorem dX9_rests_0 : decode cX9_rests 0 = .ok (.aload_n 0, 1) := by decide +kernel
theorem dX9_rests_1 : decode cX9_rests 1 = .ok (.getfield 10, 3) := by decide +kernel
theorem dX9_rests_4 : decode cX9_rests 4 = .ok (.iload_n 1, 1) := by decide +kernel
theorem dX9_rests_5 : decode cX9_rests 5 = .ok (.invokevirtual 159, 3) := by decide +kernel
theorem dX9_rests_8 : decode cX9_rests 8 = .ok (.astore_n 3, 1) := by decide +kernel
theorem dX9_rests_9 : decode cX9_rests 9 = .ok (.aload_n 3, 1) := by decide +kernel
theorem dX9_rests_10 : decode cX9_rests 10 = .ok (.ifnull 13, 3) := by decide +kernel
theorem dX9_rests_13 : decode cX9_rests 13 = .ok (.iload_n 2, 1) := by decide +kernel
theorem dX9_rests_14 : decode cX9_rests 14 = .ok (.iconst 0, 1) := by decide +kernel
theorem dX9_rests_15 : decode cX9_rests 15 = .ok (.bipush 100, 2) := by decide +kernel
theorem dX9_rests_17 : decode cX9_rests 17 = .ok (.invokestatic 70, 3) := by decide +kernel
theorem dX9_rests_20 : decode cX9_rests 20 = .ok (.ifCond .ne 6, 3) := by decide +kernel
theorem dX9_rests_23 : decode cX9_rests 23 = .ok (.bipush (-2), 2) := by decide +kernel
theorem dX9_rests_25 : decode cX9_rests 25 = .ok (.ireturn, 1) := by decide +kernel
theorem dX9_rests_26 : decode cX9_rests 26 = .ok (.aload_n 0, 1) := by decide +kernel
theorem dX9_rests_27 : decode cX9_rests 27 = .ok (.getfield 28, 3) := by decide +kernel
theorem dX9_rests_30 : decode cX9_rests 30 = .ok (.aload_n 0, 1) := by decide +kernel
theorem dX9_rests_31 : decode cX9_rests 31 = .ok (.getfield 21, 3) := by decide +kernel
theorem dX9_rests_34 : decode cX9_rests 34 = .ok (.bipush 8, 2) := by decide +kernel
theorem dX9_rests_36 : decode cX9_rests 36 = .ok (.invokevirtual 191, 3) := by decide +kernel
theorem dX9_rests_39 : decode cX9_rests 39 = .ok (.iconst 0, 1) := by decide +kernel
theorem dX9_rests_40 : decode cX9_rests 40 = .ok (.istore 4, 2) := by decide +kernel
theorem dX9_rests_42 : decode cX9_rests 42 = .ok (.iload 4, 2) := by decide +kernel
theorem dX9_rests_44 : decode cX9_rests 44 = .ok (.iload_n 2, 1) := by decide +kernel
theorem dX9_rests_45 : decode cX9_rests 45 = .ok (.if_icmp .gt 23, 3) := by decide +kernel
theorem dX9_rests_48 : decode cX9_rests 48 = .ok (.aload_n 0, 1) := by decide +kernel
theorem dX9_rests_49 : decode cX9_rests 49 = .ok (.getfield 28, 3) := by decide +kernel
theorem dX9_rests_52 : decode cX9_rests 52 = .ok (.aload_n 3, 1) := by decide +kernel
theorem dX9_rests_53 : decode cX9_rests 53 = .ok (.invokevirtual 195, 3) := by decide +kernel
theorem dX9_rests_56 : decode cX9_rests 56 = .ok (.ifCond .eq 6, 3) := by decide +kernel
theorem dX9_rests_59 : decode cX9_rests 59 = .ok (.iload 4, 2) := by decide +kernel
theorem dX9_rests_61 : decode cX9_rests 61 = .ok (.ireturn, 1) := by decide +kernel
theorem dX9_rests_62 : decode cX9_rests 62 = .ok (.iinc 4 1, 3) := by decide +kernel
theorem dX9_rests_65 : decode cX9_rests 65 = .ok (.goto (-23), 3) := by decide +kernel
theorem dX9_rests_68 : decode cX9_rests 68 = .ok (.iconst (-1), 1) := by decide +kernel
theorem dX9_rests_69 : decode cX9_rests 69 = .ok (.ireturn, 1) := by decide +kernel
theorem dX9_blocked_0 : decode cX9_blocked 0 = .ok (.aload_n 0, 1) := by decide +kernel
theorem dX9_blocked_1 : decode cX9_blocked 1 = .ok (.getfield 10, 3) := by decide +kernel
theorem dX9_blocked_4 : decode cX9_blocked 4 = .ok (.iload_n 1, 1) := by decide +kernel
theorem dX9_blocked_5 : decode cX9_blocked 5 = .ok (.invokevirtual 159, 3) := by decide +kernel
theorem dX9_blocked_8 : decode cX9_blocked 8 = .ok (.astore_n 2, 1) := by decide +kernel
theorem dX9_blocked_9 : decode cX9_blocked 9 = .ok (.aload_n 2, 1) := by decide +kernel
theorem dX9_blocked_10 : decode cX9_blocked 10 = .ok (.ifnonnull 6, 3) := by decide +kernel
theorem dX9_blocked_13 : decode cX9_blocked 13 = .ok (.bipush (-2), 2) := by decide +kernel
theorem dX9_blocked_15 : decode cX9_blocked 15 = .ok (.ireturn, 1) := by decide +kernel
theorem dX9_blocked_16 : decode cX9_blocked 16 = .ok (.aload_n 0, 1) := by decide +kernel
theorem dX9_blocked_17 : decode cX9_blocked 17 = .ok (.getfield 28, 3) := by decide +kernel
theorem dX9_blocked_20 : decode cX9_blocked 20 = .ok (.aload_n 0, 1) := by decide +kernel
theorem dX9_blocked_21 : decode cX9_blocked 21 = .ok (.getfield 21, 3) := by decide +kernel
theorem dX9_blocked_24 : decode cX9_blocked 24 = .ok (.bipush 8, 2) := by decide +kernel
theorem dX9_blocked_26 : decode cX9_blocked 26 = .ok (.invokevirtual 191, 3) := by decide +kernel
theorem dX9_blocked_29 : decode cX9_blocked 29 = .ok (.iconst 0, 1) := by decide +kernel
theorem dX9_blocked_30 : decode cX9_blocked 30 = .ok (.istore_n 3, 1) := by decide +kernel
theorem dX9_blocked_31 : decode cX9_blocked 31 = .ok (.iconst 0, 1) := by decide +kernel
theorem dX9_blocked_32 : decode cX9_blocked 32 = .ok (.istore 4, 2) := by decide +kernel
theorem dX9_blocked_34 : decode cX9_blocked 34 = .ok (.iconst 0, 1) := by decide +kernel
theorem dX9_blocked_35 : decode cX9_blocked 35 = .ok (.istore 5, 2) := by decide +kernel
theorem dX9_blocked_37 : decode cX9_blocked 37 = .ok (.iload 5, 2) := by decide +kernel
theorem dX9_blocked_39 : decode cX9_blocked 39 = .ok (.aload_n 2, 1) := by decide +kernel
theorem dX9_blocked_40 : decode cX9_blocked 40 = .ok (.getfield 163, 3) := by decide +kernel
theorem dX9_blocked_43 : decode cX9_blocked 43 = .ok (.if_icmp .ge 70, 3) := by decide +kernel
theorem dX9_blocked_46 : decode cX9_blocked 46 = .ok (.aload_n 0, 1) := by decide +kernel
theorem dX9_blocked_47 : decode cX9_blocked 47 = .ok (.getfield 28, 3) := by decide +kernel
theorem dX9_blocked_50 : decode cX9_blocked 50 = .ok (.aload_n 2, 1) := by decide +kernel
theorem dX9_blocked_51 : decode cX9_blocked 51 = .ok (.getfield 166, 3) := by decide +kernel
theorem dX9_blocked_54 : decode cX9_blocked 54 = .ok (.iload 5, 2) := by decide +kernel
theorem dX9_blocked_56 : decode cX9_blocked 56 = .ok (.iaload, 1) := by decide +kernel
theorem dX9_blocked_57 : decode cX9_blocked 57 = .ok (.aload_n 2, 1) := by decide +kernel
theorem dX9_blocked_58 : decode cX9_blocked 58 = .ok (.getfield 169, 3) := by decide +kernel
theorem dX9_blocked_61 : decode cX9_blocked 61 = .ok (.iload 5, 2) := by decide +kernel
theorem dX9_blocked_63 : decode cX9_blocked 63 = .ok (.iaload, 1) := by decide +kernel
theorem dX9_blocked_64 : decode cX9_blocked 64 = .ok (.invokevirtual 175, 3) := by decide +kernel
theorem dX9_blocked_67 : decode cX9_blocked 67 = .ok (.pop, 1) := by decide +kernel
theorem dX9_blocked_68 : decode cX9_blocked 68 = .ok (.aload_n 2, 1) := by decide +kernel
theorem dX9_blocked_69 : decode cX9_blocked 69 = .ok (.getfield 169, 3) := by decide +kernel
theorem dX9_blocked_72 : decode cX9_blocked 72 = .ok (.iload 5, 2) := by decide +kernel
theorem dX9_blocked_74 : decode cX9_blocked 74 = .ok (.iaload, 1) := by decide +kernel
theorem dX9_blocked_75 : decode cX9_blocked 75 = .ok (.ifCond .eq 32, 3) := by decide +kernel
theorem dX9_blocked_78 : decode cX9_blocked 78 = .ok (.iload_n 3, 1) := by decide +kernel
theorem dX9_blocked_79 : decode cX9_blocked 79 = .ok (.aload_n 2, 1) := by decide +kernel
theorem dX9_blocked_80 : decode cX9_blocked 80 = .ok (.getfield 166, 3) := by decide +kernel
theorem dX9_blocked_83 : decode cX9_blocked 83 = .ok (.iload 5, 2) := by decide +kernel
theorem dX9_blocked_85 : decode cX9_blocked 85 = .ok (.iaload, 1) := by decide +kernel
theorem dX9_blocked_86 : decode cX9_blocked 86 = .ok (.ior, 1) := by decide +kernel
theorem dX9_blocked_87 : decode cX9_blocked 87 = .ok (.istore_n 3, 1) := by decide +kernel
theorem dX9_blocked_88 : decode cX9_blocked 88 = .ok (.iload 4, 2) := by decide +kernel
theorem dX9_blocked_90 : decode cX9_blocked 90 = .ok (.aload_n 0, 1) := by decide +kernel
theorem dX9_blocked_91 : decode cX9_blocked 91 = .ok (.getfield 28, 3) := by decide +kernel
theorem dX9_blocked_94 : decode cX9_blocked 94 = .ok (.aload_n 2, 1) := by decide +kernel
theorem dX9_blocked_95 : decode cX9_blocked 95 = .ok (.getfield 166, 3) := by decide +kernel
theorem dX9_blocked_98 : decode cX9_blocked 98 = .ok (.iload 5, 2) := by decide +kernel
theorem dX9_blocked_100 : decode cX9_blocked 100 = .ok (.iaload, 1) := by decide +kernel
theorem dX9_blocked_101 : decode cX9_blocked 101 = .ok (.invokevirtual 199, 3) := by decide +kernel
theorem dX9_blocked_104 : decode cX9_blocked 104 = .ok (.ior, 1) := by decide +kernel
theorem dX9_blocked_105 : decode cX9_blocked 105 = .ok (.istore 4, 2) := by decide +kernel
theorem dX9_blocked_107 : decode cX9_blocked 107 = .ok (.iinc 5 1, 3) := by decide +kernel
theorem dX9_blocked_110 : decode cX9_blocked 110 = .ok (.goto (-73), 3) := by decide +kernel
theorem dX9_blocked_113 : decode cX9_blocked 113 = .ok (.iload_n 3, 1) := by decide +kernel
theorem dX9_blocked_114 : decode cX9_blocked 114 = .ok (.iload 4, 2) := by decide +kernel
theorem dX9_blocked_116 : decode cX9_blocked 116 = .ok (.iconst (-1), 1) := by decide +kernel
theorem dX9_blocked_117 : decode cX9_blocked 117 = .ok (.ixor, 1) := by decide +kernel
theorem dX9_blocked_118 : decode cX9_blocked 118 = .ok (.iand, 1) := by decide +kernel
theorem dX9_blocked_119 : decode cX9_blocked 119 = .ok (.ireturn, 1) := by decide +kernel
theorem dX9_counted_0 : decode cX9_counted 0 = .ok (.aload_n 0, 1) := by decide +kernel
theorem dX9_counted_1 : decode cX9_counted 1 = .ok (.getfield 10, 3) := by decide +kernel
theorem dX9_counted_4 : decode cX9_counted 4 = .ok (.iload_n 1, 1) := by decide +kernel
theorem dX9_counted_5 : decode cX9_counted 5 = .ok (.invokevirtual 81, 3) := by decide +kernel
theorem dX9_counted_8 : decode cX9_counted 8 = .ok (.ifCond .eq 19, 3) := by decide +kernel
theorem dX9_counted_11 : decode cX9_counted 11 = .ok (.iload_n 2, 1) := by decide +kernel
theorem dX9_counted_12 : decode cX9_counted 12 = .ok (.invokestatic 103, 3) := by decide +kernel
theorem dX9_counted_15 : decode cX9_counted 15 = .ok (.ifCond .eq 12, 3) := by decide +kernel
theorem dX9_counted_18 : decode cX9_counted 18 = .ok (.iload_n 3, 1) := by decide +kernel
theorem dX9_counted_19 : decode cX9_counted 19 = .ok (.iconst 0, 1) := by decide +kernel
theorem dX9_counted_20 : decode cX9_counted 20 = .ok (.iconst 1, 1) := by decide +kernel
theorem dX9_counted_21 : decode cX9_counted 21 = .ok (.invokestatic 70, 3) := by decide +kernel
theorem dX9_counted_24 : decode cX9_counted 24 = .ok (.ifCond .ne 7, 3) := by decide +kernel
theorem dX9_counted_27 : decode cX9_counted 27 = .ok (.ldc2_w 85, 3) := by decide +kernel
theorem dX9_counted_30 : decode cX9_counted 30 = .ok (.lreturn, 1) := by decide +kernel
theorem dX9_counted_31 : decode cX9_counted 31 = .ok (.aload_n 0, 1) := by decide +kernel
theorem dX9_counted_32 : decode cX9_counted 32 = .ok (.getfield 21, 3) := by decide +kernel
theorem dX9_counted_35 : decode cX9_counted 35 = .ok (.getfield 90, 3) := by decide +kernel
theorem dX9_counted_38 : decode cX9_counted 38 = .ok (.iload_n 1, 1) := by decide +kernel
theorem dX9_counted_39 : decode cX9_counted 39 = .ok (.iaload, 1) := by decide +kernel
theorem dX9_counted_40 : decode cX9_counted 40 = .ok (.i2l, 1) := by decide +kernel
theorem dX9_counted_41 : decode cX9_counted 41 = .ok (.lstore 4, 2) := by decide +kernel
theorem dX9_counted_43 : decode cX9_counted 43 = .ok (.aload_n 0, 1) := by decide +kernel
theorem dX9_counted_44 : decode cX9_counted 44 = .ok (.getfield 21, 3) := by decide +kernel
theorem dX9_counted_47 : decode cX9_counted 47 = .ok (.invokevirtual 202, 3) := by decide +kernel
theorem dX9_counted_50 : decode cX9_counted 50 = .ok (.i2l, 1) := by decide +kernel
theorem dX9_counted_51 : decode cX9_counted 51 = .ok (.lload 4, 2) := by decide +kernel
theorem dX9_counted_53 : decode cX9_counted 53 = .ok (.lsub, 1) := by decide +kernel
theorem dX9_counted_54 : decode cX9_counted 54 = .ok (.lstore 6, 2) := by decide +kernel
theorem dX9_counted_56 : decode cX9_counted 56 = .ok (.aload_n 0, 1) := by decide +kernel
theorem dX9_counted_57 : decode cX9_counted 57 = .ok (.getfield 21, 3) := by decide +kernel
theorem dX9_counted_60 : decode cX9_counted 60 = .ok (.getfield 206, 3) := by decide +kernel
theorem dX9_counted_63 : decode cX9_counted 63 = .ok (.iload_n 1, 1) := by decide +kernel
theorem dX9_counted_64 : decode cX9_counted 64 = .ok (.iconst 4, 1) := by decide +kernel
theorem dX9_counted_65 : decode cX9_counted 65 = .ok (.imul, 1) := by decide +kernel
theorem dX9_counted_66 : decode cX9_counted 66 = .ok (.iload_n 2, 1) := by decide +kernel
theorem dX9_counted_67 : decode cX9_counted 67 = .ok (.iadd, 1) := by decide +kernel
theorem dX9_counted_68 : decode cX9_counted 68 = .ok (.iaload, 1) := by decide +kernel
theorem dX9_counted_69 : decode cX9_counted 69 = .ok (.i2l, 1) := by decide +kernel
theorem dX9_counted_70 : decode cX9_counted 70 = .ok (.lstore 8, 2) := by decide +kernel
theorem dX9_counted_72 : decode cX9_counted 72 = .ok (.aload_n 0, 1) := by decide +kernel
theorem dX9_counted_73 : decode cX9_counted 73 = .ok (.getfield 21, 3) := by decide +kernel
theorem dX9_counted_76 : decode cX9_counted 76 = .ok (.getfield 209, 3) := by decide +kernel
theorem dX9_counted_79 : decode cX9_counted 79 = .ok (.iload_n 2, 1) := by decide +kernel
theorem dX9_counted_80 : decode cX9_counted 80 = .ok (.iaload, 1) := by decide +kernel
theorem dX9_counted_81 : decode cX9_counted 81 = .ok (.i2l, 1) := by decide +kernel
theorem dX9_counted_82 : decode cX9_counted 82 = .ok (.lload 8, 2) := by decide +kernel
theorem dX9_counted_84 : decode cX9_counted 84 = .ok (.lsub, 1) := by decide +kernel
theorem dX9_counted_85 : decode cX9_counted 85 = .ok (.lstore 10, 2) := by decide +kernel
theorem dX9_counted_87 : decode cX9_counted 87 = .ok (.lconst 1, 1) := by decide +kernel
theorem dX9_counted_88 : decode cX9_counted 88 = .ok (.lload 4, 2) := by decide +kernel
theorem dX9_counted_90 : decode cX9_counted 90 = .ok (.invokestatic 212, 3) := by decide +kernel
theorem dX9_counted_93 : decode cX9_counted 93 = .ok (.lstore 12, 2) := by decide +kernel
theorem dX9_counted_95 : decode cX9_counted 95 = .ok (.lconst 1, 1) := by decide +kernel
theorem dX9_counted_96 : decode cX9_counted 96 = .ok (.lload 6, 2) := by decide +kernel
theorem dX9_counted_98 : decode cX9_counted 98 = .ok (.invokestatic 212, 3) := by decide +kernel
theorem dX9_counted_101 : decode cX9_counted 101 = .ok (.lstore 14, 2) := by decide +kernel
theorem dX9_counted_103 : decode cX9_counted 103 = .ok (.lload 8, 2) := by decide +kernel
theorem dX9_counted_105 : decode cX9_counted 105 = .ok (.lload 14, 2) := by decide +kernel
theorem dX9_counted_107 : decode cX9_counted 107 = .ok (.lmul, 1) := by decide +kernel
theorem dX9_counted_108 : decode cX9_counted 108 = .ok (.lload 10, 2) := by decide +kernel
theorem dX9_counted_110 : decode cX9_counted 110 = .ok (.lload 12, 2) := by decide +kernel
theorem dX9_counted_112 : decode cX9_counted 112 = .ok (.lmul, 1) := by decide +kernel
theorem dX9_counted_113 : decode cX9_counted 113 = .ok (.lsub, 1) := by decide +kernel
theorem dX9_counted_114 : decode cX9_counted 114 = .ok (.lstore 16, 2) := by decide +kernel
theorem dX9_counted_116 : decode cX9_counted 116 = .ok (.lload 12, 2) := by decide +kernel
theorem dX9_counted_118 : decode cX9_counted 118 = .ok (.lload 14, 2) := by decide +kernel
theorem dX9_counted_120 : decode cX9_counted 120 = .ok (.lmul, 1) := by decide +kernel
theorem dX9_counted_121 : decode cX9_counted 121 = .ok (.lstore 18, 2) := by decide +kernel
theorem dX9_counted_123 : decode cX9_counted 123 = .ok (.lload 16, 2) := by decide +kernel
theorem dX9_counted_125 : decode cX9_counted 125 = .ok (.invokestatic 218, 3) := by decide +kernel
theorem dX9_counted_128 : decode cX9_counted 128 = .ok (.lload 18, 2) := by decide +kernel
theorem dX9_counted_130 : decode cX9_counted 130 = .ok (.invokestatic 222, 3) := by decide +kernel
theorem dX9_counted_133 : decode cX9_counted 133 = .ok (.lstore 20, 2) := by decide +kernel
theorem dX9_counted_135 : decode cX9_counted 135 = .ok (.iload_n 3, 1) := by decide +kernel
theorem dX9_counted_136 : decode cX9_counted 136 = .ok (.ifCond .ne 8, 3) := by decide +kernel
theorem dX9_counted_139 : decode cX9_counted 139 = .ok (.lload 16, 2) := by decide +kernel
theorem dX9_counted_141 : decode cX9_counted 141 = .ok (.goto 5, 3) := by decide +kernel
theorem dX9_counted_144 : decode cX9_counted 144 = .ok (.lload 18, 2) := by decide +kernel
theorem dX9_counted_146 : decode cX9_counted 146 = .ok (.lload 20, 2) := by decide +kernel
theorem dX9_counted_148 : decode cX9_counted 148 = .ok (.ldiv, 1) := by decide +kernel
theorem dX9_counted_149 : decode cX9_counted 149 = .ok (.lreturn, 1) := by decide +kernel
theorem dX9_watched_0 : decode cX9_watched 0 = .ok (.aload_n 0, 1) := by decide +kernel
theorem dX9_watched_1 : decode cX9_watched 1 = .ok (.getfield 10, 3) := by decide +kernel
theorem dX9_watched_4 : decode cX9_watched 4 = .ok (.iload_n 1, 1) := by decide +kernel
theorem dX9_watched_5 : decode cX9_watched 5 = .ok (.invokevirtual 159, 3) := by decide +kernel
theorem dX9_watched_8 : decode cX9_watched 8 = .ok (.ifnull 21, 3) := by decide +kernel
theorem dX9_watched_11 : decode cX9_watched 11 = .ok (.aload_n 0, 1) := by decide +kernel
theorem dX9_watched_12 : decode cX9_watched 12 = .ok (.iload_n 2, 1) := by decide +kernel
theorem dX9_watched_13 : decode cX9_watched 13 = .ok (.invokevirtual 225, 3) := by decide +kernel
theorem dX9_watched_16 : decode cX9_watched 16 = .ok (.ifCond .eq 13, 3) := by decide +kernel
theorem dX9_watched_19 : decode cX9_watched 19 = .ok (.iload_n 3, 1) := by decide +kernel
theorem dX9_watched_20 : decode cX9_watched 20 = .ok (.iconst 0, 1) := by decide +kernel
theorem dX9_watched_21 : decode cX9_watched 21 = .ok (.bipush 99, 2) := by decide +kernel
theorem dX9_watched_23 : decode cX9_watched 23 = .ok (.invokestatic 70, 3) := by decide +kernel
theorem dX9_watched_26 : decode cX9_watched 26 = .ok (.ifCond .ne 6, 3) := by decide +kernel
theorem dX9_watched_29 : decode cX9_watched 29 = .ok (.bipush (-2), 2) := by decide +kernel
theorem dX9_watched_31 : decode cX9_watched 31 = .ok (.ireturn, 1) := by decide +kernel
theorem dX9_watched_32 : decode cX9_watched 32 = .ok (.aload_n 0, 1) := by decide +kernel
theorem dX9_watched_33 : decode cX9_watched 33 = .ok (.getfield 55, 3) := by decide +kernel
theorem dX9_watched_36 : decode cX9_watched 36 = .ok (.getfield 228, 3) := by decide +kernel
theorem dX9_watched_39 : decode cX9_watched 39 = .ok (.bipush 20, 2) := by decide +kernel
theorem dX9_watched_41 : decode cX9_watched 41 = .ok (.if_icmp .lt 6, 3) := by decide +kernel
theorem dX9_watched_44 : decode cX9_watched 44 = .ok (.bipush (-4), 2) := by decide +kernel
theorem dX9_watched_46 : decode cX9_watched 46 = .ok (.ireturn, 1) := by decide +kernel
theorem dX9_watched_47 : decode cX9_watched 47 = .ok (.aload_n 0, 1) := by decide +kernel
theorem dX9_watched_48 : decode cX9_watched 48 = .ok (.getfield 55, 3) := by decide +kernel
theorem dX9_watched_51 : decode cX9_watched 51 = .ok (.iload_n 1, 1) := by decide +kernel
theorem dX9_watched_52 : decode cX9_watched 52 = .ok (.iload_n 2, 1) := by decide +kernel
theorem dX9_watched_53 : decode cX9_watched 53 = .ok (.iload_n 3, 1) := by decide +kernel
theorem dX9_watched_54 : decode cX9_watched 54 = .ok (.invokevirtual 229, 3) := by decide +kernel
theorem dX9_watched_57 : decode cX9_watched 57 = .ok (.aload_n 0, 1) := by decide +kernel
theorem dX9_watched_58 : decode cX9_watched 58 = .ok (.getfield 55, 3) := by decide +kernel
theorem dX9_watched_61 : decode cX9_watched 61 = .ok (.getfield 228, 3) := by decide +kernel
theorem dX9_watched_64 : decode cX9_watched 64 = .ok (.iconst 1, 1) := by decide +kernel
theorem dX9_watched_65 : decode cX9_watched 65 = .ok (.isub, 1) := by decide +kernel
theorem dX9_watched_66 : decode cX9_watched 66 = .ok (.ireturn, 1) := by decide +kernel
theorem dX9_lets_0 : decode cX9_lets 0 = .ok (.iload_n 1, 1) := by decide +kernel
theorem dX9_lets_1 : decode cX9_lets 1 = .ok (.iconst 0, 1) := by decide +kernel
theorem dX9_lets_2 : decode cX9_lets 2 = .ok (.bipush 99, 2) := by decide +kernel
theorem dX9_lets_4 : decode cX9_lets 4 = .ok (.invokestatic 70, 3) := by decide +kernel
theorem dX9_lets_7 : decode cX9_lets 7 = .ok (.ifCond .eq 12, 3) := by decide +kernel
theorem dX9_lets_10 : decode cX9_lets 10 = .ok (.iload_n 2, 1) := by decide +kernel
theorem dX9_lets_11 : decode cX9_lets 11 = .ok (.iconst 0, 1) := by decide +kernel
theorem dX9_lets_12 : decode cX9_lets 12 = .ok (.iconst 2, 1) := by decide +kernel
theorem dX9_lets_13 : decode cX9_lets 13 = .ok (.invokestatic 70, 3) := by decide +kernel
theorem dX9_lets_16 : decode cX9_lets 16 = .ok (.ifCond .ne 6, 3) := by decide +kernel
theorem dX9_lets_19 : decode cX9_lets 19 = .ok (.bipush (-2), 2) := by decide +kernel
theorem dX9_lets_21 : decode cX9_lets 21 = .ok (.ireturn, 1) := by decide +kernel
theorem dX9_lets_22 : decode cX9_lets 22 = .ok (.aload_n 0, 1) := by decide +kernel
theorem dX9_lets_23 : decode cX9_lets 23 = .ok (.iload_n 1, 1) := by decide +kernel
theorem dX9_lets_24 : decode cX9_lets 24 = .ok (.invokevirtual 232, 3) := by decide +kernel
theorem dX9_lets_27 : decode cX9_lets 27 = .ok (.iload_n 2, 1) := by decide +kernel
theorem dX9_lets_28 : decode cX9_lets 28 = .ok (.ifCond .ne 11, 3) := by decide +kernel
theorem dX9_lets_31 : decode cX9_lets 31 = .ok (.aload_n 0, 1) := by decide +kernel
theorem dX9_lets_32 : decode cX9_lets 32 = .ok (.getfield 55, 3) := by decide +kernel
theorem dX9_lets_35 : decode cX9_lets 35 = .ok (.getfield 236, 3) := by decide +kernel
theorem dX9_lets_38 : decode cX9_lets 38 = .ok (.ireturn, 1) := by decide +kernel
theorem dX9_lets_39 : decode cX9_lets 39 = .ok (.iload_n 2, 1) := by decide +kernel
theorem dX9_lets_40 : decode cX9_lets 40 = .ok (.iconst 1, 1) := by decide +kernel
theorem dX9_lets_41 : decode cX9_lets 41 = .ok (.if_icmp .ne 13, 3) := by decide +kernel
theorem dX9_lets_44 : decode cX9_lets 44 = .ok (.aload_n 0, 1) := by decide +kernel
theorem dX9_lets_45 : decode cX9_lets 45 = .ok (.getfield 55, 3) := by decide +kernel
theorem dX9_lets_48 : decode cX9_lets 48 = .ok (.getfield 239, 3) := by decide +kernel
theorem dX9_lets_51 : decode cX9_lets 51 = .ok (.goto 10, 3) := by decide +kernel
theorem dX9_lets_54 : decode cX9_lets 54 = .ok (.aload_n 0, 1) := by decide +kernel
theorem dX9_lets_55 : decode cX9_lets 55 = .ok (.getfield 55, 3) := by decide +kernel
theorem dX9_lets_58 : decode cX9_lets 58 = .ok (.getfield 242, 3) := by decide +kernel
theorem dX9_lets_61 : decode cX9_lets 61 = .ok (.ireturn, 1) := by decide +kernel
theorem dX9_thrownOut_0 : decode cX9_thrownOut 0 = .ok (.iload_n 1, 1) := by decide +kernel
theorem dX9_thrownOut_1 : decode cX9_thrownOut 1 = .ok (.iconst 0, 1) := by decide +kernel
theorem dX9_thrownOut_2 : decode cX9_thrownOut 2 = .ok (.bipush 99, 2) := by decide +kernel
theorem dX9_thrownOut_4 : decode cX9_thrownOut 4 = .ok (.invokestatic 70, 3) := by decide +kernel
theorem dX9_thrownOut_7 : decode cX9_thrownOut 7 = .ok (.ifCond .ne 6, 3) := by decide +kernel
theorem dX9_thrownOut_10 : decode cX9_thrownOut 10 = .ok (.bipush (-2), 2) := by decide +kernel
theorem dX9_thrownOut_12 : decode cX9_thrownOut 12 = .ok (.ireturn, 1) := by decide +kernel
theorem dX9_thrownOut_13 : decode cX9_thrownOut 13 = .ok (.aload_n 0, 1) := by decide +kernel
theorem dX9_thrownOut_14 : decode cX9_thrownOut 14 = .ok (.iload_n 1, 1) := by decide +kernel
theorem dX9_thrownOut_15 : decode cX9_thrownOut 15 = .ok (.invokevirtual 232, 3) := by decide +kernel
theorem dX9_thrownOut_18 : decode cX9_thrownOut 18 = .ok (.aload_n 0, 1) := by decide +kernel
theorem dX9_thrownOut_19 : decode cX9_thrownOut 19 = .ok (.getfield 55, 3) := by decide +kernel
theorem dX9_thrownOut_22 : decode cX9_thrownOut 22 = .ok (.getfield 236, 3) := by decide +kernel
theorem dX9_thrownOut_25 : decode cX9_thrownOut 25 = .ok (.ifCond .le 7, 3) := by decide +kernel
theorem dX9_thrownOut_28 : decode cX9_thrownOut 28 = .ok (.iconst (-1), 1) := by decide +kernel
theorem dX9_thrownOut_29 : decode cX9_thrownOut 29 = .ok (.goto 10, 3) := by decide +kernel
theorem dX9_thrownOut_32 : decode cX9_thrownOut 32 = .ok (.aload_n 0, 1) := by decide +kernel
theorem dX9_thrownOut_33 : decode cX9_thrownOut 33 = .ok (.getfield 55, 3) := by decide +kernel
theorem dX9_thrownOut_36 : decode cX9_thrownOut 36 = .ok (.getfield 245, 3) := by decide +kernel
theorem dX9_thrownOut_39 : decode cX9_thrownOut 39 = .ok (.ireturn, 1) := by decide +kernel
theorem dX9_next_0 : decode cX9_next 0 = .ok (.iload_n 1, 1) := by decide +kernel
theorem dX9_next_1 : decode cX9_next 1 = .ok (.iconst 0, 1) := by decide +kernel
theorem dX9_next_2 : decode cX9_next 2 = .ok (.bipush 99, 2) := by decide +kernel
theorem dX9_next_4 : decode cX9_next 4 = .ok (.invokestatic 70, 3) := by decide +kernel
theorem dX9_next_7 : decode cX9_next 7 = .ok (.ifCond .eq 20, 3) := by decide +kernel
theorem dX9_next_10 : decode cX9_next 10 = .ok (.aload_n 0, 1) := by decide +kernel
theorem dX9_next_11 : decode cX9_next 11 = .ok (.iload_n 2, 1) := by decide +kernel
theorem dX9_next_12 : decode cX9_next 12 = .ok (.invokevirtual 225, 3) := by decide +kernel
theorem dX9_next_15 : decode cX9_next 15 = .ok (.ifCond .eq 12, 3) := by decide +kernel
theorem dX9_next_18 : decode cX9_next 18 = .ok (.iload_n 3, 1) := by decide +kernel
theorem dX9_next_19 : decode cX9_next 19 = .ok (.iconst 0, 1) := by decide +kernel
theorem dX9_next_20 : decode cX9_next 20 = .ok (.iconst 1, 1) := by decide +kernel
theorem dX9_next_21 : decode cX9_next 21 = .ok (.invokestatic 70, 3) := by decide +kernel
theorem dX9_next_24 : decode cX9_next 24 = .ok (.ifCond .ne 6, 3) := by decide +kernel
theorem dX9_next_27 : decode cX9_next 27 = .ok (.bipush (-2), 2) := by decide +kernel
theorem dX9_next_29 : decode cX9_next 29 = .ok (.ireturn, 1) := by decide +kernel
theorem dX9_next_30 : decode cX9_next 30 = .ok (.aload_n 0, 1) := by decide +kernel
theorem dX9_next_31 : decode cX9_next 31 = .ok (.getfield 10, 3) := by decide +kernel
theorem dX9_next_34 : decode cX9_next 34 = .ok (.getfield 148, 3) := by decide +kernel
theorem dX9_next_37 : decode cX9_next 37 = .ok (.ifCond .ne 6, 3) := by decide +kernel
theorem dX9_next_40 : decode cX9_next 40 = .ok (.bipush (-3), 2) := by decide +kernel
theorem dX9_next_42 : decode cX9_next 42 = .ok (.ireturn, 1) := by decide +kernel
theorem dX9_next_43 : decode cX9_next 43 = .ok (.aload_n 0, 1) := by decide +kernel
theorem dX9_next_44 : decode cX9_next 44 = .ok (.iload_n 1, 1) := by decide +kernel
theorem dX9_next_45 : decode cX9_next 45 = .ok (.invokevirtual 232, 3) := by decide +kernel
theorem dX9_next_48 : decode cX9_next 48 = .ok (.aload_n 0, 1) := by decide +kernel
theorem dX9_next_49 : decode cX9_next 49 = .ok (.getfield 55, 3) := by decide +kernel
theorem dX9_next_52 : decode cX9_next 52 = .ok (.getfield 236, 3) := by decide +kernel
theorem dX9_next_55 : decode cX9_next 55 = .ok (.ifCond .ne 6, 3) := by decide +kernel
theorem dX9_next_58 : decode cX9_next 58 = .ok (.bipush (-3), 2) := by decide +kernel
theorem dX9_next_60 : decode cX9_next 60 = .ok (.ireturn, 1) := by decide +kernel
theorem dX9_next_61 : decode cX9_next 61 = .ok (.aload_n 0, 1) := by decide +kernel
theorem dX9_next_62 : decode cX9_next 62 = .ok (.iload_n 2, 1) := by decide +kernel
theorem dX9_next_63 : decode cX9_next 63 = .ok (.invokevirtual 248, 3) := by decide +kernel
theorem dX9_next_66 : decode cX9_next 66 = .ok (.iload_n 3, 1) := by decide +kernel
theorem dX9_next_67 : decode cX9_next 67 = .ok (.ifCond .ne 13, 3) := by decide +kernel
theorem dX9_next_70 : decode cX9_next 70 = .ok (.aload_n 0, 1) := by decide +kernel
theorem dX9_next_71 : decode cX9_next 71 = .ok (.getfield 55, 3) := by decide +kernel
theorem dX9_next_74 : decode cX9_next 74 = .ok (.getfield 251, 3) := by decide +kernel
theorem dX9_next_77 : decode cX9_next 77 = .ok (.goto 10, 3) := by decide +kernel
theorem dX9_next_80 : decode cX9_next 80 = .ok (.aload_n 0, 1) := by decide +kernel
theorem dX9_next_81 : decode cX9_next 81 = .ok (.getfield 55, 3) := by decide +kernel
theorem dX9_next_84 : decode cX9_next 84 = .ok (.getfield 254, 3) := by decide +kernel
theorem dX9_next_87 : decode cX9_next 87 = .ok (.ireturn, 1) := by decide +kernel
theorem dX9_near_0 : decode cX9_near 0 = .ok (.aload_n 0, 1) := by decide +kernel
theorem dX9_near_1 : decode cX9_near 1 = .ok (.getfield 10, 3) := by decide +kernel
theorem dX9_near_4 : decode cX9_near 4 = .ok (.iload_n 3, 1) := by decide +kernel
theorem dX9_near_5 : decode cX9_near 5 = .ok (.invokevirtual 159, 3) := by decide +kernel
theorem dX9_near_8 : decode cX9_near 8 = .ok (.astore 6, 2) := by decide +kernel
theorem dX9_near_10 : decode cX9_near 10 = .ok (.aload_n 0, 1) := by decide +kernel
theorem dX9_near_11 : decode cX9_near 11 = .ok (.getfield 10, 3) := by decide +kernel
theorem dX9_near_14 : decode cX9_near 14 = .ok (.iload_n 1, 1) := by decide +kernel
theorem dX9_near_15 : decode cX9_near 15 = .ok (.iload_n 2, 1) := by decide +kernel
theorem dX9_near_16 : decode cX9_near 16 = .ok (.invokevirtual 109, 3) := by decide +kernel
theorem dX9_near_19 : decode cX9_near 19 = .ok (.ifCond .eq 30, 3) := by decide +kernel
theorem dX9_near_22 : decode cX9_near 22 = .ok (.aload 6, 2) := by decide +kernel
theorem dX9_near_24 : decode cX9_near 24 = .ok (.ifnull 25, 3) := by decide +kernel
theorem dX9_near_27 : decode cX9_near 27 = .ok (.iload 4, 2) := by decide +kernel
theorem dX9_near_29 : decode cX9_near 29 = .ok (.iconst 1, 1) := by decide +kernel
theorem dX9_near_30 : decode cX9_near 30 = .ok (.bipush 20, 2) := by decide +kernel
theorem dX9_near_32 : decode cX9_near 32 = .ok (.invokestatic 70, 3) := by decide +kernel
theorem dX9_near_35 : decode cX9_near 35 = .ok (.ifCond .eq 14, 3) := by decide +kernel
theorem dX9_near_38 : decode cX9_near 38 = .ok (.iload 5, 2) := by decide +kernel
theorem dX9_near_40 : decode cX9_near 40 = .ok (.iconst 1, 1) := by decide +kernel
theorem dX9_near_41 : decode cX9_near 41 = .ok (.bipush 99, 2) := by decide +kernel
theorem dX9_near_43 : decode cX9_near 43 = .ok (.invokestatic 70, 3) := by decide +kernel
theorem dX9_near_46 : decode cX9_near 46 = .ok (.ifCond .ne 6, 3) := by decide +kernel
theorem dX9_near_49 : decode cX9_near 49 = .ok (.bipush (-2), 2) := by decide +kernel
theorem dX9_near_51 : decode cX9_near 51 = .ok (.ireturn, 1) := by decide +kernel
theorem dX9_near_52 : decode cX9_near 52 = .ok (.aload_n 0, 1) := by decide +kernel
theorem dX9_near_53 : decode cX9_near 53 = .ok (.getfield 10, 3) := by decide +kernel
theorem dX9_near_56 : decode cX9_near 56 = .ok (.iload_n 1, 1) := by decide +kernel
theorem dX9_near_57 : decode cX9_near 57 = .ok (.iload_n 2, 1) := by decide +kernel
theorem dX9_near_58 : decode cX9_near 58 = .ok (.invokevirtual 113, 3) := by decide +kernel
theorem dX9_near_61 : decode cX9_near 61 = .ok (.istore 7, 2) := by decide +kernel
theorem dX9_near_63 : decode cX9_near 63 = .ok (.iconst (-1), 1) := by decide +kernel
theorem dX9_near_64 : decode cX9_near 64 = .ok (.istore 8, 2) := by decide +kernel
theorem dX9_near_66 : decode cX9_near 66 = .ok (.bipush 100, 2) := by decide +kernel
theorem dX9_near_68 : decode cX9_near 68 = .ok (.istore 9, 2) := by decide +kernel
theorem dX9_near_70 : decode cX9_near 70 = .ok (.iload 9, 2) := by decide +kernel
theorem dX9_near_72 : decode cX9_near 72 = .ok (.ifCond .lt 45, 3) := by decide +kernel
theorem dX9_near_75 : decode cX9_near 75 = .ok (.iload 8, 2) := by decide +kernel
theorem dX9_near_77 : decode cX9_near 77 = .ok (.iconst (-1), 1) := by decide +kernel
theorem dX9_near_78 : decode cX9_near 78 = .ok (.if_icmp .ne 39, 3) := by decide +kernel
theorem dX9_near_81 : decode cX9_near 81 = .ok (.aload_n 0, 1) := by decide +kernel
theorem dX9_near_82 : decode cX9_near 82 = .ok (.getfield 10, 3) := by decide +kernel
theorem dX9_near_85 : decode cX9_near 85 = .ok (.iload_n 1, 1) := by decide +kernel
theorem dX9_near_86 : decode cX9_near 86 = .ok (.iload_n 2, 1) := by decide +kernel
theorem dX9_near_87 : decode cX9_near 87 = .ok (.iload 9, 2) := by decide +kernel
theorem dX9_near_89 : decode cX9_near 89 = .ok (.invokevirtual 117, 3) := by decide +kernel
theorem dX9_near_92 : decode cX9_near 92 = .ok (.aload_n 0, 1) := by decide +kernel
theorem dX9_near_93 : decode cX9_near 93 = .ok (.iload_n 1, 1) := by decide +kernel
theorem dX9_near_94 : decode cX9_near 94 = .ok (.iload_n 2, 1) := by decide +kernel
theorem dX9_near_95 : decode cX9_near 95 = .ok (.aload 6, 2) := by decide +kernel
theorem dX9_near_97 : decode cX9_near 97 = .ok (.iload 4, 2) := by decide +kernel
theorem dX9_near_99 : decode cX9_near 99 = .ok (.invokevirtual 257, 3) := by decide +kernel
theorem dX9_near_102 : decode cX9_near 102 = .ok (.iload 5, 2) := by decide +kernel
theorem dX9_near_104 : decode cX9_near 104 = .ok (.if_icmp .lt 7, 3) := by decide +kernel
theorem dX9_near_107 : decode cX9_near 107 = .ok (.iload 9, 2) := by decide +kernel
theorem dX9_near_109 : decode cX9_near 109 = .ok (.istore 8, 2) := by decide +kernel
theorem dX9_near_111 : decode cX9_near 111 = .ok (.iinc 9 (-5), 3) := by decide +kernel
theorem dX9_near_114 : decode cX9_near 114 = .ok (.goto (-44), 3) := by decide +kernel
theorem dX9_near_117 : decode cX9_near 117 = .ok (.aload_n 0, 1) := by decide +kernel
theorem dX9_near_118 : decode cX9_near 118 = .ok (.getfield 10, 3) := by decide +kernel
theorem dX9_near_121 : decode cX9_near 121 = .ok (.iload_n 1, 1) := by decide +kernel
theorem dX9_near_122 : decode cX9_near 122 = .ok (.iload_n 2, 1) := by decide +kernel
theorem dX9_near_123 : decode cX9_near 123 = .ok (.iload 7, 2) := by decide +kernel
theorem dX9_near_125 : decode cX9_near 125 = .ok (.invokevirtual 117, 3) := by decide +kernel
theorem dX9_near_128 : decode cX9_near 128 = .ok (.iload 8, 2) := by decide +kernel
theorem dX9_near_130 : decode cX9_near 130 = .ok (.ireturn, 1) := by decide +kernel
theorem dX9_image_0 : decode cX9_image 0 = .ok (.aload_n 0, 1) := by decide +kernel
theorem dX9_image_1 : decode cX9_image 1 = .ok (.getfield 25, 3) := by decide +kernel
theorem dX9_image_4 : decode cX9_image 4 = .ok (.aload_n 0, 1) := by decide +kernel
theorem dX9_image_5 : decode cX9_image 5 = .ok (.getfield 21, 3) := by decide +kernel
theorem dX9_image_8 : decode cX9_image 8 = .ok (.bipush 8, 2) := by decide +kernel
theorem dX9_image_10 : decode cX9_image 10 = .ok (.invokevirtual 191, 3) := by decide +kernel
theorem dX9_image_13 : decode cX9_image 13 = .ok (.aload_n 0, 1) := by decide +kernel
theorem dX9_image_14 : decode cX9_image 14 = .ok (.aload_n 0, 1) := by decide +kernel
theorem dX9_image_15 : decode cX9_image 15 = .ok (.getfield 10, 3) := by decide +kernel
theorem dX9_image_18 : decode cX9_image 18 = .ok (.getfield 74, 3) := by decide +kernel
theorem dX9_image_21 : decode cX9_image 21 = .ok (.putfield 66, 3) := by decide +kernel
theorem dX9_image_24 : decode cX9_image 24 = .ok (.aload_n 0, 1) := by decide +kernel
theorem dX9_image_25 : decode cX9_image 25 = .ok (.getfield 21, 3) := by decide +kernel
theorem dX9_image_28 : decode cX9_image 28 = .ok (.getfield 184, 3) := by decide +kernel
theorem dX9_image_31 : decode cX9_image 31 = .ok (.ireturn, 1) := by decide +kernel
theorem dX9_back_0 : decode cX9_back 0 = .ok (.aload_n 0, 1) := by decide +kernel
theorem dX9_back_1 : decode cX9_back 1 = .ok (.getfield 66, 3) := by decide +kernel
theorem dX9_back_4 : decode cX9_back 4 = .ok (.iconst (-1), 1) := by decide +kernel
theorem dX9_back_5 : decode cX9_back 5 = .ok (.if_icmp .ne 6, 3) := by decide +kernel
theorem dX9_back_8 : decode cX9_back 8 = .ok (.bipush (-3), 2) := by decide +kernel
theorem dX9_back_10 : decode cX9_back 10 = .ok (.ireturn, 1) := by decide +kernel
theorem dX9_back_11 : decode cX9_back 11 = .ok (.aload_n 0, 1) := by decide +kernel
theorem dX9_back_12 : decode cX9_back 12 = .ok (.getfield 21, 3) := by decide +kernel
theorem dX9_back_15 : decode cX9_back 15 = .ok (.aload_n 0, 1) := by decide +kernel
theorem dX9_back_16 : decode cX9_back 16 = .ok (.getfield 25, 3) := by decide +kernel
theorem dX9_back_19 : decode cX9_back 19 = .ok (.aload_n 0, 1) := by decide +kernel
theorem dX9_back_20 : decode cX9_back 20 = .ok (.getfield 66, 3) := by decide +kernel
theorem dX9_back_23 : decode cX9_back 23 = .ok (.invokevirtual 191, 3) := by decide +kernel
theorem dX9_back_26 : decode cX9_back 26 = .ok (.aload_n 0, 1) := by decide +kernel
theorem dX9_back_27 : decode cX9_back 27 = .ok (.getfield 21, 3) := by decide +kernel
theorem dX9_back_30 : decode cX9_back 30 = .ok (.getfield 184, 3) := by decide +kernel
theorem dX9_back_33 : decode cX9_back 33 = .ok (.ireturn, 1) := by decide +kernel
theorem dX9_count_0 : decode cX9_count 0 = .ok (.iload_n 1, 1) := by decide +kernel
theorem dX9_count_1 : decode cX9_count 1 = .ok (.tableswitch 123 0 8 #[51, 59, 67, 75, 83, 91, 99, 107, 115], 51) := by decide +kernel
theorem dX9_count_52 : decode cX9_count 52 = .ok (.aload_n 0, 1) := by decide +kernel
theorem dX9_count_53 : decode cX9_count 53 = .ok (.getfield 10, 3) := by decide +kernel
theorem dX9_count_56 : decode cX9_count 56 = .ok (.getfield 74, 3) := by decide +kernel
theorem dX9_count_59 : decode cX9_count 59 = .ok (.ireturn, 1) := by decide +kernel
theorem dX9_count_60 : decode cX9_count 60 = .ok (.aload_n 0, 1) := by decide +kernel
theorem dX9_count_61 : decode cX9_count 61 = .ok (.getfield 21, 3) := by decide +kernel
theorem dX9_count_64 : decode cX9_count 64 = .ok (.getfield 184, 3) := by decide +kernel
theorem dX9_count_67 : decode cX9_count 67 = .ok (.ireturn, 1) := by decide +kernel
theorem dX9_count_68 : decode cX9_count 68 = .ok (.aload_n 0, 1) := by decide +kernel
theorem dX9_count_69 : decode cX9_count 69 = .ok (.getfield 10, 3) := by decide +kernel
theorem dX9_count_72 : decode cX9_count 72 = .ok (.getfield 148, 3) := by decide +kernel
theorem dX9_count_75 : decode cX9_count 75 = .ok (.ireturn, 1) := by decide +kernel
theorem dX9_count_76 : decode cX9_count 76 = .ok (.aload_n 0, 1) := by decide +kernel
theorem dX9_count_77 : decode cX9_count 77 = .ok (.getfield 10, 3) := by decide +kernel
theorem dX9_count_80 : decode cX9_count 80 = .ok (.getfield 131, 3) := by decide +kernel
theorem dX9_count_83 : decode cX9_count 83 = .ok (.ireturn, 1) := by decide +kernel
theorem dX9_count_84 : decode cX9_count 84 = .ok (.aload_n 0, 1) := by decide +kernel
theorem dX9_count_85 : decode cX9_count 85 = .ok (.getfield 34, 3) := by decide +kernel
theorem dX9_count_88 : decode cX9_count 88 = .ok (.getfield 124, 3) := by decide +kernel
theorem dX9_count_91 : decode cX9_count 91 = .ok (.ireturn, 1) := by decide +kernel
theorem dX9_count_92 : decode cX9_count 92 = .ok (.aload_n 0, 1) := by decide +kernel
theorem dX9_count_93 : decode cX9_count 93 = .ok (.getfield 21, 3) := by decide +kernel
theorem dX9_count_96 : decode cX9_count 96 = .ok (.getfield 145, 3) := by decide +kernel
theorem dX9_count_99 : decode cX9_count 99 = .ok (.ireturn, 1) := by decide +kernel
theorem dX9_count_100 : decode cX9_count 100 = .ok (.aload_n 0, 1) := by decide +kernel
theorem dX9_count_101 : decode cX9_count 101 = .ok (.getfield 55, 3) := by decide +kernel
theorem dX9_count_104 : decode cX9_count 104 = .ok (.getfield 228, 3) := by decide +kernel
theorem dX9_count_107 : decode cX9_count 107 = .ok (.ireturn, 1) := by decide +kernel
theorem dX9_count_108 : decode cX9_count 108 = .ok (.aload_n 0, 1) := by decide +kernel
theorem dX9_count_109 : decode cX9_count 109 = .ok (.getfield 21, 3) := by decide +kernel
theorem dX9_count_112 : decode cX9_count 112 = .ok (.invokevirtual 202, 3) := by decide +kernel
theorem dX9_count_115 : decode cX9_count 115 = .ok (.ireturn, 1) := by decide +kernel
theorem dX9_count_116 : decode cX9_count 116 = .ok (.aload_n 0, 1) := by decide +kernel
theorem dX9_count_117 : decode cX9_count 117 = .ok (.getfield 21, 3) := by decide +kernel
theorem dX9_count_120 : decode cX9_count 120 = .ok (.getfield 121, 3) := by decide +kernel
theorem dX9_count_123 : decode cX9_count 123 = .ok (.ireturn, 1) := by decide +kernel
theorem dX9_count_124 : decode cX9_count 124 = .ok (.bipush (-2), 2) := by decide +kernel
theorem dX9_count_126 : decode cX9_count 126 = .ok (.ireturn, 1) := by decide +kernel
theorem dX9_sheet_0 : decode cX9_sheet 0 = .ok (.iload_n 1, 1) := by decide +kernel
theorem dX9_sheet_1 : decode cX9_sheet 1 = .ok (.invokestatic 261, 3) := by decide +kernel
theorem dX9_sheet_4 : decode cX9_sheet 4 = .ok (.ifCond .eq 12, 3) := by decide +kernel
theorem dX9_sheet_7 : decode cX9_sheet 7 = .ok (.iload_n 2, 1) := by decide +kernel
theorem dX9_sheet_8 : decode cX9_sheet 8 = .ok (.iconst (-1), 1) := by decide +kernel
theorem dX9_sheet_9 : decode cX9_sheet 9 = .ok (.iconst 2, 1) := by decide +kernel
theorem dX9_sheet_10 : decode cX9_sheet 10 = .ok (.invokestatic 70, 3) := by decide +kernel
theorem dX9_sheet_13 : decode cX9_sheet 13 = .ok (.ifCond .ne 6, 3) := by decide +kernel
theorem dX9_sheet_16 : decode cX9_sheet 16 = .ok (.bipush (-2), 2) := by decide +kernel
theorem dX9_sheet_18 : decode cX9_sheet 18 = .ok (.ireturn, 1) := by decide +kernel
theorem dX9_sheet_19 : decode cX9_sheet 19 = .ok (.iload_n 2, 1) := by decide +kernel
theorem dX9_sheet_20 : decode cX9_sheet 20 = .ok (.iconst (-1), 1) := by decide +kernel
theorem dX9_sheet_21 : decode cX9_sheet 21 = .ok (.if_icmp .eq 12, 3) := by decide +kernel
theorem dX9_sheet_24 : decode cX9_sheet 24 = .ok (.iload_n 3, 1) := by decide +kernel
theorem dX9_sheet_25 : decode cX9_sheet 25 = .ok (.bipush 40, 2) := by decide +kernel
theorem dX9_sheet_27 : decode cX9_sheet 27 = .ok (.if_icmp .le 6, 3) := by decide +kernel
theorem dX9_sheet_30 : decode cX9_sheet 30 = .ok (.bipush (-2), 2) := by decide +kernel
theorem dX9_sheet_32 : decode cX9_sheet 32 = .ok (.ireturn, 1) := by decide +kernel
theorem dX9_sheet_33 : decode cX9_sheet 33 = .ok (.iload_n 2, 1) := by decide +kernel
theorem dX9_sheet_34 : decode cX9_sheet 34 = .ok (.iconst (-1), 1) := by decide +kernel
theorem dX9_sheet_35 : decode cX9_sheet 35 = .ok (.if_icmp .eq 10, 3) := by decide +kernel
theorem dX9_sheet_38 : decode cX9_sheet 38 = .ok (.iload_n 3, 1) := by decide +kernel
theorem dX9_sheet_39 : decode cX9_sheet 39 = .ok (.ifCond .ge 6, 3) := by decide +kernel
theorem dX9_sheet_42 : decode cX9_sheet 42 = .ok (.bipush (-14), 2) := by decide +kernel
theorem dX9_sheet_44 : decode cX9_sheet 44 = .ok (.ireturn, 1) := by decide +kernel
theorem dX9_sheet_45 : decode cX9_sheet 45 = .ok (.aload_n 0, 1) := by decide +kernel
theorem dX9_sheet_46 : decode cX9_sheet 46 = .ok (.getfield 61, 3) := by decide +kernel
theorem dX9_sheet_49 : decode cX9_sheet 49 = .ok (.iload_n 1, 1) := by decide +kernel
theorem dX9_sheet_50 : decode cX9_sheet 50 = .ok (.aaload, 1) := by decide +kernel
theorem dX9_sheet_51 : decode cX9_sheet 51 = .ok (.iload_n 2, 1) := by decide +kernel
theorem dX9_sheet_52 : decode cX9_sheet 52 = .ok (.iload_n 2, 1) := by decide +kernel
theorem dX9_sheet_53 : decode cX9_sheet 53 = .ok (.iconst (-1), 1) := by decide +kernel
theorem dX9_sheet_54 : decode cX9_sheet 54 = .ok (.if_icmp .ne 7, 3) := by decide +kernel
theorem dX9_sheet_57 : decode cX9_sheet 57 = .ok (.iconst 0, 1) := by decide +kernel
theorem dX9_sheet_58 : decode cX9_sheet 58 = .ok (.goto 4, 3) := by decide +kernel
theorem dX9_sheet_61 : decode cX9_sheet 61 = .ok (.iload_n 3, 1) := by decide +kernel
theorem dX9_sheet_62 : decode cX9_sheet 62 = .ok (.invokevirtual 264, 3) := by decide +kernel
theorem dX9_sheet_65 : decode cX9_sheet 65 = .ok (.iconst 1, 1) := by decide +kernel
theorem dX9_sheet_66 : decode cX9_sheet 66 = .ok (.ireturn, 1) := by decide +kernel
theorem dX9_cell_0 : decode cX9_cell 0 = .ok (.iload_n 1, 1) := by decide +kernel
theorem dX9_cell_1 : decode cX9_cell 1 = .ok (.invokestatic 261, 3) := by decide +kernel
theorem dX9_cell_4 : decode cX9_cell 4 = .ok (.ifCond .ne 6, 3) := by decide +kernel
theorem dX9_cell_7 : decode cX9_cell 7 = .ok (.bipush (-2), 2) := by decide +kernel
theorem dX9_cell_9 : decode cX9_cell 9 = .ok (.ireturn, 1) := by decide +kernel
theorem dX9_cell_10 : decode cX9_cell 10 = .ok (.aload_n 0, 1) := by decide +kernel
theorem dX9_cell_11 : decode cX9_cell 11 = .ok (.getfield 61, 3) := by decide +kernel
theorem dX9_cell_14 : decode cX9_cell 14 = .ok (.iload_n 1, 1) := by decide +kernel
theorem dX9_cell_15 : decode cX9_cell 15 = .ok (.aaload, 1) := by decide +kernel
theorem dX9_cell_16 : decode cX9_cell 16 = .ok (.astore 4, 2) := by decide +kernel
theorem dX9_cell_18 : decode cX9_cell 18 = .ok (.aload 4, 2) := by decide +kernel
theorem dX9_cell_20 : decode cX9_cell 20 = .ok (.invokevirtual 268, 3) := by decide +kernel
theorem dX9_cell_23 : decode cX9_cell 23 = .ok (.ifCond .eq 6, 3) := by decide +kernel
theorem dX9_cell_26 : decode cX9_cell 26 = .ok (.bipush (-11), 2) := by decide +kernel
theorem dX9_cell_28 : decode cX9_cell 28 = .ok (.ireturn, 1) := by decide +kernel
theorem dX9_cell_29 : decode cX9_cell 29 = .ok (.aload 4, 2) := by decide +kernel
theorem dX9_cell_31 : decode cX9_cell 31 = .ok (.iload_n 2, 1) := by decide +kernel
theorem dX9_cell_32 : decode cX9_cell 32 = .ok (.invokevirtual 272, 3) := by decide +kernel
theorem dX9_cell_35 : decode cX9_cell 35 = .ok (.ifCond .ne 6, 3) := by decide +kernel
theorem dX9_cell_38 : decode cX9_cell 38 = .ok (.bipush (-12), 2) := by decide +kernel
theorem dX9_cell_40 : decode cX9_cell 40 = .ok (.ireturn, 1) := by decide +kernel
theorem dX9_cell_41 : decode cX9_cell 41 = .ok (.aload 4, 2) := by decide +kernel
theorem dX9_cell_43 : decode cX9_cell 43 = .ok (.iload_n 2, 1) := by decide +kernel
theorem dX9_cell_44 : decode cX9_cell 44 = .ok (.iload_n 3, 1) := by decide +kernel
theorem dX9_cell_45 : decode cX9_cell 45 = .ok (.invokevirtual 275, 3) := by decide +kernel
theorem dX9_cell_48 : decode cX9_cell 48 = .ok (.iconst 1, 1) := by decide +kernel
theorem dX9_cell_49 : decode cX9_cell 49 = .ok (.ireturn, 1) := by decide +kernel
theorem dX9_copy_0 : decode cX9_copy 0 = .ok (.iload_n 1, 1) := by decide +kernel
theorem dX9_copy_1 : decode cX9_copy 1 = .ok (.invokestatic 261, 3) := by decide +kernel
theorem dX9_copy_4 : decode cX9_copy 4 = .ok (.ifCond .eq 10, 3) := by decide +kernel
theorem dX9_copy_7 : decode cX9_copy 7 = .ok (.iload_n 3, 1) := by decide +kernel
theorem dX9_copy_8 : decode cX9_copy 8 = .ok (.invokestatic 261, 3) := by decide +kernel
theorem dX9_copy_11 : decode cX9_copy 11 = .ok (.ifCond .ne 6, 3) := by decide +kernel
theorem dX9_copy_14 : decode cX9_copy 14 = .ok (.bipush (-2), 2) := by decide +kernel
theorem dX9_copy_16 : decode cX9_copy 16 = .ok (.ireturn, 1) := by decide +kernel
theorem dX9_copy_17 : decode cX9_copy 17 = .ok (.aload_n 0, 1) := by decide +kernel
theorem dX9_copy_18 : decode cX9_copy 18 = .ok (.getfield 61, 3) := by decide +kernel
theorem dX9_copy_21 : decode cX9_copy 21 = .ok (.iload_n 1, 1) := by decide +kernel
theorem dX9_copy_22 : decode cX9_copy 22 = .ok (.aaload, 1) := by decide +kernel
theorem dX9_copy_23 : decode cX9_copy 23 = .ok (.astore 6, 2) := by decide +kernel
theorem dX9_copy_25 : decode cX9_copy 25 = .ok (.aload_n 0, 1) := by decide +kernel
theorem dX9_copy_26 : decode cX9_copy 26 = .ok (.getfield 61, 3) := by decide +kernel
theorem dX9_copy_29 : decode cX9_copy 29 = .ok (.iload_n 3, 1) := by decide +kernel
theorem dX9_copy_30 : decode cX9_copy 30 = .ok (.aaload, 1) := by decide +kernel
theorem dX9_copy_31 : decode cX9_copy 31 = .ok (.astore 7, 2) := by decide +kernel
theorem dX9_copy_33 : decode cX9_copy 33 = .ok (.aload 6, 2) := by decide +kernel
theorem dX9_copy_35 : decode cX9_copy 35 = .ok (.invokevirtual 268, 3) := by decide +kernel
theorem dX9_copy_38 : decode cX9_copy 38 = .ok (.ifCond .ne 11, 3) := by decide +kernel
theorem dX9_copy_41 : decode cX9_copy 41 = .ok (.aload 7, 2) := by decide +kernel
theorem dX9_copy_43 : decode cX9_copy 43 = .ok (.invokevirtual 268, 3) := by decide +kernel
theorem dX9_copy_46 : decode cX9_copy 46 = .ok (.ifCond .eq 6, 3) := by decide +kernel
theorem dX9_copy_49 : decode cX9_copy 49 = .ok (.bipush (-11), 2) := by decide +kernel
theorem dX9_copy_51 : decode cX9_copy 51 = .ok (.ireturn, 1) := by decide +kernel
theorem dX9_copy_52 : decode cX9_copy 52 = .ok (.aload 6, 2) := by decide +kernel
theorem dX9_copy_54 : decode cX9_copy 54 = .ok (.getfield 278, 3) := by decide +kernel
theorem dX9_copy_57 : decode cX9_copy 57 = .ok (.aload 7, 2) := by decide +kernel
theorem dX9_copy_59 : decode cX9_copy 59 = .ok (.getfield 278, 3) := by decide +kernel
theorem dX9_copy_62 : decode cX9_copy 62 = .ok (.if_icmp .eq 6, 3) := by decide +kernel
theorem dX9_copy_65 : decode cX9_copy 65 = .ok (.bipush (-13), 2) := by decide +kernel
theorem dX9_copy_67 : decode cX9_copy 67 = .ok (.ireturn, 1) := by decide +kernel
theorem dX9_copy_68 : decode cX9_copy 68 = .ok (.aload 6, 2) := by decide +kernel
theorem dX9_copy_70 : decode cX9_copy 70 = .ok (.iload_n 2, 1) := by decide +kernel
theorem dX9_copy_71 : decode cX9_copy 71 = .ok (.iload 5, 2) := by decide +kernel
theorem dX9_copy_73 : decode cX9_copy 73 = .ok (.invokevirtual 281, 3) := by decide +kernel
theorem dX9_copy_76 : decode cX9_copy 76 = .ok (.ifCond .eq 15, 3) := by decide +kernel
theorem dX9_copy_79 : decode cX9_copy 79 = .ok (.aload 7, 2) := by decide +kernel
theorem dX9_copy_81 : decode cX9_copy 81 = .ok (.iload 4, 2) := by decide +kernel
theorem dX9_copy_83 : decode cX9_copy 83 = .ok (.iload 5, 2) := by decide +kernel
theorem dX9_copy_85 : decode cX9_copy 85 = .ok (.invokevirtual 281, 3) := by decide +kernel
theorem dX9_copy_88 : decode cX9_copy 88 = .ok (.ifCond .ne 6, 3) := by decide +kernel
theorem dX9_copy_91 : decode cX9_copy 91 = .ok (.bipush (-12), 2) := by decide +kernel
theorem dX9_copy_93 : decode cX9_copy 93 = .ok (.ireturn, 1) := by decide +kernel
theorem dX9_copy_94 : decode cX9_copy 94 = .ok (.aload 6, 2) := by decide +kernel
theorem dX9_copy_96 : decode cX9_copy 96 = .ok (.getfield 284, 3) := by decide +kernel
theorem dX9_copy_99 : decode cX9_copy 99 = .ok (.iload_n 2, 1) := by decide +kernel
theorem dX9_copy_100 : decode cX9_copy 100 = .ok (.aload 7, 2) := by decide +kernel
theorem dX9_copy_102 : decode cX9_copy 102 = .ok (.getfield 284, 3) := by decide +kernel
theorem dX9_copy_105 : decode cX9_copy 105 = .ok (.iload 4, 2) := by decide +kernel
theorem dX9_copy_107 : decode cX9_copy 107 = .ok (.iload 5, 2) := by decide +kernel
theorem dX9_copy_109 : decode cX9_copy 109 = .ok (.invokestatic 287, 3) := by decide +kernel
theorem dX9_copy_112 : decode cX9_copy 112 = .ok (.iload 5, 2) := by decide +kernel
theorem dX9_copy_114 : decode cX9_copy 114 = .ok (.ireturn, 1) := by decide +kernel
theorem dX9_trials_0 : decode cX9_trials 0 = .ok (.iload_n 1, 1) := by decide +kernel
theorem dX9_trials_1 : decode cX9_trials 1 = .ok (.invokestatic 261, 3) := by decide +kernel
theorem dX9_trials_4 : decode cX9_trials 4 = .ok (.ifCond .eq 23, 3) := by decide +kernel
theorem dX9_trials_7 : decode cX9_trials 7 = .ok (.iload_n 2, 1) := by decide +kernel
theorem dX9_trials_8 : decode cX9_trials 8 = .ok (.iconst 0, 1) := by decide +kernel
theorem dX9_trials_9 : decode cX9_trials 9 = .ok (.iconst 2, 1) := by decide +kernel
theorem dX9_trials_10 : decode cX9_trials 10 = .ok (.invokestatic 70, 3) := by decide +kernel
theorem dX9_trials_13 : decode cX9_trials 13 = .ok (.ifCond .eq 14, 3) := by decide +kernel
theorem dX9_trials_16 : decode cX9_trials 16 = .ok (.iload 4, 2) := by decide +kernel
theorem dX9_trials_18 : decode cX9_trials 18 = .ok (.iconst 0, 1) := by decide +kernel
theorem dX9_trials_19 : decode cX9_trials 19 = .ok (.bipush 20, 2) := by decide +kernel
theorem dX9_trials_21 : decode cX9_trials 21 = .ok (.invokestatic 70, 3) := by decide +kernel
theorem dX9_trials_24 : decode cX9_trials 24 = .ok (.ifCond .ne 6, 3) := by decide +kernel
theorem dX9_trials_27 : decode cX9_trials 27 = .ok (.bipush (-2), 2) := by decide +kernel
theorem dX9_trials_29 : decode cX9_trials 29 = .ok (.ireturn, 1) := by decide +kernel
theorem dX9_trials_30 : decode cX9_trials 30 = .ok (.aload_n 0, 1) := by decide +kernel
theorem dX9_trials_31 : decode cX9_trials 31 = .ok (.getfield 61, 3) := by decide +kernel
theorem dX9_trials_34 : decode cX9_trials 34 = .ok (.iload_n 1, 1) := by decide +kernel
theorem dX9_trials_35 : decode cX9_trials 35 = .ok (.aaload, 1) := by decide +kernel
theorem dX9_trials_36 : decode cX9_trials 36 = .ok (.astore 5, 2) := by decide +kernel
theorem dX9_trials_38 : decode cX9_trials 38 = .ok (.aload 5, 2) := by decide +kernel
theorem dX9_trials_40 : decode cX9_trials 40 = .ok (.invokevirtual 268, 3) := by decide +kernel
theorem dX9_trials_43 : decode cX9_trials 43 = .ok (.ifCond .eq 6, 3) := by decide +kernel
theorem dX9_trials_46 : decode cX9_trials 46 = .ok (.bipush (-11), 2) := by decide +kernel
theorem dX9_trials_48 : decode cX9_trials 48 = .ok (.ireturn, 1) := by decide +kernel
theorem dX9_trials_49 : decode cX9_trials 49 = .ok (.aload 5, 2) := by decide +kernel
theorem dX9_trials_51 : decode cX9_trials 51 = .ok (.getfield 278, 3) := by decide +kernel
theorem dX9_trials_54 : decode cX9_trials 54 = .ok (.iload_n 2, 1) := by decide +kernel
theorem dX9_trials_55 : decode cX9_trials 55 = .ok (.if_icmp .eq 6, 3) := by decide +kernel
theorem dX9_trials_58 : decode cX9_trials 58 = .ok (.bipush (-13), 2) := by decide +kernel
theorem dX9_trials_60 : decode cX9_trials 60 = .ok (.ireturn, 1) := by decide +kernel
theorem dX9_trials_61 : decode cX9_trials 61 = .ok (.iconst 0, 1) := by decide +kernel
theorem dX9_trials_62 : decode cX9_trials 62 = .ok (.istore 6, 2) := by decide +kernel
theorem dX9_trials_64 : decode cX9_trials 64 = .ok (.iconst 0, 1) := by decide +kernel
theorem dX9_trials_65 : decode cX9_trials 65 = .ok (.istore 7, 2) := by decide +kernel
theorem dX9_trials_67 : decode cX9_trials 67 = .ok (.iload 7, 2) := by decide +kernel
theorem dX9_trials_69 : decode cX9_trials 69 = .ok (.iload 4, 2) := by decide +kernel
theorem dX9_trials_71 : decode cX9_trials 71 = .ok (.if_icmp .ge 92, 3) := by decide +kernel
theorem dX9_trials_74 : decode cX9_trials 74 = .ok (.aload 5, 2) := by decide +kernel
theorem dX9_trials_76 : decode cX9_trials 76 = .ok (.iload_n 3, 1) := by decide +kernel
theorem dX9_trials_77 : decode cX9_trials 77 = .ok (.iconst 2, 1) := by decide +kernel
theorem dX9_trials_78 : decode cX9_trials 78 = .ok (.iload 7, 2) := by decide +kernel
theorem dX9_trials_80 : decode cX9_trials 80 = .ok (.imul, 1) := by decide +kernel
theorem dX9_trials_81 : decode cX9_trials 81 = .ok (.iconst 2, 1) := by decide +kernel
theorem dX9_trials_82 : decode cX9_trials 82 = .ok (.iadd, 1) := by decide +kernel
theorem dX9_trials_83 : decode cX9_trials 83 = .ok (.invokevirtual 281, 3) := by decide +kernel
theorem dX9_trials_86 : decode cX9_trials 86 = .ok (.ifCond .ne 6, 3) := by decide +kernel
theorem dX9_trials_89 : decode cX9_trials 89 = .ok (.bipush (-12), 2) := by decide +kernel
theorem dX9_trials_91 : decode cX9_trials 91 = .ok (.ireturn, 1) := by decide +kernel
theorem dX9_trials_92 : decode cX9_trials 92 = .ok (.aload 5, 2) := by decide +kernel
theorem dX9_trials_94 : decode cX9_trials 94 = .ok (.getfield 284, 3) := by decide +kernel
theorem dX9_trials_97 : decode cX9_trials 97 = .ok (.iload_n 3, 1) := by decide +kernel
theorem dX9_trials_98 : decode cX9_trials 98 = .ok (.iconst 2, 1) := by decide +kernel
theorem dX9_trials_99 : decode cX9_trials 99 = .ok (.iload 7, 2) := by decide +kernel
theorem dX9_trials_101 : decode cX9_trials 101 = .ok (.imul, 1) := by decide +kernel
theorem dX9_trials_102 : decode cX9_trials 102 = .ok (.iadd, 1) := by decide +kernel
theorem dX9_trials_103 : decode cX9_trials 103 = .ok (.iaload, 1) := by decide +kernel
theorem dX9_trials_104 : decode cX9_trials 104 = .ok (.istore 8, 2) := by decide +kernel
theorem dX9_trials_106 : decode cX9_trials 106 = .ok (.aload 5, 2) := by decide +kernel
theorem dX9_trials_108 : decode cX9_trials 108 = .ok (.getfield 284, 3) := by decide +kernel
theorem dX9_trials_111 : decode cX9_trials 111 = .ok (.iload_n 3, 1) := by decide +kernel
theorem dX9_trials_112 : decode cX9_trials 112 = .ok (.iconst 2, 1) := by decide +kernel
theorem dX9_trials_113 : decode cX9_trials 113 = .ok (.iload 7, 2) := by decide +kernel
theorem dX9_trials_115 : decode cX9_trials 115 = .ok (.imul, 1) := by decide +kernel
theorem dX9_trials_116 : decode cX9_trials 116 = .ok (.iadd, 1) := by decide +kernel
theorem dX9_trials_117 : decode cX9_trials 117 = .ok (.iconst 1, 1) := by decide +kernel
theorem dX9_trials_118 : decode cX9_trials 118 = .ok (.iadd, 1) := by decide +kernel
theorem dX9_trials_119 : decode cX9_trials 119 = .ok (.iaload, 1) := by decide +kernel
theorem dX9_trials_120 : decode cX9_trials 120 = .ok (.istore 9, 2) := by decide +kernel
theorem dX9_trials_122 : decode cX9_trials 122 = .ok (.aload_n 0, 1) := by decide +kernel
theorem dX9_trials_123 : decode cX9_trials 123 = .ok (.getfield 10, 3) := by decide +kernel
theorem dX9_trials_126 : decode cX9_trials 126 = .ok (.iload 8, 2) := by decide +kernel
theorem dX9_trials_128 : decode cX9_trials 128 = .ok (.invokevirtual 172, 3) := by decide +kernel
theorem dX9_trials_131 : decode cX9_trials 131 = .ok (.ifCond .eq 26, 3) := by decide +kernel
theorem dX9_trials_134 : decode cX9_trials 134 = .ok (.iload 9, 2) := by decide +kernel
theorem dX9_trials_136 : decode cX9_trials 136 = .ok (.invokestatic 103, 3) := by decide +kernel
theorem dX9_trials_139 : decode cX9_trials 139 = .ok (.ifCond .eq 18, 3) := by decide +kernel
theorem dX9_trials_142 : decode cX9_trials 142 = .ok (.aload_n 0, 1) := by decide +kernel
theorem dX9_trials_143 : decode cX9_trials 143 = .ok (.getfield 21, 3) := by decide +kernel
theorem dX9_trials_146 : decode cX9_trials 146 = .ok (.iload 8, 2) := by decide +kernel
theorem dX9_trials_148 : decode cX9_trials 148 = .ok (.iload 9, 2) := by decide +kernel
theorem dX9_trials_150 : decode cX9_trials 150 = .ok (.invokevirtual 175, 3) := by decide +kernel
theorem dX9_trials_153 : decode cX9_trials 153 = .ok (.pop, 1) := by decide +kernel
theorem dX9_trials_154 : decode cX9_trials 154 = .ok (.iinc 6 1, 3) := by decide +kernel
theorem dX9_trials_157 : decode cX9_trials 157 = .ok (.iinc 7 1, 3) := by decide +kernel
theorem dX9_trials_160 : decode cX9_trials 160 = .ok (.goto (-93), 3) := by decide +kernel
theorem dX9_trials_163 : decode cX9_trials 163 = .ok (.iload 6, 2) := by decide +kernel
theorem dX9_trials_165 : decode cX9_trials 165 = .ok (.ireturn, 1) := by decide +kernel
theorem dX9_taken_0 : decode cX9_taken 0 = .ok (.iload_n 2, 1) := by decide +kernel
theorem dX9_taken_1 : decode cX9_taken 1 = .ok (.iconst 0, 1) := by decide +kernel
theorem dX9_taken_2 : decode cX9_taken 2 = .ok (.iconst 5, 1) := by decide +kernel
theorem dX9_taken_3 : decode cX9_taken 3 = .ok (.invokestatic 70, 3) := by decide +kernel
theorem dX9_taken_6 : decode cX9_taken 6 = .ok (.ifCond .ne 6, 3) := by decide +kernel
theorem dX9_taken_9 : decode cX9_taken 9 = .ok (.bipush (-2), 2) := by decide +kernel
theorem dX9_taken_11 : decode cX9_taken 11 = .ok (.ireturn, 1) := by decide +kernel
theorem dX9_taken_12 : decode cX9_taken 12 = .ok (.aload_n 0, 1) := by decide +kernel
theorem dX9_taken_13 : decode cX9_taken 13 = .ok (.getfield 10, 3) := by decide +kernel
theorem dX9_taken_16 : decode cX9_taken 16 = .ok (.iload_n 1, 1) := by decide +kernel
theorem dX9_taken_17 : decode cX9_taken 17 = .ok (.invokevirtual 81, 3) := by decide +kernel
theorem dX9_taken_20 : decode cX9_taken 20 = .ok (.ifCond .ne 6, 3) := by decide +kernel
theorem dX9_taken_23 : decode cX9_taken 23 = .ok (.bipush (-11), 2) := by decide +kernel
theorem dX9_taken_25 : decode cX9_taken 25 = .ok (.ireturn, 1) := by decide +kernel
theorem dX9_taken_26 : decode cX9_taken 26 = .ok (.aload_n 0, 1) := by decide +kernel
theorem dX9_taken_27 : decode cX9_taken 27 = .ok (.getfield 10, 3) := by decide +kernel
theorem dX9_taken_30 : decode cX9_taken 30 = .ok (.getfield 77, 3) := by decide +kernel
theorem dX9_taken_33 : decode cX9_taken 33 = .ok (.iload_n 1, 1) := by decide +kernel
theorem dX9_taken_34 : decode cX9_taken 34 = .ok (.iaload, 1) := by decide +kernel
theorem dX9_taken_35 : decode cX9_taken 35 = .ok (.iload_n 2, 1) := by decide +kernel
theorem dX9_taken_36 : decode cX9_taken 36 = .ok (.invokestatic 293, 3) := by decide +kernel
theorem dX9_taken_39 : decode cX9_taken 39 = .ok (.ifCond .eq 15, 3) := by decide +kernel
theorem dX9_taken_42 : decode cX9_taken 42 = .ok (.aload_n 0, 1) := by decide +kernel
theorem dX9_taken_43 : decode cX9_taken 43 = .ok (.getfield 21, 3) := by decide +kernel
theorem dX9_taken_46 : decode cX9_taken 46 = .ok (.getfield 90, 3) := by decide +kernel
theorem dX9_taken_49 : decode cX9_taken 49 = .ok (.iload_n 1, 1) := by decide +kernel
theorem dX9_taken_50 : decode cX9_taken 50 = .ok (.iaload, 1) := by decide +kernel
theorem dX9_taken_51 : decode cX9_taken 51 = .ok (.goto 5, 3) := by decide +kernel
theorem dX9_taken_54 : decode cX9_taken 54 = .ok (.bipush (-13), 2) := by decide +kernel
theorem dX9_taken_56 : decode cX9_taken 56 = .ok (.ireturn, 1) := by decide +kernel
theorem dX9_within_0 : decode cX9_within 0 = .ok (.iload_n 0, 1) := by decide +kernel
theorem dX9_within_1 : decode cX9_within 1 = .ok (.iload_n 1, 1) := by decide +kernel
theorem dX9_within_2 : decode cX9_within 2 = .ok (.if_icmp .lt 12, 3) := by decide +kernel
theorem dX9_within_5 : decode cX9_within 5 = .ok (.iload_n 0, 1) := by decide +kernel
theorem dX9_within_6 : decode cX9_within 6 = .ok (.iload_n 2, 1) := by decide +kernel
theorem dX9_within_7 : decode cX9_within 7 = .ok (.if_icmp .gt 7, 3) := by decide +kernel
theorem dX9_within_10 : decode cX9_within 10 = .ok (.iconst 1, 1) := by decide +kernel
theorem dX9_within_11 : decode cX9_within 11 = .ok (.goto 4, 3) := by decide +kernel
theorem dX9_within_14 : decode cX9_within 14 = .ok (.iconst 0, 1) := by decide +kernel
theorem dX9_within_15 : decode cX9_within 15 = .ok (.ireturn, 1) := by decide +kernel
theorem dX9_bounded_0 : decode cX9_bounded 0 = .ok (.iload_n 0, 1) := by decide +kernel
theorem dX9_bounded_1 : decode cX9_bounded 1 = .ok (.iload_n 1, 1) := by decide +kernel
theorem dX9_bounded_2 : decode cX9_bounded 2 = .ok (.if_icmp .ge 5, 3) := by decide +kernel
theorem dX9_bounded_5 : decode cX9_bounded 5 = .ok (.iload_n 1, 1) := by decide +kernel
theorem dX9_bounded_6 : decode cX9_bounded 6 = .ok (.ireturn, 1) := by decide +kernel
theorem dX9_bounded_7 : decode cX9_bounded 7 = .ok (.iload_n 0, 1) := by decide +kernel
theorem dX9_bounded_8 : decode cX9_bounded 8 = .ok (.iload_n 2, 1) := by decide +kernel
theorem dX9_bounded_9 : decode cX9_bounded 9 = .ok (.if_icmp .le 7, 3) := by decide +kernel
theorem dX9_bounded_12 : decode cX9_bounded 12 = .ok (.iload_n 2, 1) := by decide +kernel
theorem dX9_bounded_13 : decode cX9_bounded 13 = .ok (.goto 4, 3) := by decide +kernel
theorem dX9_bounded_16 : decode cX9_bounded 16 = .ok (.iload_n 0, 1) := by decide +kernel
theorem dX9_bounded_17 : decode cX9_bounded 17 = .ok (.ireturn, 1) := by decide +kernel
theorem dX9_isEnd_0 : decode cX9_isEnd 0 = .ok (.iload_n 0, 1) := by decide +kernel
theorem dX9_isEnd_1 : decode cX9_isEnd 1 = .ok (.iconst 0, 1) := by decide +kernel
theorem dX9_isEnd_2 : decode cX9_isEnd 2 = .ok (.iconst 3, 1) := by decide +kernel
theorem dX9_isEnd_3 : decode cX9_isEnd 3 = .ok (.invokestatic 70, 3) := by decide +kernel
theorem dX9_isEnd_6 : decode cX9_isEnd 6 = .ok (.ireturn, 1) := by decide +kernel
theorem dX9_isSheet_0 : decode cX9_isSheet 0 = .ok (.iload_n 0, 1) := by decide +kernel
theorem dX9_isSheet_1 : decode cX9_isSheet 1 = .ok (.iconst 0, 1) := by decide +kernel
theorem dX9_isSheet_2 : decode cX9_isSheet 2 = .ok (.iconst 3, 1) := by decide +kernel
theorem dX9_isSheet_3 : decode cX9_isSheet 3 = .ok (.invokestatic 70, 3) := by decide +kernel
theorem dX9_isSheet_6 : decode cX9_isSheet 6 = .ok (.ireturn, 1) := by decide +kernel
theorem dX9_isOn_0 : decode cX9_isOn 0 = .ok (.iload_n 0, 1) := by decide +kernel
theorem dX9_isOn_1 : decode cX9_isOn 1 = .ok (.iload_n 1, 1) := by decide +kernel
theorem dX9_isOn_2 : decode cX9_isOn 2 = .ok (.ishr, 1) := by decide +kernel
theorem dX9_isOn_3 : decode cX9_isOn 3 = .ok (.iconst 1, 1) := by decide +kernel
theorem dX9_isOn_4 : decode cX9_isOn 4 = .ok (.iand, 1) := by decide +kernel
theorem dX9_isOn_5 : decode cX9_isOn 5 = .ok (.iconst 1, 1) := by decide +kernel
theorem dX9_isOn_6 : decode cX9_isOn 6 = .ok (.if_icmp .ne 7, 3) := by decide +kernel
theorem dX9_isOn_9 : decode cX9_isOn 9 = .ok (.iconst 1, 1) := by decide +kernel
theorem dX9_isOn_10 : decode cX9_isOn 10 = .ok (.goto 4, 3) := by decide +kernel
theorem dX9_isOn_13 : decode cX9_isOn 13 = .ok (.iconst 0, 1) := by decide +kernel
theorem dX9_isOn_14 : decode cX9_isOn 14 = .ok (.ireturn, 1) := by decide +kernel
theorem dX9_leastOf_0 : decode cX9_leastOf 0 = .ok (.iconst 0, 1) := by decide +kernel
theorem dX9_leastOf_1 : decode cX9_leastOf 1 = .ok (.istore_n 1, 1) := by decide +kernel
theorem dX9_leastOf_2 : decode cX9_leastOf 2 = .ok (.iload_n 1, 1) := by decide +kernel
theorem dX9_leastOf_3 : decode cX9_leastOf 3 = .ok (.bipush 7, 2) := by decide +kernel
theorem dX9_leastOf_5 : decode cX9_leastOf 5 = .ok (.if_icmp .ge 17, 3) := by decide +kernel
theorem dX9_leastOf_8 : decode cX9_leastOf 8 = .ok (.iload_n 0, 1) := by decide +kernel
theorem dX9_leastOf_9 : decode cX9_leastOf 9 = .ok (.iload_n 1, 1) := by decide +kernel
theorem dX9_leastOf_10 : decode cX9_leastOf 10 = .ok (.invokestatic 296, 3) := by decide +kernel
theorem dX9_leastOf_13 : decode cX9_leastOf 13 = .ok (.ifCond .ne 9, 3) := by decide +kernel
theorem dX9_leastOf_16 : decode cX9_leastOf 16 = .ok (.iinc 1 1, 3) := by decide +kernel
theorem dX9_leastOf_19 : decode cX9_leastOf 19 = .ok (.goto (-17), 3) := by decide +kernel
theorem dX9_leastOf_22 : decode cX9_leastOf 22 = .ok (.iload_n 1, 1) := by decide +kernel
theorem dX9_leastOf_23 : decode cX9_leastOf 23 = .ok (.ireturn, 1) := by decide +kernel
theorem dX9_isSomeSet_0 : decode cX9_isSomeSet 0 = .ok (.iload_n 1, 1) := by decide +kernel
theorem dX9_isSomeSet_1 : decode cX9_isSomeSet 1 = .ok (.ifCond .eq 18, 3) := by decide +kernel
theorem dX9_isSomeSet_4 : decode cX9_isSomeSet 4 = .ok (.aload_n 0, 1) := by decide +kernel
theorem dX9_isSomeSet_5 : decode cX9_isSomeSet 5 = .ok (.getfield 10, 3) := by decide +kernel
theorem dX9_isSomeSet_8 : decode cX9_isSomeSet 8 = .ok (.iload_n 1, 1) := by decide +kernel
theorem dX9_isSomeSet_9 : decode cX9_isSomeSet 9 = .ok (.invokevirtual 172, 3) := by decide +kernel
theorem dX9_isSomeSet_12 : decode cX9_isSomeSet 12 = .ok (.ifCond .eq 7, 3) := by decide +kernel
theorem dX9_isSomeSet_15 : decode cX9_isSomeSet 15 = .ok (.iconst 1, 1) := by decide +kernel
theorem dX9_isSomeSet_16 : decode cX9_isSomeSet 16 = .ok (.goto 4, 3) := by decide +kernel
theorem dX9_isSomeSet_19 : decode cX9_isSomeSet 19 = .ok (.iconst 0, 1) := by decide +kernel
theorem dX9_isSomeSet_20 : decode cX9_isSomeSet 20 = .ok (.ireturn, 1) := by decide +kernel
theorem dX9_isUnder_0 : decode cX9_isUnder 0 = .ok (.iload_n 0, 1) := by decide +kernel
theorem dX9_isUnder_1 : decode cX9_isUnder 1 = .ok (.istore_n 2, 1) := by decide +kernel
theorem dX9_isUnder_2 : decode cX9_isUnder 2 = .ok (.iconst 0, 1) := by decide +kernel
theorem dX9_isUnder_3 : decode cX9_isUnder 3 = .ok (.istore_n 3, 1) := by decide +kernel
theorem dX9_isUnder_4 : decode cX9_isUnder 4 = .ok (.iload_n 3, 1) := by decide +kernel
theorem dX9_isUnder_5 : decode cX9_isUnder 5 = .ok (.bipush 6, 2) := by decide +kernel
theorem dX9_isUnder_7 : decode cX9_isUnder 7 = .ok (.if_icmp .ge 24, 3) := by decide +kernel
theorem dX9_isUnder_10 : decode cX9_isUnder 10 = .ok (.iload_n 2, 1) := by decide +kernel
theorem dX9_isUnder_11 : decode cX9_isUnder 11 = .ok (.ifCond .lt 20, 3) := by decide +kernel
theorem dX9_isUnder_14 : decode cX9_isUnder 14 = .ok (.iload_n 2, 1) := by decide +kernel
theorem dX9_isUnder_15 : decode cX9_isUnder 15 = .ok (.iload_n 1, 1) := by decide +kernel
theorem dX9_isUnder_16 : decode cX9_isUnder 16 = .ok (.if_icmp .eq 15, 3) := by decide +kernel
theorem dX9_isUnder_19 : decode cX9_isUnder 19 = .ok (.getstatic 299, 3) := by decide +kernel
theorem dX9_isUnder_22 : decode cX9_isUnder 22 = .ok (.iload_n 2, 1) := by decide +kernel
theorem dX9_isUnder_23 : decode cX9_isUnder 23 = .ok (.iaload, 1) := by decide +kernel
theorem dX9_isUnder_24 : decode cX9_isUnder 24 = .ok (.istore_n 2, 1) := by decide +kernel
theorem dX9_isUnder_25 : decode cX9_isUnder 25 = .ok (.iinc 3 1, 3) := by decide +kernel
theorem dX9_isUnder_28 : decode cX9_isUnder 28 = .ok (.goto (-24), 3) := by decide +kernel
theorem dX9_isUnder_31 : decode cX9_isUnder 31 = .ok (.iload_n 2, 1) := by decide +kernel
theorem dX9_isUnder_32 : decode cX9_isUnder 32 = .ok (.iload_n 1, 1) := by decide +kernel
theorem dX9_isUnder_33 : decode cX9_isUnder 33 = .ok (.if_icmp .ne 7, 3) := by decide +kernel
theorem dX9_isUnder_36 : decode cX9_isUnder 36 = .ok (.iconst 1, 1) := by decide +kernel
theorem dX9_isUnder_37 : decode cX9_isUnder 37 = .ok (.goto 4, 3) := by decide +kernel
theorem dX9_isUnder_40 : decode cX9_isUnder 40 = .ok (.iconst 0, 1) := by decide +kernel
theorem dX9_isUnder_41 : decode cX9_isUnder 41 = .ok (.ireturn, 1) := by decide +kernel
theorem dX9_commonDivisor_0 : decode cX9_commonDivisor 0 = .ok (.lload_n 2, 1) := by decide +kernel
theorem dX9_commonDivisor_1 : decode cX9_commonDivisor 1 = .ok (.lstore 4, 2) := by decide +kernel
theorem dX9_commonDivisor_3 : decode cX9_commonDivisor 3 = .ok (.lload_n 0, 1) := by decide +kernel
theorem dX9_commonDivisor_4 : decode cX9_commonDivisor 4 = .ok (.lstore 6, 2) := by decide +kernel
theorem dX9_commonDivisor_6 : decode cX9_commonDivisor 6 = .ok (.iconst 0, 1) := by decide +kernel
theorem dX9_commonDivisor_7 : decode cX9_commonDivisor 7 = .ok (.istore 8, 2) := by decide +kernel
theorem dX9_commonDivisor_9 : decode cX9_commonDivisor 9 = .ok (.iload 8, 2) := by decide +kernel
theorem dX9_commonDivisor_11 : decode cX9_commonDivisor 11 = .ok (.sipush 200, 3) := by decide +kernel
theorem dX9_commonDivisor_14 : decode cX9_commonDivisor 14 = .ok (.if_icmp .ge 31, 3) := by decide +kernel
theorem dX9_commonDivisor_17 : decode cX9_commonDivisor 17 = .ok (.lload 6, 2) := by decide +kernel
theorem dX9_commonDivisor_19 : decode cX9_commonDivisor 19 = .ok (.lconst 0, 1) := by decide +kernel
theorem dX9_commonDivisor_20 : decode cX9_commonDivisor 20 = .ok (.lcmp, 1) := by decide +kernel
theorem dX9_commonDivisor_21 : decode cX9_commonDivisor 21 = .ok (.ifCond .eq 24, 3) := by decide +kernel
theorem dX9_commonDivisor_24 : decode cX9_commonDivisor 24 = .ok (.lload 4, 2) := by decide +kernel
theorem dX9_commonDivisor_26 : decode cX9_commonDivisor 26 = .ok (.lload 6, 2) := by decide +kernel
theorem dX9_commonDivisor_28 : decode cX9_commonDivisor 28 = .ok (.lrem, 1) := by decide +kernel
theorem dX9_commonDivisor_29 : decode cX9_commonDivisor 29 = .ok (.lstore 9, 2) := by decide +kernel
theorem dX9_commonDivisor_31 : decode cX9_commonDivisor 31 = .ok (.lload 6, 2) := by decide +kernel
theorem dX9_commonDivisor_33 : decode cX9_commonDivisor 33 = .ok (.lstore 4, 2) := by decide +kernel
theorem dX9_commonDivisor_35 : decode cX9_commonDivisor 35 = .ok (.lload 9, 2) := by decide +kernel
theorem dX9_commonDivisor_37 : decode cX9_commonDivisor 37 = .ok (.lstore 6, 2) := by decide +kernel
theorem dX9_commonDivisor_39 : decode cX9_commonDivisor 39 = .ok (.iinc 8 1, 3) := by decide +kernel
theorem dX9_commonDivisor_42 : decode cX9_commonDivisor 42 = .ok (.goto (-33), 3) := by decide +kernel
theorem dX9_commonDivisor_45 : decode cX9_commonDivisor 45 = .ok (.lconst 1, 1) := by decide +kernel
theorem dX9_commonDivisor_46 : decode cX9_commonDivisor 46 = .ok (.lload 4, 2) := by decide +kernel
theorem dX9_commonDivisor_48 : decode cX9_commonDivisor 48 = .ok (.invokestatic 212, 3) := by decide +kernel
theorem dX9_commonDivisor_51 : decode cX9_commonDivisor 51 = .ok (.lreturn, 1) := by decide +kernel
theorem dX9_findPaces_0 : decode cX9_findPaces 0 = .ok (.aload_n 0, 1) := by decide +kernel
theorem dX9_findPaces_1 : decode cX9_findPaces 1 = .ok (.getfield 55, 3) := by decide +kernel
theorem dX9_findPaces_4 : decode cX9_findPaces 4 = .ok (.invokevirtual 302, 3) := by decide +kernel
theorem dX9_findPaces_7 : decode cX9_findPaces 7 = .ok (.iconst 5, 1) := by decide +kernel
theorem dX9_findPaces_8 : decode cX9_findPaces 8 = .ok (.istore_n 2, 1) := by decide +kernel
theorem dX9_findPaces_9 : decode cX9_findPaces 9 = .ok (.iload_n 2, 1) := by decide +kernel
theorem dX9_findPaces_10 : decode cX9_findPaces 10 = .ok (.bipush 100, 2) := by decide +kernel
theorem dX9_findPaces_12 : decode cX9_findPaces 12 = .ok (.if_icmp .gt 50, 3) := by decide +kernel
theorem dX9_findPaces_15 : decode cX9_findPaces 15 = .ok (.aload_n 0, 1) := by decide +kernel
theorem dX9_findPaces_16 : decode cX9_findPaces 16 = .ok (.iload_n 2, 1) := by decide +kernel
theorem dX9_findPaces_17 : decode cX9_findPaces 17 = .ok (.iload_n 1, 1) := by decide +kernel
theorem dX9_findPaces_18 : decode cX9_findPaces 18 = .ok (.invokevirtual 305, 3) := by decide +kernel
theorem dX9_findPaces_21 : decode cX9_findPaces 21 = .ok (.istore_n 3, 1) := by decide +kernel
theorem dX9_findPaces_22 : decode cX9_findPaces 22 = .ok (.iload_n 3, 1) := by decide +kernel
theorem dX9_findPaces_23 : decode cX9_findPaces 23 = .ok (.iconst (-1), 1) := by decide +kernel
theorem dX9_findPaces_24 : decode cX9_findPaces 24 = .ok (.if_icmp .ne 14, 3) := by decide +kernel
theorem dX9_findPaces_27 : decode cX9_findPaces 27 = .ok (.aload_n 0, 1) := by decide +kernel
theorem dX9_findPaces_28 : decode cX9_findPaces 28 = .ok (.getfield 55, 3) := by decide +kernel
theorem dX9_findPaces_31 : decode cX9_findPaces 31 = .ok (.iload_n 2, 1) := by decide +kernel
theorem dX9_findPaces_32 : decode cX9_findPaces 32 = .ok (.invokevirtual 308, 3) := by decide +kernel
theorem dX9_findPaces_35 : decode cX9_findPaces 35 = .ok (.goto 21, 3) := by decide +kernel
theorem dX9_findPaces_38 : decode cX9_findPaces 38 = .ok (.aload_n 0, 1) := by decide +kernel
theorem dX9_findPaces_39 : decode cX9_findPaces 39 = .ok (.getfield 55, 3) := by decide +kernel
theorem dX9_findPaces_42 : decode cX9_findPaces 42 = .ok (.aload_n 0, 1) := by decide +kernel
theorem dX9_findPaces_43 : decode cX9_findPaces 43 = .ok (.getfield 55, 3) := by decide +kernel
theorem dX9_findPaces_46 : decode cX9_findPaces 46 = .ok (.getfield 245, 3) := by decide +kernel
theorem dX9_findPaces_49 : decode cX9_findPaces 49 = .ok (.iload_n 3, 1) := by decide +kernel
theorem dX9_findPaces_50 : decode cX9_findPaces 50 = .ok (.invokestatic 311, 3) := by decide +kernel
theorem dX9_findPaces_53 : decode cX9_findPaces 53 = .ok (.putfield 245, 3) := by decide +kernel
theorem dX9_findPaces_56 : decode cX9_findPaces 56 = .ok (.iinc 2 5, 3) := by decide +kernel
theorem dX9_findPaces_59 : decode cX9_findPaces 59 = .ok (.goto (-50), 3) := by decide +kernel
theorem dX9_findPaces_62 : decode cX9_findPaces 62 = .ok (.return_, 1) := by decide +kernel
theorem dX9_firstOff_0 : decode cX9_firstOff 0 = .ok (.aload_n 0, 1) := by decide +kernel
theorem dX9_firstOff_1 : decode cX9_firstOff 1 = .ok (.getfield 28, 3) := by decide +kernel
theorem dX9_firstOff_4 : decode cX9_firstOff 4 = .ok (.iload_n 1, 1) := by decide +kernel
theorem dX9_firstOff_5 : decode cX9_firstOff 5 = .ok (.aload_n 0, 1) := by decide +kernel
theorem dX9_firstOff_6 : decode cX9_firstOff 6 = .ok (.getfield 21, 3) := by decide +kernel
theorem dX9_firstOff_9 : decode cX9_firstOff 9 = .ok (.getfield 145, 3) := by decide +kernel
theorem dX9_firstOff_12 : decode cX9_firstOff 12 = .ok (.invokevirtual 313, 3) := by decide +kernel
theorem dX9_firstOff_15 : decode cX9_firstOff 15 = .ok (.iconst 0, 1) := by decide +kernel
theorem dX9_firstOff_16 : decode cX9_firstOff 16 = .ok (.istore_n 3, 1) := by decide +kernel
theorem dX9_firstOff_17 : decode cX9_firstOff 17 = .ok (.iload_n 3, 1) := by decide +kernel
theorem dX9_firstOff_18 : decode cX9_firstOff 18 = .ok (.aload_n 0, 1) := by decide +kernel
theorem dX9_firstOff_19 : decode cX9_firstOff 19 = .ok (.getfield 55, 3) := by decide +kernel
theorem dX9_firstOff_22 : decode cX9_firstOff 22 = .ok (.getfield 228, 3) := by decide +kernel
theorem dX9_firstOff_25 : decode cX9_firstOff 25 = .ok (.if_icmp .ge 67, 3) := by decide +kernel
theorem dX9_firstOff_28 : decode cX9_firstOff 28 = .ok (.aload_n 0, 1) := by decide +kernel
theorem dX9_firstOff_29 : decode cX9_firstOff 29 = .ok (.getfield 28, 3) := by decide +kernel
theorem dX9_firstOff_32 : decode cX9_firstOff 32 = .ok (.aload_n 0, 1) := by decide +kernel
theorem dX9_firstOff_33 : decode cX9_firstOff 33 = .ok (.getfield 10, 3) := by decide +kernel
theorem dX9_firstOff_36 : decode cX9_firstOff 36 = .ok (.aload_n 0, 1) := by decide +kernel
theorem dX9_firstOff_37 : decode cX9_firstOff 37 = .ok (.getfield 55, 3) := by decide +kernel
theorem dX9_firstOff_40 : decode cX9_firstOff 40 = .ok (.getfield 316, 3) := by decide +kernel
theorem dX9_firstOff_43 : decode cX9_firstOff 43 = .ok (.iload_n 3, 1) := by decide +kernel
theorem dX9_firstOff_44 : decode cX9_firstOff 44 = .ok (.iaload, 1) := by decide +kernel
theorem dX9_firstOff_45 : decode cX9_firstOff 45 = .ok (.invokevirtual 159, 3) := by decide +kernel
theorem dX9_firstOff_48 : decode cX9_firstOff 48 = .ok (.invokevirtual 187, 3) := by decide +kernel
theorem dX9_firstOff_51 : decode cX9_firstOff 51 = .ok (.aload_n 0, 1) := by decide +kernel
theorem dX9_firstOff_52 : decode cX9_firstOff 52 = .ok (.getfield 28, 3) := by decide +kernel
theorem dX9_firstOff_55 : decode cX9_firstOff 55 = .ok (.aload_n 0, 1) := by decide +kernel
theorem dX9_firstOff_56 : decode cX9_firstOff 56 = .ok (.getfield 55, 3) := by decide +kernel
theorem dX9_firstOff_59 : decode cX9_firstOff 59 = .ok (.getfield 318, 3) := by decide +kernel
theorem dX9_firstOff_62 : decode cX9_firstOff 62 = .ok (.iload_n 3, 1) := by decide +kernel
theorem dX9_firstOff_63 : decode cX9_firstOff 63 = .ok (.iaload, 1) := by decide +kernel
theorem dX9_firstOff_64 : decode cX9_firstOff 64 = .ok (.invokevirtual 181, 3) := by decide +kernel
theorem dX9_firstOff_67 : decode cX9_firstOff 67 = .ok (.aload_n 0, 1) := by decide +kernel
theorem dX9_firstOff_68 : decode cX9_firstOff 68 = .ok (.getfield 55, 3) := by decide +kernel
theorem dX9_firstOff_71 : decode cX9_firstOff 71 = .ok (.getfield 319, 3) := by decide +kernel
theorem dX9_firstOff_74 : decode cX9_firstOff 74 = .ok (.iload_n 3, 1) := by decide +kernel
theorem dX9_firstOff_75 : decode cX9_firstOff 75 = .ok (.iaload, 1) := by decide +kernel
theorem dX9_firstOff_76 : decode cX9_firstOff 76 = .ok (.isub, 1) := by decide +kernel
theorem dX9_firstOff_77 : decode cX9_firstOff 77 = .ok (.invokestatic 322, 3) := by decide +kernel
theorem dX9_firstOff_80 : decode cX9_firstOff 80 = .ok (.iload_n 2, 1) := by decide +kernel
theorem dX9_firstOff_81 : decode cX9_firstOff 81 = .ok (.if_icmp .le 5, 3) := by decide +kernel
theorem dX9_firstOff_84 : decode cX9_firstOff 84 = .ok (.iload_n 3, 1) := by decide +kernel
theorem dX9_firstOff_85 : decode cX9_firstOff 85 = .ok (.ireturn, 1) := by decide +kernel
theorem dX9_firstOff_86 : decode cX9_firstOff 86 = .ok (.iinc 3 1, 3) := by decide +kernel
theorem dX9_firstOff_89 : decode cX9_firstOff 89 = .ok (.goto (-72), 3) := by decide +kernel
theorem dX9_firstOff_92 : decode cX9_firstOff 92 = .ok (.iconst (-1), 1) := by decide +kernel
theorem dX9_firstOff_93 : decode cX9_firstOff 93 = .ok (.ireturn, 1) := by decide +kernel
theorem dX9_findFarthest_0 : decode cX9_findFarthest 0 = .ok (.aload_n 0, 1) := by decide +kernel
theorem dX9_findFarthest_1 : decode cX9_findFarthest 1 = .ok (.getfield 55, 3) := by decide +kernel
theorem dX9_findFarthest_4 : decode cX9_findFarthest 4 = .ok (.iconst (-1), 1) := by decide +kernel
theorem dX9_findFarthest_5 : decode cX9_findFarthest 5 = .ok (.putfield 251, 3) := by decide +kernel
theorem dX9_findFarthest_8 : decode cX9_findFarthest 8 = .ok (.aload_n 0, 1) := by decide +kernel
theorem dX9_findFarthest_9 : decode cX9_findFarthest 9 = .ok (.getfield 55, 3) := by decide +kernel
theorem dX9_findFarthest_12 : decode cX9_findFarthest 12 = .ok (.iconst (-1), 1) := by decide +kernel
theorem dX9_findFarthest_13 : decode cX9_findFarthest 13 = .ok (.putfield 254, 3) := by decide +kernel
theorem dX9_findFarthest_16 : decode cX9_findFarthest 16 = .ok (.iconst 0, 1) := by decide +kernel
theorem dX9_findFarthest_17 : decode cX9_findFarthest 17 = .ok (.istore_n 2, 1) := by decide +kernel
theorem dX9_findFarthest_18 : decode cX9_findFarthest 18 = .ok (.iload_n 2, 1) := by decide +kernel
theorem dX9_findFarthest_19 : decode cX9_findFarthest 19 = .ok (.aload_n 0, 1) := by decide +kernel
theorem dX9_findFarthest_20 : decode cX9_findFarthest 20 = .ok (.getfield 10, 3) := by decide +kernel
theorem dX9_findFarthest_23 : decode cX9_findFarthest 23 = .ok (.getfield 148, 3) := by decide +kernel
theorem dX9_findFarthest_26 : decode cX9_findFarthest 26 = .ok (.if_icmp .ge 76, 3) := by decide +kernel
theorem dX9_findFarthest_29 : decode cX9_findFarthest 29 = .ok (.aload_n 0, 1) := by decide +kernel
theorem dX9_findFarthest_30 : decode cX9_findFarthest 30 = .ok (.aload_n 0, 1) := by decide +kernel
theorem dX9_findFarthest_31 : decode cX9_findFarthest 31 = .ok (.getfield 55, 3) := by decide +kernel
theorem dX9_findFarthest_34 : decode cX9_findFarthest 34 = .ok (.getfield 239, 3) := by decide +kernel
theorem dX9_findFarthest_37 : decode cX9_findFarthest 37 = .ok (.iload_n 2, 1) := by decide +kernel
theorem dX9_findFarthest_38 : decode cX9_findFarthest 38 = .ok (.iload_n 1, 1) := by decide +kernel
theorem dX9_findFarthest_39 : decode cX9_findFarthest 39 = .ok (.invokevirtual 324, 3) := by decide +kernel
theorem dX9_findFarthest_42 : decode cX9_findFarthest 42 = .ok (.istore_n 3, 1) := by decide +kernel
theorem dX9_findFarthest_43 : decode cX9_findFarthest 43 = .ok (.aload_n 0, 1) := by decide +kernel
theorem dX9_findFarthest_44 : decode cX9_findFarthest 44 = .ok (.aload_n 0, 1) := by decide +kernel
theorem dX9_findFarthest_45 : decode cX9_findFarthest 45 = .ok (.getfield 55, 3) := by decide +kernel
theorem dX9_findFarthest_48 : decode cX9_findFarthest 48 = .ok (.getfield 242, 3) := by decide +kernel
theorem dX9_findFarthest_51 : decode cX9_findFarthest 51 = .ok (.iload_n 2, 1) := by decide +kernel
theorem dX9_findFarthest_52 : decode cX9_findFarthest 52 = .ok (.iload_n 1, 1) := by decide +kernel
theorem dX9_findFarthest_53 : decode cX9_findFarthest 53 = .ok (.invokevirtual 324, 3) := by decide +kernel
theorem dX9_findFarthest_56 : decode cX9_findFarthest 56 = .ok (.istore 4, 2) := by decide +kernel
theorem dX9_findFarthest_58 : decode cX9_findFarthest 58 = .ok (.iload 4, 2) := by decide +kernel
theorem dX9_findFarthest_60 : decode cX9_findFarthest 60 = .ok (.iload_n 3, 1) := by decide +kernel
theorem dX9_findFarthest_61 : decode cX9_findFarthest 61 = .ok (.isub, 1) := by decide +kernel
theorem dX9_findFarthest_62 : decode cX9_findFarthest 62 = .ok (.invokestatic 322, 3) := by decide +kernel
theorem dX9_findFarthest_65 : decode cX9_findFarthest 65 = .ok (.istore 5, 2) := by decide +kernel
theorem dX9_findFarthest_67 : decode cX9_findFarthest 67 = .ok (.iload 5, 2) := by decide +kernel
theorem dX9_findFarthest_69 : decode cX9_findFarthest 69 = .ok (.aload_n 0, 1) := by decide +kernel
theorem dX9_findFarthest_70 : decode cX9_findFarthest 70 = .ok (.getfield 55, 3) := by decide +kernel
theorem dX9_findFarthest_73 : decode cX9_findFarthest 73 = .ok (.getfield 254, 3) := by decide +kernel
theorem dX9_findFarthest_76 : decode cX9_findFarthest 76 = .ok (.if_icmp .le 20, 3) := by decide +kernel
theorem dX9_findFarthest_79 : decode cX9_findFarthest 79 = .ok (.aload_n 0, 1) := by decide +kernel
theorem dX9_findFarthest_80 : decode cX9_findFarthest 80 = .ok (.getfield 55, 3) := by decide +kernel
theorem dX9_findFarthest_83 : decode cX9_findFarthest 83 = .ok (.iload_n 2, 1) := by decide +kernel
theorem dX9_findFarthest_84 : decode cX9_findFarthest 84 = .ok (.putfield 251, 3) := by decide +kernel
theorem dX9_findFarthest_87 : decode cX9_findFarthest 87 = .ok (.aload_n 0, 1) := by decide +kernel
theorem dX9_findFarthest_88 : decode cX9_findFarthest 88 = .ok (.getfield 55, 3) := by decide +kernel
theorem dX9_findFarthest_91 : decode cX9_findFarthest 91 = .ok (.iload 5, 2) := by decide +kernel
theorem dX9_findFarthest_93 : decode cX9_findFarthest 93 = .ok (.putfield 254, 3) := by decide +kernel
theorem dX9_findFarthest_96 : decode cX9_findFarthest 96 = .ok (.iinc 2 1, 3) := by decide +kernel
theorem dX9_findFarthest_99 : decode cX9_findFarthest 99 = .ok (.goto (-81), 3) := by decide +kernel
theorem dX9_findFarthest_102 : decode cX9_findFarthest 102 = .ok (.return_, 1) := by decide +kernel
theorem dX9_dropsBehind_0 : decode cX9_dropsBehind 0 = .ok (.aload_n 0, 1) := by decide +kernel
theorem dX9_dropsBehind_1 : decode cX9_dropsBehind 1 = .ok (.getfield 28, 3) := by decide +kernel
theorem dX9_dropsBehind_4 : decode cX9_dropsBehind 4 = .ok (.iload_n 1, 1) := by decide +kernel
theorem dX9_dropsBehind_5 : decode cX9_dropsBehind 5 = .ok (.aload_n 0, 1) := by decide +kernel
theorem dX9_dropsBehind_6 : decode cX9_dropsBehind 6 = .ok (.getfield 21, 3) := by decide +kernel
theorem dX9_dropsBehind_9 : decode cX9_dropsBehind 9 = .ok (.getfield 145, 3) := by decide +kernel
theorem dX9_dropsBehind_12 : decode cX9_dropsBehind 12 = .ok (.invokevirtual 313, 3) := by decide +kernel
theorem dX9_dropsBehind_15 : decode cX9_dropsBehind 15 = .ok (.iconst 0, 1) := by decide +kernel
theorem dX9_dropsBehind_16 : decode cX9_dropsBehind 16 = .ok (.istore 4, 2) := by decide +kernel
theorem dX9_dropsBehind_18 : decode cX9_dropsBehind 18 = .ok (.iload 4, 2) := by decide +kernel
theorem dX9_dropsBehind_20 : decode cX9_dropsBehind 20 = .ok (.aload_n 0, 1) := by decide +kernel
theorem dX9_dropsBehind_21 : decode cX9_dropsBehind 21 = .ok (.getfield 55, 3) := by decide +kernel
theorem dX9_dropsBehind_24 : decode cX9_dropsBehind 24 = .ok (.getfield 228, 3) := by decide +kernel
theorem dX9_dropsBehind_27 : decode cX9_dropsBehind 27 = .ok (.if_icmp .ge 33, 3) := by decide +kernel
theorem dX9_dropsBehind_30 : decode cX9_dropsBehind 30 = .ok (.aload_n 0, 1) := by decide +kernel
theorem dX9_dropsBehind_31 : decode cX9_dropsBehind 31 = .ok (.getfield 28, 3) := by decide +kernel
theorem dX9_dropsBehind_34 : decode cX9_dropsBehind 34 = .ok (.aload_n 0, 1) := by decide +kernel
theorem dX9_dropsBehind_35 : decode cX9_dropsBehind 35 = .ok (.getfield 10, 3) := by decide +kernel
theorem dX9_dropsBehind_38 : decode cX9_dropsBehind 38 = .ok (.aload_n 0, 1) := by decide +kernel
theorem dX9_dropsBehind_39 : decode cX9_dropsBehind 39 = .ok (.getfield 55, 3) := by decide +kernel
theorem dX9_dropsBehind_42 : decode cX9_dropsBehind 42 = .ok (.getfield 316, 3) := by decide +kernel
theorem dX9_dropsBehind_45 : decode cX9_dropsBehind 45 = .ok (.iload 4, 2) := by decide +kernel
theorem dX9_dropsBehind_47 : decode cX9_dropsBehind 47 = .ok (.iaload, 1) := by decide +kernel
theorem dX9_dropsBehind_48 : decode cX9_dropsBehind 48 = .ok (.invokevirtual 159, 3) := by decide +kernel
theorem dX9_dropsBehind_51 : decode cX9_dropsBehind 51 = .ok (.invokevirtual 187, 3) := by decide +kernel
theorem dX9_dropsBehind_54 : decode cX9_dropsBehind 54 = .ok (.iinc 4 1, 3) := by decide +kernel
theorem dX9_dropsBehind_57 : decode cX9_dropsBehind 57 = .ok (.goto (-39), 3) := by decide +kernel
theorem dX9_dropsBehind_60 : decode cX9_dropsBehind 60 = .ok (.aload_n 0, 1) := by decide +kernel
theorem dX9_dropsBehind_61 : decode cX9_dropsBehind 61 = .ok (.getfield 28, 3) := by decide +kernel
theorem dX9_dropsBehind_64 : decode cX9_dropsBehind 64 = .ok (.aload_n 0, 1) := by decide +kernel
theorem dX9_dropsBehind_65 : decode cX9_dropsBehind 65 = .ok (.getfield 10, 3) := by decide +kernel
theorem dX9_dropsBehind_68 : decode cX9_dropsBehind 68 = .ok (.iload_n 2, 1) := by decide +kernel
theorem dX9_dropsBehind_69 : decode cX9_dropsBehind 69 = .ok (.invokevirtual 159, 3) := by decide +kernel
theorem dX9_dropsBehind_72 : decode cX9_dropsBehind 72 = .ok (.invokevirtual 187, 3) := by decide +kernel
theorem dX9_dropsBehind_75 : decode cX9_dropsBehind 75 = .ok (.aload_n 0, 1) := by decide +kernel
theorem dX9_dropsBehind_76 : decode cX9_dropsBehind 76 = .ok (.getfield 28, 3) := by decide +kernel
theorem dX9_dropsBehind_79 : decode cX9_dropsBehind 79 = .ok (.iload_n 3, 1) := by decide +kernel
theorem dX9_dropsBehind_80 : decode cX9_dropsBehind 80 = .ok (.invokevirtual 181, 3) := by decide +kernel
theorem dX9_dropsBehind_83 : decode cX9_dropsBehind 83 = .ok (.ireturn, 1) := by decide +kernel
theorem dX9_dropsApart_0 : decode cX9_dropsApart 0 = .ok (.aload_n 0, 1) := by decide +kernel
theorem dX9_dropsApart_1 : decode cX9_dropsApart 1 = .ok (.getfield 28, 3) := by decide +kernel
theorem dX9_dropsApart_4 : decode cX9_dropsApart 4 = .ok (.aload_n 0, 1) := by decide +kernel
theorem dX9_dropsApart_5 : decode cX9_dropsApart 5 = .ok (.getfield 21, 3) := by decide +kernel
theorem dX9_dropsApart_8 : decode cX9_dropsApart 8 = .ok (.getfield 121, 3) := by decide +kernel
theorem dX9_dropsApart_11 : decode cX9_dropsApart 11 = .ok (.aload_n 0, 1) := by decide +kernel
theorem dX9_dropsApart_12 : decode cX9_dropsApart 12 = .ok (.getfield 21, 3) := by decide +kernel
theorem dX9_dropsApart_15 : decode cX9_dropsApart 15 = .ok (.getfield 145, 3) := by decide +kernel
theorem dX9_dropsApart_18 : decode cX9_dropsApart 18 = .ok (.invokevirtual 313, 3) := by decide +kernel
theorem dX9_dropsApart_21 : decode cX9_dropsApart 21 = .ok (.iconst 0, 1) := by decide +kernel
theorem dX9_dropsApart_22 : decode cX9_dropsApart 22 = .ok (.istore 5, 2) := by decide +kernel
theorem dX9_dropsApart_24 : decode cX9_dropsApart 24 = .ok (.iload 5, 2) := by decide +kernel
theorem dX9_dropsApart_26 : decode cX9_dropsApart 26 = .ok (.iload 4, 2) := by decide +kernel
theorem dX9_dropsApart_28 : decode cX9_dropsApart 28 = .ok (.if_icmp .ge 17, 3) := by decide +kernel
theorem dX9_dropsApart_31 : decode cX9_dropsApart 31 = .ok (.aload_n 0, 1) := by decide +kernel
theorem dX9_dropsApart_32 : decode cX9_dropsApart 32 = .ok (.getfield 28, 3) := by decide +kernel
theorem dX9_dropsApart_35 : decode cX9_dropsApart 35 = .ok (.aload_n 3, 1) := by decide +kernel
theorem dX9_dropsApart_36 : decode cX9_dropsApart 36 = .ok (.invokevirtual 187, 3) := by decide +kernel
theorem dX9_dropsApart_39 : decode cX9_dropsApart 39 = .ok (.iinc 5 1, 3) := by decide +kernel
theorem dX9_dropsApart_42 : decode cX9_dropsApart 42 = .ok (.goto (-18), 3) := by decide +kernel
theorem dX9_dropsApart_45 : decode cX9_dropsApart 45 = .ok (.aload_n 0, 1) := by decide +kernel
theorem dX9_dropsApart_46 : decode cX9_dropsApart 46 = .ok (.getfield 28, 3) := by decide +kernel
theorem dX9_dropsApart_49 : decode cX9_dropsApart 49 = .ok (.iconst 1, 1) := by decide +kernel
theorem dX9_dropsApart_50 : decode cX9_dropsApart 50 = .ok (.iload_n 1, 1) := by decide +kernel
theorem dX9_dropsApart_51 : decode cX9_dropsApart 51 = .ok (.ishl, 1) := by decide +kernel
theorem dX9_dropsApart_52 : decode cX9_dropsApart 52 = .ok (.invokevirtual 181, 3) := by decide +kernel
theorem dX9_dropsApart_55 : decode cX9_dropsApart 55 = .ok (.aload_n 0, 1) := by decide +kernel
theorem dX9_dropsApart_56 : decode cX9_dropsApart 56 = .ok (.getfield 28, 3) := by decide +kernel
theorem dX9_dropsApart_59 : decode cX9_dropsApart 59 = .ok (.iconst 1, 1) := by decide +kernel
theorem dX9_dropsApart_60 : decode cX9_dropsApart 60 = .ok (.iload_n 2, 1) := by decide +kernel
theorem dX9_dropsApart_61 : decode cX9_dropsApart 61 = .ok (.ishl, 1) := by decide +kernel
theorem dX9_dropsApart_62 : decode cX9_dropsApart 62 = .ok (.invokevirtual 181, 3) := by decide +kernel
theorem dX9_dropsApart_65 : decode cX9_dropsApart 65 = .ok (.isub, 1) := by decide +kernel
theorem dX9_dropsApart_66 : decode cX9_dropsApart 66 = .ok (.invokestatic 322, 3) := by decide +kernel
theorem dX9_dropsApart_69 : decode cX9_dropsApart 69 = .ok (.ireturn, 1) := by decide +kernel
theorem dX10_in_0 : decode cX10_in 0 = .ok (.lload_n 0, 1) := by decide +kernel
theorem dX10_in_1 : decode cX10_in 1 = .ok (.lload_n 2, 1) := by decide +kernel
theorem dX10_in_2 : decode cX10_in 2 = .ok (.lcmp, 1) := by decide +kernel
theorem dX10_in_3 : decode cX10_in 3 = .ok (.ifCond .lt 14, 3) := by decide +kernel
theorem dX10_in_6 : decode cX10_in 6 = .ok (.lload_n 0, 1) := by decide +kernel
theorem dX10_in_7 : decode cX10_in 7 = .ok (.lload 4, 2) := by decide +kernel
theorem dX10_in_9 : decode cX10_in 9 = .ok (.lcmp, 1) := by decide +kernel
theorem dX10_in_10 : decode cX10_in 10 = .ok (.ifCond .gt 7, 3) := by decide +kernel
theorem dX10_in_13 : decode cX10_in 13 = .ok (.iconst 1, 1) := by decide +kernel
theorem dX10_in_14 : decode cX10_in 14 = .ok (.goto 4, 3) := by decide +kernel
theorem dX10_in_17 : decode cX10_in 17 = .ok (.iconst 0, 1) := by decide +kernel
theorem dX10_in_18 : decode cX10_in 18 = .ok (.ireturn, 1) := by decide +kernel
theorem dX10_within_0 : decode cX10_within 0 = .ok (.iload_n 0, 1) := by decide +kernel
theorem dX10_within_1 : decode cX10_within 1 = .ok (.iload_n 1, 1) := by decide +kernel
theorem dX10_within_2 : decode cX10_within 2 = .ok (.if_icmp .ge 7, 3) := by decide +kernel
theorem dX10_within_5 : decode cX10_within 5 = .ok (.iload_n 1, 1) := by decide +kernel
theorem dX10_within_6 : decode cX10_within 6 = .ok (.goto 13, 3) := by decide +kernel
theorem dX10_within_9 : decode cX10_within 9 = .ok (.iload_n 0, 1) := by decide +kernel
theorem dX10_within_10 : decode cX10_within 10 = .ok (.iload_n 2, 1) := by decide +kernel
theorem dX10_within_11 : decode cX10_within 11 = .ok (.if_icmp .le 7, 3) := by decide +kernel
theorem dX10_within_14 : decode cX10_within 14 = .ok (.iload_n 2, 1) := by decide +kernel
theorem dX10_within_15 : decode cX10_within 15 = .ok (.goto 4, 3) := by decide +kernel
theorem dX10_within_18 : decode cX10_within 18 = .ok (.iload_n 0, 1) := by decide +kernel
theorem dX10_within_19 : decode cX10_within 19 = .ok (.ireturn, 1) := by decide +kernel
theorem dX10_init_0 : decode cX10_init 0 = .ok (.aload_n 0, 1) := by decide +kernel
theorem dX10_init_1 : decode cX10_init 1 = .ok (.invokespecial 7, 3) := by decide +kernel
theorem dX10_init_4 : decode cX10_init 4 = .ok (.aload_n 0, 1) := by decide +kernel
theorem dX10_init_5 : decode cX10_init 5 = .ok (.sipush 960, 3) := by decide +kernel
theorem dX10_init_8 : decode cX10_init 8 = .ok (.newarray .int, 2) := by decide +kernel
theorem dX10_init_10 : decode cX10_init 10 = .ok (.putfield 13, 3) := by decide +kernel
theorem dX10_init_13 : decode cX10_init 13 = .ok (.aload_n 0, 1) := by decide +kernel
theorem dX10_init_14 : decode cX10_init 14 = .ok (.bipush 6, 2) := by decide +kernel
theorem dX10_init_16 : decode cX10_init 16 = .ok (.newarray .int, 2) := by decide +kernel
theorem dX10_init_18 : decode cX10_init 18 = .ok (.putfield 17, 3) := by decide +kernel
theorem dX10_init_21 : decode cX10_init 21 = .ok (.aload_n 0, 1) := by decide +kernel
theorem dX10_init_22 : decode cX10_init 22 = .ok (.sipush 160, 3) := by decide +kernel
theorem dX10_init_25 : decode cX10_init 25 = .ok (.newarray .int, 2) := by decide +kernel
theorem dX10_init_27 : decode cX10_init 27 = .ok (.putfield 20, 3) := by decide +kernel
theorem dX10_init_30 : decode cX10_init 30 = .ok (.aload_n 0, 1) := by decide +kernel
theorem dX10_init_31 : decode cX10_init 31 = .ok (.bipush 8, 2) := by decide +kernel
theorem dX10_init_33 : decode cX10_init 33 = .ok (.newarray .int, 2) := by decide +kernel
theorem dX10_init_35 : decode cX10_init 35 = .ok (.putfield 23, 3) := by decide +kernel
theorem dX10_init_38 : decode cX10_init 38 = .ok (.aload_n 0, 1) := by decide +kernel
theorem dX10_init_39 : decode cX10_init 39 = .ok (.bipush 8, 2) := by decide +kernel
theorem dX10_init_41 : decode cX10_init 41 = .ok (.newarray .int, 2) := by decide +kernel
theorem dX10_init_43 : decode cX10_init 43 = .ok (.putfield 26, 3) := by decide +kernel
theorem dX10_init_46 : decode cX10_init 46 = .ok (.aload_n 0, 1) := by decide +kernel
theorem dX10_init_47 : decode cX10_init 47 = .ok (.bipush 8, 2) := by decide +kernel
theorem dX10_init_49 : decode cX10_init 49 = .ok (.newarray .int, 2) := by decide +kernel
theorem dX10_init_51 : decode cX10_init 51 = .ok (.putfield 29, 3) := by decide +kernel
theorem dX10_init_54 : decode cX10_init 54 = .ok (.aload_n 0, 1) := by decide +kernel
theorem dX10_init_55 : decode cX10_init 55 = .ok (.iconst 4, 1) := by decide +kernel
theorem dX10_init_56 : decode cX10_init 56 = .ok (.newarray .int, 2) := by decide +kernel
theorem dX10_init_58 : decode cX10_init 58 = .ok (.putfield 32, 3) := by decide +kernel
theorem dX10_init_61 : decode cX10_init 61 = .ok (.aload_n 0, 1) := by decide +kernel
theorem dX10_init_62 : decode cX10_init 62 = .ok (.bipush 24, 2) := by decide +kernel
theorem dX10_init_64 : decode cX10_init 64 = .ok (.newarray .int, 2) := by decide +kernel
theorem dX10_init_66 : decode cX10_init 66 = .ok (.putfield 35, 3) := by decide +kernel
theorem dX10_init_69 : decode cX10_init 69 = .ok (.aload_n 0, 1) := by decide +kernel
theorem dX10_init_70 : decode cX10_init 70 = .ok (.bipush 64, 2) := by decide +kernel
theorem dX10_init_72 : decode cX10_init 72 = .ok (.newarray .int, 2) := by decide +kernel
theorem dX10_init_74 : decode cX10_init 74 = .ok (.putfield 38, 3) := by decide +kernel
theorem dX10_init_77 : decode cX10_init 77 = .ok (.aload_n 0, 1) := by decide +kernel
theorem dX10_init_78 : decode cX10_init 78 = .ok (.bipush 8, 2) := by decide +kernel
theorem dX10_init_80 : decode cX10_init 80 = .ok (.newarray .int, 2) := by decide +kernel
theorem dX10_init_82 : decode cX10_init 82 = .ok (.putfield 41, 3) := by decide +kernel
theorem dX10_init_85 : decode cX10_init 85 = .ok (.aload_n 0, 1) := by decide +kernel
theorem dX10_init_86 : decode cX10_init 86 = .ok (.sipush 192, 3) := by decide +kernel
theorem dX10_init_89 : decode cX10_init 89 = .ok (.newarray .int, 2) := by decide +kernel
theorem dX10_init_91 : decode cX10_init 91 = .ok (.putfield 44, 3) := by decide +kernel
theorem dX10_init_94 : decode cX10_init 94 = .ok (.aload_n 0, 1) := by decide +kernel
theorem dX10_init_95 : decode cX10_init 95 = .ok (.sipush 192, 3) := by decide +kernel
theorem dX10_init_98 : decode cX10_init 98 = .ok (.newarray .int, 2) := by decide +kernel
theorem dX10_init_100 : decode cX10_init 100 = .ok (.putfield 47, 3) := by decide +kernel
theorem dX10_init_103 : decode cX10_init 103 = .ok (.aload_n 0, 1) := by decide +kernel
theorem dX10_init_104 : decode cX10_init 104 = .ok (.bipush 8, 2) := by decide +kernel
theorem dX10_init_106 : decode cX10_init 106 = .ok (.newarray .int, 2) := by decide +kernel
theorem dX10_init_108 : decode cX10_init 108 = .ok (.putfield 50, 3) := by decide +kernel
theorem dX10_init_111 : decode cX10_init 111 = .ok (.aload_n 0, 1) := by decide +kernel
theorem dX10_init_112 : decode cX10_init 112 = .ok (.iconst 4, 1) := by decide +kernel
theorem dX10_init_113 : decode cX10_init 113 = .ok (.newarray .int, 2) := by decide +kernel
theorem dX10_init_115 : decode cX10_init 115 = .ok (.putfield 53, 3) := by decide +kernel
theorem dX10_init_118 : decode cX10_init 118 = .ok (.aload_n 0, 1) := by decide +kernel
theorem dX10_init_119 : decode cX10_init 119 = .ok (.bipush 32, 2) := by decide +kernel
theorem dX10_init_121 : decode cX10_init 121 = .ok (.newarray .int, 2) := by decide +kernel
theorem dX10_init_123 : decode cX10_init 123 = .ok (.putfield 56, 3) := by decide +kernel
theorem dX10_init_126 : decode cX10_init 126 = .ok (.aload_n 0, 1) := by decide +kernel
theorem dX10_init_127 : decode cX10_init 127 = .ok (.bipush 8, 2) := by decide +kernel
theorem dX10_init_129 : decode cX10_init 129 = .ok (.newarray .int, 2) := by decide +kernel
theorem dX10_init_131 : decode cX10_init 131 = .ok (.putfield 59, 3) := by decide +kernel
theorem dX10_init_134 : decode cX10_init 134 = .ok (.aload_n 0, 1) := by decide +kernel
theorem dX10_init_135 : decode cX10_init 135 = .ok (.bipush 8, 2) := by decide +kernel
theorem dX10_init_137 : decode cX10_init 137 = .ok (.newarray .int, 2) := by decide +kernel
theorem dX10_init_139 : decode cX10_init 139 = .ok (.putfield 62, 3) := by decide +kernel
theorem dX10_init_142 : decode cX10_init 142 = .ok (.aload_n 0, 1) := by decide +kernel
theorem dX10_init_143 : decode cX10_init 143 = .ok (.bipush 8, 2) := by decide +kernel
theorem dX10_init_145 : decode cX10_init 145 = .ok (.newarray .int, 2) := by decide +kernel
theorem dX10_init_147 : decode cX10_init 147 = .ok (.putfield 65, 3) := by decide +kernel
theorem dX10_init_150 : decode cX10_init 150 = .ok (.aload_n 0, 1) := by decide +kernel
theorem dX10_init_151 : decode cX10_init 151 = .ok (.bipush 20, 2) := by decide +kernel
theorem dX10_init_153 : decode cX10_init 153 = .ok (.newarray .int, 2) := by decide +kernel
theorem dX10_init_155 : decode cX10_init 155 = .ok (.putfield 68, 3) := by decide +kernel
theorem dX10_init_158 : decode cX10_init 158 = .ok (.aload_n 0, 1) := by decide +kernel
theorem dX10_init_159 : decode cX10_init 159 = .ok (.bipush 20, 2) := by decide +kernel
theorem dX10_init_161 : decode cX10_init 161 = .ok (.newarray .int, 2) := by decide +kernel
theorem dX10_init_163 : decode cX10_init 163 = .ok (.putfield 71, 3) := by decide +kernel
theorem dX10_init_166 : decode cX10_init 166 = .ok (.aload_n 0, 1) := by decide +kernel
theorem dX10_init_167 : decode cX10_init 167 = .ok (.bipush 20, 2) := by decide +kernel
theorem dX10_init_169 : decode cX10_init 169 = .ok (.newarray .int, 2) := by decide +kernel
theorem dX10_init_171 : decode cX10_init 171 = .ok (.putfield 74, 3) := by decide +kernel
theorem dX10_init_174 : decode cX10_init 174 = .ok (.aload_n 0, 1) := by decide +kernel
theorem dX10_init_175 : decode cX10_init 175 = .ok (.bipush 8, 2) := by decide +kernel
theorem dX10_init_177 : decode cX10_init 177 = .ok (.newarray .int, 2) := by decide +kernel
theorem dX10_init_179 : decode cX10_init 179 = .ok (.putfield 77, 3) := by decide +kernel
theorem dX10_init_182 : decode cX10_init 182 = .ok (.aload_n 0, 1) := by decide +kernel
theorem dX10_init_183 : decode cX10_init 183 = .ok (.bipush 8, 2) := by decide +kernel
theorem dX10_init_185 : decode cX10_init 185 = .ok (.newarray .int, 2) := by decide +kernel
theorem dX10_init_187 : decode cX10_init 187 = .ok (.putfield 80, 3) := by decide +kernel
theorem dX10_init_190 : decode cX10_init 190 = .ok (.aload_n 0, 1) := by decide +kernel
theorem dX10_init_191 : decode cX10_init 191 = .ok (.iconst 4, 1) := by decide +kernel
theorem dX10_init_192 : decode cX10_init 192 = .ok (.newarray .int, 2) := by decide +kernel
theorem dX10_init_194 : decode cX10_init 194 = .ok (.putfield 83, 3) := by decide +kernel
theorem dX10_init_197 : decode cX10_init 197 = .ok (.aload_n 0, 1) := by decide +kernel
theorem dX10_init_198 : decode cX10_init 198 = .ok (.bipush 32, 2) := by decide +kernel
theorem dX10_init_200 : decode cX10_init 200 = .ok (.newarray .int, 2) := by decide +kernel
theorem dX10_init_202 : decode cX10_init 202 = .ok (.putfield 86, 3) := by decide +kernel
theorem dX10_init_205 : decode cX10_init 205 = .ok (.aload_n 0, 1) := by decide +kernel
theorem dX10_init_206 : decode cX10_init 206 = .ok (.iconst 4, 1) := by decide +kernel
theorem dX10_init_207 : decode cX10_init 207 = .ok (.newarray .boolean, 2) := by decide +kernel
theorem dX10_init_209 : decode cX10_init 209 = .ok (.putfield 89, 3) := by decide +kernel
theorem dX10_init_212 : decode cX10_init 212 = .ok (.aload_n 0, 1) := by decide +kernel
theorem dX10_init_213 : decode cX10_init 213 = .ok (.iconst 4, 1) := by decide +kernel
theorem dX10_init_214 : decode cX10_init 214 = .ok (.newarray .int, 2) := by decide +kernel
theorem dX10_init_216 : decode cX10_init 216 = .ok (.putfield 93, 3) := by decide +kernel
theorem dX10_init_219 : decode cX10_init 219 = .ok (.aload_n 0, 1) := by decide +kernel
theorem dX10_init_220 : decode cX10_init 220 = .ok (.iconst 4, 1) := by decide +kernel
theorem dX10_init_221 : decode cX10_init 221 = .ok (.newarray .int, 2) := by decide +kernel
theorem dX10_init_223 : decode cX10_init 223 = .ok (.putfield 96, 3) := by decide +kernel
theorem dX10_init_226 : decode cX10_init 226 = .ok (.aload_n 0, 1) := by decide +kernel
theorem dX10_init_227 : decode cX10_init 227 = .ok (.sipush 160, 3) := by decide +kernel
theorem dX10_init_230 : decode cX10_init 230 = .ok (.newarray .int, 2) := by decide +kernel
theorem dX10_init_232 : decode cX10_init 232 = .ok (.putfield 99, 3) := by decide +kernel
theorem dX10_init_235 : decode cX10_init 235 = .ok (.aload_n 0, 1) := by decide +kernel
theorem dX10_init_236 : decode cX10_init 236 = .ok (.iconst 0, 1) := by decide +kernel
theorem dX10_init_237 : decode cX10_init 237 = .ok (.ldc2_w 102, 3) := by decide +kernel
theorem dX10_init_240 : decode cX10_init 240 = .ok (.invokevirtual 104, 3) := by decide +kernel
theorem dX10_init_243 : decode cX10_init 243 = .ok (.aload_n 0, 1) := by decide +kernel
theorem dX10_init_244 : decode cX10_init 244 = .ok (.bipush 8, 2) := by decide +kernel
theorem dX10_init_246 : decode cX10_init 246 = .ok (.ldc2_w 108, 3) := by decide +kernel
theorem dX10_init_249 : decode cX10_init 249 = .ok (.invokevirtual 104, 3) := by decide +kernel
theorem dX10_init_252 : decode cX10_init 252 = .ok (.aload_n 0, 1) := by decide +kernel
theorem dX10_init_253 : decode cX10_init 253 = .ok (.bipush 16, 2) := by decide +kernel
theorem dX10_init_255 : decode cX10_init 255 = .ok (.ldc2_w 110, 3) := by decide +kernel
theorem dX10_init_258 : decode cX10_init 258 = .ok (.invokevirtual 104, 3) := by decide +kernel
theorem dX10_init_261 : decode cX10_init 261 = .ok (.aload_n 0, 1) := by decide +kernel
theorem dX10_init_262 : decode cX10_init 262 = .ok (.bipush 24, 2) := by decide +kernel
theorem dX10_init_264 : decode cX10_init 264 = .ok (.ldc2_w 112, 3) := by decide +kernel
theorem dX10_init_267 : decode cX10_init 267 = .ok (.invokevirtual 104, 3) := by decide +kernel
theorem dX10_init_270 : decode cX10_init 270 = .ok (.aload_n 0, 1) := by decide +kernel
theorem dX10_init_271 : decode cX10_init 271 = .ok (.getfield 17, 3) := by decide +kernel
theorem dX10_init_274 : decode cX10_init 274 = .ok (.iconst 0, 1) := by decide +kernel
theorem dX10_init_275 : decode cX10_init 275 = .ok (.bipush 32, 2) := by decide +kernel
theorem dX10_init_277 : decode cX10_init 277 = .ok (.iastore, 1) := by decide +kernel
theorem dX10_init_278 : decode cX10_init 278 = .ok (.aload_n 0, 1) := by decide +kernel
theorem dX10_init_279 : decode cX10_init 279 = .ok (.iconst 1, 1) := by decide +kernel
theorem dX10_init_280 : decode cX10_init 280 = .ok (.putfield 114, 3) := by decide +kernel
theorem dX10_init_283 : decode cX10_init 283 = .ok (.aload_n 0, 1) := by decide +kernel
theorem dX10_init_284 : decode cX10_init 284 = .ok (.bipush 30, 2) := by decide +kernel
theorem dX10_init_286 : decode cX10_init 286 = .ok (.putfield 117, 3) := by decide +kernel
theorem dX10_init_289 : decode cX10_init 289 = .ok (.aload_n 0, 1) := by decide +kernel
theorem dX10_init_290 : decode cX10_init 290 = .ok (.getfield 32, 3) := by decide +kernel
theorem dX10_init_293 : decode cX10_init 293 = .ok (.iconst 1, 1) := by decide +kernel
theorem dX10_init_294 : decode cX10_init 294 = .ok (.sipush 1000, 3) := by decide +kernel
theorem dX10_init_297 : decode cX10_init 297 = .ok (.iastore, 1) := by decide +kernel
theorem dX10_init_298 : decode cX10_init 298 = .ok (.aload_n 0, 1) := by decide +kernel
theorem dX10_init_299 : decode cX10_init 299 = .ok (.getfield 32, 3) := by decide +kernel
theorem dX10_init_302 : decode cX10_init 302 = .ok (.iconst 2, 1) := by decide +kernel
theorem dX10_init_303 : decode cX10_init 303 = .ok (.sipush (-800), 3) := by decide +kernel
theorem dX10_init_306 : decode cX10_init 306 = .ok (.iastore, 1) := by decide +kernel
theorem dX10_init_307 : decode cX10_init 307 = .ok (.aload_n 0, 1) := by decide +kernel
theorem dX10_init_308 : decode cX10_init 308 = .ok (.getfield 32, 3) := by decide +kernel
theorem dX10_init_311 : decode cX10_init 311 = .ok (.iconst 3, 1) := by decide +kernel
theorem dX10_init_312 : decode cX10_init 312 = .ok (.sipush (-600), 3) := by decide +kernel
theorem dX10_init_315 : decode cX10_init 315 = .ok (.iastore, 1) := by decide +kernel
theorem dX10_init_316 : decode cX10_init 316 = .ok (.iconst 0, 1) := by decide +kernel
theorem dX10_init_317 : decode cX10_init 317 = .ok (.istore_n 1, 1) := by decide +kernel
theorem dX10_init_318 : decode cX10_init 318 = .ok (.iload_n 1, 1) := by decide +kernel
theorem dX10_init_319 : decode cX10_init 319 = .ok (.bipush 24, 2) := by decide +kernel
theorem dX10_init_321 : decode cX10_init 321 = .ok (.if_icmp .ge 17, 3) := by decide +kernel
theorem dX10_init_324 : decode cX10_init 324 = .ok (.aload_n 0, 1) := by decide +kernel
theorem dX10_init_325 : decode cX10_init 325 = .ok (.getfield 35, 3) := by decide +kernel
theorem dX10_init_328 : decode cX10_init 328 = .ok (.iload_n 1, 1) := by decide +kernel
theorem dX10_init_329 : decode cX10_init 329 = .ok (.bipush 100, 2) := by decide +kernel
theorem dX10_init_331 : decode cX10_init 331 = .ok (.iastore, 1) := by decide +kernel
theorem dX10_init_332 : decode cX10_init 332 = .ok (.iinc 1 1, 3) := by decide +kernel
theorem dX10_init_335 : decode cX10_init 335 = .ok (.goto (-17), 3) := by decide +kernel
theorem dX10_init_338 : decode cX10_init 338 = .ok (.return_, 1) := by decide +kernel
theorem dX10_spell_0 : decode cX10_spell 0 = .ok (.iconst 0, 1) := by decide +kernel
theorem dX10_spell_1 : decode cX10_spell 1 = .ok (.istore 4, 2) := by decide +kernel
theorem dX10_spell_3 : decode cX10_spell 3 = .ok (.iload 4, 2) := by decide +kernel
theorem dX10_spell_5 : decode cX10_spell 5 = .ok (.bipush 8, 2) := by decide +kernel
theorem dX10_spell_7 : decode cX10_spell 7 = .ok (.if_icmp .ge 33, 3) := by decide +kernel
theorem dX10_spell_10 : decode cX10_spell 10 = .ok (.aload_n 0, 1) := by decide +kernel
theorem dX10_spell_11 : decode cX10_spell 11 = .ok (.getfield 13, 3) := by decide +kernel
theorem dX10_spell_14 : decode cX10_spell 14 = .ok (.iload_n 1, 1) := by decide +kernel
theorem dX10_spell_15 : decode cX10_spell 15 = .ok (.iload 4, 2) := by decide +kernel
theorem dX10_spell_17 : decode cX10_spell 17 = .ok (.iadd, 1) := by decide +kernel
theorem dX10_spell_18 : decode cX10_spell 18 = .ok (.lload_n 2, 1) := by decide +kernel
theorem dX10_spell_19 : decode cX10_spell 19 = .ok (.bipush 56, 2) := by decide +kernel
theorem dX10_spell_21 : decode cX10_spell 21 = .ok (.bipush 8, 2) := by decide +kernel
theorem dX10_spell_23 : decode cX10_spell 23 = .ok (.iload 4, 2) := by decide +kernel
theorem dX10_spell_25 : decode cX10_spell 25 = .ok (.imul, 1) := by decide +kernel
theorem dX10_spell_26 : decode cX10_spell 26 = .ok (.isub, 1) := by decide +kernel
theorem dX10_spell_27 : decode cX10_spell 27 = .ok (.lshr, 1) := by decide +kernel
theorem dX10_spell_28 : decode cX10_spell 28 = .ok (.ldc2_w 120, 3) := by decide +kernel
theorem dX10_spell_31 : decode cX10_spell 31 = .ok (.land, 1) := by decide +kernel
theorem dX10_spell_32 : decode cX10_spell 32 = .ok (.l2i, 1) := by decide +kernel
theorem dX10_spell_33 : decode cX10_spell 33 = .ok (.iastore, 1) := by decide +kernel
theorem dX10_spell_34 : decode cX10_spell 34 = .ok (.iinc 4 1, 3) := by decide +kernel
theorem dX10_spell_37 : decode cX10_spell 37 = .ok (.goto (-34), 3) := by decide +kernel
theorem dX10_spell_40 : decode cX10_spell 40 = .ok (.return_, 1) := by decide +kernel
theorem dX10_isOne_0 : decode cX10_isOne 0 = .ok (.iload_n 1, 1) := by decide +kernel
theorem dX10_isOne_1 : decode cX10_isOne 1 = .ok (.i2l, 1) := by decide +kernel
theorem dX10_isOne_2 : decode cX10_isOne 2 = .ok (.lconst 0, 1) := by decide +kernel
theorem dX10_isOne_3 : decode cX10_isOne 3 = .ok (.aload_n 0, 1) := by decide +kernel
theorem dX10_isOne_4 : decode cX10_isOne 4 = .ok (.getfield 122, 3) := by decide +kernel
theorem dX10_isOne_7 : decode cX10_isOne 7 = .ok (.iconst 1, 1) := by decide +kernel
theorem dX10_isOne_8 : decode cX10_isOne 8 = .ok (.isub, 1) := by decide +kernel
theorem dX10_isOne_9 : decode cX10_isOne 9 = .ok (.i2l, 1) := by decide +kernel
theorem dX10_isOne_10 : decode cX10_isOne 10 = .ok (.invokestatic 125, 3) := by decide +kernel
theorem dX10_isOne_13 : decode cX10_isOne 13 = .ok (.ireturn, 1) := by decide +kernel
theorem dX10_isSet_0 : decode cX10_isSet 0 = .ok (.iload_n 1, 1) := by decide +kernel
theorem dX10_isSet_1 : decode cX10_isSet 1 = .ok (.i2l, 1) := by decide +kernel
theorem dX10_isSet_2 : decode cX10_isSet 2 = .ok (.lconst 0, 1) := by decide +kernel
theorem dX10_isSet_3 : decode cX10_isSet 3 = .ok (.iconst 1, 1) := by decide +kernel
theorem dX10_isSet_4 : decode cX10_isSet 4 = .ok (.aload_n 0, 1) := by decide +kernel
theorem dX10_isSet_5 : decode cX10_isSet 5 = .ok (.getfield 122, 3) := by decide +kernel
theorem dX10_isSet_8 : decode cX10_isSet 8 = .ok (.ishl, 1) := by decide +kernel
theorem dX10_isSet_9 : decode cX10_isSet 9 = .ok (.iconst 1, 1) := by decide +kernel
theorem dX10_isSet_10 : decode cX10_isSet 10 = .ok (.isub, 1) := by decide +kernel
theorem dX10_isSet_11 : decode cX10_isSet 11 = .ok (.i2l, 1) := by decide +kernel
theorem dX10_isSet_12 : decode cX10_isSet 12 = .ok (.invokestatic 125, 3) := by decide +kernel
theorem dX10_isSet_15 : decode cX10_isSet 15 = .ok (.ireturn, 1) := by decide +kernel
theorem dX10_sign_0 : decode cX10_sign 0 = .ok (.iload_n 1, 1) := by decide +kernel
theorem dX10_sign_1 : decode cX10_sign 1 = .ok (.i2l, 1) := by decide +kernel
theorem dX10_sign_2 : decode cX10_sign 2 = .ok (.lconst 0, 1) := by decide +kernel
theorem dX10_sign_3 : decode cX10_sign 3 = .ok (.ldc2_w 129, 3) := by decide +kernel
theorem dX10_sign_6 : decode cX10_sign 6 = .ok (.invokestatic 125, 3) := by decide +kernel
theorem dX10_sign_9 : decode cX10_sign 9 = .ok (.ifCond .ne 6, 3) := by decide +kernel
theorem dX10_sign_12 : decode cX10_sign 12 = .ok (.bipush (-2), 2) := by decide +kernel
theorem dX10_sign_14 : decode cX10_sign 14 = .ok (.ireturn, 1) := by decide +kernel
theorem dX10_sign_15 : decode cX10_sign 15 = .ok (.aload_n 0, 1) := by decide +kernel
theorem dX10_sign_16 : decode cX10_sign 16 = .ok (.getfield 122, 3) := by decide +kernel
theorem dX10_sign_19 : decode cX10_sign 19 = .ok (.bipush 8, 2) := by decide +kernel
theorem dX10_sign_21 : decode cX10_sign 21 = .ok (.if_icmp .ne 6, 3) := by decide +kernel
theorem dX10_sign_24 : decode cX10_sign 24 = .ok (.bipush (-4), 2) := by decide +kernel
theorem dX10_sign_26 : decode cX10_sign 26 = .ok (.ireturn, 1) := by decide +kernel
theorem dX10_sign_27 : decode cX10_sign 27 = .ok (.aload_n 0, 1) := by decide +kernel
theorem dX10_sign_28 : decode cX10_sign 28 = .ok (.getfield 23, 3) := by decide +kernel
theorem dX10_sign_31 : decode cX10_sign 31 = .ok (.aload_n 0, 1) := by decide +kernel
theorem dX10_sign_32 : decode cX10_sign 32 = .ok (.getfield 122, 3) := by decide +kernel
theorem dX10_sign_35 : decode cX10_sign 35 = .ok (.iload_n 1, 1) := by decide +kernel
theorem dX10_sign_36 : decode cX10_sign 36 = .ok (.iastore, 1) := by decide +kernel
theorem dX10_sign_37 : decode cX10_sign 37 = .ok (.aload_n 0, 1) := by decide +kernel
theorem dX10_sign_38 : decode cX10_sign 38 = .ok (.getfield 26, 3) := by decide +kernel
theorem dX10_sign_41 : decode cX10_sign 41 = .ok (.aload_n 0, 1) := by decide +kernel
theorem dX10_sign_42 : decode cX10_sign 42 = .ok (.getfield 122, 3) := by decide +kernel
theorem dX10_sign_45 : decode cX10_sign 45 = .ok (.iconst 0, 1) := by decide +kernel
theorem dX10_sign_46 : decode cX10_sign 46 = .ok (.iastore, 1) := by decide +kernel
theorem dX10_sign_47 : decode cX10_sign 47 = .ok (.aload_n 0, 1) := by decide +kernel
theorem dX10_sign_48 : decode cX10_sign 48 = .ok (.getfield 29, 3) := by decide +kernel
theorem dX10_sign_51 : decode cX10_sign 51 = .ok (.aload_n 0, 1) := by decide +kernel
theorem dX10_sign_52 : decode cX10_sign 52 = .ok (.getfield 122, 3) := by decide +kernel
theorem dX10_sign_55 : decode cX10_sign 55 = .ok (.iconst 0, 1) := by decide +kernel
theorem dX10_sign_56 : decode cX10_sign 56 = .ok (.iastore, 1) := by decide +kernel
theorem dX10_sign_57 : decode cX10_sign 57 = .ok (.aload_n 0, 1) := by decide +kernel
theorem dX10_sign_58 : decode cX10_sign 58 = .ok (.dup, 1) := by decide +kernel
theorem dX10_sign_59 : decode cX10_sign 59 = .ok (.getfield 122, 3) := by decide +kernel
theorem dX10_sign_62 : decode cX10_sign 62 = .ok (.iconst 1, 1) := by decide +kernel
theorem dX10_sign_63 : decode cX10_sign 63 = .ok (.iadd, 1) := by decide +kernel
theorem dX10_sign_64 : decode cX10_sign 64 = .ok (.putfield 122, 3) := by decide +kernel
theorem dX10_sign_67 : decode cX10_sign 67 = .ok (.aload_n 0, 1) := by decide +kernel
theorem dX10_sign_68 : decode cX10_sign 68 = .ok (.getfield 122, 3) := by decide +kernel
theorem dX10_sign_71 : decode cX10_sign 71 = .ok (.iconst 1, 1) := by decide +kernel
theorem dX10_sign_72 : decode cX10_sign 72 = .ok (.isub, 1) := by decide +kernel
theorem dX10_sign_73 : decode cX10_sign 73 = .ok (.ireturn, 1) := by decide +kernel
theorem dX10_loudOf_0 : decode cX10_loudOf 0 = .ok (.aload_n 0, 1) := by decide +kernel
theorem dX10_loudOf_1 : decode cX10_loudOf 1 = .ok (.getfield 23, 3) := by decide +kernel
theorem dX10_loudOf_4 : decode cX10_loudOf 4 = .ok (.iload_n 1, 1) := by decide +kernel
theorem dX10_loudOf_5 : decode cX10_loudOf 5 = .ok (.iaload, 1) := by decide +kernel
theorem dX10_loudOf_6 : decode cX10_loudOf 6 = .ok (.tableswitch 71 1 5 #[34, 71, 37, 40, 69], 34) := by decide +kernel
theorem dX10_loudOf_40 : decode cX10_loudOf 40 = .ok (.bipush 30, 2) := by decide +kernel
theorem dX10_loudOf_42 : decode cX10_loudOf 42 = .ok (.ireturn, 1) := by decide +kernel
theorem dX10_loudOf_43 : decode cX10_loudOf 43 = .ok (.bipush 15, 2) := by decide +kernel
theorem dX10_loudOf_45 : decode cX10_loudOf 45 = .ok (.ireturn, 1) := by decide +kernel
theorem dX10_loudOf_46 : decode cX10_loudOf 46 = .ok (.aload_n 0, 1) := by decide +kernel
theorem dX10_loudOf_47 : decode cX10_loudOf 47 = .ok (.getfield 29, 3) := by decide +kernel
theorem dX10_loudOf_50 : decode cX10_loudOf 50 = .ok (.iload_n 1, 1) := by decide +kernel
theorem dX10_loudOf_51 : decode cX10_loudOf 51 = .ok (.iaload, 1) := by decide +kernel
theorem dX10_loudOf_52 : decode cX10_loudOf 52 = .ok (.iconst 4, 1) := by decide +kernel
theorem dX10_loudOf_53 : decode cX10_loudOf 53 = .ok (.idiv, 1) := by decide +kernel
theorem dX10_loudOf_54 : decode cX10_loudOf 54 = .ok (.bipush 29, 2) := by decide +kernel
theorem dX10_loudOf_56 : decode cX10_loudOf 56 = .ok (.if_icmp .ge 17, 3) := by decide +kernel
theorem dX10_loudOf_59 : decode cX10_loudOf 59 = .ok (.bipush 30, 2) := by decide +kernel
theorem dX10_loudOf_61 : decode cX10_loudOf 61 = .ok (.aload_n 0, 1) := by decide +kernel
theorem dX10_loudOf_62 : decode cX10_loudOf 62 = .ok (.getfield 29, 3) := by decide +kernel
theorem dX10_loudOf_65 : decode cX10_loudOf 65 = .ok (.iload_n 1, 1) := by decide +kernel
theorem dX10_loudOf_66 : decode cX10_loudOf 66 = .ok (.iaload, 1) := by decide +kernel
theorem dX10_loudOf_67 : decode cX10_loudOf 67 = .ok (.iconst 4, 1) := by decide +kernel
theorem dX10_loudOf_68 : decode cX10_loudOf 68 = .ok (.idiv, 1) := by decide +kernel
theorem dX10_loudOf_69 : decode cX10_loudOf 69 = .ok (.isub, 1) := by decide +kernel
theorem dX10_loudOf_70 : decode cX10_loudOf 70 = .ok (.goto 4, 3) := by decide +kernel
theorem dX10_loudOf_73 : decode cX10_loudOf 73 = .ok (.iconst 1, 1) := by decide +kernel
theorem dX10_loudOf_74 : decode cX10_loudOf 74 = .ok (.ireturn, 1) := by decide +kernel
theorem dX10_loudOf_75 : decode cX10_loudOf 75 = .ok (.iconst 5, 1) := by decide +kernel
theorem dX10_loudOf_76 : decode cX10_loudOf 76 = .ok (.ireturn, 1) := by decide +kernel
theorem dX10_loudOf_77 : decode cX10_loudOf 77 = .ok (.bipush 20, 2) := by decide +kernel
theorem dX10_loudOf_79 : decode cX10_loudOf 79 = .ok (.ireturn, 1) := by decide +kernel
theorem dX10_fadesOf_0 : decode cX10_fadesOf 0 = .ok (.aload_n 0, 1) := by decide +kernel
theorem dX10_fadesOf_1 : decode cX10_fadesOf 1 = .ok (.aload_n 0, 1) := by decide +kernel
theorem dX10_fadesOf_2 : decode cX10_fadesOf 2 = .ok (.getfield 131, 3) := by decide +kernel
theorem dX10_fadesOf_5 : decode cX10_fadesOf 5 = .ok (.iload_n 1, 1) := by decide +kernel
theorem dX10_fadesOf_6 : decode cX10_fadesOf 6 = .ok (.iconst 0, 1) := by decide +kernel
theorem dX10_fadesOf_7 : decode cX10_fadesOf 7 = .ok (.iconst 0, 1) := by decide +kernel
theorem dX10_fadesOf_8 : decode cX10_fadesOf 8 = .ok (.iconst 0, 1) := by decide +kernel
theorem dX10_fadesOf_9 : decode cX10_fadesOf 9 = .ok (.iconst 1, 1) := by decide +kernel
theorem dX10_fadesOf_10 : decode cX10_fadesOf 10 = .ok (.invokevirtual 134, 3) := by decide +kernel
theorem dX10_fadesOf_13 : decode cX10_fadesOf 13 = .ok (.iconst 0, 1) := by decide +kernel
theorem dX10_fadesOf_14 : decode cX10_fadesOf 14 = .ok (.bipush 100, 2) := by decide +kernel
theorem dX10_fadesOf_16 : decode cX10_fadesOf 16 = .ok (.invokestatic 138, 3) := by decide +kernel
theorem dX10_fadesOf_19 : decode cX10_fadesOf 19 = .ok (.istore_n 2, 1) := by decide +kernel
theorem dX10_fadesOf_20 : decode cX10_fadesOf 20 = .ok (.aload_n 0, 1) := by decide +kernel
theorem dX10_fadesOf_21 : decode cX10_fadesOf 21 = .ok (.getfield 23, 3) := by decide +kernel
theorem dX10_fadesOf_24 : decode cX10_fadesOf 24 = .ok (.iload_n 1, 1) := by decide +kernel
theorem dX10_fadesOf_25 : decode cX10_fadesOf 25 = .ok (.iaload, 1) := by decide +kernel
theorem dX10_fadesOf_26 : decode cX10_fadesOf 26 = .ok (.tableswitch 61 1 5 #[34, 38, 53, 34, 59], 34) := by decide +kernel
theorem dX10_fadesOf_60 : decode cX10_fadesOf 60 = .ok (.iload_n 2, 1) := by decide +kernel
theorem dX10_fadesOf_61 : decode cX10_fadesOf 61 = .ok (.iconst 2, 1) := by decide +kernel
theorem dX10_fadesOf_62 : decode cX10_fadesOf 62 = .ok (.idiv, 1) := by decide +kernel
theorem dX10_fadesOf_63 : decode cX10_fadesOf 63 = .ok (.ireturn, 1) := by decide +kernel
theorem dX10_fadesOf_64 : decode cX10_fadesOf 64 = .ok (.iload_n 2, 1) := by decide +kernel
theorem dX10_fadesOf_65 : decode cX10_fadesOf 65 = .ok (.bipush 98, 2) := by decide +kernel
theorem dX10_fadesOf_67 : decode cX10_fadesOf 67 = .ok (.if_icmp .ge 9, 3) := by decide +kernel
theorem dX10_fadesOf_70 : decode cX10_fadesOf 70 = .ok (.iload_n 2, 1) := by decide +kernel
theorem dX10_fadesOf_71 : decode cX10_fadesOf 71 = .ok (.iconst 2, 1) := by decide +kernel
theorem dX10_fadesOf_72 : decode cX10_fadesOf 72 = .ok (.iadd, 1) := by decide +kernel
theorem dX10_fadesOf_73 : decode cX10_fadesOf 73 = .ok (.goto 5, 3) := by decide +kernel
theorem dX10_fadesOf_76 : decode cX10_fadesOf 76 = .ok (.bipush 100, 2) := by decide +kernel
theorem dX10_fadesOf_78 : decode cX10_fadesOf 78 = .ok (.ireturn, 1) := by decide +kernel
theorem dX10_fadesOf_79 : decode cX10_fadesOf 79 = .ok (.iload_n 2, 1) := by decide +kernel
theorem dX10_fadesOf_80 : decode cX10_fadesOf 80 = .ok (.iconst 2, 1) := by decide +kernel
theorem dX10_fadesOf_81 : decode cX10_fadesOf 81 = .ok (.idiv, 1) := by decide +kernel
theorem dX10_fadesOf_82 : decode cX10_fadesOf 82 = .ok (.iconst 1, 1) := by decide +kernel
theorem dX10_fadesOf_83 : decode cX10_fadesOf 83 = .ok (.iadd, 1) := by decide +kernel
theorem dX10_fadesOf_84 : decode cX10_fadesOf 84 = .ok (.ireturn, 1) := by decide +kernel
theorem dX10_fadesOf_85 : decode cX10_fadesOf 85 = .ok (.iconst 0, 1) := by decide +kernel
theorem dX10_fadesOf_86 : decode cX10_fadesOf 86 = .ok (.ireturn, 1) := by decide +kernel
theorem dX10_fadesOf_87 : decode cX10_fadesOf 87 = .ok (.iload_n 2, 1) := by decide +kernel
theorem dX10_fadesOf_88 : decode cX10_fadesOf 88 = .ok (.ireturn, 1) := by decide +kernel
theorem dX10_told_0 : decode cX10_told 0 = .ok (.aload_n 0, 1) := by decide +kernel
theorem dX10_told_1 : decode cX10_told 1 = .ok (.iload_n 1, 1) := by decide +kernel
theorem dX10_told_2 : decode cX10_told 2 = .ok (.invokevirtual 142, 3) := by decide +kernel
theorem dX10_told_5 : decode cX10_told 5 = .ok (.ifCond .ne 7, 3) := by decide +kernel
theorem dX10_told_8 : decode cX10_told 8 = .ok (.ldc2_w 146, 3) := by decide +kernel
theorem dX10_told_11 : decode cX10_told 11 = .ok (.lreturn, 1) := by decide +kernel
theorem dX10_told_12 : decode cX10_told 12 = .ok (.iload_n 2, 1) := by decide +kernel
theorem dX10_told_13 : decode cX10_told 13 = .ok (.tableswitch 73 0 4 #[35, 43, 51, 59, 66], 35) := by decide +kernel
theorem dX10_told_48 : decode cX10_told 48 = .ok (.aload_n 0, 1) := by decide +kernel
theorem dX10_told_49 : decode cX10_told 49 = .ok (.getfield 23, 3) := by decide +kernel
theorem dX10_told_52 : decode cX10_told 52 = .ok (.iload_n 1, 1) := by decide +kernel
theorem dX10_told_53 : decode cX10_told 53 = .ok (.iaload, 1) := by decide +kernel
theorem dX10_told_54 : decode cX10_told 54 = .ok (.i2l, 1) := by decide +kernel
theorem dX10_told_55 : decode cX10_told 55 = .ok (.lreturn, 1) := by decide +kernel
theorem dX10_told_56 : decode cX10_told 56 = .ok (.aload_n 0, 1) := by decide +kernel
theorem dX10_told_57 : decode cX10_told 57 = .ok (.getfield 26, 3) := by decide +kernel
theorem dX10_told_60 : decode cX10_told 60 = .ok (.iload_n 1, 1) := by decide +kernel
theorem dX10_told_61 : decode cX10_told 61 = .ok (.iaload, 1) := by decide +kernel
theorem dX10_told_62 : decode cX10_told 62 = .ok (.i2l, 1) := by decide +kernel
theorem dX10_told_63 : decode cX10_told 63 = .ok (.lreturn, 1) := by decide +kernel
theorem dX10_told_64 : decode cX10_told 64 = .ok (.aload_n 0, 1) := by decide +kernel
theorem dX10_told_65 : decode cX10_told 65 = .ok (.getfield 29, 3) := by decide +kernel
theorem dX10_told_68 : decode cX10_told 68 = .ok (.iload_n 1, 1) := by decide +kernel
theorem dX10_told_69 : decode cX10_told 69 = .ok (.iaload, 1) := by decide +kernel
theorem dX10_told_70 : decode cX10_told 70 = .ok (.i2l, 1) := by decide +kernel
theorem dX10_told_71 : decode cX10_told 71 = .ok (.lreturn, 1) := by decide +kernel
theorem dX10_told_72 : decode cX10_told 72 = .ok (.aload_n 0, 1) := by decide +kernel
theorem dX10_told_73 : decode cX10_told 73 = .ok (.iload_n 1, 1) := by decide +kernel
theorem dX10_told_74 : decode cX10_told 74 = .ok (.invokevirtual 148, 3) := by decide +kernel
theorem dX10_told_77 : decode cX10_told 77 = .ok (.i2l, 1) := by decide +kernel
theorem dX10_told_78 : decode cX10_told 78 = .ok (.lreturn, 1) := by decide +kernel
theorem dX10_told_79 : decode cX10_told 79 = .ok (.aload_n 0, 1) := by decide +kernel
theorem dX10_told_80 : decode cX10_told 80 = .ok (.iload_n 1, 1) := by decide +kernel
theorem dX10_told_81 : decode cX10_told 81 = .ok (.invokevirtual 152, 3) := by decide +kernel
theorem dX10_told_84 : decode cX10_told 84 = .ok (.i2l, 1) := by decide +kernel
theorem dX10_told_85 : decode cX10_told 85 = .ok (.lreturn, 1) := by decide +kernel
theorem dX10_told_86 : decode cX10_told 86 = .ok (.ldc2_w 146, 3) := by decide +kernel
theorem dX10_told_89 : decode cX10_told 89 = .ok (.lreturn, 1) := by decide +kernel
theorem dX10_worth_0 : decode cX10_worth 0 = .ok (.iload_n 1, 1) := by decide +kernel
theorem dX10_worth_1 : decode cX10_worth 1 = .ok (.i2l, 1) := by decide +kernel
theorem dX10_worth_2 : decode cX10_worth 2 = .ok (.lconst 1, 1) := by decide +kernel
theorem dX10_worth_3 : decode cX10_worth 3 = .ok (.ldc2_w 155, 3) := by decide +kernel
theorem dX10_worth_6 : decode cX10_worth 6 = .ok (.invokestatic 125, 3) := by decide +kernel
theorem dX10_worth_9 : decode cX10_worth 9 = .ok (.ifCond .eq 17, 3) := by decide +kernel
theorem dX10_worth_12 : decode cX10_worth 12 = .ok (.iload_n 2, 1) := by decide +kernel
theorem dX10_worth_13 : decode cX10_worth 13 = .ok (.i2l, 1) := by decide +kernel
theorem dX10_worth_14 : decode cX10_worth 14 = .ok (.ldc2_w 157, 3) := by decide +kernel
theorem dX10_worth_17 : decode cX10_worth 17 = .ok (.ldc2_w 159, 3) := by decide +kernel
theorem dX10_worth_20 : decode cX10_worth 20 = .ok (.invokestatic 125, 3) := by decide +kernel
theorem dX10_worth_23 : decode cX10_worth 23 = .ok (.ifCond .ne 7, 3) := by decide +kernel
theorem dX10_worth_26 : decode cX10_worth 26 = .ok (.sipush (-9999), 3) := by decide +kernel
theorem dX10_worth_29 : decode cX10_worth 29 = .ok (.ireturn, 1) := by decide +kernel
theorem dX10_worth_30 : decode cX10_worth 30 = .ok (.aload_n 0, 1) := by decide +kernel
theorem dX10_worth_31 : decode cX10_worth 31 = .ok (.getfield 32, 3) := by decide +kernel
theorem dX10_worth_34 : decode cX10_worth 34 = .ok (.iload_n 1, 1) := by decide +kernel
theorem dX10_worth_35 : decode cX10_worth 35 = .ok (.iaload, 1) := by decide +kernel
theorem dX10_worth_36 : decode cX10_worth 36 = .ok (.istore_n 3, 1) := by decide +kernel
theorem dX10_worth_37 : decode cX10_worth 37 = .ok (.aload_n 0, 1) := by decide +kernel
theorem dX10_worth_38 : decode cX10_worth 38 = .ok (.getfield 32, 3) := by decide +kernel
theorem dX10_worth_41 : decode cX10_worth 41 = .ok (.iload_n 1, 1) := by decide +kernel
theorem dX10_worth_42 : decode cX10_worth 42 = .ok (.iload_n 2, 1) := by decide +kernel
theorem dX10_worth_43 : decode cX10_worth 43 = .ok (.iastore, 1) := by decide +kernel
theorem dX10_worth_44 : decode cX10_worth 44 = .ok (.iload_n 3, 1) := by decide +kernel
theorem dX10_worth_45 : decode cX10_worth 45 = .ok (.ireturn, 1) := by decide +kernel
theorem dX10_goes_0 : decode cX10_goes 0 = .ok (.iload_n 1, 1) := by decide +kernel
theorem dX10_goes_1 : decode cX10_goes 1 = .ok (.i2l, 1) := by decide +kernel
theorem dX10_goes_2 : decode cX10_goes 2 = .ok (.lconst 0, 1) := by decide +kernel
theorem dX10_goes_3 : decode cX10_goes 3 = .ok (.ldc2_w 129, 3) := by decide +kernel
theorem dX10_goes_6 : decode cX10_goes 6 = .ok (.invokestatic 125, 3) := by decide +kernel
theorem dX10_goes_9 : decode cX10_goes 9 = .ok (.ifCond .eq 27, 3) := by decide +kernel
theorem dX10_goes_12 : decode cX10_goes 12 = .ok (.iload_n 2, 1) := by decide +kernel
theorem dX10_goes_13 : decode cX10_goes 13 = .ok (.i2l, 1) := by decide +kernel
theorem dX10_goes_14 : decode cX10_goes 14 = .ok (.lconst 0, 1) := by decide +kernel
theorem dX10_goes_15 : decode cX10_goes 15 = .ok (.ldc2_w 155, 3) := by decide +kernel
theorem dX10_goes_18 : decode cX10_goes 18 = .ok (.invokestatic 125, 3) := by decide +kernel
theorem dX10_goes_21 : decode cX10_goes 21 = .ok (.ifCond .eq 15, 3) := by decide +kernel
theorem dX10_goes_24 : decode cX10_goes 24 = .ok (.iload_n 3, 1) := by decide +kernel
theorem dX10_goes_25 : decode cX10_goes 25 = .ok (.i2l, 1) := by decide +kernel
theorem dX10_goes_26 : decode cX10_goes 26 = .ok (.lconst 0, 1) := by decide +kernel
theorem dX10_goes_27 : decode cX10_goes 27 = .ok (.ldc2_w 161, 3) := by decide +kernel
theorem dX10_goes_30 : decode cX10_goes 30 = .ok (.invokestatic 125, 3) := by decide +kernel
theorem dX10_goes_33 : decode cX10_goes 33 = .ok (.ifCond .ne 6, 3) := by decide +kernel
theorem dX10_goes_36 : decode cX10_goes 36 = .ok (.bipush (-2), 2) := by decide +kernel
theorem dX10_goes_38 : decode cX10_goes 38 = .ok (.ireturn, 1) := by decide +kernel
theorem dX10_goes_39 : decode cX10_goes 39 = .ok (.aload_n 0, 1) := by decide +kernel
theorem dX10_goes_40 : decode cX10_goes 40 = .ok (.getfield 35, 3) := by decide +kernel
theorem dX10_goes_43 : decode cX10_goes 43 = .ok (.iconst 4, 1) := by decide +kernel
theorem dX10_goes_44 : decode cX10_goes 44 = .ok (.iload_n 1, 1) := by decide +kernel
theorem dX10_goes_45 : decode cX10_goes 45 = .ok (.imul, 1) := by decide +kernel
theorem dX10_goes_46 : decode cX10_goes 46 = .ok (.iload_n 2, 1) := by decide +kernel
theorem dX10_goes_47 : decode cX10_goes 47 = .ok (.iadd, 1) := by decide +kernel
theorem dX10_goes_48 : decode cX10_goes 48 = .ok (.iaload, 1) := by decide +kernel
theorem dX10_goes_49 : decode cX10_goes 49 = .ok (.istore 4, 2) := by decide +kernel
theorem dX10_goes_51 : decode cX10_goes 51 = .ok (.aload_n 0, 1) := by decide +kernel
theorem dX10_goes_52 : decode cX10_goes 52 = .ok (.getfield 35, 3) := by decide +kernel
theorem dX10_goes_55 : decode cX10_goes 55 = .ok (.iconst 4, 1) := by decide +kernel
theorem dX10_goes_56 : decode cX10_goes 56 = .ok (.iload_n 1, 1) := by decide +kernel
theorem dX10_goes_57 : decode cX10_goes 57 = .ok (.imul, 1) := by decide +kernel
theorem dX10_goes_58 : decode cX10_goes 58 = .ok (.iload_n 2, 1) := by decide +kernel
theorem dX10_goes_59 : decode cX10_goes 59 = .ok (.iadd, 1) := by decide +kernel
theorem dX10_goes_60 : decode cX10_goes 60 = .ok (.iload_n 3, 1) := by decide +kernel
theorem dX10_goes_61 : decode cX10_goes 61 = .ok (.iastore, 1) := by decide +kernel
theorem dX10_goes_62 : decode cX10_goes 62 = .ok (.iload 4, 2) := by decide +kernel
theorem dX10_goes_64 : decode cX10_goes 64 = .ok (.ireturn, 1) := by decide +kernel
theorem dX10_like_0 : decode cX10_like 0 = .ok (.aload_n 0, 1) := by decide +kernel
theorem dX10_like_1 : decode cX10_like 1 = .ok (.iload_n 1, 1) := by decide +kernel
theorem dX10_like_2 : decode cX10_like 2 = .ok (.invokevirtual 142, 3) := by decide +kernel
theorem dX10_like_5 : decode cX10_like 5 = .ok (.ifCond .eq 28, 3) := by decide +kernel
theorem dX10_like_8 : decode cX10_like 8 = .ok (.aload_n 0, 1) := by decide +kernel
theorem dX10_like_9 : decode cX10_like 9 = .ok (.iload_n 2, 1) := by decide +kernel
theorem dX10_like_10 : decode cX10_like 10 = .ok (.invokevirtual 142, 3) := by decide +kernel
theorem dX10_like_13 : decode cX10_like 13 = .ok (.ifCond .eq 20, 3) := by decide +kernel
theorem dX10_like_16 : decode cX10_like 16 = .ok (.iload_n 1, 1) := by decide +kernel
theorem dX10_like_17 : decode cX10_like 17 = .ok (.iload_n 2, 1) := by decide +kernel
theorem dX10_like_18 : decode cX10_like 18 = .ok (.if_icmp .eq 15, 3) := by decide +kernel
theorem dX10_like_21 : decode cX10_like 21 = .ok (.iload_n 3, 1) := by decide +kernel
theorem dX10_like_22 : decode cX10_like 22 = .ok (.i2l, 1) := by decide +kernel
theorem dX10_like_23 : decode cX10_like 23 = .ok (.lconst 0, 1) := by decide +kernel
theorem dX10_like_24 : decode cX10_like 24 = .ok (.ldc2_w 161, 3) := by decide +kernel
theorem dX10_like_27 : decode cX10_like 27 = .ok (.invokestatic 125, 3) := by decide +kernel
theorem dX10_like_30 : decode cX10_like 30 = .ok (.ifCond .ne 6, 3) := by decide +kernel
theorem dX10_like_33 : decode cX10_like 33 = .ok (.bipush (-2), 2) := by decide +kernel
theorem dX10_like_35 : decode cX10_like 35 = .ok (.ireturn, 1) := by decide +kernel
theorem dX10_like_36 : decode cX10_like 36 = .ok (.aload_n 0, 1) := by decide +kernel
theorem dX10_like_37 : decode cX10_like 37 = .ok (.getfield 38, 3) := by decide +kernel
theorem dX10_like_40 : decode cX10_like 40 = .ok (.bipush 8, 2) := by decide +kernel
theorem dX10_like_42 : decode cX10_like 42 = .ok (.iload_n 1, 1) := by decide +kernel
theorem dX10_like_43 : decode cX10_like 43 = .ok (.imul, 1) := by decide +kernel
theorem dX10_like_44 : decode cX10_like 44 = .ok (.iload_n 2, 1) := by decide +kernel
theorem dX10_like_45 : decode cX10_like 45 = .ok (.iadd, 1) := by decide +kernel
theorem dX10_like_46 : decode cX10_like 46 = .ok (.iaload, 1) := by decide +kernel
theorem dX10_like_47 : decode cX10_like 47 = .ok (.istore 4, 2) := by decide +kernel
theorem dX10_like_49 : decode cX10_like 49 = .ok (.aload_n 0, 1) := by decide +kernel
theorem dX10_like_50 : decode cX10_like 50 = .ok (.getfield 38, 3) := by decide +kernel
theorem dX10_like_53 : decode cX10_like 53 = .ok (.bipush 8, 2) := by decide +kernel
theorem dX10_like_55 : decode cX10_like 55 = .ok (.iload_n 1, 1) := by decide +kernel
theorem dX10_like_56 : decode cX10_like 56 = .ok (.imul, 1) := by decide +kernel
theorem dX10_like_57 : decode cX10_like 57 = .ok (.iload_n 2, 1) := by decide +kernel
theorem dX10_like_58 : decode cX10_like 58 = .ok (.iadd, 1) := by decide +kernel
theorem dX10_like_59 : decode cX10_like 59 = .ok (.iload_n 3, 1) := by decide +kernel
theorem dX10_like_60 : decode cX10_like 60 = .ok (.iastore, 1) := by decide +kernel
theorem dX10_like_61 : decode cX10_like 61 = .ok (.aload_n 0, 1) := by decide +kernel
theorem dX10_like_62 : decode cX10_like 62 = .ok (.getfield 38, 3) := by decide +kernel
theorem dX10_like_65 : decode cX10_like 65 = .ok (.bipush 8, 2) := by decide +kernel
theorem dX10_like_67 : decode cX10_like 67 = .ok (.iload_n 2, 1) := by decide +kernel
theorem dX10_like_68 : decode cX10_like 68 = .ok (.imul, 1) := by decide +kernel
theorem dX10_like_69 : decode cX10_like 69 = .ok (.iload_n 1, 1) := by decide +kernel
theorem dX10_like_70 : decode cX10_like 70 = .ok (.iadd, 1) := by decide +kernel
theorem dX10_like_71 : decode cX10_like 71 = .ok (.iload_n 3, 1) := by decide +kernel
theorem dX10_like_72 : decode cX10_like 72 = .ok (.iastore, 1) := by decide +kernel
theorem dX10_like_73 : decode cX10_like 73 = .ok (.iload 4, 2) := by decide +kernel
theorem dX10_like_75 : decode cX10_like 75 = .ok (.ireturn, 1) := by decide +kernel
theorem dX10_pace_0 : decode cX10_pace 0 = .ok (.iload_n 1, 1) := by decide +kernel
theorem dX10_pace_1 : decode cX10_pace 1 = .ok (.i2l, 1) := by decide +kernel
theorem dX10_pace_2 : decode cX10_pace 2 = .ok (.lconst 1, 1) := by decide +kernel
theorem dX10_pace_3 : decode cX10_pace 3 = .ok (.ldc2_w 161, 3) := by decide +kernel
theorem dX10_pace_6 : decode cX10_pace 6 = .ok (.invokestatic 125, 3) := by decide +kernel
theorem dX10_pace_9 : decode cX10_pace 9 = .ok (.ifCond .ne 6, 3) := by decide +kernel
theorem dX10_pace_12 : decode cX10_pace 12 = .ok (.bipush (-2), 2) := by decide +kernel
theorem dX10_pace_14 : decode cX10_pace 14 = .ok (.ireturn, 1) := by decide +kernel
theorem dX10_pace_15 : decode cX10_pace 15 = .ok (.aload_n 0, 1) := by decide +kernel
theorem dX10_pace_16 : decode cX10_pace 16 = .ok (.getfield 117, 3) := by decide +kernel
theorem dX10_pace_19 : decode cX10_pace 19 = .ok (.istore_n 2, 1) := by decide +kernel
theorem dX10_pace_20 : decode cX10_pace 20 = .ok (.aload_n 0, 1) := by decide +kernel
theorem dX10_pace_21 : decode cX10_pace 21 = .ok (.iload_n 1, 1) := by decide +kernel
theorem dX10_pace_22 : decode cX10_pace 22 = .ok (.putfield 117, 3) := by decide +kernel
theorem dX10_pace_25 : decode cX10_pace 25 = .ok (.iload_n 2, 1) := by decide +kernel
theorem dX10_pace_26 : decode cX10_pace 26 = .ok (.ireturn, 1) := by decide +kernel
theorem dX10_feed_0 : decode cX10_feed 0 = .ok (.iload_n 1, 1) := by decide +kernel
theorem dX10_feed_1 : decode cX10_feed 1 = .ok (.i2l, 1) := by decide +kernel
theorem dX10_feed_2 : decode cX10_feed 2 = .ok (.lconst 1, 1) := by decide +kernel
theorem dX10_feed_3 : decode cX10_feed 3 = .ok (.ldc2_w 163, 3) := by decide +kernel
theorem dX10_feed_6 : decode cX10_feed 6 = .ok (.invokestatic 125, 3) := by decide +kernel
theorem dX10_feed_9 : decode cX10_feed 9 = .ok (.ifCond .ne 6, 3) := by decide +kernel
theorem dX10_feed_12 : decode cX10_feed 12 = .ok (.bipush (-2), 2) := by decide +kernel
theorem dX10_feed_14 : decode cX10_feed 14 = .ok (.ireturn, 1) := by decide +kernel
theorem dX10_feed_15 : decode cX10_feed 15 = .ok (.aload_n 0, 1) := by decide +kernel
theorem dX10_feed_16 : decode cX10_feed 16 = .ok (.getfield 165, 3) := by decide +kernel
theorem dX10_feed_19 : decode cX10_feed 19 = .ok (.iload_n 1, 1) := by decide +kernel
theorem dX10_feed_20 : decode cX10_feed 20 = .ok (.iadd, 1) := by decide +kernel
theorem dX10_feed_21 : decode cX10_feed 21 = .ok (.sipush 160, 3) := by decide +kernel
theorem dX10_feed_24 : decode cX10_feed 24 = .ok (.if_icmp .le 6, 3) := by decide +kernel
theorem dX10_feed_27 : decode cX10_feed 27 = .ok (.bipush (-4), 2) := by decide +kernel
theorem dX10_feed_29 : decode cX10_feed 29 = .ok (.ireturn, 1) := by decide +kernel
theorem dX10_feed_30 : decode cX10_feed 30 = .ok (.iconst 0, 1) := by decide +kernel
theorem dX10_feed_31 : decode cX10_feed 31 = .ok (.istore 4, 2) := by decide +kernel
theorem dX10_feed_33 : decode cX10_feed 33 = .ok (.iload 4, 2) := by decide +kernel
theorem dX10_feed_35 : decode cX10_feed 35 = .ok (.iload_n 1, 1) := by decide +kernel
theorem dX10_feed_36 : decode cX10_feed 36 = .ok (.if_icmp .ge 40, 3) := by decide +kernel
theorem dX10_feed_39 : decode cX10_feed 39 = .ok (.aload_n 0, 1) := by decide +kernel
theorem dX10_feed_40 : decode cX10_feed 40 = .ok (.getfield 20, 3) := by decide +kernel
theorem dX10_feed_43 : decode cX10_feed 43 = .ok (.aload_n 0, 1) := by decide +kernel
theorem dX10_feed_44 : decode cX10_feed 44 = .ok (.getfield 165, 3) := by decide +kernel
theorem dX10_feed_47 : decode cX10_feed 47 = .ok (.lload_n 2, 1) := by decide +kernel
theorem dX10_feed_48 : decode cX10_feed 48 = .ok (.bipush 8, 2) := by decide +kernel
theorem dX10_feed_50 : decode cX10_feed 50 = .ok (.iload 4, 2) := by decide +kernel
theorem dX10_feed_52 : decode cX10_feed 52 = .ok (.imul, 1) := by decide +kernel
theorem dX10_feed_53 : decode cX10_feed 53 = .ok (.lshr, 1) := by decide +kernel
theorem dX10_feed_54 : decode cX10_feed 54 = .ok (.ldc2_w 120, 3) := by decide +kernel
theorem dX10_feed_57 : decode cX10_feed 57 = .ok (.land, 1) := by decide +kernel
theorem dX10_feed_58 : decode cX10_feed 58 = .ok (.l2i, 1) := by decide +kernel
theorem dX10_feed_59 : decode cX10_feed 59 = .ok (.iastore, 1) := by decide +kernel
theorem dX10_feed_60 : decode cX10_feed 60 = .ok (.aload_n 0, 1) := by decide +kernel
theorem dX10_feed_61 : decode cX10_feed 61 = .ok (.dup, 1) := by decide +kernel
theorem dX10_feed_62 : decode cX10_feed 62 = .ok (.getfield 165, 3) := by decide +kernel
theorem dX10_feed_65 : decode cX10_feed 65 = .ok (.iconst 1, 1) := by decide +kernel
theorem dX10_feed_66 : decode cX10_feed 66 = .ok (.iadd, 1) := by decide +kernel
theorem dX10_feed_67 : decode cX10_feed 67 = .ok (.putfield 165, 3) := by decide +kernel
theorem dX10_feed_70 : decode cX10_feed 70 = .ok (.iinc 4 1, 3) := by decide +kernel
theorem dX10_feed_73 : decode cX10_feed 73 = .ok (.goto (-40), 3) := by decide +kernel
theorem dX10_feed_76 : decode cX10_feed 76 = .ok (.aload_n 0, 1) := by decide +kernel
theorem dX10_feed_77 : decode cX10_feed 77 = .ok (.getfield 165, 3) := by decide +kernel
theorem dX10_feed_80 : decode cX10_feed 80 = .ok (.ireturn, 1) := by decide +kernel
theorem dX10_byteAt_0 : decode cX10_byteAt 0 = .ok (.iload_n 1, 1) := by decide +kernel
theorem dX10_byteAt_1 : decode cX10_byteAt 1 = .ok (.aload_n 0, 1) := by decide +kernel
theorem dX10_byteAt_2 : decode cX10_byteAt 2 = .ok (.getfield 168, 3) := by decide +kernel
theorem dX10_byteAt_5 : decode cX10_byteAt 5 = .ok (.if_icmp .ge 17, 3) := by decide +kernel
theorem dX10_byteAt_8 : decode cX10_byteAt 8 = .ok (.aload_n 0, 1) := by decide +kernel
theorem dX10_byteAt_9 : decode cX10_byteAt 9 = .ok (.getfield 13, 3) := by decide +kernel
theorem dX10_byteAt_12 : decode cX10_byteAt 12 = .ok (.aload_n 0, 1) := by decide +kernel
theorem dX10_byteAt_13 : decode cX10_byteAt 13 = .ok (.getfield 171, 3) := by decide +kernel
theorem dX10_byteAt_16 : decode cX10_byteAt 16 = .ok (.iload_n 1, 1) := by decide +kernel
theorem dX10_byteAt_17 : decode cX10_byteAt 17 = .ok (.iadd, 1) := by decide +kernel
theorem dX10_byteAt_18 : decode cX10_byteAt 18 = .ok (.iaload, 1) := by decide +kernel
theorem dX10_byteAt_19 : decode cX10_byteAt 19 = .ok (.goto 4, 3) := by decide +kernel
theorem dX10_byteAt_22 : decode cX10_byteAt 22 = .ok (.iconst (-1), 1) := by decide +kernel
theorem dX10_byteAt_23 : decode cX10_byteAt 23 = .ok (.ireturn, 1) := by decide +kernel
theorem dX10_next_0 : decode cX10_next 0 = .ok (.aload_n 0, 1) := by decide +kernel
theorem dX10_next_1 : decode cX10_next 1 = .ok (.aload_n 0, 1) := by decide +kernel
theorem dX10_next_2 : decode cX10_next 2 = .ok (.getfield 174, 3) := by decide +kernel
theorem dX10_next_5 : decode cX10_next 5 = .ok (.invokevirtual 177, 3) := by decide +kernel
theorem dX10_next_8 : decode cX10_next 8 = .ok (.bipush 32, 2) := by decide +kernel
theorem dX10_next_10 : decode cX10_next 10 = .ok (.if_icmp .eq 16, 3) := by decide +kernel
theorem dX10_next_13 : decode cX10_next 13 = .ok (.aload_n 0, 1) := by decide +kernel
theorem dX10_next_14 : decode cX10_next 14 = .ok (.aload_n 0, 1) := by decide +kernel
theorem dX10_next_15 : decode cX10_next 15 = .ok (.getfield 174, 3) := by decide +kernel
theorem dX10_next_18 : decode cX10_next 18 = .ok (.invokevirtual 177, 3) := by decide +kernel
theorem dX10_next_21 : decode cX10_next 21 = .ok (.bipush 10, 2) := by decide +kernel
theorem dX10_next_23 : decode cX10_next 23 = .ok (.if_icmp .ne 16, 3) := by decide +kernel
theorem dX10_next_26 : decode cX10_next 26 = .ok (.aload_n 0, 1) := by decide +kernel
theorem dX10_next_27 : decode cX10_next 27 = .ok (.dup, 1) := by decide +kernel
theorem dX10_next_28 : decode cX10_next 28 = .ok (.getfield 174, 3) := by decide +kernel
theorem dX10_next_31 : decode cX10_next 31 = .ok (.iconst 1, 1) := by decide +kernel
theorem dX10_next_32 : decode cX10_next 32 = .ok (.iadd, 1) := by decide +kernel
theorem dX10_next_33 : decode cX10_next 33 = .ok (.putfield 174, 3) := by decide +kernel
theorem dX10_next_36 : decode cX10_next 36 = .ok (.goto (-36), 3) := by decide +kernel
theorem dX10_next_39 : decode cX10_next 39 = .ok (.aload_n 0, 1) := by decide +kernel
theorem dX10_next_40 : decode cX10_next 40 = .ok (.aload_n 0, 1) := by decide +kernel
theorem dX10_next_41 : decode cX10_next 41 = .ok (.getfield 174, 3) := by decide +kernel
theorem dX10_next_44 : decode cX10_next 44 = .ok (.putfield 180, 3) := by decide +kernel
theorem dX10_next_47 : decode cX10_next 47 = .ok (.aload_n 0, 1) := by decide +kernel
theorem dX10_next_48 : decode cX10_next 48 = .ok (.aload_n 0, 1) := by decide +kernel
theorem dX10_next_49 : decode cX10_next 49 = .ok (.getfield 174, 3) := by decide +kernel
theorem dX10_next_52 : decode cX10_next 52 = .ok (.invokevirtual 177, 3) := by decide +kernel
theorem dX10_next_55 : decode cX10_next 55 = .ok (.istore_n 1, 1) := by decide +kernel
theorem dX10_next_56 : decode cX10_next 56 = .ok (.aload_n 0, 1) := by decide +kernel
theorem dX10_next_57 : decode cX10_next 57 = .ok (.iconst 4, 1) := by decide +kernel
theorem dX10_next_58 : decode cX10_next 58 = .ok (.putfield 183, 3) := by decide +kernel
theorem dX10_next_61 : decode cX10_next 61 = .ok (.iload_n 1, 1) := by decide +kernel
theorem dX10_next_62 : decode cX10_next 62 = .ok (.ifCond .ge 19, 3) := by decide +kernel
theorem dX10_next_65 : decode cX10_next 65 = .ok (.aload_n 0, 1) := by decide +kernel
theorem dX10_next_66 : decode cX10_next 66 = .ok (.iconst 0, 1) := by decide +kernel
theorem dX10_next_67 : decode cX10_next 67 = .ok (.putfield 183, 3) := by decide +kernel
theorem dX10_next_70 : decode cX10_next 70 = .ok (.aload_n 0, 1) := by decide +kernel
theorem dX10_next_71 : decode cX10_next 71 = .ok (.aload_n 0, 1) := by decide +kernel
theorem dX10_next_72 : decode cX10_next 72 = .ok (.getfield 168, 3) := by decide +kernel
theorem dX10_next_75 : decode cX10_next 75 = .ok (.putfield 180, 3) := by decide +kernel
theorem dX10_next_78 : decode cX10_next 78 = .ok (.goto 294, 3) := by decide +kernel
theorem dX10_next_81 : decode cX10_next 81 = .ok (.iload_n 1, 1) := by decide +kernel
theorem dX10_next_82 : decode cX10_next 82 = .ok (.i2l, 1) := by decide +kernel
theorem dX10_next_83 : decode cX10_next 83 = .ok (.ldc2_w 186, 3) := by decide +kernel
theorem dX10_next_86 : decode cX10_next 86 = .ok (.ldc2_w 188, 3) := by decide +kernel
theorem dX10_next_89 : decode cX10_next 89 = .ok (.invokestatic 125, 3) := by decide +kernel
theorem dX10_next_92 : decode cX10_next 92 = .ok (.ifCond .eq 93, 3) := by decide +kernel
theorem dX10_next_95 : decode cX10_next 95 = .ok (.aload_n 0, 1) := by decide +kernel
theorem dX10_next_96 : decode cX10_next 96 = .ok (.iconst 1, 1) := by decide +kernel
theorem dX10_next_97 : decode cX10_next 97 = .ok (.putfield 183, 3) := by decide +kernel
theorem dX10_next_100 : decode cX10_next 100 = .ok (.aload_n 0, 1) := by decide +kernel
theorem dX10_next_101 : decode cX10_next 101 = .ok (.lconst 0, 1) := by decide +kernel
theorem dX10_next_102 : decode cX10_next 102 = .ok (.putfield 190, 3) := by decide +kernel
theorem dX10_next_105 : decode cX10_next 105 = .ok (.iconst 0, 1) := by decide +kernel
theorem dX10_next_106 : decode cX10_next 106 = .ok (.istore_n 2, 1) := by decide +kernel
theorem dX10_next_107 : decode cX10_next 107 = .ok (.aload_n 0, 1) := by decide +kernel
theorem dX10_next_108 : decode cX10_next 108 = .ok (.aload_n 0, 1) := by decide +kernel
theorem dX10_next_109 : decode cX10_next 109 = .ok (.getfield 174, 3) := by decide +kernel
theorem dX10_next_112 : decode cX10_next 112 = .ok (.invokevirtual 177, 3) := by decide +kernel
theorem dX10_next_115 : decode cX10_next 115 = .ok (.i2l, 1) := by decide +kernel
theorem dX10_next_116 : decode cX10_next 116 = .ok (.ldc2_w 186, 3) := by decide +kernel
theorem dX10_next_119 : decode cX10_next 119 = .ok (.ldc2_w 188, 3) := by decide +kernel
theorem dX10_next_122 : decode cX10_next 122 = .ok (.invokestatic 125, 3) := by decide +kernel
theorem dX10_next_125 : decode cX10_next 125 = .ok (.ifCond .eq 57, 3) := by decide +kernel
theorem dX10_next_128 : decode cX10_next 128 = .ok (.aload_n 0, 1) := by decide +kernel
theorem dX10_next_129 : decode cX10_next 129 = .ok (.iload_n 2, 1) := by decide +kernel
theorem dX10_next_130 : decode cX10_next 130 = .ok (.bipush 8, 2) := by decide +kernel
theorem dX10_next_132 : decode cX10_next 132 = .ok (.if_icmp .ge 28, 3) := by decide +kernel
theorem dX10_next_135 : decode cX10_next 135 = .ok (.ldc2_w 194, 3) := by decide +kernel
theorem dX10_next_138 : decode cX10_next 138 = .ok (.aload_n 0, 1) := by decide +kernel
theorem dX10_next_139 : decode cX10_next 139 = .ok (.getfield 190, 3) := by decide +kernel
theorem dX10_next_142 : decode cX10_next 142 = .ok (.lmul, 1) := by decide +kernel
theorem dX10_next_143 : decode cX10_next 143 = .ok (.aload_n 0, 1) := by decide +kernel
theorem dX10_next_144 : decode cX10_next 144 = .ok (.aload_n 0, 1) := by decide +kernel
theorem dX10_next_145 : decode cX10_next 145 = .ok (.getfield 174, 3) := by decide +kernel
theorem dX10_next_148 : decode cX10_next 148 = .ok (.invokevirtual 177, 3) := by decide +kernel
theorem dX10_next_151 : decode cX10_next 151 = .ok (.i2l, 1) := by decide +kernel
theorem dX10_next_152 : decode cX10_next 152 = .ok (.ladd, 1) := by decide +kernel
theorem dX10_next_153 : decode cX10_next 153 = .ok (.ldc2_w 196, 3) := by decide +kernel
theorem dX10_next_156 : decode cX10_next 156 = .ok (.lsub, 1) := by decide +kernel
theorem dX10_next_157 : decode cX10_next 157 = .ok (.goto 6, 3) := by decide +kernel
theorem dX10_next_160 : decode cX10_next 160 = .ok (.ldc2_w 198, 3) := by decide +kernel
theorem dX10_next_163 : decode cX10_next 163 = .ok (.putfield 190, 3) := by decide +kernel
theorem dX10_next_166 : decode cX10_next 166 = .ok (.iinc 2 1, 3) := by decide +kernel
theorem dX10_next_169 : decode cX10_next 169 = .ok (.aload_n 0, 1) := by decide +kernel
theorem dX10_next_170 : decode cX10_next 170 = .ok (.dup, 1) := by decide +kernel
theorem dX10_next_171 : decode cX10_next 171 = .ok (.getfield 174, 3) := by decide +kernel
theorem dX10_next_174 : decode cX10_next 174 = .ok (.iconst 1, 1) := by decide +kernel
theorem dX10_next_175 : decode cX10_next 175 = .ok (.iadd, 1) := by decide +kernel
theorem dX10_next_176 : decode cX10_next 176 = .ok (.putfield 174, 3) := by decide +kernel
theorem dX10_next_179 : decode cX10_next 179 = .ok (.goto (-72), 3) := by decide +kernel
theorem dX10_next_182 : decode cX10_next 182 = .ok (.goto 190, 3) := by decide +kernel
theorem dX10_next_185 : decode cX10_next 185 = .ok (.iload_n 1, 1) := by decide +kernel
theorem dX10_next_186 : decode cX10_next 186 = .ok (.i2l, 1) := by decide +kernel
theorem dX10_next_187 : decode cX10_next 187 = .ok (.ldc2_w 200, 3) := by decide +kernel
theorem dX10_next_190 : decode cX10_next 190 = .ok (.ldc2_w 202, 3) := by decide +kernel
theorem dX10_next_193 : decode cX10_next 193 = .ok (.invokestatic 125, 3) := by decide +kernel
theorem dX10_next_196 : decode cX10_next 196 = .ok (.ifCond .eq 107, 3) := by decide +kernel
theorem dX10_next_199 : decode cX10_next 199 = .ok (.aload_n 0, 1) := by decide +kernel
theorem dX10_next_200 : decode cX10_next 200 = .ok (.iconst 2, 1) := by decide +kernel
theorem dX10_next_201 : decode cX10_next 201 = .ok (.putfield 183, 3) := by decide +kernel
theorem dX10_next_204 : decode cX10_next 204 = .ok (.aload_n 0, 1) := by decide +kernel
theorem dX10_next_205 : decode cX10_next 205 = .ok (.lconst 0, 1) := by decide +kernel
theorem dX10_next_206 : decode cX10_next 206 = .ok (.putfield 190, 3) := by decide +kernel
theorem dX10_next_209 : decode cX10_next 209 = .ok (.iconst 0, 1) := by decide +kernel
theorem dX10_next_210 : decode cX10_next 210 = .ok (.istore_n 2, 1) := by decide +kernel
theorem dX10_next_211 : decode cX10_next 211 = .ok (.aload_n 0, 1) := by decide +kernel
theorem dX10_next_212 : decode cX10_next 212 = .ok (.aload_n 0, 1) := by decide +kernel
theorem dX10_next_213 : decode cX10_next 213 = .ok (.getfield 174, 3) := by decide +kernel
theorem dX10_next_216 : decode cX10_next 216 = .ok (.invokevirtual 177, 3) := by decide +kernel
theorem dX10_next_219 : decode cX10_next 219 = .ok (.i2l, 1) := by decide +kernel
theorem dX10_next_220 : decode cX10_next 220 = .ok (.ldc2_w 200, 3) := by decide +kernel
theorem dX10_next_223 : decode cX10_next 223 = .ok (.ldc2_w 202, 3) := by decide +kernel
theorem dX10_next_226 : decode cX10_next 226 = .ok (.invokestatic 125, 3) := by decide +kernel
theorem dX10_next_229 : decode cX10_next 229 = .ok (.ifCond .eq 57, 3) := by decide +kernel
theorem dX10_next_232 : decode cX10_next 232 = .ok (.aload_n 0, 1) := by decide +kernel
theorem dX10_next_233 : decode cX10_next 233 = .ok (.iload_n 2, 1) := by decide +kernel
theorem dX10_next_234 : decode cX10_next 234 = .ok (.iconst 4, 1) := by decide +kernel
theorem dX10_next_235 : decode cX10_next 235 = .ok (.if_icmp .ge 28, 3) := by decide +kernel
theorem dX10_next_238 : decode cX10_next 238 = .ok (.ldc2_w 204, 3) := by decide +kernel
theorem dX10_next_241 : decode cX10_next 241 = .ok (.aload_n 0, 1) := by decide +kernel
theorem dX10_next_242 : decode cX10_next 242 = .ok (.getfield 190, 3) := by decide +kernel
theorem dX10_next_245 : decode cX10_next 245 = .ok (.lmul, 1) := by decide +kernel
theorem dX10_next_246 : decode cX10_next 246 = .ok (.aload_n 0, 1) := by decide +kernel
theorem dX10_next_247 : decode cX10_next 247 = .ok (.aload_n 0, 1) := by decide +kernel
theorem dX10_next_248 : decode cX10_next 248 = .ok (.getfield 174, 3) := by decide +kernel
theorem dX10_next_251 : decode cX10_next 251 = .ok (.invokevirtual 177, 3) := by decide +kernel
theorem dX10_next_254 : decode cX10_next 254 = .ok (.i2l, 1) := by decide +kernel
theorem dX10_next_255 : decode cX10_next 255 = .ok (.ladd, 1) := by decide +kernel
theorem dX10_next_256 : decode cX10_next 256 = .ok (.ldc2_w 200, 3) := by decide +kernel
theorem dX10_next_259 : decode cX10_next 259 = .ok (.lsub, 1) := by decide +kernel
theorem dX10_next_260 : decode cX10_next 260 = .ok (.goto 7, 3) := by decide +kernel
theorem dX10_next_263 : decode cX10_next 263 = .ok (.aload_n 0, 1) := by decide +kernel
theorem dX10_next_264 : decode cX10_next 264 = .ok (.getfield 190, 3) := by decide +kernel
theorem dX10_next_267 : decode cX10_next 267 = .ok (.putfield 190, 3) := by decide +kernel
theorem dX10_next_270 : decode cX10_next 270 = .ok (.iinc 2 1, 3) := by decide +kernel
theorem dX10_next_273 : decode cX10_next 273 = .ok (.aload_n 0, 1) := by decide +kernel
theorem dX10_next_274 : decode cX10_next 274 = .ok (.dup, 1) := by decide +kernel
theorem dX10_next_275 : decode cX10_next 275 = .ok (.getfield 174, 3) := by decide +kernel
theorem dX10_next_278 : decode cX10_next 278 = .ok (.iconst 1, 1) := by decide +kernel
theorem dX10_next_279 : decode cX10_next 279 = .ok (.iadd, 1) := by decide +kernel
theorem dX10_next_280 : decode cX10_next 280 = .ok (.putfield 174, 3) := by decide +kernel
theorem dX10_next_283 : decode cX10_next 283 = .ok (.goto (-72), 3) := by decide +kernel
theorem dX10_next_286 : decode cX10_next 286 = .ok (.aload_n 0, 1) := by decide +kernel
theorem dX10_next_287 : decode cX10_next 287 = .ok (.iload_n 2, 1) := by decide +kernel
theorem dX10_next_288 : decode cX10_next 288 = .ok (.iconst 4, 1) := by decide +kernel
theorem dX10_next_289 : decode cX10_next 289 = .ok (.if_icmp .le 7, 3) := by decide +kernel
theorem dX10_next_292 : decode cX10_next 292 = .ok (.iconst 4, 1) := by decide +kernel
theorem dX10_next_293 : decode cX10_next 293 = .ok (.goto 4, 3) := by decide +kernel
theorem dX10_next_296 : decode cX10_next 296 = .ok (.iconst 2, 1) := by decide +kernel
theorem dX10_next_297 : decode cX10_next 297 = .ok (.putfield 183, 3) := by decide +kernel
theorem dX10_next_300 : decode cX10_next 300 = .ok (.goto 72, 3) := by decide +kernel
theorem dX10_next_303 : decode cX10_next 303 = .ok (.iload_n 1, 1) := by decide +kernel
theorem dX10_next_304 : decode cX10_next 304 = .ok (.bipush 40, 2) := by decide +kernel
theorem dX10_next_306 : decode cX10_next 306 = .ok (.if_icmp .eq 45, 3) := by decide +kernel
theorem dX10_next_309 : decode cX10_next 309 = .ok (.iload_n 1, 1) := by decide +kernel
theorem dX10_next_310 : decode cX10_next 310 = .ok (.bipush 41, 2) := by decide +kernel
theorem dX10_next_312 : decode cX10_next 312 = .ok (.if_icmp .eq 39, 3) := by decide +kernel
theorem dX10_next_315 : decode cX10_next 315 = .ok (.iload_n 1, 1) := by decide +kernel
theorem dX10_next_316 : decode cX10_next 316 = .ok (.bipush 59, 2) := by decide +kernel
theorem dX10_next_318 : decode cX10_next 318 = .ok (.if_icmp .eq 33, 3) := by decide +kernel
theorem dX10_next_321 : decode cX10_next 321 = .ok (.iload_n 1, 1) := by decide +kernel
theorem dX10_next_322 : decode cX10_next 322 = .ok (.bipush 43, 2) := by decide +kernel
theorem dX10_next_324 : decode cX10_next 324 = .ok (.if_icmp .eq 27, 3) := by decide +kernel
theorem dX10_next_327 : decode cX10_next 327 = .ok (.iload_n 1, 1) := by decide +kernel
theorem dX10_next_328 : decode cX10_next 328 = .ok (.bipush 45, 2) := by decide +kernel
theorem dX10_next_330 : decode cX10_next 330 = .ok (.if_icmp .eq 21, 3) := by decide +kernel
theorem dX10_next_333 : decode cX10_next 333 = .ok (.iload_n 1, 1) := by decide +kernel
theorem dX10_next_334 : decode cX10_next 334 = .ok (.bipush 42, 2) := by decide +kernel
theorem dX10_next_336 : decode cX10_next 336 = .ok (.if_icmp .eq 15, 3) := by decide +kernel
theorem dX10_next_339 : decode cX10_next 339 = .ok (.iload_n 1, 1) := by decide +kernel
theorem dX10_next_340 : decode cX10_next 340 = .ok (.bipush 60, 2) := by decide +kernel
theorem dX10_next_342 : decode cX10_next 342 = .ok (.if_icmp .eq 9, 3) := by decide +kernel
theorem dX10_next_345 : decode cX10_next 345 = .ok (.iload_n 1, 1) := by decide +kernel
theorem dX10_next_346 : decode cX10_next 346 = .ok (.bipush 61, 2) := by decide +kernel
theorem dX10_next_348 : decode cX10_next 348 = .ok (.if_icmp .ne 24, 3) := by decide +kernel
theorem dX10_next_351 : decode cX10_next 351 = .ok (.aload_n 0, 1) := by decide +kernel
theorem dX10_next_352 : decode cX10_next 352 = .ok (.iconst 3, 1) := by decide +kernel
theorem dX10_next_353 : decode cX10_next 353 = .ok (.putfield 183, 3) := by decide +kernel
theorem dX10_next_356 : decode cX10_next 356 = .ok (.aload_n 0, 1) := by decide +kernel
theorem dX10_next_357 : decode cX10_next 357 = .ok (.iload_n 1, 1) := by decide +kernel
theorem dX10_next_358 : decode cX10_next 358 = .ok (.i2l, 1) := by decide +kernel
theorem dX10_next_359 : decode cX10_next 359 = .ok (.putfield 190, 3) := by decide +kernel
theorem dX10_next_362 : decode cX10_next 362 = .ok (.aload_n 0, 1) := by decide +kernel
theorem dX10_next_363 : decode cX10_next 363 = .ok (.dup, 1) := by decide +kernel
theorem dX10_next_364 : decode cX10_next 364 = .ok (.getfield 174, 3) := by decide +kernel
theorem dX10_next_367 : decode cX10_next 367 = .ok (.iconst 1, 1) := by decide +kernel
theorem dX10_next_368 : decode cX10_next 368 = .ok (.iadd, 1) := by decide +kernel
theorem dX10_next_369 : decode cX10_next 369 = .ok (.putfield 174, 3) := by decide +kernel
theorem dX10_next_372 : decode cX10_next 372 = .ok (.return_, 1) := by decide +kernel
theorem dX10_fail_0 : decode cX10_fail 0 = .ok (.aload_n 0, 1) := by decide +kernel
theorem dX10_fail_1 : decode cX10_fail 1 = .ok (.getfield 206, 3) := by decide +kernel
theorem dX10_fail_4 : decode cX10_fail 4 = .ok (.ifCond .ne 16, 3) := by decide +kernel
theorem dX10_fail_7 : decode cX10_fail 7 = .ok (.aload_n 0, 1) := by decide +kernel
theorem dX10_fail_8 : decode cX10_fail 8 = .ok (.iconst 1, 1) := by decide +kernel
theorem dX10_fail_9 : decode cX10_fail 9 = .ok (.putfield 206, 3) := by decide +kernel
theorem dX10_fail_12 : decode cX10_fail 12 = .ok (.aload_n 0, 1) := by decide +kernel
theorem dX10_fail_13 : decode cX10_fail 13 = .ok (.aload_n 0, 1) := by decide +kernel
theorem dX10_fail_14 : decode cX10_fail 14 = .ok (.getfield 180, 3) := by decide +kernel
theorem dX10_fail_17 : decode cX10_fail 17 = .ok (.putfield 210, 3) := by decide +kernel
theorem dX10_fail_20 : decode cX10_fail 20 = .ok (.return_, 1) := by decide +kernel
theorem dX10_isWord_0 : decode cX10_isWord 0 = .ok (.aload_n 0, 1) := by decide +kernel
theorem dX10_isWord_1 : decode cX10_isWord 1 = .ok (.getfield 206, 3) := by decide +kernel
theorem dX10_isWord_4 : decode cX10_isWord 4 = .ok (.ifCond .ne 24, 3) := by decide +kernel
theorem dX10_isWord_7 : decode cX10_isWord 7 = .ok (.aload_n 0, 1) := by decide +kernel
theorem dX10_isWord_8 : decode cX10_isWord 8 = .ok (.getfield 183, 3) := by decide +kernel
theorem dX10_isWord_11 : decode cX10_isWord 11 = .ok (.iconst 1, 1) := by decide +kernel
theorem dX10_isWord_12 : decode cX10_isWord 12 = .ok (.if_icmp .ne 16, 3) := by decide +kernel
theorem dX10_isWord_15 : decode cX10_isWord 15 = .ok (.aload_n 0, 1) := by decide +kernel
theorem dX10_isWord_16 : decode cX10_isWord 16 = .ok (.getfield 190, 3) := by decide +kernel
theorem dX10_isWord_19 : decode cX10_isWord 19 = .ok (.lload_n 1, 1) := by decide +kernel
theorem dX10_isWord_20 : decode cX10_isWord 20 = .ok (.lcmp, 1) := by decide +kernel
theorem dX10_isWord_21 : decode cX10_isWord 21 = .ok (.ifCond .ne 7, 3) := by decide +kernel
theorem dX10_isWord_24 : decode cX10_isWord 24 = .ok (.iconst 1, 1) := by decide +kernel
theorem dX10_isWord_25 : decode cX10_isWord 25 = .ok (.goto 4, 3) := by decide +kernel
theorem dX10_isWord_28 : decode cX10_isWord 28 = .ok (.iconst 0, 1) := by decide +kernel
theorem dX10_isWord_29 : decode cX10_isWord 29 = .ok (.ireturn, 1) := by decide +kernel
theorem dX10_isSign_0 : decode cX10_isSign 0 = .ok (.aload_n 0, 1) := by decide +kernel
theorem dX10_isSign_1 : decode cX10_isSign 1 = .ok (.getfield 206, 3) := by decide +kernel
theorem dX10_isSign_4 : decode cX10_isSign 4 = .ok (.ifCond .ne 25, 3) := by decide +kernel
theorem dX10_isSign_7 : decode cX10_isSign 7 = .ok (.aload_n 0, 1) := by decide +kernel
theorem dX10_isSign_8 : decode cX10_isSign 8 = .ok (.getfield 183, 3) := by decide +kernel
theorem dX10_isSign_11 : decode cX10_isSign 11 = .ok (.iconst 3, 1) := by decide +kernel
theorem dX10_isSign_12 : decode cX10_isSign 12 = .ok (.if_icmp .ne 17, 3) := by decide +kernel
theorem dX10_isSign_15 : decode cX10_isSign 15 = .ok (.aload_n 0, 1) := by decide +kernel
theorem dX10_isSign_16 : decode cX10_isSign 16 = .ok (.getfield 190, 3) := by decide +kernel
theorem dX10_isSign_19 : decode cX10_isSign 19 = .ok (.iload_n 1, 1) := by decide +kernel
theorem dX10_isSign_20 : decode cX10_isSign 20 = .ok (.i2l, 1) := by decide +kernel
theorem dX10_isSign_21 : decode cX10_isSign 21 = .ok (.lcmp, 1) := by decide +kernel
theorem dX10_isSign_22 : decode cX10_isSign 22 = .ok (.ifCond .ne 7, 3) := by decide +kernel
end
section
theorem dX10_isSign_25 : decode cX10_isSign 25 = .ok (.iconst 1, 1) := by decide +kernel
theorem dX10_isSign_26 : decode cX10_isSign 26 = .ok (.goto 4, 3) := by decide +kernel
theorem dX10_isSign_29 : decode cX10_isSign 29 = .ok (.iconst 0, 1) := by decide +kernel
theorem dX10_isSign_30 : decode cX10_isSign 30 = .ok (.ireturn, 1) := by decide +kernel
theorem dX10_opens_0 : decode cX10_opens 0 = .ok (.aload_n 0, 1) := by decide +kernel
theorem dX10_opens_1 : decode cX10_opens 1 = .ok (.getfield 213, 3) := by decide +kernel
theorem dX10_opens_4 : decode cX10_opens 4 = .ok (.iconst 5, 1) := by decide +kernel
theorem dX10_opens_5 : decode cX10_opens 5 = .ok (.if_icmp .ne 9, 3) := by decide +kernel
theorem dX10_opens_8 : decode cX10_opens 8 = .ok (.aload_n 0, 1) := by decide +kernel
theorem dX10_opens_9 : decode cX10_opens 9 = .ok (.invokevirtual 216, 3) := by decide +kernel
theorem dX10_opens_12 : decode cX10_opens 12 = .ok (.iconst 0, 1) := by decide +kernel
theorem dX10_opens_13 : decode cX10_opens 13 = .ok (.ireturn, 1) := by decide +kernel
theorem dX10_opens_14 : decode cX10_opens 14 = .ok (.aload_n 0, 1) := by decide +kernel
theorem dX10_opens_15 : decode cX10_opens 15 = .ok (.dup, 1) := by decide +kernel
theorem dX10_opens_16 : decode cX10_opens 16 = .ok (.getfield 213, 3) := by decide +kernel
theorem dX10_opens_19 : decode cX10_opens 19 = .ok (.iconst 1, 1) := by decide +kernel
theorem dX10_opens_20 : decode cX10_opens 20 = .ok (.iadd, 1) := by decide +kernel
theorem dX10_opens_21 : decode cX10_opens 21 = .ok (.putfield 213, 3) := by decide +kernel
theorem dX10_opens_24 : decode cX10_opens 24 = .ok (.aload_n 0, 1) := by decide +kernel
theorem dX10_opens_25 : decode cX10_opens 25 = .ok (.invokevirtual 219, 3) := by decide +kernel
theorem dX10_opens_28 : decode cX10_opens 28 = .ok (.iconst 1, 1) := by decide +kernel
theorem dX10_opens_29 : decode cX10_opens 29 = .ok (.ireturn, 1) := by decide +kernel
theorem dX10_name_0 : decode cX10_name 0 = .ok (.aload_n 0, 1) := by decide +kernel
theorem dX10_name_1 : decode cX10_name 1 = .ok (.ldc2_w 222, 3) := by decide +kernel
theorem dX10_name_4 : decode cX10_name 4 = .ok (.invokevirtual 224, 3) := by decide +kernel
theorem dX10_name_7 : decode cX10_name 7 = .ok (.ifCond .eq 13, 3) := by decide +kernel
theorem dX10_name_10 : decode cX10_name 10 = .ok (.aload_n 0, 1) := by decide +kernel
theorem dX10_name_11 : decode cX10_name 11 = .ok (.getfield 26, 3) := by decide +kernel
theorem dX10_name_14 : decode cX10_name 14 = .ok (.aload_n 0, 1) := by decide +kernel
theorem dX10_name_15 : decode cX10_name 15 = .ok (.getfield 228, 3) := by decide +kernel
theorem dX10_name_18 : decode cX10_name 18 = .ok (.iaload, 1) := by decide +kernel
theorem dX10_name_19 : decode cX10_name 19 = .ok (.ireturn, 1) := by decide +kernel
theorem dX10_name_20 : decode cX10_name 20 = .ok (.aload_n 0, 1) := by decide +kernel
theorem dX10_name_21 : decode cX10_name 21 = .ok (.ldc2_w 231, 3) := by decide +kernel
theorem dX10_name_24 : decode cX10_name 24 = .ok (.invokevirtual 224, 3) := by decide +kernel
theorem dX10_name_27 : decode cX10_name 27 = .ok (.ifCond .eq 8, 3) := by decide +kernel
theorem dX10_name_30 : decode cX10_name 30 = .ok (.aload_n 0, 1) := by decide +kernel
theorem dX10_name_31 : decode cX10_name 31 = .ok (.getfield 233, 3) := by decide +kernel
theorem dX10_name_34 : decode cX10_name 34 = .ok (.ireturn, 1) := by decide +kernel
theorem dX10_name_35 : decode cX10_name 35 = .ok (.aload_n 0, 1) := by decide +kernel
theorem dX10_name_36 : decode cX10_name 36 = .ok (.ldc2_w 236, 3) := by decide +kernel
theorem dX10_name_39 : decode cX10_name 39 = .ok (.invokevirtual 224, 3) := by decide +kernel
theorem dX10_name_42 : decode cX10_name 42 = .ok (.ifCond .eq 8, 3) := by decide +kernel
theorem dX10_name_45 : decode cX10_name 45 = .ok (.aload_n 0, 1) := by decide +kernel
theorem dX10_name_46 : decode cX10_name 46 = .ok (.getfield 238, 3) := by decide +kernel
theorem dX10_name_49 : decode cX10_name 49 = .ok (.ireturn, 1) := by decide +kernel
theorem dX10_name_50 : decode cX10_name 50 = .ok (.aload_n 0, 1) := by decide +kernel
theorem dX10_name_51 : decode cX10_name 51 = .ok (.ldc2_w 241, 3) := by decide +kernel
theorem dX10_name_54 : decode cX10_name 54 = .ok (.invokevirtual 224, 3) := by decide +kernel
theorem dX10_name_57 : decode cX10_name 57 = .ok (.ifCond .eq 13, 3) := by decide +kernel
theorem dX10_name_60 : decode cX10_name 60 = .ok (.aload_n 0, 1) := by decide +kernel
theorem dX10_name_61 : decode cX10_name 61 = .ok (.getfield 23, 3) := by decide +kernel
theorem dX10_name_64 : decode cX10_name 64 = .ok (.aload_n 0, 1) := by decide +kernel
theorem dX10_name_65 : decode cX10_name 65 = .ok (.getfield 228, 3) := by decide +kernel
theorem dX10_name_68 : decode cX10_name 68 = .ok (.iaload, 1) := by decide +kernel
theorem dX10_name_69 : decode cX10_name 69 = .ok (.ireturn, 1) := by decide +kernel
theorem dX10_name_70 : decode cX10_name 70 = .ok (.aload_n 0, 1) := by decide +kernel
theorem dX10_name_71 : decode cX10_name 71 = .ok (.ldc2_w 243, 3) := by decide +kernel
theorem dX10_name_74 : decode cX10_name 74 = .ok (.invokevirtual 224, 3) := by decide +kernel
theorem dX10_name_77 : decode cX10_name 77 = .ok (.ifCond .eq 8, 3) := by decide +kernel
theorem dX10_name_80 : decode cX10_name 80 = .ok (.aload_n 0, 1) := by decide +kernel
theorem dX10_name_81 : decode cX10_name 81 = .ok (.getfield 245, 3) := by decide +kernel
theorem dX10_name_84 : decode cX10_name 84 = .ok (.ireturn, 1) := by decide +kernel
theorem dX10_name_85 : decode cX10_name 85 = .ok (.aload_n 0, 1) := by decide +kernel
theorem dX10_name_86 : decode cX10_name 86 = .ok (.ldc2_w 248, 3) := by decide +kernel
theorem dX10_name_89 : decode cX10_name 89 = .ok (.invokevirtual 224, 3) := by decide +kernel
theorem dX10_name_92 : decode cX10_name 92 = .ok (.ifCond .eq 8, 3) := by decide +kernel
theorem dX10_name_95 : decode cX10_name 95 = .ok (.aload_n 0, 1) := by decide +kernel
theorem dX10_name_96 : decode cX10_name 96 = .ok (.getfield 250, 3) := by decide +kernel
theorem dX10_name_99 : decode cX10_name 99 = .ok (.ireturn, 1) := by decide +kernel
theorem dX10_name_100 : decode cX10_name 100 = .ok (.aload_n 0, 1) := by decide +kernel
theorem dX10_name_101 : decode cX10_name 101 = .ok (.invokevirtual 216, 3) := by decide +kernel
theorem dX10_name_104 : decode cX10_name 104 = .ok (.iconst 0, 1) := by decide +kernel
theorem dX10_name_105 : decode cX10_name 105 = .ok (.ireturn, 1) := by decide +kernel
theorem dX10_one_0 : decode cX10_one 0 = .ok (.iconst 0, 1) := by decide +kernel
theorem dX10_one_1 : decode cX10_one 1 = .ok (.istore_n 1, 1) := by decide +kernel
theorem dX10_one_2 : decode cX10_one 2 = .ok (.aload_n 0, 1) := by decide +kernel
theorem dX10_one_3 : decode cX10_one 3 = .ok (.bipush 45, 2) := by decide +kernel
theorem dX10_one_5 : decode cX10_one 5 = .ok (.invokevirtual 253, 3) := by decide +kernel
theorem dX10_one_8 : decode cX10_one 8 = .ok (.ifCond .eq 29, 3) := by decide +kernel
theorem dX10_one_11 : decode cX10_one 11 = .ok (.aload_n 0, 1) := by decide +kernel
theorem dX10_one_12 : decode cX10_one 12 = .ok (.invokevirtual 256, 3) := by decide +kernel
theorem dX10_one_15 : decode cX10_one 15 = .ok (.ifCond .eq 146, 3) := by decide +kernel
theorem dX10_one_18 : decode cX10_one 18 = .ok (.aload_n 0, 1) := by decide +kernel
theorem dX10_one_19 : decode cX10_one 19 = .ok (.invokevirtual 260, 3) := by decide +kernel
theorem dX10_one_22 : decode cX10_one 22 = .ok (.ineg, 1) := by decide +kernel
theorem dX10_one_23 : decode cX10_one 23 = .ok (.istore_n 1, 1) := by decide +kernel
theorem dX10_one_24 : decode cX10_one 24 = .ok (.aload_n 0, 1) := by decide +kernel
theorem dX10_one_25 : decode cX10_one 25 = .ok (.dup, 1) := by decide +kernel
theorem dX10_one_26 : decode cX10_one 26 = .ok (.getfield 213, 3) := by decide +kernel
theorem dX10_one_29 : decode cX10_one 29 = .ok (.iconst 1, 1) := by decide +kernel
theorem dX10_one_30 : decode cX10_one 30 = .ok (.isub, 1) := by decide +kernel
theorem dX10_one_31 : decode cX10_one 31 = .ok (.putfield 213, 3) := by decide +kernel
theorem dX10_one_34 : decode cX10_one 34 = .ok (.goto 127, 3) := by decide +kernel
theorem dX10_one_37 : decode cX10_one 37 = .ok (.aload_n 0, 1) := by decide +kernel
theorem dX10_one_38 : decode cX10_one 38 = .ok (.bipush 40, 2) := by decide +kernel
theorem dX10_one_40 : decode cX10_one 40 = .ok (.invokevirtual 253, 3) := by decide +kernel
theorem dX10_one_43 : decode cX10_one 43 = .ok (.ifCond .eq 52, 3) := by decide +kernel
theorem dX10_one_46 : decode cX10_one 46 = .ok (.aload_n 0, 1) := by decide +kernel
theorem dX10_one_47 : decode cX10_one 47 = .ok (.invokevirtual 256, 3) := by decide +kernel
theorem dX10_one_50 : decode cX10_one 50 = .ok (.ifCond .eq 111, 3) := by decide +kernel
theorem dX10_one_53 : decode cX10_one 53 = .ok (.aload_n 0, 1) := by decide +kernel
theorem dX10_one_54 : decode cX10_one 54 = .ok (.invokevirtual 264, 3) := by decide +kernel
theorem dX10_one_57 : decode cX10_one 57 = .ok (.istore_n 1, 1) := by decide +kernel
theorem dX10_one_58 : decode cX10_one 58 = .ok (.aload_n 0, 1) := by decide +kernel
theorem dX10_one_59 : decode cX10_one 59 = .ok (.bipush 41, 2) := by decide +kernel
theorem dX10_one_61 : decode cX10_one 61 = .ok (.invokevirtual 253, 3) := by decide +kernel
theorem dX10_one_64 : decode cX10_one 64 = .ok (.ifCond .ne 7, 3) := by decide +kernel
theorem dX10_one_67 : decode cX10_one 67 = .ok (.aload_n 0, 1) := by decide +kernel
theorem dX10_one_68 : decode cX10_one 68 = .ok (.invokevirtual 216, 3) := by decide +kernel
theorem dX10_one_71 : decode cX10_one 71 = .ok (.aload_n 0, 1) := by decide +kernel
theorem dX10_one_72 : decode cX10_one 72 = .ok (.dup, 1) := by decide +kernel
theorem dX10_one_73 : decode cX10_one 73 = .ok (.getfield 213, 3) := by decide +kernel
theorem dX10_one_76 : decode cX10_one 76 = .ok (.iconst 1, 1) := by decide +kernel
theorem dX10_one_77 : decode cX10_one 77 = .ok (.isub, 1) := by decide +kernel
theorem dX10_one_78 : decode cX10_one 78 = .ok (.putfield 213, 3) := by decide +kernel
theorem dX10_one_81 : decode cX10_one 81 = .ok (.aload_n 0, 1) := by decide +kernel
theorem dX10_one_82 : decode cX10_one 82 = .ok (.getfield 206, 3) := by decide +kernel
theorem dX10_one_85 : decode cX10_one 85 = .ok (.ifCond .ne 76, 3) := by decide +kernel
theorem dX10_one_88 : decode cX10_one 88 = .ok (.aload_n 0, 1) := by decide +kernel
theorem dX10_one_89 : decode cX10_one 89 = .ok (.invokevirtual 219, 3) := by decide +kernel
theorem dX10_one_92 : decode cX10_one 92 = .ok (.goto 69, 3) := by decide +kernel
theorem dX10_one_95 : decode cX10_one 95 = .ok (.aload_n 0, 1) := by decide +kernel
theorem dX10_one_96 : decode cX10_one 96 = .ok (.getfield 206, 3) := by decide +kernel
theorem dX10_one_99 : decode cX10_one 99 = .ok (.ifCond .ne 24, 3) := by decide +kernel
theorem dX10_one_102 : decode cX10_one 102 = .ok (.aload_n 0, 1) := by decide +kernel
theorem dX10_one_103 : decode cX10_one 103 = .ok (.getfield 183, 3) := by decide +kernel
theorem dX10_one_106 : decode cX10_one 106 = .ok (.iconst 2, 1) := by decide +kernel
theorem dX10_one_107 : decode cX10_one 107 = .ok (.if_icmp .ne 16, 3) := by decide +kernel
theorem dX10_one_110 : decode cX10_one 110 = .ok (.aload_n 0, 1) := by decide +kernel
theorem dX10_one_111 : decode cX10_one 111 = .ok (.getfield 190, 3) := by decide +kernel
theorem dX10_one_114 : decode cX10_one 114 = .ok (.l2i, 1) := by decide +kernel
theorem dX10_one_115 : decode cX10_one 115 = .ok (.istore_n 1, 1) := by decide +kernel
theorem dX10_one_116 : decode cX10_one 116 = .ok (.aload_n 0, 1) := by decide +kernel
theorem dX10_one_117 : decode cX10_one 117 = .ok (.invokevirtual 219, 3) := by decide +kernel
theorem dX10_one_120 : decode cX10_one 120 = .ok (.goto 41, 3) := by decide +kernel
theorem dX10_one_123 : decode cX10_one 123 = .ok (.aload_n 0, 1) := by decide +kernel
theorem dX10_one_124 : decode cX10_one 124 = .ok (.getfield 206, 3) := by decide +kernel
theorem dX10_one_127 : decode cX10_one 127 = .ok (.ifCond .ne 30, 3) := by decide +kernel
theorem dX10_one_130 : decode cX10_one 130 = .ok (.aload_n 0, 1) := by decide +kernel
theorem dX10_one_131 : decode cX10_one 131 = .ok (.getfield 183, 3) := by decide +kernel
theorem dX10_one_134 : decode cX10_one 134 = .ok (.iconst 1, 1) := by decide +kernel
theorem dX10_one_135 : decode cX10_one 135 = .ok (.if_icmp .ne 22, 3) := by decide +kernel
theorem dX10_one_138 : decode cX10_one 138 = .ok (.aload_n 0, 1) := by decide +kernel
theorem dX10_one_139 : decode cX10_one 139 = .ok (.invokevirtual 267, 3) := by decide +kernel
theorem dX10_one_142 : decode cX10_one 142 = .ok (.istore_n 1, 1) := by decide +kernel
theorem dX10_one_143 : decode cX10_one 143 = .ok (.aload_n 0, 1) := by decide +kernel
theorem dX10_one_144 : decode cX10_one 144 = .ok (.getfield 206, 3) := by decide +kernel
theorem dX10_one_147 : decode cX10_one 147 = .ok (.ifCond .ne 14, 3) := by decide +kernel
theorem dX10_one_150 : decode cX10_one 150 = .ok (.aload_n 0, 1) := by decide +kernel
theorem dX10_one_151 : decode cX10_one 151 = .ok (.invokevirtual 219, 3) := by decide +kernel
theorem dX10_one_154 : decode cX10_one 154 = .ok (.goto 7, 3) := by decide +kernel
theorem dX10_one_157 : decode cX10_one 157 = .ok (.aload_n 0, 1) := by decide +kernel
theorem dX10_one_158 : decode cX10_one 158 = .ok (.invokevirtual 216, 3) := by decide +kernel
theorem dX10_one_161 : decode cX10_one 161 = .ok (.iload_n 1, 1) := by decide +kernel
theorem dX10_one_162 : decode cX10_one 162 = .ok (.ireturn, 1) := by decide +kernel
theorem dX10_term_0 : decode cX10_term 0 = .ok (.aload_n 0, 1) := by decide +kernel
theorem dX10_term_1 : decode cX10_term 1 = .ok (.invokevirtual 260, 3) := by decide +kernel
theorem dX10_term_4 : decode cX10_term 4 = .ok (.istore_n 1, 1) := by decide +kernel
theorem dX10_term_5 : decode cX10_term 5 = .ok (.aload_n 0, 1) := by decide +kernel
theorem dX10_term_6 : decode cX10_term 6 = .ok (.bipush 42, 2) := by decide +kernel
theorem dX10_term_8 : decode cX10_term 8 = .ok (.invokevirtual 253, 3) := by decide +kernel
theorem dX10_term_11 : decode cX10_term 11 = .ok (.ifCond .eq 17, 3) := by decide +kernel
theorem dX10_term_14 : decode cX10_term 14 = .ok (.aload_n 0, 1) := by decide +kernel
theorem dX10_term_15 : decode cX10_term 15 = .ok (.invokevirtual 219, 3) := by decide +kernel
theorem dX10_term_18 : decode cX10_term 18 = .ok (.iload_n 1, 1) := by decide +kernel
theorem dX10_term_19 : decode cX10_term 19 = .ok (.aload_n 0, 1) := by decide +kernel
theorem dX10_term_20 : decode cX10_term 20 = .ok (.invokevirtual 260, 3) := by decide +kernel
theorem dX10_term_23 : decode cX10_term 23 = .ok (.imul, 1) := by decide +kernel
theorem dX10_term_24 : decode cX10_term 24 = .ok (.istore_n 1, 1) := by decide +kernel
theorem dX10_term_25 : decode cX10_term 25 = .ok (.goto (-20), 3) := by decide +kernel
theorem dX10_term_28 : decode cX10_term 28 = .ok (.iload_n 1, 1) := by decide +kernel
theorem dX10_term_29 : decode cX10_term 29 = .ok (.ireturn, 1) := by decide +kernel
theorem dX10_added_0 : decode cX10_added 0 = .ok (.aload_n 0, 1) := by decide +kernel
theorem dX10_added_1 : decode cX10_added 1 = .ok (.invokevirtual 270, 3) := by decide +kernel
theorem dX10_added_4 : decode cX10_added 4 = .ok (.istore_n 1, 1) := by decide +kernel
theorem dX10_added_5 : decode cX10_added 5 = .ok (.aload_n 0, 1) := by decide +kernel
theorem dX10_added_6 : decode cX10_added 6 = .ok (.bipush 43, 2) := by decide +kernel
theorem dX10_added_8 : decode cX10_added 8 = .ok (.invokevirtual 253, 3) := by decide +kernel
theorem dX10_added_11 : decode cX10_added 11 = .ok (.ifCond .ne 12, 3) := by decide +kernel
theorem dX10_added_14 : decode cX10_added 14 = .ok (.aload_n 0, 1) := by decide +kernel
theorem dX10_added_15 : decode cX10_added 15 = .ok (.bipush 45, 2) := by decide +kernel
theorem dX10_added_17 : decode cX10_added 17 = .ok (.invokevirtual 253, 3) := by decide +kernel
theorem dX10_added_20 : decode cX10_added 20 = .ok (.ifCond .eq 46, 3) := by decide +kernel
theorem dX10_added_23 : decode cX10_added 23 = .ok (.aload_n 0, 1) := by decide +kernel
theorem dX10_added_24 : decode cX10_added 24 = .ok (.getfield 190, 3) := by decide +kernel
theorem dX10_added_27 : decode cX10_added 27 = .ok (.ldc2_w 273, 3) := by decide +kernel
theorem dX10_added_30 : decode cX10_added 30 = .ok (.lcmp, 1) := by decide +kernel
theorem dX10_added_31 : decode cX10_added 31 = .ok (.ifCond .ne 7, 3) := by decide +kernel
theorem dX10_added_34 : decode cX10_added 34 = .ok (.iconst 1, 1) := by decide +kernel
theorem dX10_added_35 : decode cX10_added 35 = .ok (.goto 4, 3) := by decide +kernel
theorem dX10_added_38 : decode cX10_added 38 = .ok (.iconst 0, 1) := by decide +kernel
theorem dX10_added_39 : decode cX10_added 39 = .ok (.istore_n 2, 1) := by decide +kernel
theorem dX10_added_40 : decode cX10_added 40 = .ok (.aload_n 0, 1) := by decide +kernel
theorem dX10_added_41 : decode cX10_added 41 = .ok (.invokevirtual 219, 3) := by decide +kernel
theorem dX10_added_44 : decode cX10_added 44 = .ok (.aload_n 0, 1) := by decide +kernel
theorem dX10_added_45 : decode cX10_added 45 = .ok (.invokevirtual 270, 3) := by decide +kernel
theorem dX10_added_48 : decode cX10_added 48 = .ok (.istore_n 3, 1) := by decide +kernel
theorem dX10_added_49 : decode cX10_added 49 = .ok (.iload_n 2, 1) := by decide +kernel
theorem dX10_added_50 : decode cX10_added 50 = .ok (.ifCond .eq 9, 3) := by decide +kernel
theorem dX10_added_53 : decode cX10_added 53 = .ok (.iload_n 1, 1) := by decide +kernel
theorem dX10_added_54 : decode cX10_added 54 = .ok (.iload_n 3, 1) := by decide +kernel
theorem dX10_added_55 : decode cX10_added 55 = .ok (.iadd, 1) := by decide +kernel
theorem dX10_added_56 : decode cX10_added 56 = .ok (.goto 6, 3) := by decide +kernel
theorem dX10_added_59 : decode cX10_added 59 = .ok (.iload_n 1, 1) := by decide +kernel
theorem dX10_added_60 : decode cX10_added 60 = .ok (.iload_n 3, 1) := by decide +kernel
theorem dX10_added_61 : decode cX10_added 61 = .ok (.isub, 1) := by decide +kernel
theorem dX10_added_62 : decode cX10_added 62 = .ok (.istore_n 1, 1) := by decide +kernel
theorem dX10_added_63 : decode cX10_added 63 = .ok (.goto (-58), 3) := by decide +kernel
theorem dX10_added_66 : decode cX10_added 66 = .ok (.iload_n 1, 1) := by decide +kernel
theorem dX10_added_67 : decode cX10_added 67 = .ok (.ireturn, 1) := by decide +kernel
theorem dX10_not_0 : decode cX10_not 0 = .ok (.aload_n 0, 1) := by decide +kernel
theorem dX10_not_1 : decode cX10_not 1 = .ok (.ldc2_w 275, 3) := by decide +kernel
theorem dX10_not_4 : decode cX10_not 4 = .ok (.invokevirtual 224, 3) := by decide +kernel
theorem dX10_not_7 : decode cX10_not 7 = .ok (.ifCond .eq 37, 3) := by decide +kernel
theorem dX10_not_10 : decode cX10_not 10 = .ok (.aload_n 0, 1) := by decide +kernel
theorem dX10_not_11 : decode cX10_not 11 = .ok (.invokevirtual 256, 3) := by decide +kernel
theorem dX10_not_14 : decode cX10_not 14 = .ok (.ifCond .ne 5, 3) := by decide +kernel
theorem dX10_not_17 : decode cX10_not 17 = .ok (.iconst 0, 1) := by decide +kernel
theorem dX10_not_18 : decode cX10_not 18 = .ok (.ireturn, 1) := by decide +kernel
theorem dX10_not_19 : decode cX10_not 19 = .ok (.aload_n 0, 1) := by decide +kernel
theorem dX10_not_20 : decode cX10_not 20 = .ok (.invokevirtual 277, 3) := by decide +kernel
theorem dX10_not_23 : decode cX10_not 23 = .ok (.istore_n 1, 1) := by decide +kernel
theorem dX10_not_24 : decode cX10_not 24 = .ok (.aload_n 0, 1) := by decide +kernel
theorem dX10_not_25 : decode cX10_not 25 = .ok (.dup, 1) := by decide +kernel
theorem dX10_not_26 : decode cX10_not 26 = .ok (.getfield 213, 3) := by decide +kernel
theorem dX10_not_29 : decode cX10_not 29 = .ok (.iconst 1, 1) := by decide +kernel
theorem dX10_not_30 : decode cX10_not 30 = .ok (.isub, 1) := by decide +kernel
theorem dX10_not_31 : decode cX10_not 31 = .ok (.putfield 213, 3) := by decide +kernel
theorem dX10_not_34 : decode cX10_not 34 = .ok (.iload_n 1, 1) := by decide +kernel
theorem dX10_not_35 : decode cX10_not 35 = .ok (.ifCond .ne 7, 3) := by decide +kernel
theorem dX10_not_38 : decode cX10_not 38 = .ok (.iconst 1, 1) := by decide +kernel
theorem dX10_not_39 : decode cX10_not 39 = .ok (.goto 4, 3) := by decide +kernel
theorem dX10_not_42 : decode cX10_not 42 = .ok (.iconst 0, 1) := by decide +kernel
theorem dX10_not_43 : decode cX10_not 43 = .ok (.ireturn, 1) := by decide +kernel
theorem dX10_not_44 : decode cX10_not 44 = .ok (.aload_n 0, 1) := by decide +kernel
theorem dX10_not_45 : decode cX10_not 45 = .ok (.invokevirtual 280, 3) := by decide +kernel
theorem dX10_not_48 : decode cX10_not 48 = .ok (.istore_n 1, 1) := by decide +kernel
theorem dX10_not_49 : decode cX10_not 49 = .ok (.aload_n 0, 1) := by decide +kernel
theorem dX10_not_50 : decode cX10_not 50 = .ok (.bipush 60, 2) := by decide +kernel
theorem dX10_not_52 : decode cX10_not 52 = .ok (.invokevirtual 253, 3) := by decide +kernel
theorem dX10_not_55 : decode cX10_not 55 = .ok (.ifCond .ne 14, 3) := by decide +kernel
theorem dX10_not_58 : decode cX10_not 58 = .ok (.aload_n 0, 1) := by decide +kernel
theorem dX10_not_59 : decode cX10_not 59 = .ok (.bipush 61, 2) := by decide +kernel
theorem dX10_not_61 : decode cX10_not 61 = .ok (.invokevirtual 253, 3) := by decide +kernel
theorem dX10_not_64 : decode cX10_not 64 = .ok (.ifCond .ne 5, 3) := by decide +kernel
theorem dX10_not_67 : decode cX10_not 67 = .ok (.iload_n 1, 1) := by decide +kernel
theorem dX10_not_68 : decode cX10_not 68 = .ok (.ireturn, 1) := by decide +kernel
theorem dX10_not_69 : decode cX10_not 69 = .ok (.aload_n 0, 1) := by decide +kernel
theorem dX10_not_70 : decode cX10_not 70 = .ok (.getfield 190, 3) := by decide +kernel
theorem dX10_not_73 : decode cX10_not 73 = .ok (.ldc2_w 283, 3) := by decide +kernel
theorem dX10_not_76 : decode cX10_not 76 = .ok (.lcmp, 1) := by decide +kernel
theorem dX10_not_77 : decode cX10_not 77 = .ok (.ifCond .ne 7, 3) := by decide +kernel
theorem dX10_not_80 : decode cX10_not 80 = .ok (.iconst 1, 1) := by decide +kernel
theorem dX10_not_81 : decode cX10_not 81 = .ok (.goto 4, 3) := by decide +kernel
theorem dX10_not_84 : decode cX10_not 84 = .ok (.iconst 0, 1) := by decide +kernel
theorem dX10_not_85 : decode cX10_not 85 = .ok (.istore_n 2, 1) := by decide +kernel
theorem dX10_not_86 : decode cX10_not 86 = .ok (.aload_n 0, 1) := by decide +kernel
theorem dX10_not_87 : decode cX10_not 87 = .ok (.invokevirtual 219, 3) := by decide +kernel
theorem dX10_not_90 : decode cX10_not 90 = .ok (.aload_n 0, 1) := by decide +kernel
theorem dX10_not_91 : decode cX10_not 91 = .ok (.invokevirtual 280, 3) := by decide +kernel
theorem dX10_not_94 : decode cX10_not 94 = .ok (.istore_n 3, 1) := by decide +kernel
theorem dX10_not_95 : decode cX10_not 95 = .ok (.iload_n 2, 1) := by decide +kernel
theorem dX10_not_96 : decode cX10_not 96 = .ok (.ifCond .eq 11, 3) := by decide +kernel
theorem dX10_not_99 : decode cX10_not 99 = .ok (.iload_n 1, 1) := by decide +kernel
theorem dX10_not_100 : decode cX10_not 100 = .ok (.iload_n 3, 1) := by decide +kernel
theorem dX10_not_101 : decode cX10_not 101 = .ok (.if_icmp .ge 15, 3) := by decide +kernel
theorem dX10_not_104 : decode cX10_not 104 = .ok (.goto 8, 3) := by decide +kernel
theorem dX10_not_107 : decode cX10_not 107 = .ok (.iload_n 1, 1) := by decide +kernel
theorem dX10_not_108 : decode cX10_not 108 = .ok (.iload_n 3, 1) := by decide +kernel
theorem dX10_not_109 : decode cX10_not 109 = .ok (.if_icmp .ne 7, 3) := by decide +kernel
theorem dX10_not_112 : decode cX10_not 112 = .ok (.iconst 1, 1) := by decide +kernel
theorem dX10_not_113 : decode cX10_not 113 = .ok (.goto 4, 3) := by decide +kernel
theorem dX10_not_116 : decode cX10_not 116 = .ok (.iconst 0, 1) := by decide +kernel
theorem dX10_not_117 : decode cX10_not 117 = .ok (.ireturn, 1) := by decide +kernel
theorem dX10_both_0 : decode cX10_both 0 = .ok (.aload_n 0, 1) := by decide +kernel
theorem dX10_both_1 : decode cX10_both 1 = .ok (.invokevirtual 277, 3) := by decide +kernel
theorem dX10_both_4 : decode cX10_both 4 = .ok (.istore_n 1, 1) := by decide +kernel
theorem dX10_both_5 : decode cX10_both 5 = .ok (.aload_n 0, 1) := by decide +kernel
theorem dX10_both_6 : decode cX10_both 6 = .ok (.ldc2_w 285, 3) := by decide +kernel
theorem dX10_both_9 : decode cX10_both 9 = .ok (.invokevirtual 224, 3) := by decide +kernel
theorem dX10_both_12 : decode cX10_both 12 = .ok (.ifCond .eq 29, 3) := by decide +kernel
theorem dX10_both_15 : decode cX10_both 15 = .ok (.aload_n 0, 1) := by decide +kernel
theorem dX10_both_16 : decode cX10_both 16 = .ok (.invokevirtual 219, 3) := by decide +kernel
theorem dX10_both_19 : decode cX10_both 19 = .ok (.aload_n 0, 1) := by decide +kernel
theorem dX10_both_20 : decode cX10_both 20 = .ok (.invokevirtual 277, 3) := by decide +kernel
theorem dX10_both_23 : decode cX10_both 23 = .ok (.istore_n 2, 1) := by decide +kernel
theorem dX10_both_24 : decode cX10_both 24 = .ok (.iload_n 1, 1) := by decide +kernel
theorem dX10_both_25 : decode cX10_both 25 = .ok (.ifCond .eq 11, 3) := by decide +kernel
theorem dX10_both_28 : decode cX10_both 28 = .ok (.iload_n 2, 1) := by decide +kernel
theorem dX10_both_29 : decode cX10_both 29 = .ok (.ifCond .eq 7, 3) := by decide +kernel
theorem dX10_both_32 : decode cX10_both 32 = .ok (.iconst 1, 1) := by decide +kernel
theorem dX10_both_33 : decode cX10_both 33 = .ok (.goto 4, 3) := by decide +kernel
theorem dX10_both_36 : decode cX10_both 36 = .ok (.iconst 0, 1) := by decide +kernel
theorem dX10_both_37 : decode cX10_both 37 = .ok (.istore_n 1, 1) := by decide +kernel
theorem dX10_both_38 : decode cX10_both 38 = .ok (.goto (-33), 3) := by decide +kernel
theorem dX10_both_41 : decode cX10_both 41 = .ok (.iload_n 1, 1) := by decide +kernel
theorem dX10_both_42 : decode cX10_both 42 = .ok (.ireturn, 1) := by decide +kernel
theorem dX10_either_0 : decode cX10_either 0 = .ok (.aload_n 0, 1) := by decide +kernel
theorem dX10_either_1 : decode cX10_either 1 = .ok (.invokevirtual 287, 3) := by decide +kernel
theorem dX10_either_4 : decode cX10_either 4 = .ok (.istore_n 1, 1) := by decide +kernel
theorem dX10_either_5 : decode cX10_either 5 = .ok (.aload_n 0, 1) := by decide +kernel
theorem dX10_either_6 : decode cX10_either 6 = .ok (.ldc2_w 290, 3) := by decide +kernel
theorem dX10_either_9 : decode cX10_either 9 = .ok (.invokevirtual 224, 3) := by decide +kernel
theorem dX10_either_12 : decode cX10_either 12 = .ok (.ifCond .eq 29, 3) := by decide +kernel
theorem dX10_either_15 : decode cX10_either 15 = .ok (.aload_n 0, 1) := by decide +kernel
theorem dX10_either_16 : decode cX10_either 16 = .ok (.invokevirtual 219, 3) := by decide +kernel
theorem dX10_either_19 : decode cX10_either 19 = .ok (.aload_n 0, 1) := by decide +kernel
theorem dX10_either_20 : decode cX10_either 20 = .ok (.invokevirtual 287, 3) := by decide +kernel
theorem dX10_either_23 : decode cX10_either 23 = .ok (.istore_n 2, 1) := by decide +kernel
theorem dX10_either_24 : decode cX10_either 24 = .ok (.iload_n 1, 1) := by decide +kernel
theorem dX10_either_25 : decode cX10_either 25 = .ok (.ifCond .ne 7, 3) := by decide +kernel
theorem dX10_either_28 : decode cX10_either 28 = .ok (.iload_n 2, 1) := by decide +kernel
theorem dX10_either_29 : decode cX10_either 29 = .ok (.ifCond .eq 7, 3) := by decide +kernel
theorem dX10_either_32 : decode cX10_either 32 = .ok (.iconst 1, 1) := by decide +kernel
theorem dX10_either_33 : decode cX10_either 33 = .ok (.goto 4, 3) := by decide +kernel
theorem dX10_either_36 : decode cX10_either 36 = .ok (.iconst 0, 1) := by decide +kernel
theorem dX10_either_37 : decode cX10_either 37 = .ok (.istore_n 1, 1) := by decide +kernel
theorem dX10_either_38 : decode cX10_either 38 = .ok (.goto (-33), 3) := by decide +kernel
theorem dX10_either_41 : decode cX10_either 41 = .ok (.iload_n 1, 1) := by decide +kernel
theorem dX10_either_42 : decode cX10_either 42 = .ok (.ireturn, 1) := by decide +kernel
theorem dX10_part_0 : decode cX10_part 0 = .ok (.aload_n 0, 1) := by decide +kernel
theorem dX10_part_1 : decode cX10_part 1 = .ok (.lload_n 1, 1) := by decide +kernel
theorem dX10_part_2 : decode cX10_part 2 = .ok (.invokevirtual 224, 3) := by decide +kernel
theorem dX10_part_5 : decode cX10_part 5 = .ok (.ifCond .ne 7, 3) := by decide +kernel
theorem dX10_part_8 : decode cX10_part 8 = .ok (.aload_n 0, 1) := by decide +kernel
theorem dX10_part_9 : decode cX10_part 9 = .ok (.invokevirtual 216, 3) := by decide +kernel
theorem dX10_part_12 : decode cX10_part 12 = .ok (.aload_n 0, 1) := by decide +kernel
theorem dX10_part_13 : decode cX10_part 13 = .ok (.getfield 206, 3) := by decide +kernel
theorem dX10_part_16 : decode cX10_part 16 = .ok (.ifCond .ne 7, 3) := by decide +kernel
theorem dX10_part_19 : decode cX10_part 19 = .ok (.aload_n 0, 1) := by decide +kernel
theorem dX10_part_20 : decode cX10_part 20 = .ok (.invokevirtual 219, 3) := by decide +kernel
theorem dX10_part_23 : decode cX10_part 23 = .ok (.aload_n 0, 1) := by decide +kernel
theorem dX10_part_24 : decode cX10_part 24 = .ok (.getfield 206, 3) := by decide +kernel
theorem dX10_part_27 : decode cX10_part 27 = .ok (.ifCond .eq 7, 3) := by decide +kernel
theorem dX10_part_30 : decode cX10_part 30 = .ok (.iconst 0, 1) := by decide +kernel
theorem dX10_part_31 : decode cX10_part 31 = .ok (.goto 7, 3) := by decide +kernel
theorem dX10_part_34 : decode cX10_part 34 = .ok (.aload_n 0, 1) := by decide +kernel
theorem dX10_part_35 : decode cX10_part 35 = .ok (.invokevirtual 264, 3) := by decide +kernel
theorem dX10_part_38 : decode cX10_part 38 = .ok (.istore_n 3, 1) := by decide +kernel
theorem dX10_part_39 : decode cX10_part 39 = .ok (.aload_n 0, 1) := by decide +kernel
theorem dX10_part_40 : decode cX10_part 40 = .ok (.bipush 59, 2) := by decide +kernel
theorem dX10_part_42 : decode cX10_part 42 = .ok (.invokevirtual 253, 3) := by decide +kernel
theorem dX10_part_45 : decode cX10_part 45 = .ok (.ifCond .ne 7, 3) := by decide +kernel
theorem dX10_part_48 : decode cX10_part 48 = .ok (.aload_n 0, 1) := by decide +kernel
theorem dX10_part_49 : decode cX10_part 49 = .ok (.invokevirtual 216, 3) := by decide +kernel
theorem dX10_part_52 : decode cX10_part 52 = .ok (.aload_n 0, 1) := by decide +kernel
theorem dX10_part_53 : decode cX10_part 53 = .ok (.getfield 206, 3) := by decide +kernel
theorem dX10_part_56 : decode cX10_part 56 = .ok (.ifCond .ne 7, 3) := by decide +kernel
theorem dX10_part_59 : decode cX10_part 59 = .ok (.aload_n 0, 1) := by decide +kernel
theorem dX10_part_60 : decode cX10_part 60 = .ok (.invokevirtual 219, 3) := by decide +kernel
theorem dX10_part_63 : decode cX10_part 63 = .ok (.iload_n 3, 1) := by decide +kernel
theorem dX10_part_64 : decode cX10_part 64 = .ok (.ireturn, 1) := by decide +kernel
theorem dX10_read_0 : decode cX10_read 0 = .ok (.aload_n 0, 1) := by decide +kernel
theorem dX10_read_1 : decode cX10_read 1 = .ok (.iload_n 2, 1) := by decide +kernel
theorem dX10_read_2 : decode cX10_read 2 = .ok (.putfield 228, 3) := by decide +kernel
theorem dX10_read_5 : decode cX10_read 5 = .ok (.aload_n 0, 1) := by decide +kernel
theorem dX10_read_6 : decode cX10_read 6 = .ok (.iload_n 3, 1) := by decide +kernel
theorem dX10_read_7 : decode cX10_read 7 = .ok (.putfield 233, 3) := by decide +kernel
theorem dX10_read_10 : decode cX10_read 10 = .ok (.aload_n 0, 1) := by decide +kernel
theorem dX10_read_11 : decode cX10_read 11 = .ok (.iload 4, 2) := by decide +kernel
theorem dX10_read_13 : decode cX10_read 13 = .ok (.putfield 238, 3) := by decide +kernel
theorem dX10_read_16 : decode cX10_read 16 = .ok (.aload_n 0, 1) := by decide +kernel
theorem dX10_read_17 : decode cX10_read 17 = .ok (.iload 5, 2) := by decide +kernel
theorem dX10_read_19 : decode cX10_read 19 = .ok (.putfield 250, 3) := by decide +kernel
theorem dX10_read_22 : decode cX10_read 22 = .ok (.aload_n 0, 1) := by decide +kernel
theorem dX10_read_23 : decode cX10_read 23 = .ok (.sipush 160, 3) := by decide +kernel
theorem dX10_read_26 : decode cX10_read 26 = .ok (.iload_n 1, 1) := by decide +kernel
theorem dX10_read_27 : decode cX10_read 27 = .ok (.imul, 1) := by decide +kernel
theorem dX10_read_28 : decode cX10_read 28 = .ok (.putfield 171, 3) := by decide +kernel
theorem dX10_read_31 : decode cX10_read 31 = .ok (.aload_n 0, 1) := by decide +kernel
theorem dX10_read_32 : decode cX10_read 32 = .ok (.aload_n 0, 1) := by decide +kernel
theorem dX10_read_33 : decode cX10_read 33 = .ok (.getfield 17, 3) := by decide +kernel
theorem dX10_read_36 : decode cX10_read 36 = .ok (.iload_n 1, 1) := by decide +kernel
theorem dX10_read_37 : decode cX10_read 37 = .ok (.iaload, 1) := by decide +kernel
theorem dX10_read_38 : decode cX10_read 38 = .ok (.putfield 168, 3) := by decide +kernel
theorem dX10_read_41 : decode cX10_read 41 = .ok (.aload_n 0, 1) := by decide +kernel
theorem dX10_read_42 : decode cX10_read 42 = .ok (.iconst 0, 1) := by decide +kernel
theorem dX10_read_43 : decode cX10_read 43 = .ok (.putfield 174, 3) := by decide +kernel
theorem dX10_read_46 : decode cX10_read 46 = .ok (.aload_n 0, 1) := by decide +kernel
theorem dX10_read_47 : decode cX10_read 47 = .ok (.iconst 0, 1) := by decide +kernel
theorem dX10_read_48 : decode cX10_read 48 = .ok (.putfield 213, 3) := by decide +kernel
theorem dX10_read_51 : decode cX10_read 51 = .ok (.aload_n 0, 1) := by decide +kernel
theorem dX10_read_52 : decode cX10_read 52 = .ok (.iconst 0, 1) := by decide +kernel
theorem dX10_read_53 : decode cX10_read 53 = .ok (.putfield 206, 3) := by decide +kernel
theorem dX10_read_56 : decode cX10_read 56 = .ok (.aload_n 0, 1) := by decide +kernel
theorem dX10_read_57 : decode cX10_read 57 = .ok (.invokevirtual 219, 3) := by decide +kernel
theorem dX10_read_60 : decode cX10_read 60 = .ok (.aload_n 0, 1) := by decide +kernel
theorem dX10_read_61 : decode cX10_read 61 = .ok (.ldc2_w 292, 3) := by decide +kernel
theorem dX10_read_64 : decode cX10_read 64 = .ok (.invokevirtual 294, 3) := by decide +kernel
theorem dX10_read_67 : decode cX10_read 67 = .ok (.istore 7, 2) := by decide +kernel
theorem dX10_read_69 : decode cX10_read 69 = .ok (.aload_n 0, 1) := by decide +kernel
theorem dX10_read_70 : decode cX10_read 70 = .ok (.getfield 206, 3) := by decide +kernel
theorem dX10_read_73 : decode cX10_read 73 = .ok (.ifCond .eq 7, 3) := by decide +kernel
theorem dX10_read_76 : decode cX10_read 76 = .ok (.iconst 0, 1) := by decide +kernel
theorem dX10_read_77 : decode cX10_read 77 = .ok (.goto 10, 3) := by decide +kernel
theorem dX10_read_80 : decode cX10_read 80 = .ok (.aload_n 0, 1) := by decide +kernel
theorem dX10_read_81 : decode cX10_read 81 = .ok (.ldc2_w 298, 3) := by decide +kernel
theorem dX10_read_84 : decode cX10_read 84 = .ok (.invokevirtual 294, 3) := by decide +kernel
theorem dX10_read_87 : decode cX10_read 87 = .ok (.istore 8, 2) := by decide +kernel
theorem dX10_read_89 : decode cX10_read 89 = .ok (.aload_n 0, 1) := by decide +kernel
theorem dX10_read_90 : decode cX10_read 90 = .ok (.getfield 206, 3) := by decide +kernel
theorem dX10_read_93 : decode cX10_read 93 = .ok (.ifCond .eq 7, 3) := by decide +kernel
theorem dX10_read_96 : decode cX10_read 96 = .ok (.iconst 0, 1) := by decide +kernel
theorem dX10_read_97 : decode cX10_read 97 = .ok (.goto 10, 3) := by decide +kernel
theorem dX10_read_100 : decode cX10_read 100 = .ok (.aload_n 0, 1) := by decide +kernel
theorem dX10_read_101 : decode cX10_read 101 = .ok (.ldc2_w 300, 3) := by decide +kernel
theorem dX10_read_104 : decode cX10_read 104 = .ok (.invokevirtual 294, 3) := by decide +kernel
theorem dX10_read_107 : decode cX10_read 107 = .ok (.istore 9, 2) := by decide +kernel
theorem dX10_read_109 : decode cX10_read 109 = .ok (.aload_n 0, 1) := by decide +kernel
theorem dX10_read_110 : decode cX10_read 110 = .ok (.getfield 206, 3) := by decide +kernel
theorem dX10_read_113 : decode cX10_read 113 = .ok (.ifCond .ne 14, 3) := by decide +kernel
theorem dX10_read_116 : decode cX10_read 116 = .ok (.aload_n 0, 1) := by decide +kernel
theorem dX10_read_117 : decode cX10_read 117 = .ok (.getfield 183, 3) := by decide +kernel
theorem dX10_read_120 : decode cX10_read 120 = .ok (.ifCond .eq 7, 3) := by decide +kernel
theorem dX10_read_123 : decode cX10_read 123 = .ok (.aload_n 0, 1) := by decide +kernel
theorem dX10_read_124 : decode cX10_read 124 = .ok (.invokevirtual 216, 3) := by decide +kernel
theorem dX10_read_127 : decode cX10_read 127 = .ok (.iload 6, 2) := by decide +kernel
theorem dX10_read_129 : decode cX10_read 129 = .ok (.ifCond .ne 8, 3) := by decide +kernel
theorem dX10_read_132 : decode cX10_read 132 = .ok (.iload 7, 2) := by decide +kernel
theorem dX10_read_134 : decode cX10_read 134 = .ok (.goto 16, 3) := by decide +kernel
theorem dX10_read_137 : decode cX10_read 137 = .ok (.iload 6, 2) := by decide +kernel
theorem dX10_read_139 : decode cX10_read 139 = .ok (.iconst 1, 1) := by decide +kernel
theorem dX10_read_140 : decode cX10_read 140 = .ok (.if_icmp .ne 8, 3) := by decide +kernel
theorem dX10_read_143 : decode cX10_read 143 = .ok (.iload 8, 2) := by decide +kernel
theorem dX10_read_145 : decode cX10_read 145 = .ok (.goto 5, 3) := by decide +kernel
theorem dX10_read_148 : decode cX10_read 148 = .ok (.iload 9, 2) := by decide +kernel
theorem dX10_read_150 : decode cX10_read 150 = .ok (.ireturn, 1) := by decide +kernel
theorem dX10_text_0 : decode cX10_text 0 = .ok (.aload_n 0, 1) := by decide +kernel
theorem dX10_text_1 : decode cX10_text 1 = .ok (.getfield 114, 3) := by decide +kernel
theorem dX10_text_4 : decode cX10_text 4 = .ok (.bipush 6, 2) := by decide +kernel
theorem dX10_text_6 : decode cX10_text 6 = .ok (.if_icmp .ne 6, 3) := by decide +kernel
theorem dX10_text_9 : decode cX10_text 9 = .ok (.bipush (-4), 2) := by decide +kernel
theorem dX10_text_11 : decode cX10_text 11 = .ok (.ireturn, 1) := by decide +kernel
theorem dX10_text_12 : decode cX10_text 12 = .ok (.iconst 0, 1) := by decide +kernel
theorem dX10_text_13 : decode cX10_text 13 = .ok (.istore_n 1, 1) := by decide +kernel
theorem dX10_text_14 : decode cX10_text 14 = .ok (.iload_n 1, 1) := by decide +kernel
theorem dX10_text_15 : decode cX10_text 15 = .ok (.aload_n 0, 1) := by decide +kernel
theorem dX10_text_16 : decode cX10_text 16 = .ok (.getfield 165, 3) := by decide +kernel
theorem dX10_text_19 : decode cX10_text 19 = .ok (.if_icmp .ge 30, 3) := by decide +kernel
theorem dX10_text_22 : decode cX10_text 22 = .ok (.aload_n 0, 1) := by decide +kernel
theorem dX10_text_23 : decode cX10_text 23 = .ok (.getfield 13, 3) := by decide +kernel
theorem dX10_text_26 : decode cX10_text 26 = .ok (.sipush 160, 3) := by decide +kernel
theorem dX10_text_29 : decode cX10_text 29 = .ok (.aload_n 0, 1) := by decide +kernel
theorem dX10_text_30 : decode cX10_text 30 = .ok (.getfield 114, 3) := by decide +kernel
theorem dX10_text_33 : decode cX10_text 33 = .ok (.imul, 1) := by decide +kernel
theorem dX10_text_34 : decode cX10_text 34 = .ok (.iload_n 1, 1) := by decide +kernel
theorem dX10_text_35 : decode cX10_text 35 = .ok (.iadd, 1) := by decide +kernel
theorem dX10_text_36 : decode cX10_text 36 = .ok (.aload_n 0, 1) := by decide +kernel
theorem dX10_text_37 : decode cX10_text 37 = .ok (.getfield 20, 3) := by decide +kernel
theorem dX10_text_40 : decode cX10_text 40 = .ok (.iload_n 1, 1) := by decide +kernel
theorem dX10_text_41 : decode cX10_text 41 = .ok (.iaload, 1) := by decide +kernel
theorem dX10_text_42 : decode cX10_text 42 = .ok (.iastore, 1) := by decide +kernel
theorem dX10_text_43 : decode cX10_text 43 = .ok (.iinc 1 1, 3) := by decide +kernel
theorem dX10_text_46 : decode cX10_text 46 = .ok (.goto (-32), 3) := by decide +kernel
theorem dX10_text_49 : decode cX10_text 49 = .ok (.aload_n 0, 1) := by decide +kernel
theorem dX10_text_50 : decode cX10_text 50 = .ok (.getfield 17, 3) := by decide +kernel
theorem dX10_text_53 : decode cX10_text 53 = .ok (.aload_n 0, 1) := by decide +kernel
theorem dX10_text_54 : decode cX10_text 54 = .ok (.getfield 114, 3) := by decide +kernel
theorem dX10_text_57 : decode cX10_text 57 = .ok (.aload_n 0, 1) := by decide +kernel
theorem dX10_text_58 : decode cX10_text 58 = .ok (.getfield 165, 3) := by decide +kernel
theorem dX10_text_61 : decode cX10_text 61 = .ok (.iastore, 1) := by decide +kernel
theorem dX10_text_62 : decode cX10_text 62 = .ok (.aload_n 0, 1) := by decide +kernel
theorem dX10_text_63 : decode cX10_text 63 = .ok (.iconst 0, 1) := by decide +kernel
theorem dX10_text_64 : decode cX10_text 64 = .ok (.putfield 165, 3) := by decide +kernel
theorem dX10_text_67 : decode cX10_text 67 = .ok (.aload_n 0, 1) := by decide +kernel
theorem dX10_text_68 : decode cX10_text 68 = .ok (.aload_n 0, 1) := by decide +kernel
theorem dX10_text_69 : decode cX10_text 69 = .ok (.getfield 114, 3) := by decide +kernel
theorem dX10_text_72 : decode cX10_text 72 = .ok (.iconst 0, 1) := by decide +kernel
theorem dX10_text_73 : decode cX10_text 73 = .ok (.iconst 0, 1) := by decide +kernel
theorem dX10_text_74 : decode cX10_text 74 = .ok (.iconst 0, 1) := by decide +kernel
theorem dX10_text_75 : decode cX10_text 75 = .ok (.iconst 0, 1) := by decide +kernel
theorem dX10_text_76 : decode cX10_text 76 = .ok (.iconst 0, 1) := by decide +kernel
theorem dX10_text_77 : decode cX10_text 77 = .ok (.invokevirtual 134, 3) := by decide +kernel
theorem dX10_text_80 : decode cX10_text 80 = .ok (.istore_n 1, 1) := by decide +kernel
theorem dX10_text_81 : decode cX10_text 81 = .ok (.aload_n 0, 1) := by decide +kernel
theorem dX10_text_82 : decode cX10_text 82 = .ok (.getfield 206, 3) := by decide +kernel
theorem dX10_text_85 : decode cX10_text 85 = .ok (.ifCond .eq 11, 3) := by decide +kernel
theorem dX10_text_88 : decode cX10_text 88 = .ok (.bipush (-100), 2) := by decide +kernel
theorem dX10_text_90 : decode cX10_text 90 = .ok (.aload_n 0, 1) := by decide +kernel
theorem dX10_text_91 : decode cX10_text 91 = .ok (.getfield 210, 3) := by decide +kernel
theorem dX10_text_94 : decode cX10_text 94 = .ok (.isub, 1) := by decide +kernel
theorem dX10_text_95 : decode cX10_text 95 = .ok (.ireturn, 1) := by decide +kernel
theorem dX10_text_96 : decode cX10_text 96 = .ok (.aload_n 0, 1) := by decide +kernel
theorem dX10_text_97 : decode cX10_text 97 = .ok (.dup, 1) := by decide +kernel
theorem dX10_text_98 : decode cX10_text 98 = .ok (.getfield 114, 3) := by decide +kernel
theorem dX10_text_101 : decode cX10_text 101 = .ok (.iconst 1, 1) := by decide +kernel
theorem dX10_text_102 : decode cX10_text 102 = .ok (.iadd, 1) := by decide +kernel
theorem dX10_text_103 : decode cX10_text 103 = .ok (.putfield 114, 3) := by decide +kernel
theorem dX10_text_106 : decode cX10_text 106 = .ok (.aload_n 0, 1) := by decide +kernel
theorem dX10_text_107 : decode cX10_text 107 = .ok (.getfield 114, 3) := by decide +kernel
theorem dX10_text_110 : decode cX10_text 110 = .ok (.iconst 1, 1) := by decide +kernel
theorem dX10_text_111 : decode cX10_text 111 = .ok (.isub, 1) := by decide +kernel
theorem dX10_text_112 : decode cX10_text 112 = .ok (.ireturn, 1) := by decide +kernel
theorem dX10_force_0 : decode cX10_force 0 = .ok (.iload_n 1, 1) := by decide +kernel
theorem dX10_force_1 : decode cX10_force 1 = .ok (.i2l, 1) := by decide +kernel
theorem dX10_force_2 : decode cX10_force 2 = .ok (.lconst 0, 1) := by decide +kernel
theorem dX10_force_3 : decode cX10_force 3 = .ok (.aload_n 0, 1) := by decide +kernel
theorem dX10_force_4 : decode cX10_force 4 = .ok (.getfield 114, 3) := by decide +kernel
theorem dX10_force_7 : decode cX10_force 7 = .ok (.iconst 1, 1) := by decide +kernel
theorem dX10_force_8 : decode cX10_force 8 = .ok (.isub, 1) := by decide +kernel
theorem dX10_force_9 : decode cX10_force 9 = .ok (.i2l, 1) := by decide +kernel
theorem dX10_force_10 : decode cX10_force 10 = .ok (.invokestatic 125, 3) := by decide +kernel
theorem dX10_force_13 : decode cX10_force 13 = .ok (.ifCond .ne 6, 3) := by decide +kernel
theorem dX10_force_16 : decode cX10_force 16 = .ok (.bipush (-2), 2) := by decide +kernel
theorem dX10_force_18 : decode cX10_force 18 = .ok (.ireturn, 1) := by decide +kernel
theorem dX10_force_19 : decode cX10_force 19 = .ok (.aload_n 0, 1) := by decide +kernel
theorem dX10_force_20 : decode cX10_force 20 = .ok (.getfield 131, 3) := by decide +kernel
theorem dX10_force_23 : decode cX10_force 23 = .ok (.istore_n 2, 1) := by decide +kernel
theorem dX10_force_24 : decode cX10_force 24 = .ok (.aload_n 0, 1) := by decide +kernel
theorem dX10_force_25 : decode cX10_force 25 = .ok (.iload_n 1, 1) := by decide +kernel
theorem dX10_force_26 : decode cX10_force 26 = .ok (.putfield 131, 3) := by decide +kernel
theorem dX10_force_29 : decode cX10_force 29 = .ok (.iload_n 2, 1) := by decide +kernel
theorem dX10_force_30 : decode cX10_force 30 = .ok (.ireturn, 1) := by decide +kernel
theorem dX10_endOf_0 : decode cX10_endOf 0 = .ok (.iload_n 0, 1) := by decide +kernel
theorem dX10_endOf_1 : decode cX10_endOf 1 = .ok (.bipush 45, 2) := by decide +kernel
theorem dX10_endOf_3 : decode cX10_endOf 3 = .ok (.if_icmp .ne 7, 3) := by decide +kernel
theorem dX10_endOf_6 : decode cX10_endOf 6 = .ok (.iconst 0, 1) := by decide +kernel
theorem dX10_endOf_7 : decode cX10_endOf 7 = .ok (.goto 34, 3) := by decide +kernel
theorem dX10_endOf_10 : decode cX10_endOf 10 = .ok (.iload_n 0, 1) := by decide +kernel
theorem dX10_endOf_11 : decode cX10_endOf 11 = .ok (.bipush 43, 2) := by decide +kernel
theorem dX10_endOf_13 : decode cX10_endOf 13 = .ok (.if_icmp .ne 7, 3) := by decide +kernel
theorem dX10_endOf_16 : decode cX10_endOf 16 = .ok (.iconst 1, 1) := by decide +kernel
theorem dX10_endOf_17 : decode cX10_endOf 17 = .ok (.goto 24, 3) := by decide +kernel
theorem dX10_endOf_20 : decode cX10_endOf 20 = .ok (.iload_n 0, 1) := by decide +kernel
theorem dX10_endOf_21 : decode cX10_endOf 21 = .ok (.bipush 33, 2) := by decide +kernel
theorem dX10_endOf_23 : decode cX10_endOf 23 = .ok (.if_icmp .ne 7, 3) := by decide +kernel
theorem dX10_endOf_26 : decode cX10_endOf 26 = .ok (.iconst 2, 1) := by decide +kernel
theorem dX10_endOf_27 : decode cX10_endOf 27 = .ok (.goto 14, 3) := by decide +kernel
theorem dX10_endOf_30 : decode cX10_endOf 30 = .ok (.iload_n 0, 1) := by decide +kernel
theorem dX10_endOf_31 : decode cX10_endOf 31 = .ok (.bipush 63, 2) := by decide +kernel
theorem dX10_endOf_33 : decode cX10_endOf 33 = .ok (.if_icmp .ne 7, 3) := by decide +kernel
theorem dX10_endOf_36 : decode cX10_endOf 36 = .ok (.iconst 3, 1) := by decide +kernel
theorem dX10_endOf_37 : decode cX10_endOf 37 = .ok (.goto 4, 3) := by decide +kernel
theorem dX10_endOf_40 : decode cX10_endOf 40 = .ok (.iconst (-1), 1) := by decide +kernel
theorem dX10_endOf_41 : decode cX10_endOf 41 = .ok (.ireturn, 1) := by decide +kernel
theorem dX10_plan_0 : decode cX10_plan 0 = .ok (.aload_n 0, 1) := by decide +kernel
theorem dX10_plan_1 : decode cX10_plan 1 = .ok (.getfield 302, 3) := by decide +kernel
theorem dX10_plan_4 : decode cX10_plan 4 = .ok (.bipush 8, 2) := by decide +kernel
theorem dX10_plan_6 : decode cX10_plan 6 = .ok (.if_icmp .ne 6, 3) := by decide +kernel
theorem dX10_plan_9 : decode cX10_plan 9 = .ok (.bipush (-4), 2) := by decide +kernel
theorem dX10_plan_11 : decode cX10_plan 11 = .ok (.ireturn, 1) := by decide +kernel
theorem dX10_plan_12 : decode cX10_plan 12 = .ok (.iconst 0, 1) := by decide +kernel
theorem dX10_plan_13 : decode cX10_plan 13 = .ok (.istore_n 1, 1) := by decide +kernel
theorem dX10_plan_14 : decode cX10_plan 14 = .ok (.iconst 0, 1) := by decide +kernel
theorem dX10_plan_15 : decode cX10_plan 15 = .ok (.istore_n 2, 1) := by decide +kernel
theorem dX10_plan_16 : decode cX10_plan 16 = .ok (.iconst 0, 1) := by decide +kernel
theorem dX10_plan_17 : decode cX10_plan 17 = .ok (.istore_n 3, 1) := by decide +kernel
theorem dX10_plan_18 : decode cX10_plan 18 = .ok (.iconst (-1), 1) := by decide +kernel
theorem dX10_plan_19 : decode cX10_plan 19 = .ok (.istore 4, 2) := by decide +kernel
theorem dX10_plan_21 : decode cX10_plan 21 = .ok (.iconst 0, 1) := by decide +kernel
theorem dX10_plan_22 : decode cX10_plan 22 = .ok (.istore 5, 2) := by decide +kernel
theorem dX10_plan_24 : decode cX10_plan 24 = .ok (.iload 5, 2) := by decide +kernel
theorem dX10_plan_26 : decode cX10_plan 26 = .ok (.aload_n 0, 1) := by decide +kernel
theorem dX10_plan_27 : decode cX10_plan 27 = .ok (.getfield 165, 3) := by decide +kernel
theorem dX10_plan_30 : decode cX10_plan 30 = .ok (.if_icmp .ge 133, 3) := by decide +kernel
theorem dX10_plan_33 : decode cX10_plan 33 = .ok (.iload 4, 2) := by decide +kernel
theorem dX10_plan_35 : decode cX10_plan 35 = .ok (.iconst (-1), 1) := by decide +kernel
theorem dX10_plan_36 : decode cX10_plan 36 = .ok (.if_icmp .ne 127, 3) := by decide +kernel
theorem dX10_plan_39 : decode cX10_plan 39 = .ok (.aload_n 0, 1) := by decide +kernel
theorem dX10_plan_40 : decode cX10_plan 40 = .ok (.getfield 20, 3) := by decide +kernel
theorem dX10_plan_43 : decode cX10_plan 43 = .ok (.iload 5, 2) := by decide +kernel
theorem dX10_plan_45 : decode cX10_plan 45 = .ok (.iaload, 1) := by decide +kernel
theorem dX10_plan_46 : decode cX10_plan 46 = .ok (.bipush 97, 2) := by decide +kernel
theorem dX10_plan_48 : decode cX10_plan 48 = .ok (.isub, 1) := by decide +kernel
theorem dX10_plan_49 : decode cX10_plan 49 = .ok (.istore 6, 2) := by decide +kernel
theorem dX10_plan_51 : decode cX10_plan 51 = .ok (.aload_n 0, 1) := by decide +kernel
theorem dX10_plan_52 : decode cX10_plan 52 = .ok (.getfield 20, 3) := by decide +kernel
theorem dX10_plan_55 : decode cX10_plan 55 = .ok (.iload 5, 2) := by decide +kernel
theorem dX10_plan_57 : decode cX10_plan 57 = .ok (.iaload, 1) := by decide +kernel
theorem dX10_plan_58 : decode cX10_plan 58 = .ok (.invokestatic 305, 3) := by decide +kernel
theorem dX10_plan_61 : decode cX10_plan 61 = .ok (.istore 7, 2) := by decide +kernel
theorem dX10_plan_63 : decode cX10_plan 63 = .ok (.iload_n 1, 1) := by decide +kernel
theorem dX10_plan_64 : decode cX10_plan 64 = .ok (.bipush 24, 2) := by decide +kernel
theorem dX10_plan_66 : decode cX10_plan 66 = .ok (.if_icmp .eq 28, 3) := by decide +kernel
theorem dX10_plan_69 : decode cX10_plan 69 = .ok (.iload 7, 2) := by decide +kernel
theorem dX10_plan_71 : decode cX10_plan 71 = .ok (.iconst (-1), 1) := by decide +kernel
theorem dX10_plan_72 : decode cX10_plan 72 = .ok (.if_icmp .ne 29, 3) := by decide +kernel
theorem dX10_plan_75 : decode cX10_plan 75 = .ok (.aload_n 0, 1) := by decide +kernel
theorem dX10_plan_76 : decode cX10_plan 76 = .ok (.iload 6, 2) := by decide +kernel
theorem dX10_plan_78 : decode cX10_plan 78 = .ok (.invokevirtual 142, 3) := by decide +kernel
theorem dX10_plan_81 : decode cX10_plan 81 = .ok (.ifCond .eq 13, 3) := by decide +kernel
theorem dX10_plan_84 : decode cX10_plan 84 = .ok (.iload_n 2, 1) := by decide +kernel
theorem dX10_plan_85 : decode cX10_plan 85 = .ok (.iload 6, 2) := by decide +kernel
theorem dX10_plan_87 : decode cX10_plan 87 = .ok (.ishr, 1) := by decide +kernel
theorem dX10_plan_88 : decode cX10_plan 88 = .ok (.iconst 1, 1) := by decide +kernel
theorem dX10_plan_89 : decode cX10_plan 89 = .ok (.iand, 1) := by decide +kernel
theorem dX10_plan_90 : decode cX10_plan 90 = .ok (.iconst 1, 1) := by decide +kernel
theorem dX10_plan_91 : decode cX10_plan 91 = .ok (.if_icmp .ne 10, 3) := by decide +kernel
theorem dX10_plan_94 : decode cX10_plan 94 = .ok (.iload 5, 2) := by decide +kernel
theorem dX10_plan_96 : decode cX10_plan 96 = .ok (.istore 4, 2) := by decide +kernel
theorem dX10_plan_98 : decode cX10_plan 98 = .ok (.goto 59, 3) := by decide +kernel
theorem dX10_plan_101 : decode cX10_plan 101 = .ok (.iload 7, 2) := by decide +kernel
theorem dX10_plan_103 : decode cX10_plan 103 = .ok (.iconst (-1), 1) := by decide +kernel
theorem dX10_plan_104 : decode cX10_plan 104 = .ok (.if_icmp .ne 15, 3) := by decide +kernel
theorem dX10_plan_107 : decode cX10_plan 107 = .ok (.iload_n 2, 1) := by decide +kernel
theorem dX10_plan_108 : decode cX10_plan 108 = .ok (.iconst 1, 1) := by decide +kernel
theorem dX10_plan_109 : decode cX10_plan 109 = .ok (.iload 6, 2) := by decide +kernel
theorem dX10_plan_111 : decode cX10_plan 111 = .ok (.ishl, 1) := by decide +kernel
theorem dX10_plan_112 : decode cX10_plan 112 = .ok (.ior, 1) := by decide +kernel
theorem dX10_plan_113 : decode cX10_plan 113 = .ok (.istore_n 2, 1) := by decide +kernel
theorem dX10_plan_114 : decode cX10_plan 114 = .ok (.iconst 1, 1) := by decide +kernel
theorem dX10_plan_115 : decode cX10_plan 115 = .ok (.istore_n 3, 1) := by decide +kernel
theorem dX10_plan_116 : decode cX10_plan 116 = .ok (.goto 41, 3) := by decide +kernel
theorem dX10_plan_119 : decode cX10_plan 119 = .ok (.aload_n 0, 1) := by decide +kernel
theorem dX10_plan_120 : decode cX10_plan 120 = .ok (.getfield 44, 3) := by decide +kernel
theorem dX10_plan_123 : decode cX10_plan 123 = .ok (.bipush 24, 2) := by decide +kernel
theorem dX10_plan_125 : decode cX10_plan 125 = .ok (.aload_n 0, 1) := by decide +kernel
theorem dX10_plan_126 : decode cX10_plan 126 = .ok (.getfield 302, 3) := by decide +kernel
theorem dX10_plan_129 : decode cX10_plan 129 = .ok (.imul, 1) := by decide +kernel
theorem dX10_plan_130 : decode cX10_plan 130 = .ok (.iload_n 1, 1) := by decide +kernel
theorem dX10_plan_131 : decode cX10_plan 131 = .ok (.iadd, 1) := by decide +kernel
theorem dX10_plan_132 : decode cX10_plan 132 = .ok (.iload_n 2, 1) := by decide +kernel
theorem dX10_plan_133 : decode cX10_plan 133 = .ok (.iastore, 1) := by decide +kernel
theorem dX10_plan_134 : decode cX10_plan 134 = .ok (.aload_n 0, 1) := by decide +kernel
theorem dX10_plan_135 : decode cX10_plan 135 = .ok (.getfield 47, 3) := by decide +kernel
theorem dX10_plan_138 : decode cX10_plan 138 = .ok (.bipush 24, 2) := by decide +kernel
theorem dX10_plan_140 : decode cX10_plan 140 = .ok (.aload_n 0, 1) := by decide +kernel
theorem dX10_plan_141 : decode cX10_plan 141 = .ok (.getfield 302, 3) := by decide +kernel
theorem dX10_plan_144 : decode cX10_plan 144 = .ok (.imul, 1) := by decide +kernel
theorem dX10_plan_145 : decode cX10_plan 145 = .ok (.iload_n 1, 1) := by decide +kernel
theorem dX10_plan_146 : decode cX10_plan 146 = .ok (.iadd, 1) := by decide +kernel
theorem dX10_plan_147 : decode cX10_plan 147 = .ok (.iload 7, 2) := by decide +kernel
theorem dX10_plan_149 : decode cX10_plan 149 = .ok (.iastore, 1) := by decide +kernel
theorem dX10_plan_150 : decode cX10_plan 150 = .ok (.iinc 1 1, 3) := by decide +kernel
theorem dX10_plan_153 : decode cX10_plan 153 = .ok (.iconst 0, 1) := by decide +kernel
theorem dX10_plan_154 : decode cX10_plan 154 = .ok (.istore_n 2, 1) := by decide +kernel
theorem dX10_plan_155 : decode cX10_plan 155 = .ok (.iconst 0, 1) := by decide +kernel
theorem dX10_plan_156 : decode cX10_plan 156 = .ok (.istore_n 3, 1) := by decide +kernel
theorem dX10_plan_157 : decode cX10_plan 157 = .ok (.iinc 5 1, 3) := by decide +kernel
theorem dX10_plan_160 : decode cX10_plan 160 = .ok (.goto (-136), 3) := by decide +kernel
theorem dX10_plan_163 : decode cX10_plan 163 = .ok (.iload 4, 2) := by decide +kernel
theorem dX10_plan_165 : decode cX10_plan 165 = .ok (.iconst (-1), 1) := by decide +kernel
theorem dX10_plan_166 : decode cX10_plan 166 = .ok (.if_icmp .ne 17, 3) := by decide +kernel
theorem dX10_plan_169 : decode cX10_plan 169 = .ok (.iload_n 3, 1) := by decide +kernel
theorem dX10_plan_170 : decode cX10_plan 170 = .ok (.ifCond .ne 7, 3) := by decide +kernel
theorem dX10_plan_173 : decode cX10_plan 173 = .ok (.iload_n 1, 1) := by decide +kernel
theorem dX10_plan_174 : decode cX10_plan 174 = .ok (.ifCond .ne 9, 3) := by decide +kernel
theorem dX10_plan_177 : decode cX10_plan 177 = .ok (.aload_n 0, 1) := by decide +kernel
theorem dX10_plan_178 : decode cX10_plan 178 = .ok (.getfield 165, 3) := by decide +kernel
theorem dX10_plan_181 : decode cX10_plan 181 = .ok (.istore 4, 2) := by decide +kernel
theorem dX10_plan_183 : decode cX10_plan 183 = .ok (.aload_n 0, 1) := by decide +kernel
theorem dX10_plan_184 : decode cX10_plan 184 = .ok (.iconst 0, 1) := by decide +kernel
theorem dX10_plan_185 : decode cX10_plan 185 = .ok (.putfield 165, 3) := by decide +kernel
theorem dX10_plan_188 : decode cX10_plan 188 = .ok (.iload 4, 2) := by decide +kernel
theorem dX10_plan_190 : decode cX10_plan 190 = .ok (.iconst (-1), 1) := by decide +kernel
theorem dX10_plan_191 : decode cX10_plan 191 = .ok (.if_icmp .eq 9, 3) := by decide +kernel
theorem dX10_plan_194 : decode cX10_plan 194 = .ok (.bipush (-100), 2) := by decide +kernel
theorem dX10_plan_196 : decode cX10_plan 196 = .ok (.iload 4, 2) := by decide +kernel
theorem dX10_plan_198 : decode cX10_plan 198 = .ok (.isub, 1) := by decide +kernel
theorem dX10_plan_199 : decode cX10_plan 199 = .ok (.ireturn, 1) := by decide +kernel
theorem dX10_plan_200 : decode cX10_plan 200 = .ok (.aload_n 0, 1) := by decide +kernel
theorem dX10_plan_201 : decode cX10_plan 201 = .ok (.getfield 41, 3) := by decide +kernel
theorem dX10_plan_204 : decode cX10_plan 204 = .ok (.aload_n 0, 1) := by decide +kernel
theorem dX10_plan_205 : decode cX10_plan 205 = .ok (.getfield 302, 3) := by decide +kernel
theorem dX10_plan_208 : decode cX10_plan 208 = .ok (.iload_n 1, 1) := by decide +kernel
theorem dX10_plan_209 : decode cX10_plan 209 = .ok (.iastore, 1) := by decide +kernel
theorem dX10_plan_210 : decode cX10_plan 210 = .ok (.aload_n 0, 1) := by decide +kernel
theorem dX10_plan_211 : decode cX10_plan 211 = .ok (.dup, 1) := by decide +kernel
theorem dX10_plan_212 : decode cX10_plan 212 = .ok (.getfield 302, 3) := by decide +kernel
theorem dX10_plan_215 : decode cX10_plan 215 = .ok (.iconst 1, 1) := by decide +kernel
theorem dX10_plan_216 : decode cX10_plan 216 = .ok (.iadd, 1) := by decide +kernel
theorem dX10_plan_217 : decode cX10_plan 217 = .ok (.putfield 302, 3) := by decide +kernel
theorem dX10_plan_220 : decode cX10_plan 220 = .ok (.aload_n 0, 1) := by decide +kernel
theorem dX10_plan_221 : decode cX10_plan 221 = .ok (.getfield 302, 3) := by decide +kernel
theorem dX10_plan_224 : decode cX10_plan 224 = .ok (.iconst 1, 1) := by decide +kernel
theorem dX10_plan_225 : decode cX10_plan 225 = .ok (.isub, 1) := by decide +kernel
theorem dX10_plan_226 : decode cX10_plan 226 = .ok (.ireturn, 1) := by decide +kernel
theorem dX10_isPlan_0 : decode cX10_isPlan 0 = .ok (.iload_n 1, 1) := by decide +kernel
theorem dX10_isPlan_1 : decode cX10_isPlan 1 = .ok (.i2l, 1) := by decide +kernel
theorem dX10_isPlan_2 : decode cX10_isPlan 2 = .ok (.lconst 0, 1) := by decide +kernel
theorem dX10_isPlan_3 : decode cX10_isPlan 3 = .ok (.aload_n 0, 1) := by decide +kernel
theorem dX10_isPlan_4 : decode cX10_isPlan 4 = .ok (.getfield 302, 3) := by decide +kernel
theorem dX10_isPlan_7 : decode cX10_isPlan 7 = .ok (.iconst 1, 1) := by decide +kernel
theorem dX10_isPlan_8 : decode cX10_isPlan 8 = .ok (.isub, 1) := by decide +kernel
theorem dX10_isPlan_9 : decode cX10_isPlan 9 = .ok (.i2l, 1) := by decide +kernel
theorem dX10_isPlan_10 : decode cX10_isPlan 10 = .ok (.invokestatic 125, 3) := by decide +kernel
theorem dX10_isPlan_13 : decode cX10_isPlan 13 = .ok (.ireturn, 1) := by decide +kernel
theorem dX10_planned_0 : decode cX10_planned 0 = .ok (.aload_n 0, 1) := by decide +kernel
theorem dX10_planned_1 : decode cX10_planned 1 = .ok (.iload_n 1, 1) := by decide +kernel
theorem dX10_planned_2 : decode cX10_planned 2 = .ok (.invokevirtual 308, 3) := by decide +kernel
theorem dX10_planned_5 : decode cX10_planned 5 = .ok (.ifCond .eq 23, 3) := by decide +kernel
theorem dX10_planned_8 : decode cX10_planned 8 = .ok (.iload_n 2, 1) := by decide +kernel
theorem dX10_planned_9 : decode cX10_planned 9 = .ok (.i2l, 1) := by decide +kernel
theorem dX10_planned_10 : decode cX10_planned 10 = .ok (.ldc2_w 198, 3) := by decide +kernel
theorem dX10_planned_13 : decode cX10_planned 13 = .ok (.aload_n 0, 1) := by decide +kernel
theorem dX10_planned_14 : decode cX10_planned 14 = .ok (.getfield 41, 3) := by decide +kernel
theorem dX10_planned_17 : decode cX10_planned 17 = .ok (.iload_n 1, 1) := by decide +kernel
theorem dX10_planned_18 : decode cX10_planned 18 = .ok (.iaload, 1) := by decide +kernel
theorem dX10_planned_19 : decode cX10_planned 19 = .ok (.iconst 1, 1) := by decide +kernel
theorem dX10_planned_20 : decode cX10_planned 20 = .ok (.isub, 1) := by decide +kernel
theorem dX10_planned_21 : decode cX10_planned 21 = .ok (.i2l, 1) := by decide +kernel
theorem dX10_planned_22 : decode cX10_planned 22 = .ok (.invokestatic 125, 3) := by decide +kernel
theorem dX10_planned_25 : decode cX10_planned 25 = .ok (.ifCond .ne 5, 3) := by decide +kernel
theorem dX10_planned_28 : decode cX10_planned 28 = .ok (.iconst (-1), 1) := by decide +kernel
theorem dX10_planned_29 : decode cX10_planned 29 = .ok (.ireturn, 1) := by decide +kernel
theorem dX10_planned_30 : decode cX10_planned 30 = .ok (.iload_n 2, 1) := by decide +kernel
theorem dX10_planned_31 : decode cX10_planned 31 = .ok (.iconst (-1), 1) := by decide +kernel
theorem dX10_planned_32 : decode cX10_planned 32 = .ok (.if_icmp .ne 10, 3) := by decide +kernel
theorem dX10_planned_35 : decode cX10_planned 35 = .ok (.aload_n 0, 1) := by decide +kernel
theorem dX10_planned_36 : decode cX10_planned 36 = .ok (.getfield 41, 3) := by decide +kernel
theorem dX10_planned_39 : decode cX10_planned 39 = .ok (.iload_n 1, 1) := by decide +kernel
theorem dX10_planned_40 : decode cX10_planned 40 = .ok (.iaload, 1) := by decide +kernel
theorem dX10_planned_41 : decode cX10_planned 41 = .ok (.ireturn, 1) := by decide +kernel
theorem dX10_planned_42 : decode cX10_planned 42 = .ok (.iload_n 3, 1) := by decide +kernel
theorem dX10_planned_43 : decode cX10_planned 43 = .ok (.ifCond .ne 17, 3) := by decide +kernel
theorem dX10_planned_46 : decode cX10_planned 46 = .ok (.aload_n 0, 1) := by decide +kernel
theorem dX10_planned_47 : decode cX10_planned 47 = .ok (.getfield 44, 3) := by decide +kernel
theorem dX10_planned_50 : decode cX10_planned 50 = .ok (.bipush 24, 2) := by decide +kernel
theorem dX10_planned_52 : decode cX10_planned 52 = .ok (.iload_n 1, 1) := by decide +kernel
theorem dX10_planned_53 : decode cX10_planned 53 = .ok (.imul, 1) := by decide +kernel
theorem dX10_planned_54 : decode cX10_planned 54 = .ok (.iload_n 2, 1) := by decide +kernel
theorem dX10_planned_55 : decode cX10_planned 55 = .ok (.iadd, 1) := by decide +kernel
theorem dX10_planned_56 : decode cX10_planned 56 = .ok (.iaload, 1) := by decide +kernel
theorem dX10_planned_57 : decode cX10_planned 57 = .ok (.goto 23, 3) := by decide +kernel
theorem dX10_planned_60 : decode cX10_planned 60 = .ok (.iload_n 3, 1) := by decide +kernel
theorem dX10_planned_61 : decode cX10_planned 61 = .ok (.iconst 1, 1) := by decide +kernel
theorem dX10_planned_62 : decode cX10_planned 62 = .ok (.if_icmp .ne 17, 3) := by decide +kernel
theorem dX10_planned_65 : decode cX10_planned 65 = .ok (.aload_n 0, 1) := by decide +kernel
theorem dX10_planned_66 : decode cX10_planned 66 = .ok (.getfield 47, 3) := by decide +kernel
theorem dX10_planned_69 : decode cX10_planned 69 = .ok (.bipush 24, 2) := by decide +kernel
theorem dX10_planned_71 : decode cX10_planned 71 = .ok (.iload_n 1, 1) := by decide +kernel
theorem dX10_planned_72 : decode cX10_planned 72 = .ok (.imul, 1) := by decide +kernel
theorem dX10_planned_73 : decode cX10_planned 73 = .ok (.iload_n 2, 1) := by decide +kernel
theorem dX10_planned_74 : decode cX10_planned 74 = .ok (.iadd, 1) := by decide +kernel
theorem dX10_planned_75 : decode cX10_planned 75 = .ok (.iaload, 1) := by decide +kernel
theorem dX10_planned_76 : decode cX10_planned 76 = .ok (.goto 4, 3) := by decide +kernel
theorem dX10_planned_79 : decode cX10_planned 79 = .ok (.iconst (-1), 1) := by decide +kernel
theorem dX10_planned_80 : decode cX10_planned 80 = .ok (.ireturn, 1) := by decide +kernel
theorem dX10_sumOf_0 : decode cX10_sumOf 0 = .ok (.iconst 0, 1) := by decide +kernel
theorem dX10_sumOf_1 : decode cX10_sumOf 1 = .ok (.istore_n 2, 1) := by decide +kernel
theorem dX10_sumOf_2 : decode cX10_sumOf 2 = .ok (.iconst 0, 1) := by decide +kernel
theorem dX10_sumOf_3 : decode cX10_sumOf 3 = .ok (.istore_n 3, 1) := by decide +kernel
theorem dX10_sumOf_4 : decode cX10_sumOf 4 = .ok (.iload_n 3, 1) := by decide +kernel
theorem dX10_sumOf_5 : decode cX10_sumOf 5 = .ok (.aload_n 0, 1) := by decide +kernel
theorem dX10_sumOf_6 : decode cX10_sumOf 6 = .ok (.getfield 122, 3) := by decide +kernel
theorem dX10_sumOf_9 : decode cX10_sumOf 9 = .ok (.if_icmp .ge 87, 3) := by decide +kernel
theorem dX10_sumOf_12 : decode cX10_sumOf 12 = .ok (.iload_n 1, 1) := by decide +kernel
theorem dX10_sumOf_13 : decode cX10_sumOf 13 = .ok (.iload_n 3, 1) := by decide +kernel
theorem dX10_sumOf_14 : decode cX10_sumOf 14 = .ok (.ishr, 1) := by decide +kernel
theorem dX10_sumOf_15 : decode cX10_sumOf 15 = .ok (.iconst 1, 1) := by decide +kernel
theorem dX10_sumOf_16 : decode cX10_sumOf 16 = .ok (.iand, 1) := by decide +kernel
theorem dX10_sumOf_17 : decode cX10_sumOf 17 = .ok (.iconst 1, 1) := by decide +kernel
theorem dX10_sumOf_18 : decode cX10_sumOf 18 = .ok (.if_icmp .ne 15, 3) := by decide +kernel
theorem dX10_sumOf_21 : decode cX10_sumOf 21 = .ok (.iload_n 2, 1) := by decide +kernel
theorem dX10_sumOf_22 : decode cX10_sumOf 22 = .ok (.aload_n 0, 1) := by decide +kernel
theorem dX10_sumOf_23 : decode cX10_sumOf 23 = .ok (.getfield 26, 3) := by decide +kernel
theorem dX10_sumOf_26 : decode cX10_sumOf 26 = .ok (.iload_n 3, 1) := by decide +kernel
theorem dX10_sumOf_27 : decode cX10_sumOf 27 = .ok (.iaload, 1) := by decide +kernel
theorem dX10_sumOf_28 : decode cX10_sumOf 28 = .ok (.iadd, 1) := by decide +kernel
theorem dX10_sumOf_29 : decode cX10_sumOf 29 = .ok (.istore_n 2, 1) := by decide +kernel
theorem dX10_sumOf_30 : decode cX10_sumOf 30 = .ok (.goto 60, 3) := by decide +kernel
theorem dX10_sumOf_33 : decode cX10_sumOf 33 = .ok (.iconst 0, 1) := by decide +kernel
theorem dX10_sumOf_34 : decode cX10_sumOf 34 = .ok (.istore 4, 2) := by decide +kernel
theorem dX10_sumOf_36 : decode cX10_sumOf 36 = .ok (.iload 4, 2) := by decide +kernel
theorem dX10_sumOf_38 : decode cX10_sumOf 38 = .ok (.aload_n 0, 1) := by decide +kernel
theorem dX10_sumOf_39 : decode cX10_sumOf 39 = .ok (.getfield 122, 3) := by decide +kernel
theorem dX10_sumOf_42 : decode cX10_sumOf 42 = .ok (.if_icmp .ge 48, 3) := by decide +kernel
theorem dX10_sumOf_45 : decode cX10_sumOf 45 = .ok (.iload_n 2, 1) := by decide +kernel
theorem dX10_sumOf_46 : decode cX10_sumOf 46 = .ok (.iload_n 1, 1) := by decide +kernel
theorem dX10_sumOf_47 : decode cX10_sumOf 47 = .ok (.iload 4, 2) := by decide +kernel
theorem dX10_sumOf_49 : decode cX10_sumOf 49 = .ok (.ishr, 1) := by decide +kernel
theorem dX10_sumOf_50 : decode cX10_sumOf 50 = .ok (.iconst 1, 1) := by decide +kernel
theorem dX10_sumOf_51 : decode cX10_sumOf 51 = .ok (.iand, 1) := by decide +kernel
theorem dX10_sumOf_52 : decode cX10_sumOf 52 = .ok (.iconst 1, 1) := by decide +kernel
theorem dX10_sumOf_53 : decode cX10_sumOf 53 = .ok (.if_icmp .ne 28, 3) := by decide +kernel
theorem dX10_sumOf_56 : decode cX10_sumOf 56 = .ok (.aload_n 0, 1) := by decide +kernel
theorem dX10_sumOf_57 : decode cX10_sumOf 57 = .ok (.getfield 26, 3) := by decide +kernel
theorem dX10_sumOf_60 : decode cX10_sumOf 60 = .ok (.iload_n 3, 1) := by decide +kernel
theorem dX10_sumOf_61 : decode cX10_sumOf 61 = .ok (.iaload, 1) := by decide +kernel
theorem dX10_sumOf_62 : decode cX10_sumOf 62 = .ok (.aload_n 0, 1) := by decide +kernel
theorem dX10_sumOf_63 : decode cX10_sumOf 63 = .ok (.getfield 38, 3) := by decide +kernel
theorem dX10_sumOf_66 : decode cX10_sumOf 66 = .ok (.bipush 8, 2) := by decide +kernel
theorem dX10_sumOf_68 : decode cX10_sumOf 68 = .ok (.iload_n 3, 1) := by decide +kernel
theorem dX10_sumOf_69 : decode cX10_sumOf 69 = .ok (.imul, 1) := by decide +kernel
theorem dX10_sumOf_70 : decode cX10_sumOf 70 = .ok (.iload 4, 2) := by decide +kernel
theorem dX10_sumOf_72 : decode cX10_sumOf 72 = .ok (.iadd, 1) := by decide +kernel
theorem dX10_sumOf_73 : decode cX10_sumOf 73 = .ok (.iaload, 1) := by decide +kernel
theorem dX10_sumOf_74 : decode cX10_sumOf 74 = .ok (.imul, 1) := by decide +kernel
theorem dX10_sumOf_75 : decode cX10_sumOf 75 = .ok (.bipush 100, 2) := by decide +kernel
theorem dX10_sumOf_77 : decode cX10_sumOf 77 = .ok (.idiv, 1) := by decide +kernel
theorem dX10_sumOf_78 : decode cX10_sumOf 78 = .ok (.goto 4, 3) := by decide +kernel
theorem dX10_sumOf_81 : decode cX10_sumOf 81 = .ok (.iconst 0, 1) := by decide +kernel
theorem dX10_sumOf_82 : decode cX10_sumOf 82 = .ok (.iadd, 1) := by decide +kernel
theorem dX10_sumOf_83 : decode cX10_sumOf 83 = .ok (.istore_n 2, 1) := by decide +kernel
theorem dX10_sumOf_84 : decode cX10_sumOf 84 = .ok (.iinc 4 1, 3) := by decide +kernel
theorem dX10_sumOf_87 : decode cX10_sumOf 87 = .ok (.goto (-51), 3) := by decide +kernel
theorem dX10_sumOf_90 : decode cX10_sumOf 90 = .ok (.iinc 3 1, 3) := by decide +kernel
theorem dX10_sumOf_93 : decode cX10_sumOf 93 = .ok (.goto (-89), 3) := by decide +kernel
theorem dX10_sumOf_96 : decode cX10_sumOf 96 = .ok (.iload_n 2, 1) := by decide +kernel
theorem dX10_sumOf_97 : decode cX10_sumOf 97 = .ok (.ireturn, 1) := by decide +kernel
theorem dX10_leastOf_0 : decode cX10_leastOf 0 = .ok (.iconst 0, 1) := by decide +kernel
theorem dX10_leastOf_1 : decode cX10_leastOf 1 = .ok (.istore_n 2, 1) := by decide +kernel
theorem dX10_leastOf_2 : decode cX10_leastOf 2 = .ok (.iload_n 1, 1) := by decide +kernel
theorem dX10_leastOf_3 : decode cX10_leastOf 3 = .ok (.iload_n 2, 1) := by decide +kernel
theorem dX10_leastOf_4 : decode cX10_leastOf 4 = .ok (.ishr, 1) := by decide +kernel
theorem dX10_leastOf_5 : decode cX10_leastOf 5 = .ok (.iconst 1, 1) := by decide +kernel
theorem dX10_leastOf_6 : decode cX10_leastOf 6 = .ok (.iand, 1) := by decide +kernel
theorem dX10_leastOf_7 : decode cX10_leastOf 7 = .ok (.ifCond .ne 9, 3) := by decide +kernel
theorem dX10_leastOf_10 : decode cX10_leastOf 10 = .ok (.iinc 2 1, 3) := by decide +kernel
theorem dX10_leastOf_13 : decode cX10_leastOf 13 = .ok (.goto (-11), 3) := by decide +kernel
theorem dX10_leastOf_16 : decode cX10_leastOf 16 = .ok (.iload_n 2, 1) := by decide +kernel
theorem dX10_leastOf_17 : decode cX10_leastOf 17 = .ok (.ireturn, 1) := by decide +kernel
theorem dX10_dropsOf_0 : decode cX10_dropsOf 0 = .ok (.iload_n 1, 1) := by decide +kernel
theorem dX10_dropsOf_1 : decode cX10_dropsOf 1 = .ok (.ifCond .ne 7, 3) := by decide +kernel
theorem dX10_dropsOf_4 : decode cX10_dropsOf 4 = .ok (.iconst 0, 1) := by decide +kernel
theorem dX10_dropsOf_5 : decode cX10_dropsOf 5 = .ok (.goto 33, 3) := by decide +kernel
theorem dX10_dropsOf_8 : decode cX10_dropsOf 8 = .ok (.aload_n 0, 1) := by decide +kernel
theorem dX10_dropsOf_9 : decode cX10_dropsOf 9 = .ok (.aload_n 0, 1) := by decide +kernel
theorem dX10_dropsOf_10 : decode cX10_dropsOf 10 = .ok (.getfield 131, 3) := by decide +kernel
theorem dX10_dropsOf_13 : decode cX10_dropsOf 13 = .ok (.aload_n 0, 1) := by decide +kernel
theorem dX10_dropsOf_14 : decode cX10_dropsOf 14 = .ok (.iload_n 1, 1) := by decide +kernel
theorem dX10_dropsOf_15 : decode cX10_dropsOf 15 = .ok (.invokevirtual 311, 3) := by decide +kernel
theorem dX10_dropsOf_18 : decode cX10_dropsOf 18 = .ok (.aload_n 0, 1) := by decide +kernel
theorem dX10_dropsOf_19 : decode cX10_dropsOf 19 = .ok (.iload_n 1, 1) := by decide +kernel
theorem dX10_dropsOf_20 : decode cX10_dropsOf 20 = .ok (.invokevirtual 314, 3) := by decide +kernel
theorem dX10_dropsOf_23 : decode cX10_dropsOf 23 = .ok (.iconst 0, 1) := by decide +kernel
theorem dX10_dropsOf_24 : decode cX10_dropsOf 24 = .ok (.iconst 0, 1) := by decide +kernel
theorem dX10_dropsOf_25 : decode cX10_dropsOf 25 = .ok (.iconst 2, 1) := by decide +kernel
theorem dX10_dropsOf_26 : decode cX10_dropsOf 26 = .ok (.invokevirtual 134, 3) := by decide +kernel
theorem dX10_dropsOf_29 : decode cX10_dropsOf 29 = .ok (.bipush 10, 2) := by decide +kernel
theorem dX10_dropsOf_31 : decode cX10_dropsOf 31 = .ok (.idiv, 1) := by decide +kernel
theorem dX10_dropsOf_32 : decode cX10_dropsOf 32 = .ok (.iconst 0, 1) := by decide +kernel
theorem dX10_dropsOf_33 : decode cX10_dropsOf 33 = .ok (.bipush 99, 2) := by decide +kernel
theorem dX10_dropsOf_35 : decode cX10_dropsOf 35 = .ok (.invokestatic 138, 3) := by decide +kernel
theorem dX10_dropsOf_38 : decode cX10_dropsOf 38 = .ok (.ireturn, 1) := by decide +kernel
theorem dX10_tries_0 : decode cX10_tries 0 = .ok (.aload_n 0, 1) := by decide +kernel
theorem dX10_tries_1 : decode cX10_tries 1 = .ok (.iload_n 1, 1) := by decide +kernel
theorem dX10_tries_2 : decode cX10_tries 2 = .ok (.invokevirtual 314, 3) := by decide +kernel
theorem dX10_tries_5 : decode cX10_tries 5 = .ok (.istore_n 3, 1) := by decide +kernel
theorem dX10_tries_6 : decode cX10_tries 6 = .ok (.aload_n 0, 1) := by decide +kernel
theorem dX10_tries_7 : decode cX10_tries 7 = .ok (.getfield 32, 3) := by decide +kernel
theorem dX10_tries_10 : decode cX10_tries 10 = .ok (.iload_n 2, 1) := by decide +kernel
theorem dX10_tries_11 : decode cX10_tries 11 = .ok (.iaload, 1) := by decide +kernel
theorem dX10_tries_12 : decode cX10_tries 12 = .ok (.iload_n 3, 1) := by decide +kernel
theorem dX10_tries_13 : decode cX10_tries 13 = .ok (.isub, 1) := by decide +kernel
theorem dX10_tries_14 : decode cX10_tries 14 = .ok (.istore 4, 2) := by decide +kernel
theorem dX10_tries_16 : decode cX10_tries 16 = .ok (.iconst 0, 1) := by decide +kernel
theorem dX10_tries_17 : decode cX10_tries 17 = .ok (.istore 5, 2) := by decide +kernel
theorem dX10_tries_19 : decode cX10_tries 19 = .ok (.iload 5, 2) := by decide +kernel
theorem dX10_tries_21 : decode cX10_tries 21 = .ok (.aload_n 0, 1) := by decide +kernel
theorem dX10_tries_22 : decode cX10_tries 22 = .ok (.getfield 122, 3) := by decide +kernel
theorem dX10_tries_25 : decode cX10_tries 25 = .ok (.if_icmp .ge 125, 3) := by decide +kernel
theorem dX10_tries_28 : decode cX10_tries 28 = .ok (.aload_n 0, 1) := by decide +kernel
theorem dX10_tries_29 : decode cX10_tries 29 = .ok (.getfield 50, 3) := by decide +kernel
theorem dX10_tries_32 : decode cX10_tries 32 = .ok (.iload 5, 2) := by decide +kernel
theorem dX10_tries_34 : decode cX10_tries 34 = .ok (.iconst 0, 1) := by decide +kernel
theorem dX10_tries_35 : decode cX10_tries 35 = .ok (.iastore, 1) := by decide +kernel
theorem dX10_tries_36 : decode cX10_tries 36 = .ok (.iload_n 1, 1) := by decide +kernel
theorem dX10_tries_37 : decode cX10_tries 37 = .ok (.iload 5, 2) := by decide +kernel
theorem dX10_tries_39 : decode cX10_tries 39 = .ok (.ishr, 1) := by decide +kernel
theorem dX10_tries_40 : decode cX10_tries 40 = .ok (.iconst 1, 1) := by decide +kernel
theorem dX10_tries_41 : decode cX10_tries 41 = .ok (.iand, 1) := by decide +kernel
theorem dX10_tries_42 : decode cX10_tries 42 = .ok (.ifCond .ne 6, 3) := by decide +kernel
theorem dX10_tries_45 : decode cX10_tries 45 = .ok (.goto 99, 3) := by decide +kernel
theorem dX10_tries_48 : decode cX10_tries 48 = .ok (.aload_n 0, 1) := by decide +kernel
theorem dX10_tries_49 : decode cX10_tries 49 = .ok (.aload_n 0, 1) := by decide +kernel
theorem dX10_tries_50 : decode cX10_tries 50 = .ok (.getfield 131, 3) := by decide +kernel
theorem dX10_tries_53 : decode cX10_tries 53 = .ok (.iload 5, 2) := by decide +kernel
theorem dX10_tries_55 : decode cX10_tries 55 = .ok (.iload_n 3, 1) := by decide +kernel
theorem dX10_tries_56 : decode cX10_tries 56 = .ok (.aload_n 0, 1) := by decide +kernel
theorem dX10_tries_57 : decode cX10_tries 57 = .ok (.getfield 32, 3) := by decide +kernel
theorem dX10_tries_60 : decode cX10_tries 60 = .ok (.iload_n 2, 1) := by decide +kernel
theorem dX10_tries_61 : decode cX10_tries 61 = .ok (.iaload, 1) := by decide +kernel
theorem dX10_tries_62 : decode cX10_tries 62 = .ok (.aload_n 0, 1) := by decide +kernel
theorem dX10_tries_63 : decode cX10_tries 63 = .ok (.getfield 317, 3) := by decide +kernel
theorem dX10_tries_66 : decode cX10_tries 66 = .ok (.iconst 0, 1) := by decide +kernel
theorem dX10_tries_67 : decode cX10_tries 67 = .ok (.invokevirtual 134, 3) := by decide +kernel
theorem dX10_tries_70 : decode cX10_tries 70 = .ok (.iconst 0, 1) := by decide +kernel
theorem dX10_tries_71 : decode cX10_tries 71 = .ok (.sipush 400, 3) := by decide +kernel
theorem dX10_tries_74 : decode cX10_tries 74 = .ok (.invokestatic 138, 3) := by decide +kernel
theorem dX10_tries_77 : decode cX10_tries 77 = .ok (.istore 6, 2) := by decide +kernel
theorem dX10_tries_79 : decode cX10_tries 79 = .ok (.iload 4, 2) := by decide +kernel
theorem dX10_tries_81 : decode cX10_tries 81 = .ok (.aload_n 0, 1) := by decide +kernel
theorem dX10_tries_82 : decode cX10_tries 82 = .ok (.iload 5, 2) := by decide +kernel
theorem dX10_tries_84 : decode cX10_tries 84 = .ok (.invokevirtual 148, 3) := by decide +kernel
theorem dX10_tries_87 : decode cX10_tries 87 = .ok (.imul, 1) := by decide +kernel
theorem dX10_tries_88 : decode cX10_tries 88 = .ok (.bipush 100, 2) := by decide +kernel
theorem dX10_tries_90 : decode cX10_tries 90 = .ok (.idiv, 1) := by decide +kernel
theorem dX10_tries_91 : decode cX10_tries 91 = .ok (.istore 7, 2) := by decide +kernel
theorem dX10_tries_93 : decode cX10_tries 93 = .ok (.iload 7, 2) := by decide +kernel
theorem dX10_tries_95 : decode cX10_tries 95 = .ok (.aload_n 0, 1) := by decide +kernel
theorem dX10_tries_96 : decode cX10_tries 96 = .ok (.getfield 117, 3) := by decide +kernel
theorem dX10_tries_99 : decode cX10_tries 99 = .ok (.imul, 1) := by decide +kernel
theorem dX10_tries_100 : decode cX10_tries 100 = .ok (.bipush 100, 2) := by decide +kernel
theorem dX10_tries_102 : decode cX10_tries 102 = .ok (.idiv, 1) := by decide +kernel
theorem dX10_tries_103 : decode cX10_tries 103 = .ok (.istore 7, 2) := by decide +kernel
theorem dX10_tries_105 : decode cX10_tries 105 = .ok (.iload 7, 2) := by decide +kernel
theorem dX10_tries_107 : decode cX10_tries 107 = .ok (.aload_n 0, 1) := by decide +kernel
theorem dX10_tries_108 : decode cX10_tries 108 = .ok (.getfield 35, 3) := by decide +kernel
theorem dX10_tries_111 : decode cX10_tries 111 = .ok (.iconst 4, 1) := by decide +kernel
theorem dX10_tries_112 : decode cX10_tries 112 = .ok (.aload_n 0, 1) := by decide +kernel
theorem dX10_tries_113 : decode cX10_tries 113 = .ok (.getfield 23, 3) := by decide +kernel
theorem dX10_tries_116 : decode cX10_tries 116 = .ok (.iload 5, 2) := by decide +kernel
theorem dX10_tries_118 : decode cX10_tries 118 = .ok (.iaload, 1) := by decide +kernel
theorem dX10_tries_119 : decode cX10_tries 119 = .ok (.imul, 1) := by decide +kernel
theorem dX10_tries_120 : decode cX10_tries 120 = .ok (.iload_n 2, 1) := by decide +kernel
theorem dX10_tries_121 : decode cX10_tries 121 = .ok (.iadd, 1) := by decide +kernel
theorem dX10_tries_122 : decode cX10_tries 122 = .ok (.iaload, 1) := by decide +kernel
theorem dX10_tries_123 : decode cX10_tries 123 = .ok (.imul, 1) := by decide +kernel
theorem dX10_tries_124 : decode cX10_tries 124 = .ok (.bipush 100, 2) := by decide +kernel
theorem dX10_tries_126 : decode cX10_tries 126 = .ok (.idiv, 1) := by decide +kernel
theorem dX10_tries_127 : decode cX10_tries 127 = .ok (.istore 7, 2) := by decide +kernel
theorem dX10_tries_129 : decode cX10_tries 129 = .ok (.aload_n 0, 1) := by decide +kernel
theorem dX10_tries_130 : decode cX10_tries 130 = .ok (.getfield 50, 3) := by decide +kernel
theorem dX10_tries_133 : decode cX10_tries 133 = .ok (.iload 5, 2) := by decide +kernel
theorem dX10_tries_135 : decode cX10_tries 135 = .ok (.iload 7, 2) := by decide +kernel
theorem dX10_tries_137 : decode cX10_tries 137 = .ok (.iload 6, 2) := by decide +kernel
theorem dX10_tries_139 : decode cX10_tries 139 = .ok (.imul, 1) := by decide +kernel
theorem dX10_tries_140 : decode cX10_tries 140 = .ok (.bipush 100, 2) := by decide +kernel
theorem dX10_tries_142 : decode cX10_tries 142 = .ok (.idiv, 1) := by decide +kernel
theorem dX10_tries_143 : decode cX10_tries 143 = .ok (.iastore, 1) := by decide +kernel
theorem dX10_tries_144 : decode cX10_tries 144 = .ok (.iinc 5 1, 3) := by decide +kernel
theorem dX10_tries_147 : decode cX10_tries 147 = .ok (.goto (-128), 3) := by decide +kernel
theorem dX10_tries_150 : decode cX10_tries 150 = .ok (.iconst 0, 1) := by decide +kernel
theorem dX10_tries_151 : decode cX10_tries 151 = .ok (.istore 5, 2) := by decide +kernel
theorem dX10_tries_153 : decode cX10_tries 153 = .ok (.iload 5, 2) := by decide +kernel
theorem dX10_tries_155 : decode cX10_tries 155 = .ok (.aload_n 0, 1) := by decide +kernel
theorem dX10_tries_156 : decode cX10_tries 156 = .ok (.getfield 122, 3) := by decide +kernel
theorem dX10_tries_159 : decode cX10_tries 159 = .ok (.if_icmp .ge 63, 3) := by decide +kernel
theorem dX10_tries_162 : decode cX10_tries 162 = .ok (.iload_n 1, 1) := by decide +kernel
theorem dX10_tries_163 : decode cX10_tries 163 = .ok (.iload 5, 2) := by decide +kernel
theorem dX10_tries_165 : decode cX10_tries 165 = .ok (.ishr, 1) := by decide +kernel
theorem dX10_tries_166 : decode cX10_tries 166 = .ok (.iconst 1, 1) := by decide +kernel
theorem dX10_tries_167 : decode cX10_tries 167 = .ok (.iand, 1) := by decide +kernel
theorem dX10_tries_168 : decode cX10_tries 168 = .ok (.ifCond .ne 6, 3) := by decide +kernel
theorem dX10_tries_171 : decode cX10_tries 171 = .ok (.goto 45, 3) := by decide +kernel
theorem dX10_tries_174 : decode cX10_tries 174 = .ok (.aload_n 0, 1) := by decide +kernel
theorem dX10_tries_175 : decode cX10_tries 175 = .ok (.getfield 26, 3) := by decide +kernel
theorem dX10_tries_178 : decode cX10_tries 178 = .ok (.iload 5, 2) := by decide +kernel
theorem dX10_tries_180 : decode cX10_tries 180 = .ok (.aload_n 0, 1) := by decide +kernel
theorem dX10_tries_181 : decode cX10_tries 181 = .ok (.getfield 26, 3) := by decide +kernel
theorem dX10_tries_184 : decode cX10_tries 184 = .ok (.iload 5, 2) := by decide +kernel
theorem dX10_tries_186 : decode cX10_tries 186 = .ok (.iaload, 1) := by decide +kernel
theorem dX10_tries_187 : decode cX10_tries 187 = .ok (.aload_n 0, 1) := by decide +kernel
theorem dX10_tries_188 : decode cX10_tries 188 = .ok (.getfield 50, 3) := by decide +kernel
theorem dX10_tries_191 : decode cX10_tries 191 = .ok (.iload 5, 2) := by decide +kernel
theorem dX10_tries_193 : decode cX10_tries 193 = .ok (.iaload, 1) := by decide +kernel
theorem dX10_tries_194 : decode cX10_tries 194 = .ok (.iadd, 1) := by decide +kernel
theorem dX10_tries_195 : decode cX10_tries 195 = .ok (.sipush (-9999), 3) := by decide +kernel
theorem dX10_tries_198 : decode cX10_tries 198 = .ok (.sipush 9999, 3) := by decide +kernel
theorem dX10_tries_201 : decode cX10_tries 201 = .ok (.invokestatic 138, 3) := by decide +kernel
theorem dX10_tries_204 : decode cX10_tries 204 = .ok (.iastore, 1) := by decide +kernel
theorem dX10_tries_205 : decode cX10_tries 205 = .ok (.aload_n 0, 1) := by decide +kernel
theorem dX10_tries_206 : decode cX10_tries 206 = .ok (.getfield 29, 3) := by decide +kernel
theorem dX10_tries_209 : decode cX10_tries 209 = .ok (.iload 5, 2) := by decide +kernel
theorem dX10_tries_211 : decode cX10_tries 211 = .ok (.dup2, 1) := by decide +kernel
theorem dX10_tries_212 : decode cX10_tries 212 = .ok (.iaload, 1) := by decide +kernel
theorem dX10_tries_213 : decode cX10_tries 213 = .ok (.iconst 1, 1) := by decide +kernel
theorem dX10_tries_214 : decode cX10_tries 214 = .ok (.iadd, 1) := by decide +kernel
theorem dX10_tries_215 : decode cX10_tries 215 = .ok (.iastore, 1) := by decide +kernel
theorem dX10_tries_216 : decode cX10_tries 216 = .ok (.iinc 5 1, 3) := by decide +kernel
theorem dX10_tries_219 : decode cX10_tries 219 = .ok (.goto (-66), 3) := by decide +kernel
theorem dX10_tries_222 : decode cX10_tries 222 = .ok (.aload_n 0, 1) := by decide +kernel
theorem dX10_tries_223 : decode cX10_tries 223 = .ok (.dup, 1) := by decide +kernel
theorem dX10_tries_224 : decode cX10_tries 224 = .ok (.getfield 317, 3) := by decide +kernel
theorem dX10_tries_227 : decode cX10_tries 227 = .ok (.iconst 1, 1) := by decide +kernel
theorem dX10_tries_228 : decode cX10_tries 228 = .ok (.iadd, 1) := by decide +kernel
theorem dX10_tries_229 : decode cX10_tries 229 = .ok (.putfield 317, 3) := by decide +kernel
theorem dX10_tries_232 : decode cX10_tries 232 = .ok (.iload 4, 2) := by decide +kernel
theorem dX10_tries_234 : decode cX10_tries 234 = .ok (.ireturn, 1) := by decide +kernel
theorem dX10_fades_0 : decode cX10_fades 0 = .ok (.iconst 0, 1) := by decide +kernel
theorem dX10_fades_1 : decode cX10_fades 1 = .ok (.istore_n 1, 1) := by decide +kernel
theorem dX10_fades_2 : decode cX10_fades 2 = .ok (.iload_n 1, 1) := by decide +kernel
theorem dX10_fades_3 : decode cX10_fades 3 = .ok (.aload_n 0, 1) := by decide +kernel
theorem dX10_fades_4 : decode cX10_fades 4 = .ok (.getfield 122, 3) := by decide +kernel
theorem dX10_fades_7 : decode cX10_fades 7 = .ok (.if_icmp .ge 33, 3) := by decide +kernel
theorem dX10_fades_10 : decode cX10_fades 10 = .ok (.aload_n 0, 1) := by decide +kernel
theorem dX10_fades_11 : decode cX10_fades 11 = .ok (.getfield 26, 3) := by decide +kernel
theorem dX10_fades_14 : decode cX10_fades 14 = .ok (.iload_n 1, 1) := by decide +kernel
theorem dX10_fades_15 : decode cX10_fades 15 = .ok (.aload_n 0, 1) := by decide +kernel
theorem dX10_fades_16 : decode cX10_fades 16 = .ok (.getfield 26, 3) := by decide +kernel
theorem dX10_fades_19 : decode cX10_fades 19 = .ok (.iload_n 1, 1) := by decide +kernel
theorem dX10_fades_20 : decode cX10_fades 20 = .ok (.iaload, 1) := by decide +kernel
theorem dX10_fades_21 : decode cX10_fades 21 = .ok (.bipush 100, 2) := by decide +kernel
theorem dX10_fades_23 : decode cX10_fades 23 = .ok (.aload_n 0, 1) := by decide +kernel
theorem dX10_fades_24 : decode cX10_fades 24 = .ok (.iload_n 1, 1) := by decide +kernel
theorem dX10_fades_25 : decode cX10_fades 25 = .ok (.invokevirtual 152, 3) := by decide +kernel
theorem dX10_fades_28 : decode cX10_fades 28 = .ok (.isub, 1) := by decide +kernel
theorem dX10_fades_29 : decode cX10_fades 29 = .ok (.imul, 1) := by decide +kernel
theorem dX10_fades_30 : decode cX10_fades 30 = .ok (.bipush 100, 2) := by decide +kernel
theorem dX10_fades_32 : decode cX10_fades 32 = .ok (.idiv, 1) := by decide +kernel
theorem dX10_fades_33 : decode cX10_fades 33 = .ok (.iastore, 1) := by decide +kernel
theorem dX10_fades_34 : decode cX10_fades 34 = .ok (.iinc 1 1, 3) := by decide +kernel
theorem dX10_fades_37 : decode cX10_fades 37 = .ok (.goto (-35), 3) := by decide +kernel
theorem dX10_fades_40 : decode cX10_fades 40 = .ok (.aload_n 0, 1) := by decide +kernel
theorem dX10_fades_41 : decode cX10_fades 41 = .ok (.dup, 1) := by decide +kernel
theorem dX10_fades_42 : decode cX10_fades 42 = .ok (.getfield 245, 3) := by decide +kernel
theorem dX10_fades_45 : decode cX10_fades 45 = .ok (.iconst 1, 1) := by decide +kernel
theorem dX10_fades_46 : decode cX10_fades 46 = .ok (.iadd, 1) := by decide +kernel
theorem dX10_fades_47 : decode cX10_fades 47 = .ok (.putfield 245, 3) := by decide +kernel
theorem dX10_fades_50 : decode cX10_fades 50 = .ok (.aload_n 0, 1) := by decide +kernel
theorem dX10_fades_51 : decode cX10_fades 51 = .ok (.iconst 0, 1) := by decide +kernel
theorem dX10_fades_52 : decode cX10_fades 52 = .ok (.putfield 317, 3) := by decide +kernel
theorem dX10_fades_55 : decode cX10_fades 55 = .ok (.return_, 1) := by decide +kernel
theorem dX10_goesBy_0 : decode cX10_goesBy 0 = .ok (.iconst 0, 1) := by decide +kernel
theorem dX10_goesBy_1 : decode cX10_goesBy 1 = .ok (.istore_n 3, 1) := by decide +kernel
theorem dX10_goesBy_2 : decode cX10_goesBy 2 = .ok (.iload_n 3, 1) := by decide +kernel
theorem dX10_goesBy_3 : decode cX10_goesBy 3 = .ok (.aload_n 0, 1) := by decide +kernel
theorem dX10_goesBy_4 : decode cX10_goesBy 4 = .ok (.getfield 41, 3) := by decide +kernel
theorem dX10_goesBy_7 : decode cX10_goesBy 7 = .ok (.iload_n 1, 1) := by decide +kernel
theorem dX10_goesBy_8 : decode cX10_goesBy 8 = .ok (.iaload, 1) := by decide +kernel
theorem dX10_goesBy_9 : decode cX10_goesBy 9 = .ok (.if_icmp .ge 67, 3) := by decide +kernel
theorem dX10_goesBy_12 : decode cX10_goesBy 12 = .ok (.aload_n 0, 1) := by decide +kernel
theorem dX10_goesBy_13 : decode cX10_goesBy 13 = .ok (.aload_n 0, 1) := by decide +kernel
theorem dX10_goesBy_14 : decode cX10_goesBy 14 = .ok (.getfield 44, 3) := by decide +kernel
theorem dX10_goesBy_17 : decode cX10_goesBy 17 = .ok (.bipush 24, 2) := by decide +kernel
theorem dX10_goesBy_19 : decode cX10_goesBy 19 = .ok (.iload_n 1, 1) := by decide +kernel
theorem dX10_goesBy_20 : decode cX10_goesBy 20 = .ok (.imul, 1) := by decide +kernel
theorem dX10_goesBy_21 : decode cX10_goesBy 21 = .ok (.iload_n 3, 1) := by decide +kernel
theorem dX10_goesBy_22 : decode cX10_goesBy 22 = .ok (.iadd, 1) := by decide +kernel
theorem dX10_goesBy_23 : decode cX10_goesBy 23 = .ok (.iaload, 1) := by decide +kernel
theorem dX10_goesBy_24 : decode cX10_goesBy 24 = .ok (.aload_n 0, 1) := by decide +kernel
theorem dX10_goesBy_25 : decode cX10_goesBy 25 = .ok (.getfield 47, 3) := by decide +kernel
theorem dX10_goesBy_28 : decode cX10_goesBy 28 = .ok (.bipush 24, 2) := by decide +kernel
theorem dX10_goesBy_30 : decode cX10_goesBy 30 = .ok (.iload_n 1, 1) := by decide +kernel
theorem dX10_goesBy_31 : decode cX10_goesBy 31 = .ok (.imul, 1) := by decide +kernel
theorem dX10_goesBy_32 : decode cX10_goesBy 32 = .ok (.iload_n 3, 1) := by decide +kernel
theorem dX10_goesBy_33 : decode cX10_goesBy 33 = .ok (.iadd, 1) := by decide +kernel
theorem dX10_goesBy_34 : decode cX10_goesBy 34 = .ok (.iaload, 1) := by decide +kernel
theorem dX10_goesBy_35 : decode cX10_goesBy 35 = .ok (.invokevirtual 320, 3) := by decide +kernel
theorem dX10_goesBy_38 : decode cX10_goesBy 38 = .ok (.istore 4, 2) := by decide +kernel
theorem dX10_goesBy_40 : decode cX10_goesBy 40 = .ok (.iload_n 2, 1) := by decide +kernel
theorem dX10_goesBy_41 : decode cX10_goesBy 41 = .ok (.ifCond .eq 29, 3) := by decide +kernel
theorem dX10_goesBy_44 : decode cX10_goesBy 44 = .ok (.aload_n 0, 1) := by decide +kernel
theorem dX10_goesBy_45 : decode cX10_goesBy 45 = .ok (.aload_n 0, 1) := by decide +kernel
theorem dX10_goesBy_46 : decode cX10_goesBy 46 = .ok (.getfield 44, 3) := by decide +kernel
theorem dX10_goesBy_49 : decode cX10_goesBy 49 = .ok (.bipush 24, 2) := by decide +kernel
theorem dX10_goesBy_51 : decode cX10_goesBy 51 = .ok (.iload_n 1, 1) := by decide +kernel
theorem dX10_goesBy_52 : decode cX10_goesBy 52 = .ok (.imul, 1) := by decide +kernel
theorem dX10_goesBy_53 : decode cX10_goesBy 53 = .ok (.iload_n 3, 1) := by decide +kernel
theorem dX10_goesBy_54 : decode cX10_goesBy 54 = .ok (.iadd, 1) := by decide +kernel
theorem dX10_goesBy_55 : decode cX10_goesBy 55 = .ok (.iaload, 1) := by decide +kernel
theorem dX10_goesBy_56 : decode cX10_goesBy 56 = .ok (.aload_n 0, 1) := by decide +kernel
theorem dX10_goesBy_57 : decode cX10_goesBy 57 = .ok (.getfield 47, 3) := by decide +kernel
theorem dX10_goesBy_60 : decode cX10_goesBy 60 = .ok (.bipush 24, 2) := by decide +kernel
theorem dX10_goesBy_62 : decode cX10_goesBy 62 = .ok (.iload_n 1, 1) := by decide +kernel
theorem dX10_goesBy_63 : decode cX10_goesBy 63 = .ok (.imul, 1) := by decide +kernel
theorem dX10_goesBy_64 : decode cX10_goesBy 64 = .ok (.iload_n 3, 1) := by decide +kernel
theorem dX10_goesBy_65 : decode cX10_goesBy 65 = .ok (.iadd, 1) := by decide +kernel
theorem dX10_goesBy_66 : decode cX10_goesBy 66 = .ok (.iaload, 1) := by decide +kernel
theorem dX10_goesBy_67 : decode cX10_goesBy 67 = .ok (.invokevirtual 324, 3) := by decide +kernel
theorem dX10_goesBy_70 : decode cX10_goesBy 70 = .ok (.iinc 3 1, 3) := by decide +kernel
theorem dX10_goesBy_73 : decode cX10_goesBy 73 = .ok (.goto (-71), 3) := by decide +kernel
theorem dX10_goesBy_76 : decode cX10_goesBy 76 = .ok (.aload_n 0, 1) := by decide +kernel
theorem dX10_goesBy_77 : decode cX10_goesBy 77 = .ok (.invokevirtual 328, 3) := by decide +kernel
theorem dX10_goesBy_80 : decode cX10_goesBy 80 = .ok (.return_, 1) := by decide +kernel
theorem dX10_trial_0 : decode cX10_trial 0 = .ok (.aload_n 0, 1) := by decide +kernel
theorem dX10_trial_1 : decode cX10_trial 1 = .ok (.iload_n 1, 1) := by decide +kernel
theorem dX10_trial_2 : decode cX10_trial 2 = .ok (.invokevirtual 331, 3) := by decide +kernel
theorem dX10_trial_5 : decode cX10_trial 5 = .ok (.ifCond .eq 15, 3) := by decide +kernel
theorem dX10_trial_8 : decode cX10_trial 8 = .ok (.iload_n 2, 1) := by decide +kernel
theorem dX10_trial_9 : decode cX10_trial 9 = .ok (.i2l, 1) := by decide +kernel
theorem dX10_trial_10 : decode cX10_trial 10 = .ok (.lconst 0, 1) := by decide +kernel
theorem dX10_trial_11 : decode cX10_trial 11 = .ok (.ldc2_w 155, 3) := by decide +kernel
theorem dX10_trial_14 : decode cX10_trial 14 = .ok (.invokestatic 125, 3) := by decide +kernel
theorem dX10_trial_17 : decode cX10_trial 17 = .ok (.ifCond .ne 7, 3) := by decide +kernel
theorem dX10_trial_20 : decode cX10_trial 20 = .ok (.ldc2_w 146, 3) := by decide +kernel
theorem dX10_trial_23 : decode cX10_trial 23 = .ok (.lreturn, 1) := by decide +kernel
theorem dX10_trial_24 : decode cX10_trial 24 = .ok (.aload_n 0, 1) := by decide +kernel
theorem dX10_trial_25 : decode cX10_trial 25 = .ok (.iload_n 1, 1) := by decide +kernel
theorem dX10_trial_26 : decode cX10_trial 26 = .ok (.iload_n 2, 1) := by decide +kernel
theorem dX10_trial_27 : decode cX10_trial 27 = .ok (.invokevirtual 324, 3) := by decide +kernel
theorem dX10_trial_30 : decode cX10_trial 30 = .ok (.aload_n 0, 1) := by decide +kernel
theorem dX10_trial_31 : decode cX10_trial 31 = .ok (.iload_n 1, 1) := by decide +kernel
theorem dX10_trial_32 : decode cX10_trial 32 = .ok (.iload_n 2, 1) := by decide +kernel
theorem dX10_trial_33 : decode cX10_trial 33 = .ok (.invokevirtual 320, 3) := by decide +kernel
theorem dX10_trial_36 : decode cX10_trial 36 = .ok (.i2l, 1) := by decide +kernel
theorem dX10_trial_37 : decode cX10_trial 37 = .ok (.lreturn, 1) := by decide +kernel
theorem dX10_sum_0 : decode cX10_sum 0 = .ok (.aload_n 0, 1) := by decide +kernel
theorem dX10_sum_1 : decode cX10_sum 1 = .ok (.iload_n 1, 1) := by decide +kernel
theorem dX10_sum_2 : decode cX10_sum 2 = .ok (.invokevirtual 331, 3) := by decide +kernel
theorem dX10_sum_5 : decode cX10_sum 5 = .ok (.ifCond .eq 13, 3) := by decide +kernel
theorem dX10_sum_8 : decode cX10_sum 8 = .ok (.iload_n 2, 1) := by decide +kernel
theorem dX10_sum_9 : decode cX10_sum 9 = .ok (.i2l, 1) := by decide +kernel
theorem dX10_sum_10 : decode cX10_sum 10 = .ok (.lconst 0, 1) := by decide +kernel
theorem dX10_sum_11 : decode cX10_sum 11 = .ok (.lconst 1, 1) := by decide +kernel
theorem dX10_sum_12 : decode cX10_sum 12 = .ok (.invokestatic 125, 3) := by decide +kernel
theorem dX10_sum_15 : decode cX10_sum 15 = .ok (.ifCond .ne 7, 3) := by decide +kernel
theorem dX10_sum_18 : decode cX10_sum 18 = .ok (.ldc2_w 146, 3) := by decide +kernel
theorem dX10_sum_21 : decode cX10_sum 21 = .ok (.lreturn, 1) := by decide +kernel
theorem dX10_sum_22 : decode cX10_sum 22 = .ok (.iload_n 2, 1) := by decide +kernel
theorem dX10_sum_23 : decode cX10_sum 23 = .ok (.ifCond .ne 12, 3) := by decide +kernel
theorem dX10_sum_26 : decode cX10_sum 26 = .ok (.aload_n 0, 1) := by decide +kernel
theorem dX10_sum_27 : decode cX10_sum 27 = .ok (.iload_n 1, 1) := by decide +kernel
theorem dX10_sum_28 : decode cX10_sum 28 = .ok (.invokevirtual 314, 3) := by decide +kernel
theorem dX10_sum_31 : decode cX10_sum 31 = .ok (.i2l, 1) := by decide +kernel
theorem dX10_sum_32 : decode cX10_sum 32 = .ok (.goto 9, 3) := by decide +kernel
theorem dX10_sum_35 : decode cX10_sum 35 = .ok (.aload_n 0, 1) := by decide +kernel
theorem dX10_sum_36 : decode cX10_sum 36 = .ok (.iload_n 1, 1) := by decide +kernel
theorem dX10_sum_37 : decode cX10_sum 37 = .ok (.invokevirtual 334, 3) := by decide +kernel
theorem dX10_sum_40 : decode cX10_sum 40 = .ok (.i2l, 1) := by decide +kernel
theorem dX10_sum_41 : decode cX10_sum 41 = .ok (.lreturn, 1) := by decide +kernel
theorem dX10_days_0 : decode cX10_days 0 = .ok (.aload_n 0, 1) := by decide +kernel
theorem dX10_days_1 : decode cX10_days 1 = .ok (.iload_n 1, 1) := by decide +kernel
theorem dX10_days_2 : decode cX10_days 2 = .ok (.invokevirtual 308, 3) := by decide +kernel
theorem dX10_days_5 : decode cX10_days 5 = .ok (.ifCond .eq 15, 3) := by decide +kernel
theorem dX10_days_8 : decode cX10_days 8 = .ok (.iload_n 2, 1) := by decide +kernel
theorem dX10_days_9 : decode cX10_days 9 = .ok (.i2l, 1) := by decide +kernel
theorem dX10_days_10 : decode cX10_days 10 = .ok (.lconst 1, 1) := by decide +kernel
theorem dX10_days_11 : decode cX10_days 11 = .ok (.ldc2_w 337, 3) := by decide +kernel
theorem dX10_days_14 : decode cX10_days 14 = .ok (.invokestatic 125, 3) := by decide +kernel
theorem dX10_days_17 : decode cX10_days 17 = .ok (.ifCond .ne 6, 3) := by decide +kernel
theorem dX10_days_20 : decode cX10_days 20 = .ok (.bipush (-2), 2) := by decide +kernel
theorem dX10_days_22 : decode cX10_days 22 = .ok (.ireturn, 1) := by decide +kernel
theorem dX10_days_23 : decode cX10_days 23 = .ok (.aload_n 0, 1) := by decide +kernel
theorem dX10_days_24 : decode cX10_days 24 = .ok (.getfield 245, 3) := by decide +kernel
theorem dX10_days_27 : decode cX10_days 27 = .ok (.iload_n 2, 1) := by decide +kernel
theorem dX10_days_28 : decode cX10_days 28 = .ok (.iadd, 1) := by decide +kernel
theorem dX10_days_29 : decode cX10_days 29 = .ok (.sipush 400, 3) := by decide +kernel
theorem dX10_days_32 : decode cX10_days 32 = .ok (.if_icmp .le 6, 3) := by decide +kernel
theorem dX10_days_35 : decode cX10_days 35 = .ok (.bipush (-4), 2) := by decide +kernel
theorem dX10_days_37 : decode cX10_days 37 = .ok (.ireturn, 1) := by decide +kernel
theorem dX10_days_38 : decode cX10_days 38 = .ok (.iconst 0, 1) := by decide +kernel
theorem dX10_days_39 : decode cX10_days 39 = .ok (.istore_n 3, 1) := by decide +kernel
theorem dX10_days_40 : decode cX10_days 40 = .ok (.iload_n 3, 1) := by decide +kernel
theorem dX10_days_41 : decode cX10_days 41 = .ok (.iload_n 2, 1) := by decide +kernel
theorem dX10_days_42 : decode cX10_days 42 = .ok (.if_icmp .ge 15, 3) := by decide +kernel
theorem dX10_days_45 : decode cX10_days 45 = .ok (.aload_n 0, 1) := by decide +kernel
theorem dX10_days_46 : decode cX10_days 46 = .ok (.iload_n 1, 1) := by decide +kernel
theorem dX10_days_47 : decode cX10_days 47 = .ok (.iconst 1, 1) := by decide +kernel
theorem dX10_days_48 : decode cX10_days 48 = .ok (.invokevirtual 339, 3) := by decide +kernel
theorem dX10_days_51 : decode cX10_days 51 = .ok (.iinc 3 1, 3) := by decide +kernel
theorem dX10_days_54 : decode cX10_days 54 = .ok (.goto (-14), 3) := by decide +kernel
theorem dX10_days_57 : decode cX10_days 57 = .ok (.aload_n 0, 1) := by decide +kernel
theorem dX10_days_58 : decode cX10_days 58 = .ok (.getfield 245, 3) := by decide +kernel
theorem dX10_days_61 : decode cX10_days 61 = .ok (.ireturn, 1) := by decide +kernel
theorem dX10_counts_0 : decode cX10_counts 0 = .ok (.aload_n 0, 1) := by decide +kernel
theorem dX10_counts_1 : decode cX10_counts 1 = .ok (.getfield 53, 3) := by decide +kernel
theorem dX10_counts_4 : decode cX10_counts 4 = .ok (.iload_n 2, 1) := by decide +kernel
theorem dX10_counts_5 : decode cX10_counts 5 = .ok (.dup2, 1) := by decide +kernel
theorem dX10_counts_6 : decode cX10_counts 6 = .ok (.iaload, 1) := by decide +kernel
theorem dX10_counts_7 : decode cX10_counts 7 = .ok (.iconst 1, 1) := by decide +kernel
theorem dX10_counts_8 : decode cX10_counts 8 = .ok (.iadd, 1) := by decide +kernel
theorem dX10_counts_9 : decode cX10_counts 9 = .ok (.iastore, 1) := by decide +kernel
theorem dX10_counts_10 : decode cX10_counts 10 = .ok (.iconst 0, 1) := by decide +kernel
theorem dX10_counts_11 : decode cX10_counts 11 = .ok (.istore_n 3, 1) := by decide +kernel
theorem dX10_counts_12 : decode cX10_counts 12 = .ok (.iload_n 3, 1) := by decide +kernel
theorem dX10_counts_13 : decode cX10_counts 13 = .ok (.aload_n 0, 1) := by decide +kernel
theorem dX10_counts_14 : decode cX10_counts 14 = .ok (.getfield 122, 3) := by decide +kernel
theorem dX10_counts_17 : decode cX10_counts 17 = .ok (.if_icmp .ge 27, 3) := by decide +kernel
theorem dX10_counts_20 : decode cX10_counts 20 = .ok (.aload_n 0, 1) := by decide +kernel
theorem dX10_counts_21 : decode cX10_counts 21 = .ok (.getfield 56, 3) := by decide +kernel
theorem dX10_counts_24 : decode cX10_counts 24 = .ok (.iconst 4, 1) := by decide +kernel
theorem dX10_counts_25 : decode cX10_counts 25 = .ok (.iload_n 3, 1) := by decide +kernel
theorem dX10_counts_26 : decode cX10_counts 26 = .ok (.imul, 1) := by decide +kernel
theorem dX10_counts_27 : decode cX10_counts 27 = .ok (.iload_n 2, 1) := by decide +kernel
theorem dX10_counts_28 : decode cX10_counts 28 = .ok (.iadd, 1) := by decide +kernel
theorem dX10_counts_29 : decode cX10_counts 29 = .ok (.dup2, 1) := by decide +kernel
theorem dX10_counts_30 : decode cX10_counts 30 = .ok (.iaload, 1) := by decide +kernel
theorem dX10_counts_31 : decode cX10_counts 31 = .ok (.iload_n 1, 1) := by decide +kernel
theorem dX10_counts_32 : decode cX10_counts 32 = .ok (.iload_n 3, 1) := by decide +kernel
theorem dX10_counts_33 : decode cX10_counts 33 = .ok (.ishr, 1) := by decide +kernel
theorem dX10_counts_34 : decode cX10_counts 34 = .ok (.iconst 1, 1) := by decide +kernel
theorem dX10_counts_35 : decode cX10_counts 35 = .ok (.iand, 1) := by decide +kernel
theorem dX10_counts_36 : decode cX10_counts 36 = .ok (.iadd, 1) := by decide +kernel
theorem dX10_counts_37 : decode cX10_counts 37 = .ok (.iastore, 1) := by decide +kernel
theorem dX10_counts_38 : decode cX10_counts 38 = .ok (.iinc 3 1, 3) := by decide +kernel
theorem dX10_counts_41 : decode cX10_counts 41 = .ok (.goto (-29), 3) := by decide +kernel
theorem dX10_counts_44 : decode cX10_counts 44 = .ok (.return_, 1) := by decide +kernel
theorem dX10_trialsOfAll_0 : decode cX10_trialsOfAll 0 = .ok (.aload_n 0, 1) := by decide +kernel
theorem dX10_trialsOfAll_1 : decode cX10_trialsOfAll 1 = .ok (.getfield 53, 3) := by decide +kernel
theorem dX10_trialsOfAll_4 : decode cX10_trialsOfAll 4 = .ok (.iconst 0, 1) := by decide +kernel
theorem dX10_trialsOfAll_5 : decode cX10_trialsOfAll 5 = .ok (.iaload, 1) := by decide +kernel
theorem dX10_trialsOfAll_6 : decode cX10_trialsOfAll 6 = .ok (.aload_n 0, 1) := by decide +kernel
theorem dX10_trialsOfAll_7 : decode cX10_trialsOfAll 7 = .ok (.getfield 53, 3) := by decide +kernel
theorem dX10_trialsOfAll_10 : decode cX10_trialsOfAll 10 = .ok (.iconst 1, 1) := by decide +kernel
theorem dX10_trialsOfAll_11 : decode cX10_trialsOfAll 11 = .ok (.iaload, 1) := by decide +kernel
theorem dX10_trialsOfAll_12 : decode cX10_trialsOfAll 12 = .ok (.iadd, 1) := by decide +kernel
theorem dX10_trialsOfAll_13 : decode cX10_trialsOfAll 13 = .ok (.aload_n 0, 1) := by decide +kernel
theorem dX10_trialsOfAll_14 : decode cX10_trialsOfAll 14 = .ok (.getfield 53, 3) := by decide +kernel
theorem dX10_trialsOfAll_17 : decode cX10_trialsOfAll 17 = .ok (.iconst 2, 1) := by decide +kernel
theorem dX10_trialsOfAll_18 : decode cX10_trialsOfAll 18 = .ok (.iaload, 1) := by decide +kernel
theorem dX10_trialsOfAll_19 : decode cX10_trialsOfAll 19 = .ok (.iadd, 1) := by decide +kernel
theorem dX10_trialsOfAll_20 : decode cX10_trialsOfAll 20 = .ok (.aload_n 0, 1) := by decide +kernel
theorem dX10_trialsOfAll_21 : decode cX10_trialsOfAll 21 = .ok (.getfield 53, 3) := by decide +kernel
theorem dX10_trialsOfAll_24 : decode cX10_trialsOfAll 24 = .ok (.iconst 3, 1) := by decide +kernel
theorem dX10_trialsOfAll_25 : decode cX10_trialsOfAll 25 = .ok (.iaload, 1) := by decide +kernel
theorem dX10_trialsOfAll_26 : decode cX10_trialsOfAll 26 = .ok (.iadd, 1) := by decide +kernel
theorem dX10_trialsOfAll_27 : decode cX10_trialsOfAll 27 = .ok (.ireturn, 1) := by decide +kernel
theorem dX10_common_0 : decode cX10_common 0 = .ok (.lload_n 0, 1) := by decide +kernel
theorem dX10_common_1 : decode cX10_common 1 = .ok (.lconst 0, 1) := by decide +kernel
theorem dX10_common_2 : decode cX10_common 2 = .ok (.lcmp, 1) := by decide +kernel
theorem dX10_common_3 : decode cX10_common 3 = .ok (.ifCond .ge 8, 3) := by decide +kernel
theorem dX10_common_6 : decode cX10_common 6 = .ok (.lload_n 0, 1) := by decide +kernel
theorem dX10_common_7 : decode cX10_common 7 = .ok (.lneg, 1) := by decide +kernel
theorem dX10_common_8 : decode cX10_common 8 = .ok (.goto 4, 3) := by decide +kernel
theorem dX10_common_11 : decode cX10_common 11 = .ok (.lload_n 0, 1) := by decide +kernel
theorem dX10_common_12 : decode cX10_common 12 = .ok (.lstore 4, 2) := by decide +kernel
theorem dX10_common_14 : decode cX10_common 14 = .ok (.lload_n 2, 1) := by decide +kernel
theorem dX10_common_15 : decode cX10_common 15 = .ok (.lstore 6, 2) := by decide +kernel
theorem dX10_common_17 : decode cX10_common 17 = .ok (.lload 6, 2) := by decide +kernel
theorem dX10_common_19 : decode cX10_common 19 = .ok (.lconst 0, 1) := by decide +kernel
theorem dX10_common_20 : decode cX10_common 20 = .ok (.lcmp, 1) := by decide +kernel
theorem dX10_common_21 : decode cX10_common 21 = .ok (.ifCond .eq 21, 3) := by decide +kernel
theorem dX10_common_24 : decode cX10_common 24 = .ok (.lload 4, 2) := by decide +kernel
theorem dX10_common_26 : decode cX10_common 26 = .ok (.lload 6, 2) := by decide +kernel
theorem dX10_common_28 : decode cX10_common 28 = .ok (.lrem, 1) := by decide +kernel
theorem dX10_common_29 : decode cX10_common 29 = .ok (.lstore 8, 2) := by decide +kernel
theorem dX10_common_31 : decode cX10_common 31 = .ok (.lload 6, 2) := by decide +kernel
theorem dX10_common_33 : decode cX10_common 33 = .ok (.lstore 4, 2) := by decide +kernel
theorem dX10_common_35 : decode cX10_common 35 = .ok (.lload 8, 2) := by decide +kernel
theorem dX10_common_37 : decode cX10_common 37 = .ok (.lstore 6, 2) := by decide +kernel
theorem dX10_common_39 : decode cX10_common 39 = .ok (.goto (-22), 3) := by decide +kernel
theorem dX10_common_42 : decode cX10_common 42 = .ok (.lload 4, 2) := by decide +kernel
theorem dX10_common_44 : decode cX10_common 44 = .ok (.lreturn, 1) := by decide +kernel
theorem dX10_counted_0 : decode cX10_counted 0 = .ok (.aload_n 0, 1) := by decide +kernel
theorem dX10_counted_1 : decode cX10_counted 1 = .ok (.iload_n 1, 1) := by decide +kernel
theorem dX10_counted_2 : decode cX10_counted 2 = .ok (.invokevirtual 142, 3) := by decide +kernel
theorem dX10_counted_5 : decode cX10_counted 5 = .ok (.ifCond .eq 25, 3) := by decide +kernel
theorem dX10_counted_8 : decode cX10_counted 8 = .ok (.iload_n 2, 1) := by decide +kernel
theorem dX10_counted_9 : decode cX10_counted 9 = .ok (.i2l, 1) := by decide +kernel
theorem dX10_counted_10 : decode cX10_counted 10 = .ok (.lconst 0, 1) := by decide +kernel
theorem dX10_counted_11 : decode cX10_counted 11 = .ok (.ldc2_w 155, 3) := by decide +kernel
theorem dX10_counted_14 : decode cX10_counted 14 = .ok (.invokestatic 125, 3) := by decide +kernel
theorem dX10_counted_17 : decode cX10_counted 17 = .ok (.ifCond .eq 13, 3) := by decide +kernel
theorem dX10_counted_20 : decode cX10_counted 20 = .ok (.iload_n 3, 1) := by decide +kernel
theorem dX10_counted_21 : decode cX10_counted 21 = .ok (.i2l, 1) := by decide +kernel
theorem dX10_counted_22 : decode cX10_counted 22 = .ok (.lconst 0, 1) := by decide +kernel
theorem dX10_counted_23 : decode cX10_counted 23 = .ok (.lconst 1, 1) := by decide +kernel
theorem dX10_counted_24 : decode cX10_counted 24 = .ok (.invokestatic 125, 3) := by decide +kernel
theorem dX10_counted_27 : decode cX10_counted 27 = .ok (.ifCond .ne 7, 3) := by decide +kernel
theorem dX10_counted_30 : decode cX10_counted 30 = .ok (.ldc2_w 146, 3) := by decide +kernel
theorem dX10_counted_33 : decode cX10_counted 33 = .ok (.lreturn, 1) := by decide +kernel
theorem dX10_counted_34 : decode cX10_counted 34 = .ok (.lconst 0, 1) := by decide +kernel
theorem dX10_counted_35 : decode cX10_counted 35 = .ok (.lstore 4, 2) := by decide +kernel
theorem dX10_counted_37 : decode cX10_counted 37 = .ok (.iconst 0, 1) := by decide +kernel
theorem dX10_counted_38 : decode cX10_counted 38 = .ok (.istore 6, 2) := by decide +kernel
theorem dX10_counted_40 : decode cX10_counted 40 = .ok (.iload 6, 2) := by decide +kernel
theorem dX10_counted_42 : decode cX10_counted 42 = .ok (.iconst 4, 1) := by decide +kernel
theorem dX10_counted_43 : decode cX10_counted 43 = .ok (.if_icmp .ge 26, 3) := by decide +kernel
theorem dX10_counted_46 : decode cX10_counted 46 = .ok (.lload 4, 2) := by decide +kernel
theorem dX10_counted_48 : decode cX10_counted 48 = .ok (.aload_n 0, 1) := by decide +kernel
theorem dX10_counted_49 : decode cX10_counted 49 = .ok (.getfield 56, 3) := by decide +kernel
theorem dX10_counted_52 : decode cX10_counted 52 = .ok (.iconst 4, 1) := by decide +kernel
theorem dX10_counted_53 : decode cX10_counted 53 = .ok (.iload_n 1, 1) := by decide +kernel
theorem dX10_counted_54 : decode cX10_counted 54 = .ok (.imul, 1) := by decide +kernel
theorem dX10_counted_55 : decode cX10_counted 55 = .ok (.iload 6, 2) := by decide +kernel
theorem dX10_counted_57 : decode cX10_counted 57 = .ok (.iadd, 1) := by decide +kernel
theorem dX10_counted_58 : decode cX10_counted 58 = .ok (.iaload, 1) := by decide +kernel
theorem dX10_counted_59 : decode cX10_counted 59 = .ok (.i2l, 1) := by decide +kernel
theorem dX10_counted_60 : decode cX10_counted 60 = .ok (.ladd, 1) := by decide +kernel
theorem dX10_counted_61 : decode cX10_counted 61 = .ok (.lstore 4, 2) := by decide +kernel
theorem dX10_counted_63 : decode cX10_counted 63 = .ok (.iinc 6 1, 3) := by decide +kernel
theorem dX10_counted_66 : decode cX10_counted 66 = .ok (.goto (-26), 3) := by decide +kernel
theorem dX10_counted_69 : decode cX10_counted 69 = .ok (.aload_n 0, 1) := by decide +kernel
theorem dX10_counted_70 : decode cX10_counted 70 = .ok (.invokevirtual 343, 3) := by decide +kernel
theorem dX10_counted_73 : decode cX10_counted 73 = .ok (.i2l, 1) := by decide +kernel
theorem dX10_counted_74 : decode cX10_counted 74 = .ok (.lload 4, 2) := by decide +kernel
theorem dX10_counted_76 : decode cX10_counted 76 = .ok (.lsub, 1) := by decide +kernel
theorem dX10_counted_77 : decode cX10_counted 77 = .ok (.lstore 6, 2) := by decide +kernel
theorem dX10_counted_79 : decode cX10_counted 79 = .ok (.aload_n 0, 1) := by decide +kernel
theorem dX10_counted_80 : decode cX10_counted 80 = .ok (.getfield 56, 3) := by decide +kernel
theorem dX10_counted_83 : decode cX10_counted 83 = .ok (.iconst 4, 1) := by decide +kernel
theorem dX10_counted_84 : decode cX10_counted 84 = .ok (.iload_n 1, 1) := by decide +kernel
theorem dX10_counted_85 : decode cX10_counted 85 = .ok (.imul, 1) := by decide +kernel
theorem dX10_counted_86 : decode cX10_counted 86 = .ok (.iload_n 2, 1) := by decide +kernel
theorem dX10_counted_87 : decode cX10_counted 87 = .ok (.iadd, 1) := by decide +kernel
theorem dX10_counted_88 : decode cX10_counted 88 = .ok (.iaload, 1) := by decide +kernel
theorem dX10_counted_89 : decode cX10_counted 89 = .ok (.i2l, 1) := by decide +kernel
theorem dX10_counted_90 : decode cX10_counted 90 = .ok (.lstore 8, 2) := by decide +kernel
theorem dX10_counted_92 : decode cX10_counted 92 = .ok (.aload_n 0, 1) := by decide +kernel
theorem dX10_counted_93 : decode cX10_counted 93 = .ok (.getfield 53, 3) := by decide +kernel
theorem dX10_counted_96 : decode cX10_counted 96 = .ok (.iload_n 2, 1) := by decide +kernel
theorem dX10_counted_97 : decode cX10_counted 97 = .ok (.iaload, 1) := by decide +kernel
theorem dX10_counted_98 : decode cX10_counted 98 = .ok (.i2l, 1) := by decide +kernel
theorem dX10_counted_99 : decode cX10_counted 99 = .ok (.lload 8, 2) := by decide +kernel
theorem dX10_counted_101 : decode cX10_counted 101 = .ok (.lsub, 1) := by decide +kernel
theorem dX10_counted_102 : decode cX10_counted 102 = .ok (.lstore 10, 2) := by decide +kernel
theorem dX10_counted_104 : decode cX10_counted 104 = .ok (.lload 4, 2) := by decide +kernel
theorem dX10_counted_106 : decode cX10_counted 106 = .ok (.lconst 0, 1) := by decide +kernel
theorem dX10_counted_107 : decode cX10_counted 107 = .ok (.lcmp, 1) := by decide +kernel
theorem dX10_counted_108 : decode cX10_counted 108 = .ok (.ifCond .ne 9, 3) := by decide +kernel
theorem dX10_counted_111 : decode cX10_counted 111 = .ok (.lconst 0, 1) := by decide +kernel
theorem dX10_counted_112 : decode cX10_counted 112 = .ok (.lstore 8, 2) := by decide +kernel
theorem dX10_counted_114 : decode cX10_counted 114 = .ok (.lconst 1, 1) := by decide +kernel
theorem dX10_counted_115 : decode cX10_counted 115 = .ok (.lstore 4, 2) := by decide +kernel
theorem dX10_counted_117 : decode cX10_counted 117 = .ok (.lload 6, 2) := by decide +kernel
theorem dX10_counted_119 : decode cX10_counted 119 = .ok (.lconst 0, 1) := by decide +kernel
theorem dX10_counted_120 : decode cX10_counted 120 = .ok (.lcmp, 1) := by decide +kernel
theorem dX10_counted_121 : decode cX10_counted 121 = .ok (.ifCond .ne 9, 3) := by decide +kernel
theorem dX10_counted_124 : decode cX10_counted 124 = .ok (.lconst 0, 1) := by decide +kernel
theorem dX10_counted_125 : decode cX10_counted 125 = .ok (.lstore 10, 2) := by decide +kernel
theorem dX10_counted_127 : decode cX10_counted 127 = .ok (.lconst 1, 1) := by decide +kernel
theorem dX10_counted_128 : decode cX10_counted 128 = .ok (.lstore 6, 2) := by decide +kernel
theorem dX10_counted_130 : decode cX10_counted 130 = .ok (.lload 8, 2) := by decide +kernel
theorem dX10_counted_132 : decode cX10_counted 132 = .ok (.lload 6, 2) := by decide +kernel
theorem dX10_counted_134 : decode cX10_counted 134 = .ok (.lmul, 1) := by decide +kernel
theorem dX10_counted_135 : decode cX10_counted 135 = .ok (.lload 10, 2) := by decide +kernel
theorem dX10_counted_137 : decode cX10_counted 137 = .ok (.lload 4, 2) := by decide +kernel
theorem dX10_counted_139 : decode cX10_counted 139 = .ok (.lmul, 1) := by decide +kernel
theorem dX10_counted_140 : decode cX10_counted 140 = .ok (.lsub, 1) := by decide +kernel
theorem dX10_counted_141 : decode cX10_counted 141 = .ok (.lstore 12, 2) := by decide +kernel
theorem dX10_counted_143 : decode cX10_counted 143 = .ok (.lload 4, 2) := by decide +kernel
theorem dX10_counted_145 : decode cX10_counted 145 = .ok (.lload 6, 2) := by decide +kernel
theorem dX10_counted_147 : decode cX10_counted 147 = .ok (.lmul, 1) := by decide +kernel
theorem dX10_counted_148 : decode cX10_counted 148 = .ok (.lstore 14, 2) := by decide +kernel
theorem dX10_counted_150 : decode cX10_counted 150 = .ok (.lload 12, 2) := by decide +kernel
theorem dX10_counted_152 : decode cX10_counted 152 = .ok (.lload 14, 2) := by decide +kernel
theorem dX10_counted_154 : decode cX10_counted 154 = .ok (.invokestatic 346, 3) := by decide +kernel
theorem dX10_counted_157 : decode cX10_counted 157 = .ok (.lstore 16, 2) := by decide +kernel
theorem dX10_counted_159 : decode cX10_counted 159 = .ok (.iload_n 3, 1) := by decide +kernel
theorem dX10_counted_160 : decode cX10_counted 160 = .ok (.ifCond .ne 8, 3) := by decide +kernel
theorem dX10_counted_163 : decode cX10_counted 163 = .ok (.lload 12, 2) := by decide +kernel
theorem dX10_counted_165 : decode cX10_counted 165 = .ok (.goto 5, 3) := by decide +kernel
theorem dX10_counted_168 : decode cX10_counted 168 = .ok (.lload 14, 2) := by decide +kernel
theorem dX10_counted_170 : decode cX10_counted 170 = .ok (.lload 16, 2) := by decide +kernel
theorem dX10_counted_172 : decode cX10_counted 172 = .ok (.ldiv, 1) := by decide +kernel
theorem dX10_counted_173 : decode cX10_counted 173 = .ok (.lreturn, 1) := by decide +kernel
theorem dX10_laysAside_0 : decode cX10_laysAside 0 = .ok (.iconst 0, 1) := by decide +kernel
theorem dX10_laysAside_1 : decode cX10_laysAside 1 = .ok (.istore_n 2, 1) := by decide +kernel
theorem dX10_laysAside_2 : decode cX10_laysAside 2 = .ok (.iload_n 2, 1) := by decide +kernel
theorem dX10_laysAside_3 : decode cX10_laysAside 3 = .ok (.aload_n 0, 1) := by decide +kernel
theorem dX10_laysAside_4 : decode cX10_laysAside 4 = .ok (.getfield 122, 3) := by decide +kernel
theorem dX10_laysAside_7 : decode cX10_laysAside 7 = .ok (.if_icmp .ge 73, 3) := by decide +kernel
theorem dX10_laysAside_10 : decode cX10_laysAside 10 = .ok (.aload_n 0, 1) := by decide +kernel
theorem dX10_laysAside_11 : decode cX10_laysAside 11 = .ok (.getfield 59, 3) := by decide +kernel
theorem dX10_laysAside_14 : decode cX10_laysAside 14 = .ok (.iload_n 2, 1) := by decide +kernel
theorem dX10_laysAside_15 : decode cX10_laysAside 15 = .ok (.aload_n 0, 1) := by decide +kernel
theorem dX10_laysAside_16 : decode cX10_laysAside 16 = .ok (.getfield 26, 3) := by decide +kernel
theorem dX10_laysAside_19 : decode cX10_laysAside 19 = .ok (.iload_n 2, 1) := by decide +kernel
theorem dX10_laysAside_20 : decode cX10_laysAside 20 = .ok (.iaload, 1) := by decide +kernel
theorem dX10_laysAside_21 : decode cX10_laysAside 21 = .ok (.iastore, 1) := by decide +kernel
theorem dX10_laysAside_22 : decode cX10_laysAside 22 = .ok (.aload_n 0, 1) := by decide +kernel
theorem dX10_laysAside_23 : decode cX10_laysAside 23 = .ok (.getfield 62, 3) := by decide +kernel
theorem dX10_laysAside_26 : decode cX10_laysAside 26 = .ok (.iload_n 2, 1) := by decide +kernel
theorem dX10_laysAside_27 : decode cX10_laysAside 27 = .ok (.aload_n 0, 1) := by decide +kernel
theorem dX10_laysAside_28 : decode cX10_laysAside 28 = .ok (.getfield 29, 3) := by decide +kernel
theorem dX10_laysAside_31 : decode cX10_laysAside 31 = .ok (.iload_n 2, 1) := by decide +kernel
theorem dX10_laysAside_32 : decode cX10_laysAside 32 = .ok (.iaload, 1) := by decide +kernel
theorem dX10_laysAside_33 : decode cX10_laysAside 33 = .ok (.iastore, 1) := by decide +kernel
theorem dX10_laysAside_34 : decode cX10_laysAside 34 = .ok (.aload_n 0, 1) := by decide +kernel
theorem dX10_laysAside_35 : decode cX10_laysAside 35 = .ok (.getfield 26, 3) := by decide +kernel
theorem dX10_laysAside_38 : decode cX10_laysAside 38 = .ok (.iload_n 2, 1) := by decide +kernel
theorem dX10_laysAside_39 : decode cX10_laysAside 39 = .ok (.iload_n 1, 1) := by decide +kernel
theorem dX10_laysAside_40 : decode cX10_laysAside 40 = .ok (.ifCond .eq 7, 3) := by decide +kernel
theorem dX10_laysAside_43 : decode cX10_laysAside 43 = .ok (.iconst 0, 1) := by decide +kernel
theorem dX10_laysAside_44 : decode cX10_laysAside 44 = .ok (.goto 9, 3) := by decide +kernel
theorem dX10_laysAside_47 : decode cX10_laysAside 47 = .ok (.aload_n 0, 1) := by decide +kernel
theorem dX10_laysAside_48 : decode cX10_laysAside 48 = .ok (.getfield 26, 3) := by decide +kernel
theorem dX10_laysAside_51 : decode cX10_laysAside 51 = .ok (.iload_n 2, 1) := by decide +kernel
theorem dX10_laysAside_52 : decode cX10_laysAside 52 = .ok (.iaload, 1) := by decide +kernel
theorem dX10_laysAside_53 : decode cX10_laysAside 53 = .ok (.iastore, 1) := by decide +kernel
theorem dX10_laysAside_54 : decode cX10_laysAside 54 = .ok (.aload_n 0, 1) := by decide +kernel
theorem dX10_laysAside_55 : decode cX10_laysAside 55 = .ok (.getfield 29, 3) := by decide +kernel
theorem dX10_laysAside_58 : decode cX10_laysAside 58 = .ok (.iload_n 2, 1) := by decide +kernel
theorem dX10_laysAside_59 : decode cX10_laysAside 59 = .ok (.iload_n 1, 1) := by decide +kernel
theorem dX10_laysAside_60 : decode cX10_laysAside 60 = .ok (.ifCond .eq 7, 3) := by decide +kernel
theorem dX10_laysAside_63 : decode cX10_laysAside 63 = .ok (.iconst 0, 1) := by decide +kernel
theorem dX10_laysAside_64 : decode cX10_laysAside 64 = .ok (.goto 9, 3) := by decide +kernel
theorem dX10_laysAside_67 : decode cX10_laysAside 67 = .ok (.aload_n 0, 1) := by decide +kernel
theorem dX10_laysAside_68 : decode cX10_laysAside 68 = .ok (.getfield 29, 3) := by decide +kernel
theorem dX10_laysAside_71 : decode cX10_laysAside 71 = .ok (.iload_n 2, 1) := by decide +kernel
theorem dX10_laysAside_72 : decode cX10_laysAside 72 = .ok (.iaload, 1) := by decide +kernel
theorem dX10_laysAside_73 : decode cX10_laysAside 73 = .ok (.iastore, 1) := by decide +kernel
theorem dX10_laysAside_74 : decode cX10_laysAside 74 = .ok (.iinc 2 1, 3) := by decide +kernel
theorem dX10_laysAside_77 : decode cX10_laysAside 77 = .ok (.goto (-75), 3) := by decide +kernel
theorem dX10_laysAside_80 : decode cX10_laysAside 80 = .ok (.aload_n 0, 1) := by decide +kernel
theorem dX10_laysAside_81 : decode cX10_laysAside 81 = .ok (.aload_n 0, 1) := by decide +kernel
theorem dX10_laysAside_82 : decode cX10_laysAside 82 = .ok (.getfield 245, 3) := by decide +kernel
theorem dX10_laysAside_85 : decode cX10_laysAside 85 = .ok (.putfield 350, 3) := by decide +kernel
theorem dX10_laysAside_88 : decode cX10_laysAside 88 = .ok (.aload_n 0, 1) := by decide +kernel
theorem dX10_laysAside_89 : decode cX10_laysAside 89 = .ok (.aload_n 0, 1) := by decide +kernel
theorem dX10_laysAside_90 : decode cX10_laysAside 90 = .ok (.getfield 317, 3) := by decide +kernel
theorem dX10_laysAside_93 : decode cX10_laysAside 93 = .ok (.putfield 353, 3) := by decide +kernel
theorem dX10_laysAside_96 : decode cX10_laysAside 96 = .ok (.aload_n 0, 1) := by decide +kernel
theorem dX10_laysAside_97 : decode cX10_laysAside 97 = .ok (.aload_n 0, 1) := by decide +kernel
theorem dX10_laysAside_98 : decode cX10_laysAside 98 = .ok (.getfield 117, 3) := by decide +kernel
theorem dX10_laysAside_101 : decode cX10_laysAside 101 = .ok (.putfield 356, 3) := by decide +kernel
theorem dX10_laysAside_104 : decode cX10_laysAside 104 = .ok (.aload_n 0, 1) := by decide +kernel
theorem dX10_laysAside_105 : decode cX10_laysAside 105 = .ok (.iload_n 1, 1) := by decide +kernel
theorem dX10_laysAside_106 : decode cX10_laysAside 106 = .ok (.ifCond .eq 7, 3) := by decide +kernel
theorem dX10_laysAside_109 : decode cX10_laysAside 109 = .ok (.iconst 0, 1) := by decide +kernel
theorem dX10_laysAside_110 : decode cX10_laysAside 110 = .ok (.goto 7, 3) := by decide +kernel
theorem dX10_laysAside_113 : decode cX10_laysAside 113 = .ok (.aload_n 0, 1) := by decide +kernel
theorem dX10_laysAside_114 : decode cX10_laysAside 114 = .ok (.getfield 245, 3) := by decide +kernel
theorem dX10_laysAside_117 : decode cX10_laysAside 117 = .ok (.putfield 245, 3) := by decide +kernel
theorem dX10_laysAside_120 : decode cX10_laysAside 120 = .ok (.aload_n 0, 1) := by decide +kernel
theorem dX10_laysAside_121 : decode cX10_laysAside 121 = .ok (.iload_n 1, 1) := by decide +kernel
theorem dX10_laysAside_122 : decode cX10_laysAside 122 = .ok (.ifCond .eq 7, 3) := by decide +kernel
theorem dX10_laysAside_125 : decode cX10_laysAside 125 = .ok (.iconst 0, 1) := by decide +kernel
theorem dX10_laysAside_126 : decode cX10_laysAside 126 = .ok (.goto 7, 3) := by decide +kernel
theorem dX10_laysAside_129 : decode cX10_laysAside 129 = .ok (.aload_n 0, 1) := by decide +kernel
theorem dX10_laysAside_130 : decode cX10_laysAside 130 = .ok (.getfield 317, 3) := by decide +kernel
theorem dX10_laysAside_133 : decode cX10_laysAside 133 = .ok (.putfield 317, 3) := by decide +kernel
theorem dX10_laysAside_136 : decode cX10_laysAside 136 = .ok (.return_, 1) := by decide +kernel
theorem dX10_laysBack_0 : decode cX10_laysBack 0 = .ok (.iconst 0, 1) := by decide +kernel
theorem dX10_laysBack_1 : decode cX10_laysBack 1 = .ok (.istore_n 1, 1) := by decide +kernel
theorem dX10_laysBack_2 : decode cX10_laysBack 2 = .ok (.iload_n 1, 1) := by decide +kernel
theorem dX10_laysBack_3 : decode cX10_laysBack 3 = .ok (.aload_n 0, 1) := by decide +kernel
theorem dX10_laysBack_4 : decode cX10_laysBack 4 = .ok (.getfield 122, 3) := by decide +kernel
theorem dX10_laysBack_7 : decode cX10_laysBack 7 = .ok (.if_icmp .ge 33, 3) := by decide +kernel
theorem dX10_laysBack_10 : decode cX10_laysBack 10 = .ok (.aload_n 0, 1) := by decide +kernel
theorem dX10_laysBack_11 : decode cX10_laysBack 11 = .ok (.getfield 26, 3) := by decide +kernel
theorem dX10_laysBack_14 : decode cX10_laysBack 14 = .ok (.iload_n 1, 1) := by decide +kernel
theorem dX10_laysBack_15 : decode cX10_laysBack 15 = .ok (.aload_n 0, 1) := by decide +kernel
theorem dX10_laysBack_16 : decode cX10_laysBack 16 = .ok (.getfield 59, 3) := by decide +kernel
theorem dX10_laysBack_19 : decode cX10_laysBack 19 = .ok (.iload_n 1, 1) := by decide +kernel
theorem dX10_laysBack_20 : decode cX10_laysBack 20 = .ok (.iaload, 1) := by decide +kernel
theorem dX10_laysBack_21 : decode cX10_laysBack 21 = .ok (.iastore, 1) := by decide +kernel
theorem dX10_laysBack_22 : decode cX10_laysBack 22 = .ok (.aload_n 0, 1) := by decide +kernel
theorem dX10_laysBack_23 : decode cX10_laysBack 23 = .ok (.getfield 29, 3) := by decide +kernel
theorem dX10_laysBack_26 : decode cX10_laysBack 26 = .ok (.iload_n 1, 1) := by decide +kernel
theorem dX10_laysBack_27 : decode cX10_laysBack 27 = .ok (.aload_n 0, 1) := by decide +kernel
theorem dX10_laysBack_28 : decode cX10_laysBack 28 = .ok (.getfield 62, 3) := by decide +kernel
theorem dX10_laysBack_31 : decode cX10_laysBack 31 = .ok (.iload_n 1, 1) := by decide +kernel
theorem dX10_laysBack_32 : decode cX10_laysBack 32 = .ok (.iaload, 1) := by decide +kernel
theorem dX10_laysBack_33 : decode cX10_laysBack 33 = .ok (.iastore, 1) := by decide +kernel
theorem dX10_laysBack_34 : decode cX10_laysBack 34 = .ok (.iinc 1 1, 3) := by decide +kernel
theorem dX10_laysBack_37 : decode cX10_laysBack 37 = .ok (.goto (-35), 3) := by decide +kernel
theorem dX10_laysBack_40 : decode cX10_laysBack 40 = .ok (.aload_n 0, 1) := by decide +kernel
theorem dX10_laysBack_41 : decode cX10_laysBack 41 = .ok (.aload_n 0, 1) := by decide +kernel
theorem dX10_laysBack_42 : decode cX10_laysBack 42 = .ok (.getfield 350, 3) := by decide +kernel
theorem dX10_laysBack_45 : decode cX10_laysBack 45 = .ok (.putfield 245, 3) := by decide +kernel
theorem dX10_laysBack_48 : decode cX10_laysBack 48 = .ok (.aload_n 0, 1) := by decide +kernel
theorem dX10_laysBack_49 : decode cX10_laysBack 49 = .ok (.aload_n 0, 1) := by decide +kernel
theorem dX10_laysBack_50 : decode cX10_laysBack 50 = .ok (.getfield 353, 3) := by decide +kernel
theorem dX10_laysBack_53 : decode cX10_laysBack 53 = .ok (.putfield 317, 3) := by decide +kernel
theorem dX10_laysBack_56 : decode cX10_laysBack 56 = .ok (.aload_n 0, 1) := by decide +kernel
theorem dX10_laysBack_57 : decode cX10_laysBack 57 = .ok (.aload_n 0, 1) := by decide +kernel
theorem dX10_laysBack_58 : decode cX10_laysBack 58 = .ok (.getfield 356, 3) := by decide +kernel
theorem dX10_laysBack_61 : decode cX10_laysBack 61 = .ok (.putfield 117, 3) := by decide +kernel
theorem dX10_laysBack_64 : decode cX10_laysBack 64 = .ok (.return_, 1) := by decide +kernel
theorem dX10_rests_0 : decode cX10_rests 0 = .ok (.aload_n 0, 1) := by decide +kernel
theorem dX10_rests_1 : decode cX10_rests 1 = .ok (.iload_n 1, 1) := by decide +kernel
theorem dX10_rests_2 : decode cX10_rests 2 = .ok (.invokevirtual 308, 3) := by decide +kernel
theorem dX10_rests_5 : decode cX10_rests 5 = .ok (.ifCond .eq 15, 3) := by decide +kernel
theorem dX10_rests_8 : decode cX10_rests 8 = .ok (.iload_n 2, 1) := by decide +kernel
theorem dX10_rests_9 : decode cX10_rests 9 = .ok (.i2l, 1) := by decide +kernel
theorem dX10_rests_10 : decode cX10_rests 10 = .ok (.lconst 0, 1) := by decide +kernel
theorem dX10_rests_11 : decode cX10_rests 11 = .ok (.ldc2_w 161, 3) := by decide +kernel
theorem dX10_rests_14 : decode cX10_rests 14 = .ok (.invokestatic 125, 3) := by decide +kernel
theorem dX10_rests_17 : decode cX10_rests 17 = .ok (.ifCond .ne 6, 3) := by decide +kernel
theorem dX10_rests_20 : decode cX10_rests 20 = .ok (.bipush (-2), 2) := by decide +kernel
theorem dX10_rests_22 : decode cX10_rests 22 = .ok (.ireturn, 1) := by decide +kernel
theorem dX10_rests_23 : decode cX10_rests 23 = .ok (.aload_n 0, 1) := by decide +kernel
theorem dX10_rests_24 : decode cX10_rests 24 = .ok (.iconst 0, 1) := by decide +kernel
theorem dX10_rests_25 : decode cX10_rests 25 = .ok (.invokevirtual 359, 3) := by decide +kernel
theorem dX10_rests_28 : decode cX10_rests 28 = .ok (.iconst (-1), 1) := by decide +kernel
theorem dX10_rests_29 : decode cX10_rests 29 = .ok (.istore_n 3, 1) := by decide +kernel
theorem dX10_rests_30 : decode cX10_rests 30 = .ok (.iconst 0, 1) := by decide +kernel
theorem dX10_rests_31 : decode cX10_rests 31 = .ok (.istore 4, 2) := by decide +kernel
theorem dX10_rests_33 : decode cX10_rests 33 = .ok (.iload 4, 2) := by decide +kernel
theorem dX10_rests_35 : decode cX10_rests 35 = .ok (.iload_n 2, 1) := by decide +kernel
theorem dX10_rests_36 : decode cX10_rests 36 = .ok (.if_icmp .gt 114, 3) := by decide +kernel
theorem dX10_rests_39 : decode cX10_rests 39 = .ok (.iload_n 3, 1) := by decide +kernel
theorem dX10_rests_40 : decode cX10_rests 40 = .ok (.iconst (-1), 1) := by decide +kernel
theorem dX10_rests_41 : decode cX10_rests 41 = .ok (.if_icmp .ne 109, 3) := by decide +kernel
theorem dX10_rests_44 : decode cX10_rests 44 = .ok (.iconst 0, 1) := by decide +kernel
theorem dX10_rests_45 : decode cX10_rests 45 = .ok (.istore 5, 2) := by decide +kernel
theorem dX10_rests_47 : decode cX10_rests 47 = .ok (.iload 5, 2) := by decide +kernel
theorem dX10_rests_49 : decode cX10_rests 49 = .ok (.aload_n 0, 1) := by decide +kernel
theorem dX10_rests_50 : decode cX10_rests 50 = .ok (.getfield 122, 3) := by decide +kernel
theorem dX10_rests_53 : decode cX10_rests 53 = .ok (.if_icmp .ge 23, 3) := by decide +kernel
theorem dX10_rests_56 : decode cX10_rests 56 = .ok (.aload_n 0, 1) := by decide +kernel
theorem dX10_rests_57 : decode cX10_rests 57 = .ok (.getfield 65, 3) := by decide +kernel
theorem dX10_rests_60 : decode cX10_rests 60 = .ok (.iload 5, 2) := by decide +kernel
theorem dX10_rests_62 : decode cX10_rests 62 = .ok (.aload_n 0, 1) := by decide +kernel
theorem dX10_rests_63 : decode cX10_rests 63 = .ok (.getfield 26, 3) := by decide +kernel
theorem dX10_rests_66 : decode cX10_rests 66 = .ok (.iload 5, 2) := by decide +kernel
theorem dX10_rests_68 : decode cX10_rests 68 = .ok (.iaload, 1) := by decide +kernel
theorem dX10_rests_69 : decode cX10_rests 69 = .ok (.iastore, 1) := by decide +kernel
theorem dX10_rests_70 : decode cX10_rests 70 = .ok (.iinc 5 1, 3) := by decide +kernel
theorem dX10_rests_73 : decode cX10_rests 73 = .ok (.goto (-26), 3) := by decide +kernel
theorem dX10_rests_76 : decode cX10_rests 76 = .ok (.aload_n 0, 1) := by decide +kernel
theorem dX10_rests_77 : decode cX10_rests 77 = .ok (.iload_n 1, 1) := by decide +kernel
theorem dX10_rests_78 : decode cX10_rests 78 = .ok (.iconst 0, 1) := by decide +kernel
theorem dX10_rests_79 : decode cX10_rests 79 = .ok (.invokevirtual 339, 3) := by decide +kernel
theorem dX10_rests_82 : decode cX10_rests 82 = .ok (.iconst 1, 1) := by decide +kernel
theorem dX10_rests_83 : decode cX10_rests 83 = .ok (.istore 5, 2) := by decide +kernel
theorem dX10_rests_85 : decode cX10_rests 85 = .ok (.iconst 0, 1) := by decide +kernel
theorem dX10_rests_86 : decode cX10_rests 86 = .ok (.istore 6, 2) := by decide +kernel
theorem dX10_rests_88 : decode cX10_rests 88 = .ok (.iload 6, 2) := by decide +kernel
theorem dX10_rests_90 : decode cX10_rests 90 = .ok (.aload_n 0, 1) := by decide +kernel
theorem dX10_rests_91 : decode cX10_rests 91 = .ok (.getfield 122, 3) := by decide +kernel
theorem dX10_rests_94 : decode cX10_rests 94 = .ok (.if_icmp .ge 38, 3) := by decide +kernel
theorem dX10_rests_97 : decode cX10_rests 97 = .ok (.iload 5, 2) := by decide +kernel
theorem dX10_rests_99 : decode cX10_rests 99 = .ok (.ifCond .eq 24, 3) := by decide +kernel
theorem dX10_rests_102 : decode cX10_rests 102 = .ok (.aload_n 0, 1) := by decide +kernel
theorem dX10_rests_103 : decode cX10_rests 103 = .ok (.getfield 65, 3) := by decide +kernel
theorem dX10_rests_106 : decode cX10_rests 106 = .ok (.iload 6, 2) := by decide +kernel
theorem dX10_rests_108 : decode cX10_rests 108 = .ok (.iaload, 1) := by decide +kernel
theorem dX10_rests_109 : decode cX10_rests 109 = .ok (.aload_n 0, 1) := by decide +kernel
theorem dX10_rests_110 : decode cX10_rests 110 = .ok (.getfield 26, 3) := by decide +kernel
theorem dX10_rests_113 : decode cX10_rests 113 = .ok (.iload 6, 2) := by decide +kernel
theorem dX10_rests_115 : decode cX10_rests 115 = .ok (.iaload, 1) := by decide +kernel
theorem dX10_rests_116 : decode cX10_rests 116 = .ok (.if_icmp .ne 7, 3) := by decide +kernel
theorem dX10_rests_119 : decode cX10_rests 119 = .ok (.iconst 1, 1) := by decide +kernel
theorem dX10_rests_120 : decode cX10_rests 120 = .ok (.goto 4, 3) := by decide +kernel
theorem dX10_rests_123 : decode cX10_rests 123 = .ok (.iconst 0, 1) := by decide +kernel
theorem dX10_rests_124 : decode cX10_rests 124 = .ok (.istore 5, 2) := by decide +kernel
theorem dX10_rests_126 : decode cX10_rests 126 = .ok (.iinc 6 1, 3) := by decide +kernel
theorem dX10_rests_129 : decode cX10_rests 129 = .ok (.goto (-41), 3) := by decide +kernel
theorem dX10_rests_132 : decode cX10_rests 132 = .ok (.iload 5, 2) := by decide +kernel
theorem dX10_rests_134 : decode cX10_rests 134 = .ok (.ifCond .eq 8, 3) := by decide +kernel
theorem dX10_rests_137 : decode cX10_rests 137 = .ok (.iload 4, 2) := by decide +kernel
theorem dX10_rests_139 : decode cX10_rests 139 = .ok (.goto 4, 3) := by decide +kernel
theorem dX10_rests_142 : decode cX10_rests 142 = .ok (.iconst (-1), 1) := by decide +kernel
theorem dX10_rests_143 : decode cX10_rests 143 = .ok (.istore_n 3, 1) := by decide +kernel
theorem dX10_rests_144 : decode cX10_rests 144 = .ok (.iinc 4 1, 3) := by decide +kernel
theorem dX10_rests_147 : decode cX10_rests 147 = .ok (.goto (-114), 3) := by decide +kernel
theorem dX10_rests_150 : decode cX10_rests 150 = .ok (.aload_n 0, 1) := by decide +kernel
theorem dX10_rests_151 : decode cX10_rests 151 = .ok (.invokevirtual 363, 3) := by decide +kernel
theorem dX10_rests_154 : decode cX10_rests 154 = .ok (.iload_n 3, 1) := by decide +kernel
theorem dX10_rests_155 : decode cX10_rests 155 = .ok (.ireturn, 1) := by decide +kernel
theorem dX10_blocked_0 : decode cX10_blocked 0 = .ok (.aload_n 0, 1) := by decide +kernel
theorem dX10_blocked_1 : decode cX10_blocked 1 = .ok (.iload_n 1, 1) := by decide +kernel
theorem dX10_blocked_2 : decode cX10_blocked 2 = .ok (.invokevirtual 308, 3) := by decide +kernel
theorem dX10_blocked_5 : decode cX10_blocked 5 = .ok (.ifCond .ne 6, 3) := by decide +kernel
theorem dX10_blocked_8 : decode cX10_blocked 8 = .ok (.bipush (-2), 2) := by decide +kernel
theorem dX10_blocked_10 : decode cX10_blocked 10 = .ok (.ireturn, 1) := by decide +kernel
theorem dX10_blocked_11 : decode cX10_blocked 11 = .ok (.aload_n 0, 1) := by decide +kernel
theorem dX10_blocked_12 : decode cX10_blocked 12 = .ok (.iconst 0, 1) := by decide +kernel
theorem dX10_blocked_13 : decode cX10_blocked 13 = .ok (.invokevirtual 359, 3) := by decide +kernel
theorem dX10_blocked_16 : decode cX10_blocked 16 = .ok (.iconst 0, 1) := by decide +kernel
theorem dX10_blocked_17 : decode cX10_blocked 17 = .ok (.istore_n 2, 1) := by decide +kernel
theorem dX10_blocked_18 : decode cX10_blocked 18 = .ok (.iconst 0, 1) := by decide +kernel
theorem dX10_blocked_19 : decode cX10_blocked 19 = .ok (.istore_n 3, 1) := by decide +kernel
theorem dX10_blocked_20 : decode cX10_blocked 20 = .ok (.iconst 0, 1) := by decide +kernel
theorem dX10_blocked_21 : decode cX10_blocked 21 = .ok (.istore 4, 2) := by decide +kernel
theorem dX10_blocked_23 : decode cX10_blocked 23 = .ok (.iload 4, 2) := by decide +kernel
theorem dX10_blocked_25 : decode cX10_blocked 25 = .ok (.aload_n 0, 1) := by decide +kernel
theorem dX10_blocked_26 : decode cX10_blocked 26 = .ok (.getfield 41, 3) := by decide +kernel
theorem dX10_blocked_29 : decode cX10_blocked 29 = .ok (.iload_n 1, 1) := by decide +kernel
theorem dX10_blocked_30 : decode cX10_blocked 30 = .ok (.iaload, 1) := by decide +kernel
theorem dX10_blocked_31 : decode cX10_blocked 31 = .ok (.if_icmp .ge 99, 3) := by decide +kernel
theorem dX10_blocked_34 : decode cX10_blocked 34 = .ok (.aload_n 0, 1) := by decide +kernel
theorem dX10_blocked_35 : decode cX10_blocked 35 = .ok (.getfield 44, 3) := by decide +kernel
theorem dX10_blocked_38 : decode cX10_blocked 38 = .ok (.bipush 24, 2) := by decide +kernel
theorem dX10_blocked_40 : decode cX10_blocked 40 = .ok (.iload_n 1, 1) := by decide +kernel
theorem dX10_blocked_41 : decode cX10_blocked 41 = .ok (.imul, 1) := by decide +kernel
theorem dX10_blocked_42 : decode cX10_blocked 42 = .ok (.iload 4, 2) := by decide +kernel
theorem dX10_blocked_44 : decode cX10_blocked 44 = .ok (.iadd, 1) := by decide +kernel
theorem dX10_blocked_45 : decode cX10_blocked 45 = .ok (.iaload, 1) := by decide +kernel
theorem dX10_blocked_46 : decode cX10_blocked 46 = .ok (.istore 5, 2) := by decide +kernel
theorem dX10_blocked_48 : decode cX10_blocked 48 = .ok (.aload_n 0, 1) := by decide +kernel
theorem dX10_blocked_49 : decode cX10_blocked 49 = .ok (.getfield 47, 3) := by decide +kernel
theorem dX10_blocked_52 : decode cX10_blocked 52 = .ok (.bipush 24, 2) := by decide +kernel
theorem dX10_blocked_54 : decode cX10_blocked 54 = .ok (.iload_n 1, 1) := by decide +kernel
theorem dX10_blocked_55 : decode cX10_blocked 55 = .ok (.imul, 1) := by decide +kernel
theorem dX10_blocked_56 : decode cX10_blocked 56 = .ok (.iload 4, 2) := by decide +kernel
theorem dX10_blocked_58 : decode cX10_blocked 58 = .ok (.iadd, 1) := by decide +kernel
theorem dX10_blocked_59 : decode cX10_blocked 59 = .ok (.iaload, 1) := by decide +kernel
theorem dX10_blocked_60 : decode cX10_blocked 60 = .ok (.istore 6, 2) := by decide +kernel
theorem dX10_blocked_62 : decode cX10_blocked 62 = .ok (.aload_n 0, 1) := by decide +kernel
theorem dX10_blocked_63 : decode cX10_blocked 63 = .ok (.iload 5, 2) := by decide +kernel
theorem dX10_blocked_65 : decode cX10_blocked 65 = .ok (.iload 6, 2) := by decide +kernel
theorem dX10_blocked_67 : decode cX10_blocked 67 = .ok (.invokevirtual 320, 3) := by decide +kernel
theorem dX10_blocked_70 : decode cX10_blocked 70 = .ok (.istore 7, 2) := by decide +kernel
theorem dX10_blocked_72 : decode cX10_blocked 72 = .ok (.iload 6, 2) := by decide +kernel
theorem dX10_blocked_74 : decode cX10_blocked 74 = .ok (.ifCond .ne 6, 3) := by decide +kernel
theorem dX10_blocked_77 : decode cX10_blocked 77 = .ok (.goto 47, 3) := by decide +kernel
theorem dX10_blocked_80 : decode cX10_blocked 80 = .ok (.iload_n 2, 1) := by decide +kernel
theorem dX10_blocked_81 : decode cX10_blocked 81 = .ok (.iload 5, 2) := by decide +kernel
theorem dX10_blocked_83 : decode cX10_blocked 83 = .ok (.ior, 1) := by decide +kernel
theorem dX10_blocked_84 : decode cX10_blocked 84 = .ok (.istore_n 2, 1) := by decide +kernel
theorem dX10_blocked_85 : decode cX10_blocked 85 = .ok (.iconst 0, 1) := by decide +kernel
theorem dX10_blocked_86 : decode cX10_blocked 86 = .ok (.istore 8, 2) := by decide +kernel
theorem dX10_blocked_88 : decode cX10_blocked 88 = .ok (.iload 8, 2) := by decide +kernel
theorem dX10_blocked_90 : decode cX10_blocked 90 = .ok (.aload_n 0, 1) := by decide +kernel
theorem dX10_blocked_91 : decode cX10_blocked 91 = .ok (.getfield 122, 3) := by decide +kernel
theorem dX10_blocked_94 : decode cX10_blocked 94 = .ok (.if_icmp .ge 30, 3) := by decide +kernel
theorem dX10_blocked_97 : decode cX10_blocked 97 = .ok (.iload_n 3, 1) := by decide +kernel
theorem dX10_blocked_98 : decode cX10_blocked 98 = .ok (.aload_n 0, 1) := by decide +kernel
theorem dX10_blocked_99 : decode cX10_blocked 99 = .ok (.getfield 50, 3) := by decide +kernel
theorem dX10_blocked_102 : decode cX10_blocked 102 = .ok (.iload 8, 2) := by decide +kernel
theorem dX10_blocked_104 : decode cX10_blocked 104 = .ok (.iaload, 1) := by decide +kernel
theorem dX10_blocked_105 : decode cX10_blocked 105 = .ok (.ifCond .eq 10, 3) := by decide +kernel
theorem dX10_blocked_108 : decode cX10_blocked 108 = .ok (.iconst 1, 1) := by decide +kernel
theorem dX10_blocked_109 : decode cX10_blocked 109 = .ok (.iload 8, 2) := by decide +kernel
theorem dX10_blocked_111 : decode cX10_blocked 111 = .ok (.ishl, 1) := by decide +kernel
theorem dX10_blocked_112 : decode cX10_blocked 112 = .ok (.goto 4, 3) := by decide +kernel
theorem dX10_blocked_115 : decode cX10_blocked 115 = .ok (.iconst 0, 1) := by decide +kernel
theorem dX10_blocked_116 : decode cX10_blocked 116 = .ok (.ior, 1) := by decide +kernel
theorem dX10_blocked_117 : decode cX10_blocked 117 = .ok (.istore_n 3, 1) := by decide +kernel
theorem dX10_blocked_118 : decode cX10_blocked 118 = .ok (.iinc 8 1, 3) := by decide +kernel
theorem dX10_blocked_121 : decode cX10_blocked 121 = .ok (.goto (-33), 3) := by decide +kernel
theorem dX10_blocked_124 : decode cX10_blocked 124 = .ok (.iinc 4 1, 3) := by decide +kernel
theorem dX10_blocked_127 : decode cX10_blocked 127 = .ok (.goto (-104), 3) := by decide +kernel
theorem dX10_blocked_130 : decode cX10_blocked 130 = .ok (.aload_n 0, 1) := by decide +kernel
theorem dX10_blocked_131 : decode cX10_blocked 131 = .ok (.invokevirtual 363, 3) := by decide +kernel
theorem dX10_blocked_134 : decode cX10_blocked 134 = .ok (.iload_n 2, 1) := by decide +kernel
theorem dX10_blocked_135 : decode cX10_blocked 135 = .ok (.iload_n 3, 1) := by decide +kernel
theorem dX10_blocked_136 : decode cX10_blocked 136 = .ok (.iconst (-1), 1) := by decide +kernel
theorem dX10_blocked_137 : decode cX10_blocked 137 = .ok (.ixor, 1) := by decide +kernel
theorem dX10_blocked_138 : decode cX10_blocked 138 = .ok (.iand, 1) := by decide +kernel
theorem dX10_blocked_139 : decode cX10_blocked 139 = .ok (.ireturn, 1) := by decide +kernel
theorem dX10_watched_0 : decode cX10_watched 0 = .ok (.aload_n 0, 1) := by decide +kernel
theorem dX10_watched_1 : decode cX10_watched 1 = .ok (.iload_n 1, 1) := by decide +kernel
theorem dX10_watched_2 : decode cX10_watched 2 = .ok (.invokevirtual 308, 3) := by decide +kernel
theorem dX10_watched_5 : decode cX10_watched 5 = .ok (.ifCond .eq 27, 3) := by decide +kernel
theorem dX10_watched_8 : decode cX10_watched 8 = .ok (.iload_n 2, 1) := by decide +kernel
theorem dX10_watched_9 : decode cX10_watched 9 = .ok (.ifCond .eq 23, 3) := by decide +kernel
theorem dX10_watched_12 : decode cX10_watched 12 = .ok (.aload_n 0, 1) := by decide +kernel
theorem dX10_watched_13 : decode cX10_watched 13 = .ok (.iload_n 2, 1) := by decide +kernel
theorem dX10_watched_14 : decode cX10_watched 14 = .ok (.invokevirtual 331, 3) := by decide +kernel
theorem dX10_watched_17 : decode cX10_watched 17 = .ok (.ifCond .eq 15, 3) := by decide +kernel
theorem dX10_watched_20 : decode cX10_watched 20 = .ok (.iload_n 3, 1) := by decide +kernel
theorem dX10_watched_21 : decode cX10_watched 21 = .ok (.i2l, 1) := by decide +kernel
theorem dX10_watched_22 : decode cX10_watched 22 = .ok (.lconst 0, 1) := by decide +kernel
theorem dX10_watched_23 : decode cX10_watched 23 = .ok (.ldc2_w 366, 3) := by decide +kernel
theorem dX10_watched_26 : decode cX10_watched 26 = .ok (.invokestatic 125, 3) := by decide +kernel
theorem dX10_watched_29 : decode cX10_watched 29 = .ok (.ifCond .ne 6, 3) := by decide +kernel
theorem dX10_watched_32 : decode cX10_watched 32 = .ok (.bipush (-2), 2) := by decide +kernel
theorem dX10_watched_34 : decode cX10_watched 34 = .ok (.ireturn, 1) := by decide +kernel
theorem dX10_watched_35 : decode cX10_watched 35 = .ok (.aload_n 0, 1) := by decide +kernel
theorem dX10_watched_36 : decode cX10_watched 36 = .ok (.getfield 368, 3) := by decide +kernel
theorem dX10_watched_39 : decode cX10_watched 39 = .ok (.bipush 20, 2) := by decide +kernel
theorem dX10_watched_41 : decode cX10_watched 41 = .ok (.if_icmp .ne 6, 3) := by decide +kernel
theorem dX10_watched_44 : decode cX10_watched 44 = .ok (.bipush (-4), 2) := by decide +kernel
theorem dX10_watched_46 : decode cX10_watched 46 = .ok (.ireturn, 1) := by decide +kernel
theorem dX10_watched_47 : decode cX10_watched 47 = .ok (.aload_n 0, 1) := by decide +kernel
theorem dX10_watched_48 : decode cX10_watched 48 = .ok (.getfield 68, 3) := by decide +kernel
theorem dX10_watched_51 : decode cX10_watched 51 = .ok (.aload_n 0, 1) := by decide +kernel
theorem dX10_watched_52 : decode cX10_watched 52 = .ok (.getfield 368, 3) := by decide +kernel
theorem dX10_watched_55 : decode cX10_watched 55 = .ok (.iload_n 1, 1) := by decide +kernel
theorem dX10_watched_56 : decode cX10_watched 56 = .ok (.iastore, 1) := by decide +kernel
theorem dX10_watched_57 : decode cX10_watched 57 = .ok (.aload_n 0, 1) := by decide +kernel
theorem dX10_watched_58 : decode cX10_watched 58 = .ok (.getfield 71, 3) := by decide +kernel
theorem dX10_watched_61 : decode cX10_watched 61 = .ok (.aload_n 0, 1) := by decide +kernel
theorem dX10_watched_62 : decode cX10_watched 62 = .ok (.getfield 368, 3) := by decide +kernel
theorem dX10_watched_65 : decode cX10_watched 65 = .ok (.iload_n 2, 1) := by decide +kernel
theorem dX10_watched_66 : decode cX10_watched 66 = .ok (.iastore, 1) := by decide +kernel
theorem dX10_watched_67 : decode cX10_watched 67 = .ok (.aload_n 0, 1) := by decide +kernel
theorem dX10_watched_68 : decode cX10_watched 68 = .ok (.getfield 74, 3) := by decide +kernel
theorem dX10_watched_71 : decode cX10_watched 71 = .ok (.aload_n 0, 1) := by decide +kernel
theorem dX10_watched_72 : decode cX10_watched 72 = .ok (.getfield 368, 3) := by decide +kernel
theorem dX10_watched_75 : decode cX10_watched 75 = .ok (.iload_n 3, 1) := by decide +kernel
theorem dX10_watched_76 : decode cX10_watched 76 = .ok (.iastore, 1) := by decide +kernel
theorem dX10_watched_77 : decode cX10_watched 77 = .ok (.aload_n 0, 1) := by decide +kernel
theorem dX10_watched_78 : decode cX10_watched 78 = .ok (.dup, 1) := by decide +kernel
theorem dX10_watched_79 : decode cX10_watched 79 = .ok (.getfield 368, 3) := by decide +kernel
theorem dX10_watched_82 : decode cX10_watched 82 = .ok (.iconst 1, 1) := by decide +kernel
theorem dX10_watched_83 : decode cX10_watched 83 = .ok (.iadd, 1) := by decide +kernel
theorem dX10_watched_84 : decode cX10_watched 84 = .ok (.putfield 368, 3) := by decide +kernel
theorem dX10_watched_87 : decode cX10_watched 87 = .ok (.aload_n 0, 1) := by decide +kernel
theorem dX10_watched_88 : decode cX10_watched 88 = .ok (.getfield 368, 3) := by decide +kernel
theorem dX10_watched_91 : decode cX10_watched 91 = .ok (.iconst 1, 1) := by decide +kernel
theorem dX10_watched_92 : decode cX10_watched 92 = .ok (.isub, 1) := by decide +kernel
theorem dX10_watched_93 : decode cX10_watched 93 = .ok (.ireturn, 1) := by decide +kernel
theorem dX10_letsTill_0 : decode cX10_letsTill 0 = .ok (.aload_n 0, 1) := by decide +kernel
theorem dX10_letsTill_1 : decode cX10_letsTill 1 = .ok (.iconst 1, 1) := by decide +kernel
theorem dX10_letsTill_2 : decode cX10_letsTill 2 = .ok (.invokevirtual 359, 3) := by decide +kernel
theorem dX10_letsTill_5 : decode cX10_letsTill 5 = .ok (.aload_n 0, 1) := by decide +kernel
theorem dX10_letsTill_6 : decode cX10_letsTill 6 = .ok (.iload_n 1, 1) := by decide +kernel
theorem dX10_letsTill_7 : decode cX10_letsTill 7 = .ok (.putfield 117, 3) := by decide +kernel
theorem dX10_letsTill_10 : decode cX10_letsTill 10 = .ok (.aload_n 0, 1) := by decide +kernel
theorem dX10_letsTill_11 : decode cX10_letsTill 11 = .ok (.getfield 368, 3) := by decide +kernel
theorem dX10_letsTill_14 : decode cX10_letsTill 14 = .ok (.istore_n 3, 1) := by decide +kernel
theorem dX10_letsTill_15 : decode cX10_letsTill 15 = .ok (.iconst 0, 1) := by decide +kernel
theorem dX10_letsTill_16 : decode cX10_letsTill 16 = .ok (.istore 4, 2) := by decide +kernel
theorem dX10_letsTill_18 : decode cX10_letsTill 18 = .ok (.iload 4, 2) := by decide +kernel
theorem dX10_letsTill_20 : decode cX10_letsTill 20 = .ok (.aload_n 0, 1) := by decide +kernel
theorem dX10_letsTill_21 : decode cX10_letsTill 21 = .ok (.getfield 368, 3) := by decide +kernel
theorem dX10_letsTill_24 : decode cX10_letsTill 24 = .ok (.if_icmp .ge 63, 3) := by decide +kernel
theorem dX10_letsTill_27 : decode cX10_letsTill 27 = .ok (.iload_n 3, 1) := by decide +kernel
theorem dX10_letsTill_28 : decode cX10_letsTill 28 = .ok (.aload_n 0, 1) := by decide +kernel
theorem dX10_letsTill_29 : decode cX10_letsTill 29 = .ok (.getfield 368, 3) := by decide +kernel
theorem dX10_letsTill_32 : decode cX10_letsTill 32 = .ok (.if_icmp .ne 55, 3) := by decide +kernel
theorem dX10_letsTill_35 : decode cX10_letsTill 35 = .ok (.aload_n 0, 1) := by decide +kernel
theorem dX10_letsTill_36 : decode cX10_letsTill 36 = .ok (.aload_n 0, 1) := by decide +kernel
theorem dX10_letsTill_37 : decode cX10_letsTill 37 = .ok (.getfield 68, 3) := by decide +kernel
theorem dX10_letsTill_40 : decode cX10_letsTill 40 = .ok (.iload 4, 2) := by decide +kernel
theorem dX10_letsTill_42 : decode cX10_letsTill 42 = .ok (.iaload, 1) := by decide +kernel
theorem dX10_letsTill_43 : decode cX10_letsTill 43 = .ok (.iconst 0, 1) := by decide +kernel
theorem dX10_letsTill_44 : decode cX10_letsTill 44 = .ok (.invokevirtual 339, 3) := by decide +kernel
theorem dX10_letsTill_47 : decode cX10_letsTill 47 = .ok (.aload_n 0, 1) := by decide +kernel
theorem dX10_letsTill_48 : decode cX10_letsTill 48 = .ok (.aload_n 0, 1) := by decide +kernel
theorem dX10_letsTill_49 : decode cX10_letsTill 49 = .ok (.getfield 71, 3) := by decide +kernel
theorem dX10_letsTill_52 : decode cX10_letsTill 52 = .ok (.iload 4, 2) := by decide +kernel
theorem dX10_letsTill_54 : decode cX10_letsTill 54 = .ok (.iaload, 1) := by decide +kernel
theorem dX10_letsTill_55 : decode cX10_letsTill 55 = .ok (.invokevirtual 334, 3) := by decide +kernel
theorem dX10_letsTill_58 : decode cX10_letsTill 58 = .ok (.aload_n 0, 1) := by decide +kernel
theorem dX10_letsTill_59 : decode cX10_letsTill 59 = .ok (.getfield 74, 3) := by decide +kernel
theorem dX10_letsTill_62 : decode cX10_letsTill 62 = .ok (.iload 4, 2) := by decide +kernel
theorem dX10_letsTill_64 : decode cX10_letsTill 64 = .ok (.iaload, 1) := by decide +kernel
theorem dX10_letsTill_65 : decode cX10_letsTill 65 = .ok (.isub, 1) := by decide +kernel
theorem dX10_letsTill_66 : decode cX10_letsTill 66 = .ok (.i2l, 1) := by decide +kernel
theorem dX10_letsTill_67 : decode cX10_letsTill 67 = .ok (.iload_n 2, 1) := by decide +kernel
theorem dX10_letsTill_68 : decode cX10_letsTill 68 = .ok (.ineg, 1) := by decide +kernel
theorem dX10_letsTill_69 : decode cX10_letsTill 69 = .ok (.i2l, 1) := by decide +kernel
theorem dX10_letsTill_70 : decode cX10_letsTill 70 = .ok (.iload_n 2, 1) := by decide +kernel
theorem dX10_letsTill_71 : decode cX10_letsTill 71 = .ok (.i2l, 1) := by decide +kernel
theorem dX10_letsTill_72 : decode cX10_letsTill 72 = .ok (.invokestatic 125, 3) := by decide +kernel
theorem dX10_letsTill_75 : decode cX10_letsTill 75 = .ok (.ifCond .ne 6, 3) := by decide +kernel
theorem dX10_letsTill_78 : decode cX10_letsTill 78 = .ok (.iload 4, 2) := by decide +kernel
theorem dX10_letsTill_80 : decode cX10_letsTill 80 = .ok (.istore_n 3, 1) := by decide +kernel
theorem dX10_letsTill_81 : decode cX10_letsTill 81 = .ok (.iinc 4 1, 3) := by decide +kernel
theorem dX10_letsTill_84 : decode cX10_letsTill 84 = .ok (.goto (-66), 3) := by decide +kernel
theorem dX10_letsTill_87 : decode cX10_letsTill 87 = .ok (.aload_n 0, 1) := by decide +kernel
theorem dX10_letsTill_88 : decode cX10_letsTill 88 = .ok (.invokevirtual 363, 3) := by decide +kernel
theorem dX10_letsTill_91 : decode cX10_letsTill 91 = .ok (.iload_n 3, 1) := by decide +kernel
theorem dX10_letsTill_92 : decode cX10_letsTill 92 = .ok (.ireturn, 1) := by decide +kernel
theorem dX10_letsAll_0 : decode cX10_letsAll 0 = .ok (.aload_n 0, 1) := by decide +kernel
theorem dX10_letsAll_1 : decode cX10_letsAll 1 = .ok (.iconst 0, 1) := by decide +kernel
theorem dX10_letsAll_2 : decode cX10_letsAll 2 = .ok (.putfield 371, 3) := by decide +kernel
theorem dX10_letsAll_5 : decode cX10_letsAll 5 = .ok (.aload_n 0, 1) := by decide +kernel
theorem dX10_letsAll_6 : decode cX10_letsAll 6 = .ok (.iconst (-1), 1) := by decide +kernel
theorem dX10_letsAll_7 : decode cX10_letsAll 7 = .ok (.putfield 374, 3) := by decide +kernel
theorem dX10_letsAll_10 : decode cX10_letsAll 10 = .ok (.aload_n 0, 1) := by decide +kernel
theorem dX10_letsAll_11 : decode cX10_letsAll 11 = .ok (.iconst (-1), 1) := by decide +kernel
theorem dX10_letsAll_12 : decode cX10_letsAll 12 = .ok (.putfield 377, 3) := by decide +kernel
theorem dX10_letsAll_15 : decode cX10_letsAll 15 = .ok (.aload_n 0, 1) := by decide +kernel
theorem dX10_letsAll_16 : decode cX10_letsAll 16 = .ok (.iconst 0, 1) := by decide +kernel
theorem dX10_letsAll_17 : decode cX10_letsAll 17 = .ok (.putfield 380, 3) := by decide +kernel
theorem dX10_letsAll_20 : decode cX10_letsAll 20 = .ok (.iconst 5, 1) := by decide +kernel
theorem dX10_letsAll_21 : decode cX10_letsAll 21 = .ok (.istore_n 2, 1) := by decide +kernel
theorem dX10_letsAll_22 : decode cX10_letsAll 22 = .ok (.iload_n 2, 1) := by decide +kernel
theorem dX10_letsAll_23 : decode cX10_letsAll 23 = .ok (.bipush 100, 2) := by decide +kernel
theorem dX10_letsAll_25 : decode cX10_letsAll 25 = .ok (.if_icmp .gt 82, 3) := by decide +kernel
theorem dX10_letsAll_28 : decode cX10_letsAll 28 = .ok (.aload_n 0, 1) := by decide +kernel
theorem dX10_letsAll_29 : decode cX10_letsAll 29 = .ok (.iload_n 2, 1) := by decide +kernel
theorem dX10_letsAll_30 : decode cX10_letsAll 30 = .ok (.iload_n 1, 1) := by decide +kernel
theorem dX10_letsAll_31 : decode cX10_letsAll 31 = .ok (.invokevirtual 383, 3) := by decide +kernel
theorem dX10_letsAll_34 : decode cX10_letsAll 34 = .ok (.istore_n 3, 1) := by decide +kernel
theorem dX10_letsAll_35 : decode cX10_letsAll 35 = .ok (.aload_n 0, 1) := by decide +kernel
theorem dX10_letsAll_36 : decode cX10_letsAll 36 = .ok (.iload_n 3, 1) := by decide +kernel
theorem dX10_letsAll_37 : decode cX10_letsAll 37 = .ok (.aload_n 0, 1) := by decide +kernel
theorem dX10_letsAll_38 : decode cX10_letsAll 38 = .ok (.getfield 380, 3) := by decide +kernel
theorem dX10_letsAll_41 : decode cX10_letsAll 41 = .ok (.if_icmp .le 7, 3) := by decide +kernel
theorem dX10_letsAll_44 : decode cX10_letsAll 44 = .ok (.iload_n 3, 1) := by decide +kernel
theorem dX10_letsAll_45 : decode cX10_letsAll 45 = .ok (.goto 7, 3) := by decide +kernel
theorem dX10_letsAll_48 : decode cX10_letsAll 48 = .ok (.aload_n 0, 1) := by decide +kernel
theorem dX10_letsAll_49 : decode cX10_letsAll 49 = .ok (.getfield 380, 3) := by decide +kernel
theorem dX10_letsAll_52 : decode cX10_letsAll 52 = .ok (.putfield 380, 3) := by decide +kernel
theorem dX10_letsAll_55 : decode cX10_letsAll 55 = .ok (.iload_n 3, 1) := by decide +kernel
theorem dX10_letsAll_56 : decode cX10_letsAll 56 = .ok (.aload_n 0, 1) := by decide +kernel
theorem dX10_letsAll_57 : decode cX10_letsAll 57 = .ok (.getfield 368, 3) := by decide +kernel
theorem dX10_letsAll_60 : decode cX10_letsAll 60 = .ok (.if_icmp .ge 6, 3) := by decide +kernel
theorem dX10_letsAll_63 : decode cX10_letsAll 63 = .ok (.goto 38, 3) := by decide +kernel
theorem dX10_letsAll_66 : decode cX10_letsAll 66 = .ok (.aload_n 0, 1) := by decide +kernel
theorem dX10_letsAll_67 : decode cX10_letsAll 67 = .ok (.dup, 1) := by decide +kernel
theorem dX10_letsAll_68 : decode cX10_letsAll 68 = .ok (.getfield 371, 3) := by decide +kernel
theorem dX10_letsAll_71 : decode cX10_letsAll 71 = .ok (.iconst 1, 1) := by decide +kernel
theorem dX10_letsAll_72 : decode cX10_letsAll 72 = .ok (.iadd, 1) := by decide +kernel
theorem dX10_letsAll_73 : decode cX10_letsAll 73 = .ok (.putfield 371, 3) := by decide +kernel
theorem dX10_letsAll_76 : decode cX10_letsAll 76 = .ok (.aload_n 0, 1) := by decide +kernel
theorem dX10_letsAll_77 : decode cX10_letsAll 77 = .ok (.aload_n 0, 1) := by decide +kernel
theorem dX10_letsAll_78 : decode cX10_letsAll 78 = .ok (.getfield 374, 3) := by decide +kernel
theorem dX10_letsAll_81 : decode cX10_letsAll 81 = .ok (.iconst (-1), 1) := by decide +kernel
theorem dX10_letsAll_82 : decode cX10_letsAll 82 = .ok (.if_icmp .ne 7, 3) := by decide +kernel
theorem dX10_letsAll_85 : decode cX10_letsAll 85 = .ok (.iload_n 2, 1) := by decide +kernel
theorem dX10_letsAll_86 : decode cX10_letsAll 86 = .ok (.goto 7, 3) := by decide +kernel
theorem dX10_letsAll_89 : decode cX10_letsAll 89 = .ok (.aload_n 0, 1) := by decide +kernel
theorem dX10_letsAll_90 : decode cX10_letsAll 90 = .ok (.getfield 374, 3) := by decide +kernel
theorem dX10_letsAll_93 : decode cX10_letsAll 93 = .ok (.putfield 374, 3) := by decide +kernel
theorem dX10_letsAll_96 : decode cX10_letsAll 96 = .ok (.aload_n 0, 1) := by decide +kernel
theorem dX10_letsAll_97 : decode cX10_letsAll 97 = .ok (.iload_n 2, 1) := by decide +kernel
theorem dX10_letsAll_98 : decode cX10_letsAll 98 = .ok (.putfield 377, 3) := by decide +kernel
theorem dX10_letsAll_101 : decode cX10_letsAll 101 = .ok (.iinc 2 5, 3) := by decide +kernel
theorem dX10_letsAll_104 : decode cX10_letsAll 104 = .ok (.goto (-82), 3) := by decide +kernel
theorem dX10_letsAll_107 : decode cX10_letsAll 107 = .ok (.return_, 1) := by decide +kernel
theorem dX10_lets_0 : decode cX10_lets 0 = .ok (.iload_n 1, 1) := by decide +kernel
theorem dX10_lets_1 : decode cX10_lets 1 = .ok (.i2l, 1) := by decide +kernel
theorem dX10_lets_2 : decode cX10_lets 2 = .ok (.lconst 0, 1) := by decide +kernel
theorem dX10_lets_3 : decode cX10_lets 3 = .ok (.ldc2_w 366, 3) := by decide +kernel
theorem dX10_lets_6 : decode cX10_lets 6 = .ok (.invokestatic 125, 3) := by decide +kernel
theorem dX10_lets_9 : decode cX10_lets 9 = .ok (.ifCond .eq 15, 3) := by decide +kernel
theorem dX10_lets_12 : decode cX10_lets 12 = .ok (.iload_n 2, 1) := by decide +kernel
theorem dX10_lets_13 : decode cX10_lets 13 = .ok (.i2l, 1) := by decide +kernel
theorem dX10_lets_14 : decode cX10_lets 14 = .ok (.lconst 0, 1) := by decide +kernel
theorem dX10_lets_15 : decode cX10_lets 15 = .ok (.ldc2_w 386, 3) := by decide +kernel
theorem dX10_lets_18 : decode cX10_lets 18 = .ok (.invokestatic 125, 3) := by decide +kernel
theorem dX10_lets_21 : decode cX10_lets 21 = .ok (.ifCond .ne 6, 3) := by decide +kernel
theorem dX10_lets_24 : decode cX10_lets 24 = .ok (.bipush (-2), 2) := by decide +kernel
theorem dX10_lets_26 : decode cX10_lets 26 = .ok (.ireturn, 1) := by decide +kernel
theorem dX10_lets_27 : decode cX10_lets 27 = .ok (.aload_n 0, 1) := by decide +kernel
theorem dX10_lets_28 : decode cX10_lets 28 = .ok (.iload_n 1, 1) := by decide +kernel
theorem dX10_lets_29 : decode cX10_lets 29 = .ok (.invokevirtual 388, 3) := by decide +kernel
theorem dX10_lets_32 : decode cX10_lets 32 = .ok (.iload_n 2, 1) := by decide +kernel
theorem dX10_lets_33 : decode cX10_lets 33 = .ok (.ifCond .ne 10, 3) := by decide +kernel
theorem dX10_lets_36 : decode cX10_lets 36 = .ok (.aload_n 0, 1) := by decide +kernel
theorem dX10_lets_37 : decode cX10_lets 37 = .ok (.getfield 371, 3) := by decide +kernel
theorem dX10_lets_40 : decode cX10_lets 40 = .ok (.goto 19, 3) := by decide +kernel
theorem dX10_lets_43 : decode cX10_lets 43 = .ok (.iload_n 2, 1) := by decide +kernel
theorem dX10_lets_44 : decode cX10_lets 44 = .ok (.iconst 1, 1) := by decide +kernel
theorem dX10_lets_45 : decode cX10_lets 45 = .ok (.if_icmp .ne 10, 3) := by decide +kernel
theorem dX10_lets_48 : decode cX10_lets 48 = .ok (.aload_n 0, 1) := by decide +kernel
theorem dX10_lets_49 : decode cX10_lets 49 = .ok (.getfield 374, 3) := by decide +kernel
theorem dX10_lets_52 : decode cX10_lets 52 = .ok (.goto 7, 3) := by decide +kernel
theorem dX10_lets_55 : decode cX10_lets 55 = .ok (.aload_n 0, 1) := by decide +kernel
theorem dX10_lets_56 : decode cX10_lets 56 = .ok (.getfield 377, 3) := by decide +kernel
theorem dX10_lets_59 : decode cX10_lets 59 = .ok (.ireturn, 1) := by decide +kernel
theorem dX10_thrownOut_0 : decode cX10_thrownOut 0 = .ok (.iload_n 1, 1) := by decide +kernel
theorem dX10_thrownOut_1 : decode cX10_thrownOut 1 = .ok (.i2l, 1) := by decide +kernel
theorem dX10_thrownOut_2 : decode cX10_thrownOut 2 = .ok (.lconst 0, 1) := by decide +kernel
theorem dX10_thrownOut_3 : decode cX10_thrownOut 3 = .ok (.ldc2_w 366, 3) := by decide +kernel
theorem dX10_thrownOut_6 : decode cX10_thrownOut 6 = .ok (.invokestatic 125, 3) := by decide +kernel
theorem dX10_thrownOut_9 : decode cX10_thrownOut 9 = .ok (.ifCond .ne 6, 3) := by decide +kernel
theorem dX10_thrownOut_12 : decode cX10_thrownOut 12 = .ok (.bipush (-2), 2) := by decide +kernel
theorem dX10_thrownOut_14 : decode cX10_thrownOut 14 = .ok (.ireturn, 1) := by decide +kernel
theorem dX10_thrownOut_15 : decode cX10_thrownOut 15 = .ok (.aload_n 0, 1) := by decide +kernel
theorem dX10_thrownOut_16 : decode cX10_thrownOut 16 = .ok (.iload_n 1, 1) := by decide +kernel
theorem dX10_thrownOut_17 : decode cX10_thrownOut 17 = .ok (.invokevirtual 388, 3) := by decide +kernel
theorem dX10_thrownOut_20 : decode cX10_thrownOut 20 = .ok (.aload_n 0, 1) := by decide +kernel
theorem dX10_thrownOut_21 : decode cX10_thrownOut 21 = .ok (.getfield 371, 3) := by decide +kernel
theorem dX10_thrownOut_24 : decode cX10_thrownOut 24 = .ok (.ifCond .le 7, 3) := by decide +kernel
theorem dX10_thrownOut_27 : decode cX10_thrownOut 27 = .ok (.iconst (-1), 1) := by decide +kernel
theorem dX10_thrownOut_28 : decode cX10_thrownOut 28 = .ok (.goto 7, 3) := by decide +kernel
theorem dX10_thrownOut_31 : decode cX10_thrownOut 31 = .ok (.aload_n 0, 1) := by decide +kernel
theorem dX10_thrownOut_32 : decode cX10_thrownOut 32 = .ok (.getfield 380, 3) := by decide +kernel
theorem dX10_thrownOut_35 : decode cX10_thrownOut 35 = .ok (.ireturn, 1) := by decide +kernel
theorem dX10_behind_0 : decode cX10_behind 0 = .ok (.aload_n 0, 1) := by decide +kernel
theorem dX10_behind_1 : decode cX10_behind 1 = .ok (.iconst 1, 1) := by decide +kernel
theorem dX10_behind_2 : decode cX10_behind 2 = .ok (.invokevirtual 359, 3) := by decide +kernel
theorem dX10_behind_5 : decode cX10_behind 5 = .ok (.aload_n 0, 1) := by decide +kernel
theorem dX10_behind_6 : decode cX10_behind 6 = .ok (.iload_n 1, 1) := by decide +kernel
theorem dX10_behind_7 : decode cX10_behind 7 = .ok (.putfield 117, 3) := by decide +kernel
theorem dX10_behind_10 : decode cX10_behind 10 = .ok (.iconst 0, 1) := by decide +kernel
theorem dX10_behind_11 : decode cX10_behind 11 = .ok (.istore 4, 2) := by decide +kernel
theorem dX10_behind_13 : decode cX10_behind 13 = .ok (.iload 4, 2) := by decide +kernel
theorem dX10_behind_15 : decode cX10_behind 15 = .ok (.aload_n 0, 1) := by decide +kernel
theorem dX10_behind_16 : decode cX10_behind 16 = .ok (.getfield 368, 3) := by decide +kernel
theorem dX10_behind_19 : decode cX10_behind 19 = .ok (.if_icmp .ge 21, 3) := by decide +kernel
theorem dX10_behind_22 : decode cX10_behind 22 = .ok (.aload_n 0, 1) := by decide +kernel
theorem dX10_behind_23 : decode cX10_behind 23 = .ok (.aload_n 0, 1) := by decide +kernel
theorem dX10_behind_24 : decode cX10_behind 24 = .ok (.getfield 68, 3) := by decide +kernel
theorem dX10_behind_27 : decode cX10_behind 27 = .ok (.iload 4, 2) := by decide +kernel
theorem dX10_behind_29 : decode cX10_behind 29 = .ok (.iaload, 1) := by decide +kernel
theorem dX10_behind_30 : decode cX10_behind 30 = .ok (.iconst 0, 1) := by decide +kernel
theorem dX10_behind_31 : decode cX10_behind 31 = .ok (.invokevirtual 339, 3) := by decide +kernel
theorem dX10_behind_34 : decode cX10_behind 34 = .ok (.iinc 4 1, 3) := by decide +kernel
theorem dX10_behind_37 : decode cX10_behind 37 = .ok (.goto (-24), 3) := by decide +kernel
theorem dX10_behind_40 : decode cX10_behind 40 = .ok (.aload_n 0, 1) := by decide +kernel
theorem dX10_behind_41 : decode cX10_behind 41 = .ok (.iload_n 2, 1) := by decide +kernel
theorem dX10_behind_42 : decode cX10_behind 42 = .ok (.iconst 0, 1) := by decide +kernel
theorem dX10_behind_43 : decode cX10_behind 43 = .ok (.invokevirtual 339, 3) := by decide +kernel
theorem dX10_behind_46 : decode cX10_behind 46 = .ok (.aload_n 0, 1) := by decide +kernel
theorem dX10_behind_47 : decode cX10_behind 47 = .ok (.iload_n 3, 1) := by decide +kernel
theorem dX10_behind_48 : decode cX10_behind 48 = .ok (.invokevirtual 334, 3) := by decide +kernel
theorem dX10_behind_51 : decode cX10_behind 51 = .ok (.istore 4, 2) := by decide +kernel
theorem dX10_behind_53 : decode cX10_behind 53 = .ok (.aload_n 0, 1) := by decide +kernel
theorem dX10_behind_54 : decode cX10_behind 54 = .ok (.invokevirtual 363, 3) := by decide +kernel
theorem dX10_behind_57 : decode cX10_behind 57 = .ok (.iload 4, 2) := by decide +kernel
theorem dX10_behind_59 : decode cX10_behind 59 = .ok (.ireturn, 1) := by decide +kernel
theorem dX10_next__0 : decode cX10_next_ 0 = .ok (.iload_n 1, 1) := by decide +kernel
theorem dX10_next__1 : decode cX10_next_ 1 = .ok (.i2l, 1) := by decide +kernel
theorem dX10_next__2 : decode cX10_next_ 2 = .ok (.lconst 0, 1) := by decide +kernel
theorem dX10_next__3 : decode cX10_next_ 3 = .ok (.ldc2_w 366, 3) := by decide +kernel
theorem dX10_next__6 : decode cX10_next_ 6 = .ok (.invokestatic 125, 3) := by decide +kernel
theorem dX10_next__9 : decode cX10_next_ 9 = .ok (.ifCond .eq 25, 3) := by decide +kernel
theorem dX10_next__12 : decode cX10_next_ 12 = .ok (.iload_n 2, 1) := by decide +kernel
theorem dX10_next__13 : decode cX10_next_ 13 = .ok (.ifCond .eq 21, 3) := by decide +kernel
theorem dX10_next__16 : decode cX10_next_ 16 = .ok (.aload_n 0, 1) := by decide +kernel
theorem dX10_next__17 : decode cX10_next_ 17 = .ok (.iload_n 2, 1) := by decide +kernel
theorem dX10_next__18 : decode cX10_next_ 18 = .ok (.invokevirtual 331, 3) := by decide +kernel
theorem dX10_next__21 : decode cX10_next_ 21 = .ok (.ifCond .eq 13, 3) := by decide +kernel
theorem dX10_next__24 : decode cX10_next_ 24 = .ok (.iload_n 3, 1) := by decide +kernel
theorem dX10_next__25 : decode cX10_next_ 25 = .ok (.i2l, 1) := by decide +kernel
theorem dX10_next__26 : decode cX10_next_ 26 = .ok (.lconst 0, 1) := by decide +kernel
theorem dX10_next__27 : decode cX10_next_ 27 = .ok (.lconst 1, 1) := by decide +kernel
theorem dX10_next__28 : decode cX10_next_ 28 = .ok (.invokestatic 125, 3) := by decide +kernel
theorem dX10_next__31 : decode cX10_next_ 31 = .ok (.ifCond .ne 6, 3) := by decide +kernel
theorem dX10_next__34 : decode cX10_next_ 34 = .ok (.bipush (-2), 2) := by decide +kernel
theorem dX10_next__36 : decode cX10_next_ 36 = .ok (.ireturn, 1) := by decide +kernel
theorem dX10_next__37 : decode cX10_next_ 37 = .ok (.aload_n 0, 1) := by decide +kernel
theorem dX10_next__38 : decode cX10_next_ 38 = .ok (.iload_n 1, 1) := by decide +kernel
theorem dX10_next__39 : decode cX10_next_ 39 = .ok (.invokevirtual 388, 3) := by decide +kernel
theorem dX10_next__42 : decode cX10_next_ 42 = .ok (.aload_n 0, 1) := by decide +kernel
theorem dX10_next__43 : decode cX10_next_ 43 = .ok (.getfield 371, 3) := by decide +kernel
theorem dX10_next__46 : decode cX10_next_ 46 = .ok (.ifCond .eq 10, 3) := by decide +kernel
theorem dX10_next__49 : decode cX10_next_ 49 = .ok (.aload_n 0, 1) := by decide +kernel
theorem dX10_next__50 : decode cX10_next_ 50 = .ok (.getfield 302, 3) := by decide +kernel
theorem dX10_next__53 : decode cX10_next_ 53 = .ok (.ifCond .ne 6, 3) := by decide +kernel
theorem dX10_next__56 : decode cX10_next_ 56 = .ok (.bipush (-3), 2) := by decide +kernel
theorem dX10_next__58 : decode cX10_next_ 58 = .ok (.ireturn, 1) := by decide +kernel
theorem dX10_next__59 : decode cX10_next_ 59 = .ok (.iconst 0, 1) := by decide +kernel
theorem dX10_next__60 : decode cX10_next_ 60 = .ok (.istore 4, 2) := by decide +kernel
theorem dX10_next__62 : decode cX10_next_ 62 = .ok (.iconst (-1), 1) := by decide +kernel
theorem dX10_next__63 : decode cX10_next_ 63 = .ok (.istore 5, 2) := by decide +kernel
theorem dX10_next__65 : decode cX10_next_ 65 = .ok (.iconst 0, 1) := by decide +kernel
theorem dX10_next__66 : decode cX10_next_ 66 = .ok (.istore 6, 2) := by decide +kernel
theorem dX10_next__68 : decode cX10_next_ 68 = .ok (.iload 6, 2) := by decide +kernel
theorem dX10_next__70 : decode cX10_next_ 70 = .ok (.aload_n 0, 1) := by decide +kernel
theorem dX10_next__71 : decode cX10_next_ 71 = .ok (.getfield 302, 3) := by decide +kernel
theorem dX10_next__74 : decode cX10_next_ 74 = .ok (.if_icmp .ge 67, 3) := by decide +kernel
theorem dX10_next__77 : decode cX10_next_ 77 = .ok (.aload_n 0, 1) := by decide +kernel
theorem dX10_next__78 : decode cX10_next_ 78 = .ok (.aload_n 0, 1) := by decide +kernel
theorem dX10_next__79 : decode cX10_next_ 79 = .ok (.getfield 374, 3) := by decide +kernel
theorem dX10_next__82 : decode cX10_next_ 82 = .ok (.iload 6, 2) := by decide +kernel
theorem dX10_next__84 : decode cX10_next_ 84 = .ok (.iload_n 2, 1) := by decide +kernel
theorem dX10_next__85 : decode cX10_next_ 85 = .ok (.invokevirtual 392, 3) := by decide +kernel
theorem dX10_next__88 : decode cX10_next_ 88 = .ok (.aload_n 0, 1) := by decide +kernel
theorem dX10_next__89 : decode cX10_next_ 89 = .ok (.aload_n 0, 1) := by decide +kernel
theorem dX10_next__90 : decode cX10_next_ 90 = .ok (.getfield 377, 3) := by decide +kernel
theorem dX10_next__93 : decode cX10_next_ 93 = .ok (.iload 6, 2) := by decide +kernel
theorem dX10_next__95 : decode cX10_next_ 95 = .ok (.iload_n 2, 1) := by decide +kernel
theorem dX10_next__96 : decode cX10_next_ 96 = .ok (.invokevirtual 392, 3) := by decide +kernel
theorem dX10_next__99 : decode cX10_next_ 99 = .ok (.isub, 1) := by decide +kernel
theorem dX10_next__100 : decode cX10_next_ 100 = .ok (.istore 7, 2) := by decide +kernel
theorem dX10_next__102 : decode cX10_next_ 102 = .ok (.iload 7, 2) := by decide +kernel
theorem dX10_next__104 : decode cX10_next_ 104 = .ok (.ifCond .ge 9, 3) := by decide +kernel
theorem dX10_next__107 : decode cX10_next_ 107 = .ok (.iload 7, 2) := by decide +kernel
theorem dX10_next__109 : decode cX10_next_ 109 = .ok (.ineg, 1) := by decide +kernel
theorem dX10_next__110 : decode cX10_next_ 110 = .ok (.goto 5, 3) := by decide +kernel
theorem dX10_next__113 : decode cX10_next_ 113 = .ok (.iload 7, 2) := by decide +kernel
theorem dX10_next__115 : decode cX10_next_ 115 = .ok (.istore 7, 2) := by decide +kernel
theorem dX10_next__117 : decode cX10_next_ 117 = .ok (.iload 7, 2) := by decide +kernel
theorem dX10_next__119 : decode cX10_next_ 119 = .ok (.iload 5, 2) := by decide +kernel
theorem dX10_next__121 : decode cX10_next_ 121 = .ok (.if_icmp .gt 6, 3) := by decide +kernel
theorem dX10_next__124 : decode cX10_next_ 124 = .ok (.goto 11, 3) := by decide +kernel
theorem dX10_next__127 : decode cX10_next_ 127 = .ok (.iload 7, 2) := by decide +kernel
theorem dX10_next__129 : decode cX10_next_ 129 = .ok (.istore 5, 2) := by decide +kernel
theorem dX10_next__131 : decode cX10_next_ 131 = .ok (.iload 6, 2) := by decide +kernel
theorem dX10_next__133 : decode cX10_next_ 133 = .ok (.istore 4, 2) := by decide +kernel
theorem dX10_next__135 : decode cX10_next_ 135 = .ok (.iinc 6 1, 3) := by decide +kernel
theorem dX10_next__138 : decode cX10_next_ 138 = .ok (.goto (-70), 3) := by decide +kernel
theorem dX10_next__141 : decode cX10_next_ 141 = .ok (.iload_n 3, 1) := by decide +kernel
theorem dX10_next__142 : decode cX10_next_ 142 = .ok (.ifCond .ne 8, 3) := by decide +kernel
theorem dX10_next__145 : decode cX10_next_ 145 = .ok (.iload 4, 2) := by decide +kernel
theorem dX10_next__147 : decode cX10_next_ 147 = .ok (.goto 5, 3) := by decide +kernel
theorem dX10_next__150 : decode cX10_next_ 150 = .ok (.iload 5, 2) := by decide +kernel
theorem dX10_next__152 : decode cX10_next_ 152 = .ok (.ireturn, 1) := by decide +kernel
theorem dX10_near_0 : decode cX10_near 0 = .ok (.aload_n 0, 1) := by decide +kernel
theorem dX10_near_1 : decode cX10_near 1 = .ok (.iload_n 1, 1) := by decide +kernel
theorem dX10_near_2 : decode cX10_near 2 = .ok (.invokevirtual 142, 3) := by decide +kernel
theorem dX10_near_5 : decode cX10_near 5 = .ok (.ifCond .eq 50, 3) := by decide +kernel
theorem dX10_near_8 : decode cX10_near 8 = .ok (.aload_n 0, 1) := by decide +kernel
theorem dX10_near_9 : decode cX10_near 9 = .ok (.iload_n 2, 1) := by decide +kernel
theorem dX10_near_10 : decode cX10_near 10 = .ok (.invokevirtual 142, 3) := by decide +kernel
theorem dX10_near_13 : decode cX10_near 13 = .ok (.ifCond .eq 42, 3) := by decide +kernel
theorem dX10_near_16 : decode cX10_near 16 = .ok (.iload_n 1, 1) := by decide +kernel
theorem dX10_near_17 : decode cX10_near 17 = .ok (.iload_n 2, 1) := by decide +kernel
theorem dX10_near_18 : decode cX10_near 18 = .ok (.if_icmp .eq 37, 3) := by decide +kernel
theorem dX10_near_21 : decode cX10_near 21 = .ok (.aload_n 0, 1) := by decide +kernel
theorem dX10_near_22 : decode cX10_near 22 = .ok (.iload_n 3, 1) := by decide +kernel
theorem dX10_near_23 : decode cX10_near 23 = .ok (.invokevirtual 308, 3) := by decide +kernel
theorem dX10_near_26 : decode cX10_near 26 = .ok (.ifCond .eq 29, 3) := by decide +kernel
theorem dX10_near_29 : decode cX10_near 29 = .ok (.iload 4, 2) := by decide +kernel
theorem dX10_near_31 : decode cX10_near 31 = .ok (.i2l, 1) := by decide +kernel
theorem dX10_near_32 : decode cX10_near 32 = .ok (.lconst 1, 1) := by decide +kernel
theorem dX10_near_33 : decode cX10_near 33 = .ok (.ldc2_w 395, 3) := by decide +kernel
theorem dX10_near_36 : decode cX10_near 36 = .ok (.invokestatic 125, 3) := by decide +kernel
theorem dX10_near_39 : decode cX10_near 39 = .ok (.ifCond .eq 16, 3) := by decide +kernel
theorem dX10_near_42 : decode cX10_near 42 = .ok (.iload 5, 2) := by decide +kernel
theorem dX10_near_44 : decode cX10_near 44 = .ok (.i2l, 1) := by decide +kernel
theorem dX10_near_45 : decode cX10_near 45 = .ok (.lconst 1, 1) := by decide +kernel
theorem dX10_near_46 : decode cX10_near 46 = .ok (.ldc2_w 366, 3) := by decide +kernel
theorem dX10_near_49 : decode cX10_near 49 = .ok (.invokestatic 125, 3) := by decide +kernel
theorem dX10_near_52 : decode cX10_near 52 = .ok (.ifCond .ne 6, 3) := by decide +kernel
theorem dX10_near_55 : decode cX10_near 55 = .ok (.bipush (-2), 2) := by decide +kernel
theorem dX10_near_57 : decode cX10_near 57 = .ok (.ireturn, 1) := by decide +kernel
theorem dX10_near_58 : decode cX10_near 58 = .ok (.aload_n 0, 1) := by decide +kernel
theorem dX10_near_59 : decode cX10_near 59 = .ok (.getfield 38, 3) := by decide +kernel
theorem dX10_near_62 : decode cX10_near 62 = .ok (.bipush 8, 2) := by decide +kernel
theorem dX10_near_64 : decode cX10_near 64 = .ok (.iload_n 1, 1) := by decide +kernel
theorem dX10_near_65 : decode cX10_near 65 = .ok (.imul, 1) := by decide +kernel
theorem dX10_near_66 : decode cX10_near 66 = .ok (.iload_n 2, 1) := by decide +kernel
theorem dX10_near_67 : decode cX10_near 67 = .ok (.iadd, 1) := by decide +kernel
theorem dX10_near_68 : decode cX10_near 68 = .ok (.iaload, 1) := by decide +kernel
theorem dX10_near_69 : decode cX10_near 69 = .ok (.istore 6, 2) := by decide +kernel
theorem dX10_near_71 : decode cX10_near 71 = .ok (.iconst (-1), 1) := by decide +kernel
theorem dX10_near_72 : decode cX10_near 72 = .ok (.istore 7, 2) := by decide +kernel
theorem dX10_near_74 : decode cX10_near 74 = .ok (.bipush 100, 2) := by decide +kernel
theorem dX10_near_76 : decode cX10_near 76 = .ok (.istore 8, 2) := by decide +kernel
theorem dX10_near_78 : decode cX10_near 78 = .ok (.iload 8, 2) := by decide +kernel
theorem dX10_near_80 : decode cX10_near 80 = .ok (.ifCond .lt 112, 3) := by decide +kernel
theorem dX10_near_83 : decode cX10_near 83 = .ok (.iload 7, 2) := by decide +kernel
theorem dX10_near_85 : decode cX10_near 85 = .ok (.iconst (-1), 1) := by decide +kernel
theorem dX10_near_86 : decode cX10_near 86 = .ok (.if_icmp .ne 106, 3) := by decide +kernel
theorem dX10_near_89 : decode cX10_near 89 = .ok (.aload_n 0, 1) := by decide +kernel
theorem dX10_near_90 : decode cX10_near 90 = .ok (.getfield 38, 3) := by decide +kernel
theorem dX10_near_93 : decode cX10_near 93 = .ok (.bipush 8, 2) := by decide +kernel
theorem dX10_near_95 : decode cX10_near 95 = .ok (.iload_n 1, 1) := by decide +kernel
theorem dX10_near_96 : decode cX10_near 96 = .ok (.imul, 1) := by decide +kernel
theorem dX10_near_97 : decode cX10_near 97 = .ok (.iload_n 2, 1) := by decide +kernel
theorem dX10_near_98 : decode cX10_near 98 = .ok (.iadd, 1) := by decide +kernel
theorem dX10_near_99 : decode cX10_near 99 = .ok (.iload 8, 2) := by decide +kernel
theorem dX10_near_101 : decode cX10_near 101 = .ok (.iastore, 1) := by decide +kernel
theorem dX10_near_102 : decode cX10_near 102 = .ok (.aload_n 0, 1) := by decide +kernel
theorem dX10_near_103 : decode cX10_near 103 = .ok (.getfield 38, 3) := by decide +kernel
theorem dX10_near_106 : decode cX10_near 106 = .ok (.bipush 8, 2) := by decide +kernel
theorem dX10_near_108 : decode cX10_near 108 = .ok (.iload_n 2, 1) := by decide +kernel
theorem dX10_near_109 : decode cX10_near 109 = .ok (.imul, 1) := by decide +kernel
theorem dX10_near_110 : decode cX10_near 110 = .ok (.iload_n 1, 1) := by decide +kernel
theorem dX10_near_111 : decode cX10_near 111 = .ok (.iadd, 1) := by decide +kernel
theorem dX10_near_112 : decode cX10_near 112 = .ok (.iload 8, 2) := by decide +kernel
theorem dX10_near_114 : decode cX10_near 114 = .ok (.iastore, 1) := by decide +kernel
theorem dX10_near_115 : decode cX10_near 115 = .ok (.aload_n 0, 1) := by decide +kernel
theorem dX10_near_116 : decode cX10_near 116 = .ok (.iconst 1, 1) := by decide +kernel
theorem dX10_near_117 : decode cX10_near 117 = .ok (.invokevirtual 359, 3) := by decide +kernel
theorem dX10_near_120 : decode cX10_near 120 = .ok (.iconst 0, 1) := by decide +kernel
theorem dX10_near_121 : decode cX10_near 121 = .ok (.istore 9, 2) := by decide +kernel
theorem dX10_near_123 : decode cX10_near 123 = .ok (.iload 9, 2) := by decide +kernel
theorem dX10_near_125 : decode cX10_near 125 = .ok (.iload 4, 2) := by decide +kernel
theorem dX10_near_127 : decode cX10_near 127 = .ok (.if_icmp .ge 15, 3) := by decide +kernel
theorem dX10_near_130 : decode cX10_near 130 = .ok (.aload_n 0, 1) := by decide +kernel
theorem dX10_near_131 : decode cX10_near 131 = .ok (.iload_n 3, 1) := by decide +kernel
theorem dX10_near_132 : decode cX10_near 132 = .ok (.iconst 0, 1) := by decide +kernel
theorem dX10_near_133 : decode cX10_near 133 = .ok (.invokevirtual 339, 3) := by decide +kernel
theorem dX10_near_136 : decode cX10_near 136 = .ok (.iinc 9 1, 3) := by decide +kernel
theorem dX10_near_139 : decode cX10_near 139 = .ok (.goto (-16), 3) := by decide +kernel
theorem dX10_near_142 : decode cX10_near 142 = .ok (.aload_n 0, 1) := by decide +kernel
theorem dX10_near_143 : decode cX10_near 143 = .ok (.iconst 1, 1) := by decide +kernel
theorem dX10_near_144 : decode cX10_near 144 = .ok (.iload_n 1, 1) := by decide +kernel
theorem dX10_near_145 : decode cX10_near 145 = .ok (.ishl, 1) := by decide +kernel
theorem dX10_near_146 : decode cX10_near 146 = .ok (.invokevirtual 334, 3) := by decide +kernel
theorem dX10_near_149 : decode cX10_near 149 = .ok (.aload_n 0, 1) := by decide +kernel
theorem dX10_near_150 : decode cX10_near 150 = .ok (.iconst 1, 1) := by decide +kernel
theorem dX10_near_151 : decode cX10_near 151 = .ok (.iload_n 2, 1) := by decide +kernel
theorem dX10_near_152 : decode cX10_near 152 = .ok (.ishl, 1) := by decide +kernel
theorem dX10_near_153 : decode cX10_near 153 = .ok (.invokevirtual 334, 3) := by decide +kernel
theorem dX10_near_156 : decode cX10_near 156 = .ok (.isub, 1) := by decide +kernel
theorem dX10_near_157 : decode cX10_near 157 = .ok (.istore 9, 2) := by decide +kernel
theorem dX10_near_159 : decode cX10_near 159 = .ok (.iload 9, 2) := by decide +kernel
theorem dX10_near_161 : decode cX10_near 161 = .ok (.iload 5, 2) := by decide +kernel
theorem dX10_near_163 : decode cX10_near 163 = .ok (.if_icmp .ge 11, 3) := by decide +kernel
theorem dX10_near_166 : decode cX10_near 166 = .ok (.iload 9, 2) := by decide +kernel
theorem dX10_near_168 : decode cX10_near 168 = .ok (.iload 5, 2) := by decide +kernel
theorem dX10_near_170 : decode cX10_near 170 = .ok (.ineg, 1) := by decide +kernel
theorem dX10_near_171 : decode cX10_near 171 = .ok (.if_icmp .gt 8, 3) := by decide +kernel
theorem dX10_near_174 : decode cX10_near 174 = .ok (.iload 8, 2) := by decide +kernel
theorem dX10_near_176 : decode cX10_near 176 = .ok (.goto 4, 3) := by decide +kernel
theorem dX10_near_179 : decode cX10_near 179 = .ok (.iconst (-1), 1) := by decide +kernel
theorem dX10_near_180 : decode cX10_near 180 = .ok (.istore 7, 2) := by decide +kernel
theorem dX10_near_182 : decode cX10_near 182 = .ok (.aload_n 0, 1) := by decide +kernel
theorem dX10_near_183 : decode cX10_near 183 = .ok (.invokevirtual 363, 3) := by decide +kernel
theorem dX10_near_186 : decode cX10_near 186 = .ok (.iinc 8 (-5), 3) := by decide +kernel
theorem dX10_near_189 : decode cX10_near 189 = .ok (.goto (-111), 3) := by decide +kernel
theorem dX10_near_192 : decode cX10_near 192 = .ok (.aload_n 0, 1) := by decide +kernel
theorem dX10_near_193 : decode cX10_near 193 = .ok (.getfield 38, 3) := by decide +kernel
theorem dX10_near_196 : decode cX10_near 196 = .ok (.bipush 8, 2) := by decide +kernel
theorem dX10_near_198 : decode cX10_near 198 = .ok (.iload_n 1, 1) := by decide +kernel
theorem dX10_near_199 : decode cX10_near 199 = .ok (.imul, 1) := by decide +kernel
theorem dX10_near_200 : decode cX10_near 200 = .ok (.iload_n 2, 1) := by decide +kernel
theorem dX10_near_201 : decode cX10_near 201 = .ok (.iadd, 1) := by decide +kernel
theorem dX10_near_202 : decode cX10_near 202 = .ok (.iload 6, 2) := by decide +kernel
theorem dX10_near_204 : decode cX10_near 204 = .ok (.iastore, 1) := by decide +kernel
theorem dX10_near_205 : decode cX10_near 205 = .ok (.aload_n 0, 1) := by decide +kernel
theorem dX10_near_206 : decode cX10_near 206 = .ok (.getfield 38, 3) := by decide +kernel
theorem dX10_near_209 : decode cX10_near 209 = .ok (.bipush 8, 2) := by decide +kernel
theorem dX10_near_211 : decode cX10_near 211 = .ok (.iload_n 2, 1) := by decide +kernel
theorem dX10_near_212 : decode cX10_near 212 = .ok (.imul, 1) := by decide +kernel
theorem dX10_near_213 : decode cX10_near 213 = .ok (.iload_n 1, 1) := by decide +kernel
theorem dX10_near_214 : decode cX10_near 214 = .ok (.iadd, 1) := by decide +kernel
theorem dX10_near_215 : decode cX10_near 215 = .ok (.iload 6, 2) := by decide +kernel
theorem dX10_near_217 : decode cX10_near 217 = .ok (.iastore, 1) := by decide +kernel
theorem dX10_near_218 : decode cX10_near 218 = .ok (.iload 7, 2) := by decide +kernel
theorem dX10_near_220 : decode cX10_near 220 = .ok (.ireturn, 1) := by decide +kernel
theorem dX10_image_0 : decode cX10_image 0 = .ok (.aload_n 0, 1) := by decide +kernel
theorem dX10_image_1 : decode cX10_image 1 = .ok (.iconst 1, 1) := by decide +kernel
theorem dX10_image_2 : decode cX10_image 2 = .ok (.putfield 397, 3) := by decide +kernel
theorem dX10_image_5 : decode cX10_image 5 = .ok (.aload_n 0, 1) := by decide +kernel
theorem dX10_image_6 : decode cX10_image 6 = .ok (.aload_n 0, 1) := by decide +kernel
theorem dX10_image_7 : decode cX10_image 7 = .ok (.getfield 122, 3) := by decide +kernel
theorem dX10_image_10 : decode cX10_image 10 = .ok (.putfield 400, 3) := by decide +kernel
theorem dX10_image_13 : decode cX10_image 13 = .ok (.aload_n 0, 1) := by decide +kernel
theorem dX10_image_14 : decode cX10_image 14 = .ok (.aload_n 0, 1) := by decide +kernel
theorem dX10_image_15 : decode cX10_image 15 = .ok (.getfield 245, 3) := by decide +kernel
theorem dX10_image_18 : decode cX10_image 18 = .ok (.putfield 403, 3) := by decide +kernel
theorem dX10_image_21 : decode cX10_image 21 = .ok (.aload_n 0, 1) := by decide +kernel
theorem dX10_image_22 : decode cX10_image 22 = .ok (.aload_n 0, 1) := by decide +kernel
theorem dX10_image_23 : decode cX10_image 23 = .ok (.getfield 317, 3) := by decide +kernel
theorem dX10_image_26 : decode cX10_image 26 = .ok (.putfield 406, 3) := by decide +kernel
theorem dX10_image_29 : decode cX10_image 29 = .ok (.aload_n 0, 1) := by decide +kernel
theorem dX10_image_30 : decode cX10_image 30 = .ok (.aload_n 0, 1) := by decide +kernel
theorem dX10_image_31 : decode cX10_image 31 = .ok (.getfield 117, 3) := by decide +kernel
theorem dX10_image_34 : decode cX10_image 34 = .ok (.putfield 409, 3) := by decide +kernel
theorem dX10_image_37 : decode cX10_image 37 = .ok (.aload_n 0, 1) := by decide +kernel
theorem dX10_image_38 : decode cX10_image 38 = .ok (.aload_n 0, 1) := by decide +kernel
theorem dX10_image_39 : decode cX10_image 39 = .ok (.getfield 131, 3) := by decide +kernel
theorem dX10_image_42 : decode cX10_image 42 = .ok (.putfield 412, 3) := by decide +kernel
theorem dX10_image_45 : decode cX10_image 45 = .ok (.iconst 0, 1) := by decide +kernel
theorem dX10_image_46 : decode cX10_image 46 = .ok (.istore_n 1, 1) := by decide +kernel
theorem dX10_image_47 : decode cX10_image 47 = .ok (.iload_n 1, 1) := by decide +kernel
theorem dX10_image_48 : decode cX10_image 48 = .ok (.aload_n 0, 1) := by decide +kernel
theorem dX10_image_49 : decode cX10_image 49 = .ok (.getfield 122, 3) := by decide +kernel
theorem dX10_image_52 : decode cX10_image 52 = .ok (.if_icmp .ge 33, 3) := by decide +kernel
theorem dX10_image_55 : decode cX10_image 55 = .ok (.aload_n 0, 1) := by decide +kernel
theorem dX10_image_56 : decode cX10_image 56 = .ok (.getfield 77, 3) := by decide +kernel
theorem dX10_image_59 : decode cX10_image 59 = .ok (.iload_n 1, 1) := by decide +kernel
theorem dX10_image_60 : decode cX10_image 60 = .ok (.aload_n 0, 1) := by decide +kernel
theorem dX10_image_61 : decode cX10_image 61 = .ok (.getfield 26, 3) := by decide +kernel
theorem dX10_image_64 : decode cX10_image 64 = .ok (.iload_n 1, 1) := by decide +kernel
theorem dX10_image_65 : decode cX10_image 65 = .ok (.iaload, 1) := by decide +kernel
theorem dX10_image_66 : decode cX10_image 66 = .ok (.iastore, 1) := by decide +kernel
theorem dX10_image_67 : decode cX10_image 67 = .ok (.aload_n 0, 1) := by decide +kernel
theorem dX10_image_68 : decode cX10_image 68 = .ok (.getfield 80, 3) := by decide +kernel
theorem dX10_image_71 : decode cX10_image 71 = .ok (.iload_n 1, 1) := by decide +kernel
theorem dX10_image_72 : decode cX10_image 72 = .ok (.aload_n 0, 1) := by decide +kernel
theorem dX10_image_73 : decode cX10_image 73 = .ok (.getfield 29, 3) := by decide +kernel
theorem dX10_image_76 : decode cX10_image 76 = .ok (.iload_n 1, 1) := by decide +kernel
theorem dX10_image_77 : decode cX10_image 77 = .ok (.iaload, 1) := by decide +kernel
theorem dX10_image_78 : decode cX10_image 78 = .ok (.iastore, 1) := by decide +kernel
theorem dX10_image_79 : decode cX10_image 79 = .ok (.iinc 1 1, 3) := by decide +kernel
theorem dX10_image_82 : decode cX10_image 82 = .ok (.goto (-35), 3) := by decide +kernel
theorem dX10_image_85 : decode cX10_image 85 = .ok (.iconst 0, 1) := by decide +kernel
theorem dX10_image_86 : decode cX10_image 86 = .ok (.istore_n 1, 1) := by decide +kernel
theorem dX10_image_87 : decode cX10_image 87 = .ok (.iload_n 1, 1) := by decide +kernel
theorem dX10_image_88 : decode cX10_image 88 = .ok (.iconst 4, 1) := by decide +kernel
theorem dX10_image_89 : decode cX10_image 89 = .ok (.if_icmp .ge 21, 3) := by decide +kernel
theorem dX10_image_92 : decode cX10_image 92 = .ok (.aload_n 0, 1) := by decide +kernel
theorem dX10_image_93 : decode cX10_image 93 = .ok (.getfield 83, 3) := by decide +kernel
theorem dX10_image_96 : decode cX10_image 96 = .ok (.iload_n 1, 1) := by decide +kernel
theorem dX10_image_97 : decode cX10_image 97 = .ok (.aload_n 0, 1) := by decide +kernel
theorem dX10_image_98 : decode cX10_image 98 = .ok (.getfield 53, 3) := by decide +kernel
theorem dX10_image_101 : decode cX10_image 101 = .ok (.iload_n 1, 1) := by decide +kernel
theorem dX10_image_102 : decode cX10_image 102 = .ok (.iaload, 1) := by decide +kernel
theorem dX10_image_103 : decode cX10_image 103 = .ok (.iastore, 1) := by decide +kernel
theorem dX10_image_104 : decode cX10_image 104 = .ok (.iinc 1 1, 3) := by decide +kernel
end
section
theorem dX10_image_107 : decode cX10_image 107 = .ok (.goto (-20), 3) := by decide +kernel
theorem dX10_image_110 : decode cX10_image 110 = .ok (.iconst 0, 1) := by decide +kernel
theorem dX10_image_111 : decode cX10_image 111 = .ok (.istore_n 1, 1) := by decide +kernel
theorem dX10_image_112 : decode cX10_image 112 = .ok (.iload_n 1, 1) := by decide +kernel
theorem dX10_image_113 : decode cX10_image 113 = .ok (.bipush 32, 2) := by decide +kernel
theorem dX10_image_115 : decode cX10_image 115 = .ok (.if_icmp .ge 21, 3) := by decide +kernel
theorem dX10_image_118 : decode cX10_image 118 = .ok (.aload_n 0, 1) := by decide +kernel
theorem dX10_image_119 : decode cX10_image 119 = .ok (.getfield 86, 3) := by decide +kernel
theorem dX10_image_122 : decode cX10_image 122 = .ok (.iload_n 1, 1) := by decide +kernel
theorem dX10_image_123 : decode cX10_image 123 = .ok (.aload_n 0, 1) := by decide +kernel
theorem dX10_image_124 : decode cX10_image 124 = .ok (.getfield 56, 3) := by decide +kernel
theorem dX10_image_127 : decode cX10_image 127 = .ok (.iload_n 1, 1) := by decide +kernel
theorem dX10_image_128 : decode cX10_image 128 = .ok (.iaload, 1) := by decide +kernel
theorem dX10_image_129 : decode cX10_image 129 = .ok (.iastore, 1) := by decide +kernel
theorem dX10_image_130 : decode cX10_image 130 = .ok (.iinc 1 1, 3) := by decide +kernel
theorem dX10_image_133 : decode cX10_image 133 = .ok (.goto (-21), 3) := by decide +kernel
theorem dX10_image_136 : decode cX10_image 136 = .ok (.aload_n 0, 1) := by decide +kernel
theorem dX10_image_137 : decode cX10_image 137 = .ok (.getfield 245, 3) := by decide +kernel
theorem dX10_image_140 : decode cX10_image 140 = .ok (.ireturn, 1) := by decide +kernel
theorem dX10_back_0 : decode cX10_back 0 = .ok (.aload_n 0, 1) := by decide +kernel
theorem dX10_back_1 : decode cX10_back 1 = .ok (.getfield 397, 3) := by decide +kernel
theorem dX10_back_4 : decode cX10_back 4 = .ok (.ifCond .ne 6, 3) := by decide +kernel
theorem dX10_back_7 : decode cX10_back 7 = .ok (.bipush (-3), 2) := by decide +kernel
theorem dX10_back_9 : decode cX10_back 9 = .ok (.ireturn, 1) := by decide +kernel
theorem dX10_back_10 : decode cX10_back 10 = .ok (.aload_n 0, 1) := by decide +kernel
theorem dX10_back_11 : decode cX10_back 11 = .ok (.aload_n 0, 1) := by decide +kernel
theorem dX10_back_12 : decode cX10_back 12 = .ok (.getfield 403, 3) := by decide +kernel
theorem dX10_back_15 : decode cX10_back 15 = .ok (.putfield 245, 3) := by decide +kernel
theorem dX10_back_18 : decode cX10_back 18 = .ok (.aload_n 0, 1) := by decide +kernel
theorem dX10_back_19 : decode cX10_back 19 = .ok (.aload_n 0, 1) := by decide +kernel
theorem dX10_back_20 : decode cX10_back 20 = .ok (.getfield 406, 3) := by decide +kernel
theorem dX10_back_23 : decode cX10_back 23 = .ok (.putfield 317, 3) := by decide +kernel
theorem dX10_back_26 : decode cX10_back 26 = .ok (.aload_n 0, 1) := by decide +kernel
theorem dX10_back_27 : decode cX10_back 27 = .ok (.aload_n 0, 1) := by decide +kernel
theorem dX10_back_28 : decode cX10_back 28 = .ok (.getfield 409, 3) := by decide +kernel
theorem dX10_back_31 : decode cX10_back 31 = .ok (.putfield 117, 3) := by decide +kernel
theorem dX10_back_34 : decode cX10_back 34 = .ok (.aload_n 0, 1) := by decide +kernel
theorem dX10_back_35 : decode cX10_back 35 = .ok (.aload_n 0, 1) := by decide +kernel
theorem dX10_back_36 : decode cX10_back 36 = .ok (.getfield 412, 3) := by decide +kernel
theorem dX10_back_39 : decode cX10_back 39 = .ok (.putfield 131, 3) := by decide +kernel
theorem dX10_back_42 : decode cX10_back 42 = .ok (.iconst 0, 1) := by decide +kernel
theorem dX10_back_43 : decode cX10_back 43 = .ok (.istore_n 1, 1) := by decide +kernel
theorem dX10_back_44 : decode cX10_back 44 = .ok (.iload_n 1, 1) := by decide +kernel
theorem dX10_back_45 : decode cX10_back 45 = .ok (.aload_n 0, 1) := by decide +kernel
theorem dX10_back_46 : decode cX10_back 46 = .ok (.getfield 400, 3) := by decide +kernel
theorem dX10_back_49 : decode cX10_back 49 = .ok (.if_icmp .ge 33, 3) := by decide +kernel
theorem dX10_back_52 : decode cX10_back 52 = .ok (.aload_n 0, 1) := by decide +kernel
theorem dX10_back_53 : decode cX10_back 53 = .ok (.getfield 26, 3) := by decide +kernel
theorem dX10_back_56 : decode cX10_back 56 = .ok (.iload_n 1, 1) := by decide +kernel
theorem dX10_back_57 : decode cX10_back 57 = .ok (.aload_n 0, 1) := by decide +kernel
theorem dX10_back_58 : decode cX10_back 58 = .ok (.getfield 77, 3) := by decide +kernel
theorem dX10_back_61 : decode cX10_back 61 = .ok (.iload_n 1, 1) := by decide +kernel
theorem dX10_back_62 : decode cX10_back 62 = .ok (.iaload, 1) := by decide +kernel
theorem dX10_back_63 : decode cX10_back 63 = .ok (.iastore, 1) := by decide +kernel
theorem dX10_back_64 : decode cX10_back 64 = .ok (.aload_n 0, 1) := by decide +kernel
theorem dX10_back_65 : decode cX10_back 65 = .ok (.getfield 29, 3) := by decide +kernel
theorem dX10_back_68 : decode cX10_back 68 = .ok (.iload_n 1, 1) := by decide +kernel
theorem dX10_back_69 : decode cX10_back 69 = .ok (.aload_n 0, 1) := by decide +kernel
theorem dX10_back_70 : decode cX10_back 70 = .ok (.getfield 80, 3) := by decide +kernel
theorem dX10_back_73 : decode cX10_back 73 = .ok (.iload_n 1, 1) := by decide +kernel
theorem dX10_back_74 : decode cX10_back 74 = .ok (.iaload, 1) := by decide +kernel
theorem dX10_back_75 : decode cX10_back 75 = .ok (.iastore, 1) := by decide +kernel
theorem dX10_back_76 : decode cX10_back 76 = .ok (.iinc 1 1, 3) := by decide +kernel
theorem dX10_back_79 : decode cX10_back 79 = .ok (.goto (-35), 3) := by decide +kernel
theorem dX10_back_82 : decode cX10_back 82 = .ok (.aload_n 0, 1) := by decide +kernel
theorem dX10_back_83 : decode cX10_back 83 = .ok (.getfield 400, 3) := by decide +kernel
theorem dX10_back_86 : decode cX10_back 86 = .ok (.istore_n 1, 1) := by decide +kernel
theorem dX10_back_87 : decode cX10_back 87 = .ok (.iload_n 1, 1) := by decide +kernel
theorem dX10_back_88 : decode cX10_back 88 = .ok (.aload_n 0, 1) := by decide +kernel
theorem dX10_back_89 : decode cX10_back 89 = .ok (.getfield 122, 3) := by decide +kernel
theorem dX10_back_92 : decode cX10_back 92 = .ok (.if_icmp .ge 16, 3) := by decide +kernel
theorem dX10_back_95 : decode cX10_back 95 = .ok (.aload_n 0, 1) := by decide +kernel
theorem dX10_back_96 : decode cX10_back 96 = .ok (.getfield 29, 3) := by decide +kernel
theorem dX10_back_99 : decode cX10_back 99 = .ok (.iload_n 1, 1) := by decide +kernel
theorem dX10_back_100 : decode cX10_back 100 = .ok (.iconst 0, 1) := by decide +kernel
theorem dX10_back_101 : decode cX10_back 101 = .ok (.iastore, 1) := by decide +kernel
theorem dX10_back_102 : decode cX10_back 102 = .ok (.iinc 1 1, 3) := by decide +kernel
theorem dX10_back_105 : decode cX10_back 105 = .ok (.goto (-18), 3) := by decide +kernel
theorem dX10_back_108 : decode cX10_back 108 = .ok (.iconst 0, 1) := by decide +kernel
theorem dX10_back_109 : decode cX10_back 109 = .ok (.istore_n 1, 1) := by decide +kernel
theorem dX10_back_110 : decode cX10_back 110 = .ok (.iload_n 1, 1) := by decide +kernel
theorem dX10_back_111 : decode cX10_back 111 = .ok (.iconst 4, 1) := by decide +kernel
theorem dX10_back_112 : decode cX10_back 112 = .ok (.if_icmp .ge 21, 3) := by decide +kernel
theorem dX10_back_115 : decode cX10_back 115 = .ok (.aload_n 0, 1) := by decide +kernel
theorem dX10_back_116 : decode cX10_back 116 = .ok (.getfield 53, 3) := by decide +kernel
theorem dX10_back_119 : decode cX10_back 119 = .ok (.iload_n 1, 1) := by decide +kernel
theorem dX10_back_120 : decode cX10_back 120 = .ok (.aload_n 0, 1) := by decide +kernel
theorem dX10_back_121 : decode cX10_back 121 = .ok (.getfield 83, 3) := by decide +kernel
theorem dX10_back_124 : decode cX10_back 124 = .ok (.iload_n 1, 1) := by decide +kernel
theorem dX10_back_125 : decode cX10_back 125 = .ok (.iaload, 1) := by decide +kernel
theorem dX10_back_126 : decode cX10_back 126 = .ok (.iastore, 1) := by decide +kernel
theorem dX10_back_127 : decode cX10_back 127 = .ok (.iinc 1 1, 3) := by decide +kernel
theorem dX10_back_130 : decode cX10_back 130 = .ok (.goto (-20), 3) := by decide +kernel
theorem dX10_back_133 : decode cX10_back 133 = .ok (.iconst 0, 1) := by decide +kernel
theorem dX10_back_134 : decode cX10_back 134 = .ok (.istore_n 1, 1) := by decide +kernel
theorem dX10_back_135 : decode cX10_back 135 = .ok (.iload_n 1, 1) := by decide +kernel
theorem dX10_back_136 : decode cX10_back 136 = .ok (.bipush 32, 2) := by decide +kernel
theorem dX10_back_138 : decode cX10_back 138 = .ok (.if_icmp .ge 21, 3) := by decide +kernel
theorem dX10_back_141 : decode cX10_back 141 = .ok (.aload_n 0, 1) := by decide +kernel
theorem dX10_back_142 : decode cX10_back 142 = .ok (.getfield 56, 3) := by decide +kernel
theorem dX10_back_145 : decode cX10_back 145 = .ok (.iload_n 1, 1) := by decide +kernel
theorem dX10_back_146 : decode cX10_back 146 = .ok (.aload_n 0, 1) := by decide +kernel
theorem dX10_back_147 : decode cX10_back 147 = .ok (.getfield 86, 3) := by decide +kernel
theorem dX10_back_150 : decode cX10_back 150 = .ok (.iload_n 1, 1) := by decide +kernel
theorem dX10_back_151 : decode cX10_back 151 = .ok (.iaload, 1) := by decide +kernel
theorem dX10_back_152 : decode cX10_back 152 = .ok (.iastore, 1) := by decide +kernel
theorem dX10_back_153 : decode cX10_back 153 = .ok (.iinc 1 1, 3) := by decide +kernel
theorem dX10_back_156 : decode cX10_back 156 = .ok (.goto (-21), 3) := by decide +kernel
theorem dX10_back_159 : decode cX10_back 159 = .ok (.aload_n 0, 1) := by decide +kernel
theorem dX10_back_160 : decode cX10_back 160 = .ok (.getfield 245, 3) := by decide +kernel
theorem dX10_back_163 : decode cX10_back 163 = .ok (.ireturn, 1) := by decide +kernel
theorem dX10_count_0 : decode cX10_count 0 = .ok (.iload_n 1, 1) := by decide +kernel
theorem dX10_count_1 : decode cX10_count 1 = .ok (.tableswitch 96 0 8 #[51, 56, 61, 66, 71, 76, 81, 86, 91], 51) := by decide +kernel
theorem dX10_count_52 : decode cX10_count 52 = .ok (.aload_n 0, 1) := by decide +kernel
theorem dX10_count_53 : decode cX10_count 53 = .ok (.getfield 122, 3) := by decide +kernel
theorem dX10_count_56 : decode cX10_count 56 = .ok (.ireturn, 1) := by decide +kernel
theorem dX10_count_57 : decode cX10_count 57 = .ok (.aload_n 0, 1) := by decide +kernel
theorem dX10_count_58 : decode cX10_count 58 = .ok (.getfield 245, 3) := by decide +kernel
theorem dX10_count_61 : decode cX10_count 61 = .ok (.ireturn, 1) := by decide +kernel
theorem dX10_count_62 : decode cX10_count 62 = .ok (.aload_n 0, 1) := by decide +kernel
theorem dX10_count_63 : decode cX10_count 63 = .ok (.getfield 302, 3) := by decide +kernel
theorem dX10_count_66 : decode cX10_count 66 = .ok (.ireturn, 1) := by decide +kernel
theorem dX10_count_67 : decode cX10_count 67 = .ok (.aload_n 0, 1) := by decide +kernel
theorem dX10_count_68 : decode cX10_count 68 = .ok (.getfield 114, 3) := by decide +kernel
theorem dX10_count_71 : decode cX10_count 71 = .ok (.ireturn, 1) := by decide +kernel
theorem dX10_count_72 : decode cX10_count 72 = .ok (.aload_n 0, 1) := by decide +kernel
theorem dX10_count_73 : decode cX10_count 73 = .ok (.getfield 165, 3) := by decide +kernel
theorem dX10_count_76 : decode cX10_count 76 = .ok (.ireturn, 1) := by decide +kernel
theorem dX10_count_77 : decode cX10_count 77 = .ok (.aload_n 0, 1) := by decide +kernel
theorem dX10_count_78 : decode cX10_count 78 = .ok (.getfield 131, 3) := by decide +kernel
theorem dX10_count_81 : decode cX10_count 81 = .ok (.ireturn, 1) := by decide +kernel
theorem dX10_count_82 : decode cX10_count 82 = .ok (.aload_n 0, 1) := by decide +kernel
theorem dX10_count_83 : decode cX10_count 83 = .ok (.getfield 368, 3) := by decide +kernel
theorem dX10_count_86 : decode cX10_count 86 = .ok (.ireturn, 1) := by decide +kernel
theorem dX10_count_87 : decode cX10_count 87 = .ok (.aload_n 0, 1) := by decide +kernel
theorem dX10_count_88 : decode cX10_count 88 = .ok (.invokevirtual 343, 3) := by decide +kernel
theorem dX10_count_91 : decode cX10_count 91 = .ok (.ireturn, 1) := by decide +kernel
theorem dX10_count_92 : decode cX10_count 92 = .ok (.aload_n 0, 1) := by decide +kernel
theorem dX10_count_93 : decode cX10_count 93 = .ok (.getfield 117, 3) := by decide +kernel
theorem dX10_count_96 : decode cX10_count 96 = .ok (.ireturn, 1) := by decide +kernel
theorem dX10_count_97 : decode cX10_count 97 = .ok (.bipush (-2), 2) := by decide +kernel
theorem dX10_count_99 : decode cX10_count 99 = .ok (.ireturn, 1) := by decide +kernel
theorem dX10_isSheet_0 : decode cX10_isSheet 0 = .ok (.iload_n 0, 1) := by decide +kernel
theorem dX10_isSheet_1 : decode cX10_isSheet 1 = .ok (.i2l, 1) := by decide +kernel
theorem dX10_isSheet_2 : decode cX10_isSheet 2 = .ok (.lconst 0, 1) := by decide +kernel
theorem dX10_isSheet_3 : decode cX10_isSheet 3 = .ok (.ldc2_w 155, 3) := by decide +kernel
theorem dX10_isSheet_6 : decode cX10_isSheet 6 = .ok (.invokestatic 125, 3) := by decide +kernel
theorem dX10_isSheet_9 : decode cX10_isSheet 9 = .ok (.ireturn, 1) := by decide +kernel
theorem dX10_sheet_0 : decode cX10_sheet 0 = .ok (.iload_n 1, 1) := by decide +kernel
theorem dX10_sheet_1 : decode cX10_sheet 1 = .ok (.invokestatic 415, 3) := by decide +kernel
theorem dX10_sheet_4 : decode cX10_sheet 4 = .ok (.ifCond .eq 27, 3) := by decide +kernel
theorem dX10_sheet_7 : decode cX10_sheet 7 = .ok (.iload_n 2, 1) := by decide +kernel
theorem dX10_sheet_8 : decode cX10_sheet 8 = .ok (.i2l, 1) := by decide +kernel
theorem dX10_sheet_9 : decode cX10_sheet 9 = .ok (.ldc2_w 198, 3) := by decide +kernel
theorem dX10_sheet_12 : decode cX10_sheet 12 = .ok (.ldc2_w 386, 3) := by decide +kernel
theorem dX10_sheet_15 : decode cX10_sheet 15 = .ok (.invokestatic 125, 3) := by decide +kernel
theorem dX10_sheet_18 : decode cX10_sheet 18 = .ok (.ifCond .eq 13, 3) := by decide +kernel
theorem dX10_sheet_21 : decode cX10_sheet 21 = .ok (.iload_n 2, 1) := by decide +kernel
theorem dX10_sheet_22 : decode cX10_sheet 22 = .ok (.ifCond .lt 12, 3) := by decide +kernel
theorem dX10_sheet_25 : decode cX10_sheet 25 = .ok (.iload_n 3, 1) := by decide +kernel
theorem dX10_sheet_26 : decode cX10_sheet 26 = .ok (.bipush 40, 2) := by decide +kernel
theorem dX10_sheet_28 : decode cX10_sheet 28 = .ok (.if_icmp .le 6, 3) := by decide +kernel
theorem dX10_sheet_31 : decode cX10_sheet 31 = .ok (.bipush (-2), 2) := by decide +kernel
theorem dX10_sheet_33 : decode cX10_sheet 33 = .ok (.ireturn, 1) := by decide +kernel
theorem dX10_sheet_34 : decode cX10_sheet 34 = .ok (.iload_n 2, 1) := by decide +kernel
theorem dX10_sheet_35 : decode cX10_sheet 35 = .ok (.ifCond .lt 10, 3) := by decide +kernel
theorem dX10_sheet_38 : decode cX10_sheet 38 = .ok (.iload_n 3, 1) := by decide +kernel
theorem dX10_sheet_39 : decode cX10_sheet 39 = .ok (.ifCond .ge 6, 3) := by decide +kernel
theorem dX10_sheet_42 : decode cX10_sheet 42 = .ok (.bipush (-14), 2) := by decide +kernel
theorem dX10_sheet_44 : decode cX10_sheet 44 = .ok (.ireturn, 1) := by decide +kernel
theorem dX10_sheet_45 : decode cX10_sheet 45 = .ok (.aload_n 0, 1) := by decide +kernel
theorem dX10_sheet_46 : decode cX10_sheet 46 = .ok (.getfield 89, 3) := by decide +kernel
theorem dX10_sheet_49 : decode cX10_sheet 49 = .ok (.iload_n 1, 1) := by decide +kernel
theorem dX10_sheet_50 : decode cX10_sheet 50 = .ok (.iload_n 2, 1) := by decide +kernel
theorem dX10_sheet_51 : decode cX10_sheet 51 = .ok (.ifCond .lt 7, 3) := by decide +kernel
theorem dX10_sheet_54 : decode cX10_sheet 54 = .ok (.iconst 1, 1) := by decide +kernel
theorem dX10_sheet_55 : decode cX10_sheet 55 = .ok (.goto 4, 3) := by decide +kernel
theorem dX10_sheet_58 : decode cX10_sheet 58 = .ok (.iconst 0, 1) := by decide +kernel
theorem dX10_sheet_59 : decode cX10_sheet 59 = .ok (.bastore, 1) := by decide +kernel
theorem dX10_sheet_60 : decode cX10_sheet 60 = .ok (.aload_n 0, 1) := by decide +kernel
theorem dX10_sheet_61 : decode cX10_sheet 61 = .ok (.getfield 93, 3) := by decide +kernel
theorem dX10_sheet_64 : decode cX10_sheet 64 = .ok (.iload_n 1, 1) := by decide +kernel
theorem dX10_sheet_65 : decode cX10_sheet 65 = .ok (.iload_n 2, 1) := by decide +kernel
theorem dX10_sheet_66 : decode cX10_sheet 66 = .ok (.iastore, 1) := by decide +kernel
theorem dX10_sheet_67 : decode cX10_sheet 67 = .ok (.aload_n 0, 1) := by decide +kernel
theorem dX10_sheet_68 : decode cX10_sheet 68 = .ok (.getfield 96, 3) := by decide +kernel
theorem dX10_sheet_71 : decode cX10_sheet 71 = .ok (.iload_n 1, 1) := by decide +kernel
theorem dX10_sheet_72 : decode cX10_sheet 72 = .ok (.iload_n 3, 1) := by decide +kernel
theorem dX10_sheet_73 : decode cX10_sheet 73 = .ok (.iastore, 1) := by decide +kernel
theorem dX10_sheet_74 : decode cX10_sheet 74 = .ok (.iconst 0, 1) := by decide +kernel
theorem dX10_sheet_75 : decode cX10_sheet 75 = .ok (.istore 4, 2) := by decide +kernel
theorem dX10_sheet_77 : decode cX10_sheet 77 = .ok (.iload 4, 2) := by decide +kernel
theorem dX10_sheet_79 : decode cX10_sheet 79 = .ok (.iload_n 3, 1) := by decide +kernel
theorem dX10_sheet_80 : decode cX10_sheet 80 = .ok (.if_icmp .ge 26, 3) := by decide +kernel
theorem dX10_sheet_83 : decode cX10_sheet 83 = .ok (.iload_n 2, 1) := by decide +kernel
theorem dX10_sheet_84 : decode cX10_sheet 84 = .ok (.ifCond .lt 22, 3) := by decide +kernel
theorem dX10_sheet_87 : decode cX10_sheet 87 = .ok (.aload_n 0, 1) := by decide +kernel
theorem dX10_sheet_88 : decode cX10_sheet 88 = .ok (.getfield 99, 3) := by decide +kernel
theorem dX10_sheet_91 : decode cX10_sheet 91 = .ok (.bipush 40, 2) := by decide +kernel
theorem dX10_sheet_93 : decode cX10_sheet 93 = .ok (.iload_n 1, 1) := by decide +kernel
theorem dX10_sheet_94 : decode cX10_sheet 94 = .ok (.imul, 1) := by decide +kernel
theorem dX10_sheet_95 : decode cX10_sheet 95 = .ok (.iload 4, 2) := by decide +kernel
theorem dX10_sheet_97 : decode cX10_sheet 97 = .ok (.iadd, 1) := by decide +kernel
theorem dX10_sheet_98 : decode cX10_sheet 98 = .ok (.iconst 0, 1) := by decide +kernel
theorem dX10_sheet_99 : decode cX10_sheet 99 = .ok (.iastore, 1) := by decide +kernel
theorem dX10_sheet_100 : decode cX10_sheet 100 = .ok (.iinc 4 1, 3) := by decide +kernel
theorem dX10_sheet_103 : decode cX10_sheet 103 = .ok (.goto (-26), 3) := by decide +kernel
theorem dX10_sheet_106 : decode cX10_sheet 106 = .ok (.iconst 1, 1) := by decide +kernel
theorem dX10_sheet_107 : decode cX10_sheet 107 = .ok (.ireturn, 1) := by decide +kernel
theorem dX10_cell_0 : decode cX10_cell 0 = .ok (.iload_n 1, 1) := by decide +kernel
theorem dX10_cell_1 : decode cX10_cell 1 = .ok (.invokestatic 415, 3) := by decide +kernel
theorem dX10_cell_4 : decode cX10_cell 4 = .ok (.ifCond .ne 6, 3) := by decide +kernel
theorem dX10_cell_7 : decode cX10_cell 7 = .ok (.bipush (-2), 2) := by decide +kernel
theorem dX10_cell_9 : decode cX10_cell 9 = .ok (.ireturn, 1) := by decide +kernel
theorem dX10_cell_10 : decode cX10_cell 10 = .ok (.aload_n 0, 1) := by decide +kernel
theorem dX10_cell_11 : decode cX10_cell 11 = .ok (.getfield 89, 3) := by decide +kernel
theorem dX10_cell_14 : decode cX10_cell 14 = .ok (.iload_n 1, 1) := by decide +kernel
theorem dX10_cell_15 : decode cX10_cell 15 = .ok (.baload, 1) := by decide +kernel
theorem dX10_cell_16 : decode cX10_cell 16 = .ok (.ifCond .ne 6, 3) := by decide +kernel
theorem dX10_cell_19 : decode cX10_cell 19 = .ok (.bipush (-11), 2) := by decide +kernel
theorem dX10_cell_21 : decode cX10_cell 21 = .ok (.ireturn, 1) := by decide +kernel
theorem dX10_cell_22 : decode cX10_cell 22 = .ok (.iload_n 2, 1) := by decide +kernel
theorem dX10_cell_23 : decode cX10_cell 23 = .ok (.i2l, 1) := by decide +kernel
theorem dX10_cell_24 : decode cX10_cell 24 = .ok (.lconst 0, 1) := by decide +kernel
theorem dX10_cell_25 : decode cX10_cell 25 = .ok (.aload_n 0, 1) := by decide +kernel
theorem dX10_cell_26 : decode cX10_cell 26 = .ok (.getfield 96, 3) := by decide +kernel
theorem dX10_cell_29 : decode cX10_cell 29 = .ok (.iload_n 1, 1) := by decide +kernel
theorem dX10_cell_30 : decode cX10_cell 30 = .ok (.iaload, 1) := by decide +kernel
theorem dX10_cell_31 : decode cX10_cell 31 = .ok (.iconst 1, 1) := by decide +kernel
theorem dX10_cell_32 : decode cX10_cell 32 = .ok (.isub, 1) := by decide +kernel
theorem dX10_cell_33 : decode cX10_cell 33 = .ok (.i2l, 1) := by decide +kernel
theorem dX10_cell_34 : decode cX10_cell 34 = .ok (.invokestatic 125, 3) := by decide +kernel
theorem dX10_cell_37 : decode cX10_cell 37 = .ok (.ifCond .ne 6, 3) := by decide +kernel
theorem dX10_cell_40 : decode cX10_cell 40 = .ok (.bipush (-12), 2) := by decide +kernel
theorem dX10_cell_42 : decode cX10_cell 42 = .ok (.ireturn, 1) := by decide +kernel
theorem dX10_cell_43 : decode cX10_cell 43 = .ok (.aload_n 0, 1) := by decide +kernel
theorem dX10_cell_44 : decode cX10_cell 44 = .ok (.getfield 99, 3) := by decide +kernel
theorem dX10_cell_47 : decode cX10_cell 47 = .ok (.bipush 40, 2) := by decide +kernel
theorem dX10_cell_49 : decode cX10_cell 49 = .ok (.iload_n 1, 1) := by decide +kernel
theorem dX10_cell_50 : decode cX10_cell 50 = .ok (.imul, 1) := by decide +kernel
theorem dX10_cell_51 : decode cX10_cell 51 = .ok (.iload_n 2, 1) := by decide +kernel
theorem dX10_cell_52 : decode cX10_cell 52 = .ok (.iadd, 1) := by decide +kernel
theorem dX10_cell_53 : decode cX10_cell 53 = .ok (.aload_n 0, 1) := by decide +kernel
theorem dX10_cell_54 : decode cX10_cell 54 = .ok (.getfield 93, 3) := by decide +kernel
theorem dX10_cell_57 : decode cX10_cell 57 = .ok (.iload_n 1, 1) := by decide +kernel
theorem dX10_cell_58 : decode cX10_cell 58 = .ok (.iaload, 1) := by decide +kernel
theorem dX10_cell_59 : decode cX10_cell 59 = .ok (.ifCond .ne 8, 3) := by decide +kernel
theorem dX10_cell_62 : decode cX10_cell 62 = .ok (.iload_n 3, 1) := by decide +kernel
theorem dX10_cell_63 : decode cX10_cell 63 = .ok (.i2b, 1) := by decide +kernel
theorem dX10_cell_64 : decode cX10_cell 64 = .ok (.goto 19, 3) := by decide +kernel
theorem dX10_cell_67 : decode cX10_cell 67 = .ok (.aload_n 0, 1) := by decide +kernel
theorem dX10_cell_68 : decode cX10_cell 68 = .ok (.getfield 93, 3) := by decide +kernel
theorem dX10_cell_71 : decode cX10_cell 71 = .ok (.iload_n 1, 1) := by decide +kernel
theorem dX10_cell_72 : decode cX10_cell 72 = .ok (.iaload, 1) := by decide +kernel
theorem dX10_cell_73 : decode cX10_cell 73 = .ok (.iconst 1, 1) := by decide +kernel
theorem dX10_cell_74 : decode cX10_cell 74 = .ok (.if_icmp .ne 8, 3) := by decide +kernel
theorem dX10_cell_77 : decode cX10_cell 77 = .ok (.iload_n 3, 1) := by decide +kernel
theorem dX10_cell_78 : decode cX10_cell 78 = .ok (.i2s, 1) := by decide +kernel
theorem dX10_cell_79 : decode cX10_cell 79 = .ok (.goto 4, 3) := by decide +kernel
theorem dX10_cell_82 : decode cX10_cell 82 = .ok (.iload_n 3, 1) := by decide +kernel
theorem dX10_cell_83 : decode cX10_cell 83 = .ok (.iastore, 1) := by decide +kernel
theorem dX10_cell_84 : decode cX10_cell 84 = .ok (.iconst 1, 1) := by decide +kernel
theorem dX10_cell_85 : decode cX10_cell 85 = .ok (.ireturn, 1) := by decide +kernel
theorem dX10_copy_0 : decode cX10_copy 0 = .ok (.iload_n 1, 1) := by decide +kernel
theorem dX10_copy_1 : decode cX10_copy 1 = .ok (.invokestatic 415, 3) := by decide +kernel
theorem dX10_copy_4 : decode cX10_copy 4 = .ok (.ifCond .eq 10, 3) := by decide +kernel
theorem dX10_copy_7 : decode cX10_copy 7 = .ok (.iload_n 3, 1) := by decide +kernel
theorem dX10_copy_8 : decode cX10_copy 8 = .ok (.invokestatic 415, 3) := by decide +kernel
theorem dX10_copy_11 : decode cX10_copy 11 = .ok (.ifCond .ne 6, 3) := by decide +kernel
theorem dX10_copy_14 : decode cX10_copy 14 = .ok (.bipush (-2), 2) := by decide +kernel
theorem dX10_copy_16 : decode cX10_copy 16 = .ok (.ireturn, 1) := by decide +kernel
theorem dX10_copy_17 : decode cX10_copy 17 = .ok (.aload_n 0, 1) := by decide +kernel
theorem dX10_copy_18 : decode cX10_copy 18 = .ok (.getfield 89, 3) := by decide +kernel
theorem dX10_copy_21 : decode cX10_copy 21 = .ok (.iload_n 1, 1) := by decide +kernel
theorem dX10_copy_22 : decode cX10_copy 22 = .ok (.baload, 1) := by decide +kernel
theorem dX10_copy_23 : decode cX10_copy 23 = .ok (.ifCond .eq 12, 3) := by decide +kernel
theorem dX10_copy_26 : decode cX10_copy 26 = .ok (.aload_n 0, 1) := by decide +kernel
theorem dX10_copy_27 : decode cX10_copy 27 = .ok (.getfield 89, 3) := by decide +kernel
theorem dX10_copy_30 : decode cX10_copy 30 = .ok (.iload_n 3, 1) := by decide +kernel
theorem dX10_copy_31 : decode cX10_copy 31 = .ok (.baload, 1) := by decide +kernel
theorem dX10_copy_32 : decode cX10_copy 32 = .ok (.ifCond .ne 6, 3) := by decide +kernel
theorem dX10_copy_35 : decode cX10_copy 35 = .ok (.bipush (-11), 2) := by decide +kernel
theorem dX10_copy_37 : decode cX10_copy 37 = .ok (.ireturn, 1) := by decide +kernel
theorem dX10_copy_38 : decode cX10_copy 38 = .ok (.aload_n 0, 1) := by decide +kernel
theorem dX10_copy_39 : decode cX10_copy 39 = .ok (.getfield 93, 3) := by decide +kernel
theorem dX10_copy_42 : decode cX10_copy 42 = .ok (.iload_n 1, 1) := by decide +kernel
theorem dX10_copy_43 : decode cX10_copy 43 = .ok (.iaload, 1) := by decide +kernel
theorem dX10_copy_44 : decode cX10_copy 44 = .ok (.aload_n 0, 1) := by decide +kernel
theorem dX10_copy_45 : decode cX10_copy 45 = .ok (.getfield 93, 3) := by decide +kernel
theorem dX10_copy_48 : decode cX10_copy 48 = .ok (.iload_n 3, 1) := by decide +kernel
theorem dX10_copy_49 : decode cX10_copy 49 = .ok (.iaload, 1) := by decide +kernel
theorem dX10_copy_50 : decode cX10_copy 50 = .ok (.if_icmp .eq 6, 3) := by decide +kernel
theorem dX10_copy_53 : decode cX10_copy 53 = .ok (.bipush (-13), 2) := by decide +kernel
theorem dX10_copy_55 : decode cX10_copy 55 = .ok (.ireturn, 1) := by decide +kernel
theorem dX10_copy_56 : decode cX10_copy 56 = .ok (.iload 5, 2) := by decide +kernel
theorem dX10_copy_58 : decode cX10_copy 58 = .ok (.ifCond .lt 39, 3) := by decide +kernel
theorem dX10_copy_61 : decode cX10_copy 61 = .ok (.iload_n 2, 1) := by decide +kernel
theorem dX10_copy_62 : decode cX10_copy 62 = .ok (.ifCond .lt 35, 3) := by decide +kernel
theorem dX10_copy_65 : decode cX10_copy 65 = .ok (.iload 4, 2) := by decide +kernel
theorem dX10_copy_67 : decode cX10_copy 67 = .ok (.ifCond .lt 30, 3) := by decide +kernel
theorem dX10_copy_70 : decode cX10_copy 70 = .ok (.iload_n 2, 1) := by decide +kernel
theorem dX10_copy_71 : decode cX10_copy 71 = .ok (.aload_n 0, 1) := by decide +kernel
theorem dX10_copy_72 : decode cX10_copy 72 = .ok (.getfield 96, 3) := by decide +kernel
theorem dX10_copy_75 : decode cX10_copy 75 = .ok (.iload_n 1, 1) := by decide +kernel
theorem dX10_copy_76 : decode cX10_copy 76 = .ok (.iaload, 1) := by decide +kernel
theorem dX10_copy_77 : decode cX10_copy 77 = .ok (.iload 5, 2) := by decide +kernel
theorem dX10_copy_79 : decode cX10_copy 79 = .ok (.isub, 1) := by decide +kernel
theorem dX10_copy_80 : decode cX10_copy 80 = .ok (.if_icmp .gt 17, 3) := by decide +kernel
theorem dX10_copy_83 : decode cX10_copy 83 = .ok (.iload 4, 2) := by decide +kernel
theorem dX10_copy_85 : decode cX10_copy 85 = .ok (.aload_n 0, 1) := by decide +kernel
theorem dX10_copy_86 : decode cX10_copy 86 = .ok (.getfield 96, 3) := by decide +kernel
theorem dX10_copy_89 : decode cX10_copy 89 = .ok (.iload_n 3, 1) := by decide +kernel
theorem dX10_copy_90 : decode cX10_copy 90 = .ok (.iaload, 1) := by decide +kernel
theorem dX10_copy_91 : decode cX10_copy 91 = .ok (.iload 5, 2) := by decide +kernel
theorem dX10_copy_93 : decode cX10_copy 93 = .ok (.isub, 1) := by decide +kernel
theorem dX10_copy_94 : decode cX10_copy 94 = .ok (.if_icmp .le 6, 3) := by decide +kernel
theorem dX10_copy_97 : decode cX10_copy 97 = .ok (.bipush (-12), 2) := by decide +kernel
theorem dX10_copy_99 : decode cX10_copy 99 = .ok (.ireturn, 1) := by decide +kernel
theorem dX10_copy_100 : decode cX10_copy 100 = .ok (.iload_n 1, 1) := by decide +kernel
theorem dX10_copy_101 : decode cX10_copy 101 = .ok (.iload_n 3, 1) := by decide +kernel
theorem dX10_copy_102 : decode cX10_copy 102 = .ok (.if_icmp .ne 13, 3) := by decide +kernel
theorem dX10_copy_105 : decode cX10_copy 105 = .ok (.iload_n 2, 1) := by decide +kernel
theorem dX10_copy_106 : decode cX10_copy 106 = .ok (.iload 4, 2) := by decide +kernel
theorem dX10_copy_108 : decode cX10_copy 108 = .ok (.if_icmp .ge 7, 3) := by decide +kernel
theorem dX10_copy_111 : decode cX10_copy 111 = .ok (.iconst 1, 1) := by decide +kernel
theorem dX10_copy_112 : decode cX10_copy 112 = .ok (.goto 4, 3) := by decide +kernel
theorem dX10_copy_115 : decode cX10_copy 115 = .ok (.iconst 0, 1) := by decide +kernel
theorem dX10_copy_116 : decode cX10_copy 116 = .ok (.istore 6, 2) := by decide +kernel
theorem dX10_copy_118 : decode cX10_copy 118 = .ok (.iconst 0, 1) := by decide +kernel
theorem dX10_copy_119 : decode cX10_copy 119 = .ok (.istore 7, 2) := by decide +kernel
theorem dX10_copy_121 : decode cX10_copy 121 = .ok (.iload 7, 2) := by decide +kernel
theorem dX10_copy_123 : decode cX10_copy 123 = .ok (.iload 5, 2) := by decide +kernel
theorem dX10_copy_125 : decode cX10_copy 125 = .ok (.if_icmp .ge 57, 3) := by decide +kernel
theorem dX10_copy_128 : decode cX10_copy 128 = .ok (.iload 6, 2) := by decide +kernel
theorem dX10_copy_130 : decode cX10_copy 130 = .ok (.ifCond .eq 13, 3) := by decide +kernel
theorem dX10_copy_133 : decode cX10_copy 133 = .ok (.iload 5, 2) := by decide +kernel
theorem dX10_copy_135 : decode cX10_copy 135 = .ok (.iconst 1, 1) := by decide +kernel
theorem dX10_copy_136 : decode cX10_copy 136 = .ok (.isub, 1) := by decide +kernel
theorem dX10_copy_137 : decode cX10_copy 137 = .ok (.iload 7, 2) := by decide +kernel
theorem dX10_copy_139 : decode cX10_copy 139 = .ok (.isub, 1) := by decide +kernel
theorem dX10_copy_140 : decode cX10_copy 140 = .ok (.goto 5, 3) := by decide +kernel
theorem dX10_copy_143 : decode cX10_copy 143 = .ok (.iload 7, 2) := by decide +kernel
theorem dX10_copy_145 : decode cX10_copy 145 = .ok (.istore 8, 2) := by decide +kernel
theorem dX10_copy_147 : decode cX10_copy 147 = .ok (.aload_n 0, 1) := by decide +kernel
theorem dX10_copy_148 : decode cX10_copy 148 = .ok (.getfield 99, 3) := by decide +kernel
theorem dX10_copy_151 : decode cX10_copy 151 = .ok (.bipush 40, 2) := by decide +kernel
theorem dX10_copy_153 : decode cX10_copy 153 = .ok (.iload_n 3, 1) := by decide +kernel
theorem dX10_copy_154 : decode cX10_copy 154 = .ok (.imul, 1) := by decide +kernel
theorem dX10_copy_155 : decode cX10_copy 155 = .ok (.iload 4, 2) := by decide +kernel
theorem dX10_copy_157 : decode cX10_copy 157 = .ok (.iadd, 1) := by decide +kernel
theorem dX10_copy_158 : decode cX10_copy 158 = .ok (.iload 8, 2) := by decide +kernel
theorem dX10_copy_160 : decode cX10_copy 160 = .ok (.iadd, 1) := by decide +kernel
theorem dX10_copy_161 : decode cX10_copy 161 = .ok (.aload_n 0, 1) := by decide +kernel
theorem dX10_copy_162 : decode cX10_copy 162 = .ok (.getfield 99, 3) := by decide +kernel
theorem dX10_copy_165 : decode cX10_copy 165 = .ok (.bipush 40, 2) := by decide +kernel
theorem dX10_copy_167 : decode cX10_copy 167 = .ok (.iload_n 1, 1) := by decide +kernel
theorem dX10_copy_168 : decode cX10_copy 168 = .ok (.imul, 1) := by decide +kernel
theorem dX10_copy_169 : decode cX10_copy 169 = .ok (.iload_n 2, 1) := by decide +kernel
theorem dX10_copy_170 : decode cX10_copy 170 = .ok (.iadd, 1) := by decide +kernel
theorem dX10_copy_171 : decode cX10_copy 171 = .ok (.iload 8, 2) := by decide +kernel
theorem dX10_copy_173 : decode cX10_copy 173 = .ok (.iadd, 1) := by decide +kernel
theorem dX10_copy_174 : decode cX10_copy 174 = .ok (.iaload, 1) := by decide +kernel
theorem dX10_copy_175 : decode cX10_copy 175 = .ok (.iastore, 1) := by decide +kernel
theorem dX10_copy_176 : decode cX10_copy 176 = .ok (.iinc 7 1, 3) := by decide +kernel
theorem dX10_copy_179 : decode cX10_copy 179 = .ok (.goto (-58), 3) := by decide +kernel
theorem dX10_copy_182 : decode cX10_copy 182 = .ok (.iload 5, 2) := by decide +kernel
theorem dX10_copy_184 : decode cX10_copy 184 = .ok (.ireturn, 1) := by decide +kernel
theorem dX10_trials_0 : decode cX10_trials 0 = .ok (.iload_n 1, 1) := by decide +kernel
theorem dX10_trials_1 : decode cX10_trials 1 = .ok (.invokestatic 415, 3) := by decide +kernel
theorem dX10_trials_4 : decode cX10_trials 4 = .ok (.ifCond .eq 28, 3) := by decide +kernel
theorem dX10_trials_7 : decode cX10_trials 7 = .ok (.iload_n 2, 1) := by decide +kernel
theorem dX10_trials_8 : decode cX10_trials 8 = .ok (.i2l, 1) := by decide +kernel
theorem dX10_trials_9 : decode cX10_trials 9 = .ok (.lconst 0, 1) := by decide +kernel
theorem dX10_trials_10 : decode cX10_trials 10 = .ok (.ldc2_w 386, 3) := by decide +kernel
theorem dX10_trials_13 : decode cX10_trials 13 = .ok (.invokestatic 125, 3) := by decide +kernel
theorem dX10_trials_16 : decode cX10_trials 16 = .ok (.ifCond .eq 16, 3) := by decide +kernel
theorem dX10_trials_19 : decode cX10_trials 19 = .ok (.iload 4, 2) := by decide +kernel
theorem dX10_trials_21 : decode cX10_trials 21 = .ok (.i2l, 1) := by decide +kernel
theorem dX10_trials_22 : decode cX10_trials 22 = .ok (.lconst 0, 1) := by decide +kernel
theorem dX10_trials_23 : decode cX10_trials 23 = .ok (.ldc2_w 395, 3) := by decide +kernel
theorem dX10_trials_26 : decode cX10_trials 26 = .ok (.invokestatic 125, 3) := by decide +kernel
theorem dX10_trials_29 : decode cX10_trials 29 = .ok (.ifCond .ne 6, 3) := by decide +kernel
theorem dX10_trials_32 : decode cX10_trials 32 = .ok (.bipush (-2), 2) := by decide +kernel
theorem dX10_trials_34 : decode cX10_trials 34 = .ok (.ireturn, 1) := by decide +kernel
theorem dX10_trials_35 : decode cX10_trials 35 = .ok (.aload_n 0, 1) := by decide +kernel
theorem dX10_trials_36 : decode cX10_trials 36 = .ok (.getfield 89, 3) := by decide +kernel
theorem dX10_trials_39 : decode cX10_trials 39 = .ok (.iload_n 1, 1) := by decide +kernel
theorem dX10_trials_40 : decode cX10_trials 40 = .ok (.baload, 1) := by decide +kernel
theorem dX10_trials_41 : decode cX10_trials 41 = .ok (.ifCond .eq 16, 3) := by decide +kernel
theorem dX10_trials_44 : decode cX10_trials 44 = .ok (.aload_n 0, 1) := by decide +kernel
theorem dX10_trials_45 : decode cX10_trials 45 = .ok (.getfield 93, 3) := by decide +kernel
theorem dX10_trials_48 : decode cX10_trials 48 = .ok (.iload_n 1, 1) := by decide +kernel
theorem dX10_trials_49 : decode cX10_trials 49 = .ok (.iaload, 1) := by decide +kernel
theorem dX10_trials_50 : decode cX10_trials 50 = .ok (.iload_n 2, 1) := by decide +kernel
theorem dX10_trials_51 : decode cX10_trials 51 = .ok (.if_icmp .eq 6, 3) := by decide +kernel
theorem dX10_trials_54 : decode cX10_trials 54 = .ok (.bipush (-13), 2) := by decide +kernel
theorem dX10_trials_56 : decode cX10_trials 56 = .ok (.ireturn, 1) := by decide +kernel
theorem dX10_trials_57 : decode cX10_trials 57 = .ok (.aload_n 0, 1) := by decide +kernel
theorem dX10_trials_58 : decode cX10_trials 58 = .ok (.getfield 89, 3) := by decide +kernel
theorem dX10_trials_61 : decode cX10_trials 61 = .ok (.iload_n 1, 1) := by decide +kernel
theorem dX10_trials_62 : decode cX10_trials 62 = .ok (.baload, 1) := by decide +kernel
theorem dX10_trials_63 : decode cX10_trials 63 = .ok (.ifCond .ne 6, 3) := by decide +kernel
theorem dX10_trials_66 : decode cX10_trials 66 = .ok (.bipush (-11), 2) := by decide +kernel
theorem dX10_trials_68 : decode cX10_trials 68 = .ok (.ireturn, 1) := by decide +kernel
theorem dX10_trials_69 : decode cX10_trials 69 = .ok (.iconst 0, 1) := by decide +kernel
theorem dX10_trials_70 : decode cX10_trials 70 = .ok (.istore 5, 2) := by decide +kernel
theorem dX10_trials_72 : decode cX10_trials 72 = .ok (.iconst 0, 1) := by decide +kernel
theorem dX10_trials_73 : decode cX10_trials 73 = .ok (.istore 6, 2) := by decide +kernel
theorem dX10_trials_75 : decode cX10_trials 75 = .ok (.iload 6, 2) := by decide +kernel
theorem dX10_trials_77 : decode cX10_trials 77 = .ok (.iload 4, 2) := by decide +kernel
theorem dX10_trials_79 : decode cX10_trials 79 = .ok (.if_icmp .ge 83, 3) := by decide +kernel
theorem dX10_trials_82 : decode cX10_trials 82 = .ok (.iload_n 3, 1) := by decide +kernel
theorem dX10_trials_83 : decode cX10_trials 83 = .ok (.ifCond .lt 20, 3) := by decide +kernel
theorem dX10_trials_86 : decode cX10_trials 86 = .ok (.iload_n 3, 1) := by decide +kernel
theorem dX10_trials_87 : decode cX10_trials 87 = .ok (.aload_n 0, 1) := by decide +kernel
theorem dX10_trials_88 : decode cX10_trials 88 = .ok (.getfield 96, 3) := by decide +kernel
theorem dX10_trials_91 : decode cX10_trials 91 = .ok (.iload_n 1, 1) := by decide +kernel
theorem dX10_trials_92 : decode cX10_trials 92 = .ok (.iaload, 1) := by decide +kernel
theorem dX10_trials_93 : decode cX10_trials 93 = .ok (.iconst 2, 1) := by decide +kernel
theorem dX10_trials_94 : decode cX10_trials 94 = .ok (.iload 6, 2) := by decide +kernel
theorem dX10_trials_96 : decode cX10_trials 96 = .ok (.imul, 1) := by decide +kernel
theorem dX10_trials_97 : decode cX10_trials 97 = .ok (.isub, 1) := by decide +kernel
theorem dX10_trials_98 : decode cX10_trials 98 = .ok (.iconst 2, 1) := by decide +kernel
theorem dX10_trials_99 : decode cX10_trials 99 = .ok (.isub, 1) := by decide +kernel
theorem dX10_trials_100 : decode cX10_trials 100 = .ok (.if_icmp .le 6, 3) := by decide +kernel
theorem dX10_trials_103 : decode cX10_trials 103 = .ok (.bipush (-12), 2) := by decide +kernel
theorem dX10_trials_105 : decode cX10_trials 105 = .ok (.ireturn, 1) := by decide +kernel
theorem dX10_trials_106 : decode cX10_trials 106 = .ok (.bipush 40, 2) := by decide +kernel
theorem dX10_trials_108 : decode cX10_trials 108 = .ok (.iload_n 1, 1) := by decide +kernel
theorem dX10_trials_109 : decode cX10_trials 109 = .ok (.imul, 1) := by decide +kernel
theorem dX10_trials_110 : decode cX10_trials 110 = .ok (.iload_n 3, 1) := by decide +kernel
theorem dX10_trials_111 : decode cX10_trials 111 = .ok (.iadd, 1) := by decide +kernel
theorem dX10_trials_112 : decode cX10_trials 112 = .ok (.iconst 2, 1) := by decide +kernel
theorem dX10_trials_113 : decode cX10_trials 113 = .ok (.iload 6, 2) := by decide +kernel
theorem dX10_trials_115 : decode cX10_trials 115 = .ok (.imul, 1) := by decide +kernel
theorem dX10_trials_116 : decode cX10_trials 116 = .ok (.iadd, 1) := by decide +kernel
theorem dX10_trials_117 : decode cX10_trials 117 = .ok (.istore 7, 2) := by decide +kernel
theorem dX10_trials_119 : decode cX10_trials 119 = .ok (.iload 5, 2) := by decide +kernel
theorem dX10_trials_121 : decode cX10_trials 121 = .ok (.aload_n 0, 1) := by decide +kernel
theorem dX10_trials_122 : decode cX10_trials 122 = .ok (.aload_n 0, 1) := by decide +kernel
theorem dX10_trials_123 : decode cX10_trials 123 = .ok (.getfield 99, 3) := by decide +kernel
theorem dX10_trials_126 : decode cX10_trials 126 = .ok (.iload 7, 2) := by decide +kernel
theorem dX10_trials_128 : decode cX10_trials 128 = .ok (.iaload, 1) := by decide +kernel
theorem dX10_trials_129 : decode cX10_trials 129 = .ok (.aload_n 0, 1) := by decide +kernel
theorem dX10_trials_130 : decode cX10_trials 130 = .ok (.getfield 99, 3) := by decide +kernel
theorem dX10_trials_133 : decode cX10_trials 133 = .ok (.iload 7, 2) := by decide +kernel
theorem dX10_trials_135 : decode cX10_trials 135 = .ok (.iconst 1, 1) := by decide +kernel
theorem dX10_trials_136 : decode cX10_trials 136 = .ok (.iadd, 1) := by decide +kernel
theorem dX10_trials_137 : decode cX10_trials 137 = .ok (.iaload, 1) := by decide +kernel
theorem dX10_trials_138 : decode cX10_trials 138 = .ok (.invokevirtual 418, 3) := by decide +kernel
theorem dX10_trials_141 : decode cX10_trials 141 = .ok (.ldc2_w 146, 3) := by decide +kernel
theorem dX10_trials_144 : decode cX10_trials 144 = .ok (.lcmp, 1) := by decide +kernel
theorem dX10_trials_145 : decode cX10_trials 145 = .ok (.ifCond .eq 7, 3) := by decide +kernel
theorem dX10_trials_148 : decode cX10_trials 148 = .ok (.iconst 1, 1) := by decide +kernel
theorem dX10_trials_149 : decode cX10_trials 149 = .ok (.goto 4, 3) := by decide +kernel
theorem dX10_trials_152 : decode cX10_trials 152 = .ok (.iconst 0, 1) := by decide +kernel
theorem dX10_trials_153 : decode cX10_trials 153 = .ok (.iadd, 1) := by decide +kernel
theorem dX10_trials_154 : decode cX10_trials 154 = .ok (.istore 5, 2) := by decide +kernel
theorem dX10_trials_156 : decode cX10_trials 156 = .ok (.iinc 6 1, 3) := by decide +kernel
theorem dX10_trials_159 : decode cX10_trials 159 = .ok (.goto (-84), 3) := by decide +kernel
theorem dX10_trials_162 : decode cX10_trials 162 = .ok (.iload 5, 2) := by decide +kernel
theorem dX10_trials_164 : decode cX10_trials 164 = .ok (.ireturn, 1) := by decide +kernel
theorem dX10_over_0 : decode cX10_over 0 = .ok (.iload_n 0, 1) := by decide +kernel
theorem dX10_over_1 : decode cX10_over 1 = .ok (.ifCond .ne 7, 3) := by decide +kernel
theorem dX10_over_4 : decode cX10_over 4 = .ok (.iconst (-1), 1) := by decide +kernel
theorem dX10_over_5 : decode cX10_over 5 = .ok (.goto 27, 3) := by decide +kernel
theorem dX10_over_8 : decode cX10_over 8 = .ok (.iload_n 0, 1) := by decide +kernel
theorem dX10_over_9 : decode cX10_over 9 = .ok (.iconst 3, 1) := by decide +kernel
theorem dX10_over_10 : decode cX10_over 10 = .ok (.if_icmp .eq 8, 3) := by decide +kernel
theorem dX10_over_13 : decode cX10_over 13 = .ok (.iload_n 0, 1) := by decide +kernel
theorem dX10_over_14 : decode cX10_over 14 = .ok (.iconst 4, 1) := by decide +kernel
theorem dX10_over_15 : decode cX10_over 15 = .ok (.if_icmp .ne 7, 3) := by decide +kernel
theorem dX10_over_18 : decode cX10_over 18 = .ok (.iconst 1, 1) := by decide +kernel
theorem dX10_over_19 : decode cX10_over 19 = .ok (.goto 13, 3) := by decide +kernel
theorem dX10_over_22 : decode cX10_over 22 = .ok (.iload_n 0, 1) := by decide +kernel
theorem dX10_over_23 : decode cX10_over 23 = .ok (.iconst 5, 1) := by decide +kernel
theorem dX10_over_24 : decode cX10_over 24 = .ok (.if_icmp .ne 7, 3) := by decide +kernel
theorem dX10_over_27 : decode cX10_over 27 = .ok (.iconst 2, 1) := by decide +kernel
theorem dX10_over_28 : decode cX10_over 28 = .ok (.goto 4, 3) := by decide +kernel
theorem dX10_over_31 : decode cX10_over 31 = .ok (.iconst 0, 1) := by decide +kernel
theorem dX10_over_32 : decode cX10_over 32 = .ok (.ireturn, 1) := by decide +kernel
theorem dX10_taken_0 : decode cX10_taken 0 = .ok (.iload_n 2, 1) := by decide +kernel
theorem dX10_taken_1 : decode cX10_taken 1 = .ok (.i2l, 1) := by decide +kernel
theorem dX10_taken_2 : decode cX10_taken 2 = .ok (.lconst 0, 1) := by decide +kernel
theorem dX10_taken_3 : decode cX10_taken 3 = .ok (.ldc2_w 129, 3) := by decide +kernel
theorem dX10_taken_6 : decode cX10_taken 6 = .ok (.invokestatic 125, 3) := by decide +kernel
theorem dX10_taken_9 : decode cX10_taken 9 = .ok (.ifCond .ne 6, 3) := by decide +kernel
theorem dX10_taken_12 : decode cX10_taken 12 = .ok (.bipush (-2), 2) := by decide +kernel
theorem dX10_taken_14 : decode cX10_taken 14 = .ok (.ireturn, 1) := by decide +kernel
theorem dX10_taken_15 : decode cX10_taken 15 = .ok (.aload_n 0, 1) := by decide +kernel
theorem dX10_taken_16 : decode cX10_taken 16 = .ok (.iload_n 1, 1) := by decide +kernel
theorem dX10_taken_17 : decode cX10_taken 17 = .ok (.invokevirtual 142, 3) := by decide +kernel
theorem dX10_taken_20 : decode cX10_taken 20 = .ok (.ifCond .ne 6, 3) := by decide +kernel
theorem dX10_taken_23 : decode cX10_taken 23 = .ok (.bipush (-11), 2) := by decide +kernel
theorem dX10_taken_25 : decode cX10_taken 25 = .ok (.ireturn, 1) := by decide +kernel
theorem dX10_taken_26 : decode cX10_taken 26 = .ok (.aload_n 0, 1) := by decide +kernel
theorem dX10_taken_27 : decode cX10_taken 27 = .ok (.getfield 23, 3) := by decide +kernel
theorem dX10_taken_30 : decode cX10_taken 30 = .ok (.iload_n 1, 1) := by decide +kernel
theorem dX10_taken_31 : decode cX10_taken 31 = .ok (.iaload, 1) := by decide +kernel
theorem dX10_taken_32 : decode cX10_taken 32 = .ok (.istore_n 3, 1) := by decide +kernel
theorem dX10_taken_33 : decode cX10_taken 33 = .ok (.iload_n 3, 1) := by decide +kernel
theorem dX10_taken_34 : decode cX10_taken 34 = .ok (.iconst (-1), 1) := by decide +kernel
theorem dX10_taken_35 : decode cX10_taken 35 = .ok (.if_icmp .eq 16, 3) := by decide +kernel
theorem dX10_taken_38 : decode cX10_taken 38 = .ok (.iload_n 3, 1) := by decide +kernel
theorem dX10_taken_39 : decode cX10_taken 39 = .ok (.iload_n 2, 1) := by decide +kernel
theorem dX10_taken_40 : decode cX10_taken 40 = .ok (.if_icmp .eq 11, 3) := by decide +kernel
theorem dX10_taken_43 : decode cX10_taken 43 = .ok (.iload_n 3, 1) := by decide +kernel
theorem dX10_taken_44 : decode cX10_taken 44 = .ok (.invokestatic 422, 3) := by decide +kernel
theorem dX10_taken_47 : decode cX10_taken 47 = .ok (.istore_n 3, 1) := by decide +kernel
theorem dX10_taken_48 : decode cX10_taken 48 = .ok (.goto (-15), 3) := by decide +kernel
theorem dX10_taken_51 : decode cX10_taken 51 = .ok (.iload_n 3, 1) := by decide +kernel
theorem dX10_taken_52 : decode cX10_taken 52 = .ok (.iload_n 2, 1) := by decide +kernel
theorem dX10_taken_53 : decode cX10_taken 53 = .ok (.if_icmp .ne 12, 3) := by decide +kernel
theorem dX10_taken_56 : decode cX10_taken 56 = .ok (.aload_n 0, 1) := by decide +kernel
theorem dX10_taken_57 : decode cX10_taken 57 = .ok (.getfield 29, 3) := by decide +kernel
theorem dX10_taken_60 : decode cX10_taken 60 = .ok (.iload_n 1, 1) := by decide +kernel
theorem dX10_taken_61 : decode cX10_taken 61 = .ok (.iaload, 1) := by decide +kernel
theorem dX10_taken_62 : decode cX10_taken 62 = .ok (.goto 5, 3) := by decide +kernel
theorem dX10_taken_65 : decode cX10_taken 65 = .ok (.bipush (-13), 2) := by decide +kernel
theorem dX10_taken_67 : decode cX10_taken 67 = .ok (.ireturn, 1) := by decide +kernel
theorem dJ11_isValidCodePoint_9a6ad_0 : decode cJ11_isValidCodePoint_9a6ad 0 = .ok (.iload_n 0, 1) := by decide +kernel
theorem dJ11_isValidCodePoint_9a6ad_1 : decode cJ11_isValidCodePoint_9a6ad 1 = .ok (.bipush 16, 2) := by decide +kernel
theorem dJ11_isValidCodePoint_9a6ad_3 : decode cJ11_isValidCodePoint_9a6ad 3 = .ok (.iushr, 1) := by decide +kernel
theorem dJ11_isValidCodePoint_9a6ad_4 : decode cJ11_isValidCodePoint_9a6ad 4 = .ok (.istore_n 1, 1) := by decide +kernel
theorem dJ11_isValidCodePoint_9a6ad_5 : decode cJ11_isValidCodePoint_9a6ad 5 = .ok (.iload_n 1, 1) := by decide +kernel
theorem dJ11_isValidCodePoint_9a6ad_6 : decode cJ11_isValidCodePoint_9a6ad 6 = .ok (.bipush 17, 2) := by decide +kernel
theorem dJ11_isValidCodePoint_9a6ad_8 : decode cJ11_isValidCodePoint_9a6ad 8 = .ok (.if_icmp .ge 7, 3) := by decide +kernel
theorem dJ11_isValidCodePoint_9a6ad_11 : decode cJ11_isValidCodePoint_9a6ad 11 = .ok (.iconst 1, 1) := by decide +kernel
theorem dJ11_isValidCodePoint_9a6ad_12 : decode cJ11_isValidCodePoint_9a6ad 12 = .ok (.goto 4, 3) := by decide +kernel
theorem dJ11_isValidCodePoint_9a6ad_15 : decode cJ11_isValidCodePoint_9a6ad 15 = .ok (.iconst 0, 1) := by decide +kernel
theorem dJ11_isValidCodePoint_9a6ad_16 : decode cJ11_isValidCodePoint_9a6ad 16 = .ok (.ireturn, 1) := by decide +kernel
theorem dJ11_highSurrogate_5068e_0 : decode cJ11_highSurrogate_5068e 0 = .ok (.iload_n 0, 1) := by decide +kernel
theorem dJ11_highSurrogate_5068e_1 : decode cJ11_highSurrogate_5068e 1 = .ok (.bipush 10, 2) := by decide +kernel
theorem dJ11_highSurrogate_5068e_3 : decode cJ11_highSurrogate_5068e 3 = .ok (.iushr, 1) := by decide +kernel
theorem dJ11_highSurrogate_5068e_4 : decode cJ11_highSurrogate_5068e 4 = .ok (.ldc 110, 2) := by decide +kernel
theorem dJ11_highSurrogate_5068e_6 : decode cJ11_highSurrogate_5068e 6 = .ok (.iadd, 1) := by decide +kernel
theorem dJ11_highSurrogate_5068e_7 : decode cJ11_highSurrogate_5068e 7 = .ok (.i2c, 1) := by decide +kernel
theorem dJ11_highSurrogate_5068e_8 : decode cJ11_highSurrogate_5068e 8 = .ok (.ireturn, 1) := by decide +kernel
theorem dJ11_lowSurrogate_5068e_0 : decode cJ11_lowSurrogate_5068e 0 = .ok (.iload_n 0, 1) := by decide +kernel
theorem dJ11_lowSurrogate_5068e_1 : decode cJ11_lowSurrogate_5068e 1 = .ok (.sipush 1023, 3) := by decide +kernel
theorem dJ11_lowSurrogate_5068e_4 : decode cJ11_lowSurrogate_5068e 4 = .ok (.iand, 1) := by decide +kernel
theorem dJ11_lowSurrogate_5068e_5 : decode cJ11_lowSurrogate_5068e 5 = .ok (.ldc 76, 2) := by decide +kernel
theorem dJ11_lowSurrogate_5068e_7 : decode cJ11_lowSurrogate_5068e 7 = .ok (.iadd, 1) := by decide +kernel
theorem dJ11_lowSurrogate_5068e_8 : decode cJ11_lowSurrogate_5068e 8 = .ok (.i2c, 1) := by decide +kernel
theorem dJ11_lowSurrogate_5068e_9 : decode cJ11_lowSurrogate_5068e 9 = .ok (.ireturn, 1) := by decide +kernel
theorem dJ9_abs_0f7a4_0 : decode cJ9_abs_0f7a4 0 = .ok (.iload_n 0, 1) := by decide +kernel
theorem dJ9_abs_0f7a4_1 : decode cJ9_abs_0f7a4 1 = .ok (.ifCond .ge 8, 3) := by decide +kernel
theorem dJ9_abs_0f7a4_4 : decode cJ9_abs_0f7a4 4 = .ok (.iload_n 0, 1) := by decide +kernel
theorem dJ9_abs_0f7a4_5 : decode cJ9_abs_0f7a4 5 = .ok (.ineg, 1) := by decide +kernel
theorem dJ9_abs_0f7a4_6 : decode cJ9_abs_0f7a4 6 = .ok (.goto 4, 3) := by decide +kernel
theorem dJ9_abs_0f7a4_9 : decode cJ9_abs_0f7a4 9 = .ok (.iload_n 0, 1) := by decide +kernel
theorem dJ9_abs_0f7a4_10 : decode cJ9_abs_0f7a4 10 = .ok (.ireturn, 1) := by decide +kernel
theorem dJ9_abs_067f4_0 : decode cJ9_abs_067f4 0 = .ok (.lload_n 0, 1) := by decide +kernel
theorem dJ9_abs_067f4_1 : decode cJ9_abs_067f4 1 = .ok (.lconst 0, 1) := by decide +kernel
theorem dJ9_abs_067f4_2 : decode cJ9_abs_067f4 2 = .ok (.lcmp, 1) := by decide +kernel
theorem dJ9_abs_067f4_3 : decode cJ9_abs_067f4 3 = .ok (.ifCond .ge 8, 3) := by decide +kernel
theorem dJ9_abs_067f4_6 : decode cJ9_abs_067f4 6 = .ok (.lload_n 0, 1) := by decide +kernel
theorem dJ9_abs_067f4_7 : decode cJ9_abs_067f4 7 = .ok (.lneg, 1) := by decide +kernel
theorem dJ9_abs_067f4_8 : decode cJ9_abs_067f4 8 = .ok (.goto 4, 3) := by decide +kernel
theorem dJ9_abs_067f4_11 : decode cJ9_abs_067f4 11 = .ok (.lload_n 0, 1) := by decide +kernel
theorem dJ9_abs_067f4_12 : decode cJ9_abs_067f4 12 = .ok (.lreturn, 1) := by decide +kernel
theorem dJ9_max_7cf53_0 : decode cJ9_max_7cf53 0 = .ok (.iload_n 0, 1) := by decide +kernel
theorem dJ9_max_7cf53_1 : decode cJ9_max_7cf53 1 = .ok (.iload_n 1, 1) := by decide +kernel
theorem dJ9_max_7cf53_2 : decode cJ9_max_7cf53 2 = .ok (.if_icmp .lt 7, 3) := by decide +kernel
theorem dJ9_max_7cf53_5 : decode cJ9_max_7cf53 5 = .ok (.iload_n 0, 1) := by decide +kernel
theorem dJ9_max_7cf53_6 : decode cJ9_max_7cf53 6 = .ok (.goto 4, 3) := by decide +kernel
theorem dJ9_max_7cf53_9 : decode cJ9_max_7cf53 9 = .ok (.iload_n 1, 1) := by decide +kernel
theorem dJ9_max_7cf53_10 : decode cJ9_max_7cf53 10 = .ok (.ireturn, 1) := by decide +kernel
theorem dJ9_max_f86c9_0 : decode cJ9_max_f86c9 0 = .ok (.lload_n 0, 1) := by decide +kernel
theorem dJ9_max_f86c9_1 : decode cJ9_max_f86c9 1 = .ok (.lload_n 2, 1) := by decide +kernel
theorem dJ9_max_f86c9_2 : decode cJ9_max_f86c9 2 = .ok (.lcmp, 1) := by decide +kernel
theorem dJ9_max_f86c9_3 : decode cJ9_max_f86c9 3 = .ok (.ifCond .lt 7, 3) := by decide +kernel
theorem dJ9_max_f86c9_6 : decode cJ9_max_f86c9 6 = .ok (.lload_n 0, 1) := by decide +kernel
theorem dJ9_max_f86c9_7 : decode cJ9_max_f86c9 7 = .ok (.goto 4, 3) := by decide +kernel
theorem dJ9_max_f86c9_10 : decode cJ9_max_f86c9 10 = .ok (.lload_n 2, 1) := by decide +kernel
theorem dJ9_max_f86c9_11 : decode cJ9_max_f86c9 11 = .ok (.lreturn, 1) := by decide +kernel
theorem dJ9_min_7cf53_0 : decode cJ9_min_7cf53 0 = .ok (.iload_n 0, 1) := by decide +kernel
theorem dJ9_min_7cf53_1 : decode cJ9_min_7cf53 1 = .ok (.iload_n 1, 1) := by decide +kernel
theorem dJ9_min_7cf53_2 : decode cJ9_min_7cf53 2 = .ok (.if_icmp .gt 7, 3) := by decide +kernel
theorem dJ9_min_7cf53_5 : decode cJ9_min_7cf53 5 = .ok (.iload_n 0, 1) := by decide +kernel
theorem dJ9_min_7cf53_6 : decode cJ9_min_7cf53 6 = .ok (.goto 4, 3) := by decide +kernel
theorem dJ9_min_7cf53_9 : decode cJ9_min_7cf53 9 = .ok (.iload_n 1, 1) := by decide +kernel
theorem dJ9_min_7cf53_10 : decode cJ9_min_7cf53 10 = .ok (.ireturn, 1) := by decide +kernel
theorem dJ0_length_8abf5_0 : decode cJ0_length_8abf5 0 = .ok (.aload_n 0, 1) := by decide +kernel
theorem dJ0_length_8abf5_1 : decode cJ0_length_8abf5 1 = .ok (.getfield 9, 3) := by decide +kernel
theorem dJ0_length_8abf5_4 : decode cJ0_length_8abf5 4 = .ok (.arraylength, 1) := by decide +kernel
theorem dJ0_length_8abf5_5 : decode cJ0_length_8abf5 5 = .ok (.aload_n 0, 1) := by decide +kernel
theorem dJ0_length_8abf5_6 : decode cJ0_length_8abf5 6 = .ok (.invokevirtual 335, 3) := by decide +kernel
theorem dJ0_length_8abf5_9 : decode cJ0_length_8abf5 9 = .ok (.ishr, 1) := by decide +kernel
theorem dJ0_length_8abf5_10 : decode cJ0_length_8abf5 10 = .ok (.ireturn, 1) := by decide +kernel
theorem dJ0_charAt_5068e_0 : decode cJ0_charAt_5068e 0 = .ok (.aload_n 0, 1) := by decide +kernel
theorem dJ0_charAt_5068e_1 : decode cJ0_charAt_5068e 1 = .ok (.invokevirtual 492, 3) := by decide +kernel
theorem dJ0_charAt_5068e_4 : decode cJ0_charAt_5068e 4 = .ok (.ifCond .eq 12, 3) := by decide +kernel
theorem dJ0_charAt_5068e_7 : decode cJ0_charAt_5068e 7 = .ok (.aload_n 0, 1) := by decide +kernel
theorem dJ0_charAt_5068e_8 : decode cJ0_charAt_5068e 8 = .ok (.getfield 9, 3) := by decide +kernel
theorem dJ0_charAt_5068e_11 : decode cJ0_charAt_5068e 11 = .ok (.iload_n 1, 1) := by decide +kernel
theorem dJ0_charAt_5068e_12 : decode cJ0_charAt_5068e 12 = .ok (.invokestatic 495, 3) := by decide +kernel
theorem dJ0_charAt_5068e_15 : decode cJ0_charAt_5068e 15 = .ok (.ireturn, 1) := by decide +kernel
theorem dJ0_charAt_5068e_16 : decode cJ0_charAt_5068e 16 = .ok (.aload_n 0, 1) := by decide +kernel
theorem dJ0_charAt_5068e_17 : decode cJ0_charAt_5068e 17 = .ok (.getfield 9, 3) := by decide +kernel
theorem dJ0_charAt_5068e_20 : decode cJ0_charAt_5068e 20 = .ok (.iload_n 1, 1) := by decide +kernel
theorem dJ0_charAt_5068e_21 : decode cJ0_charAt_5068e 21 = .ok (.invokestatic 498, 3) := by decide +kernel
theorem dJ0_charAt_5068e_24 : decode cJ0_charAt_5068e 24 = .ok (.ireturn, 1) := by decide +kernel
theorem dJ0_indexOf_0f7a4_0 : decode cJ0_indexOf_0f7a4 0 = .ok (.aload_n 0, 1) := by decide +kernel
theorem dJ0_indexOf_0f7a4_1 : decode cJ0_indexOf_0f7a4 1 = .ok (.iload_n 1, 1) := by decide +kernel
theorem dJ0_indexOf_0f7a4_2 : decode cJ0_indexOf_0f7a4 2 = .ok (.iconst 0, 1) := by decide +kernel
theorem dJ0_indexOf_0f7a4_3 : decode cJ0_indexOf_0f7a4 3 = .ok (.invokevirtual 633, 3) := by decide +kernel
theorem dJ0_indexOf_0f7a4_6 : decode cJ0_indexOf_0f7a4 6 = .ok (.ireturn, 1) := by decide +kernel
theorem dJ0_indexOf_7cf53_0 : decode cJ0_indexOf_7cf53 0 = .ok (.aload_n 0, 1) := by decide +kernel
theorem dJ0_indexOf_7cf53_1 : decode cJ0_indexOf_7cf53 1 = .ok (.invokevirtual 492, 3) := by decide +kernel
theorem dJ0_indexOf_7cf53_4 : decode cJ0_indexOf_7cf53 4 = .ok (.ifCond .eq 19, 3) := by decide +kernel
theorem dJ0_indexOf_7cf53_7 : decode cJ0_indexOf_7cf53 7 = .ok (.aload_n 0, 1) := by decide +kernel
theorem dJ0_indexOf_7cf53_8 : decode cJ0_indexOf_7cf53 8 = .ok (.getfield 9, 3) := by decide +kernel
theorem dJ0_indexOf_7cf53_11 : decode cJ0_indexOf_7cf53 11 = .ok (.iload_n 1, 1) := by decide +kernel
theorem dJ0_indexOf_7cf53_12 : decode cJ0_indexOf_7cf53 12 = .ok (.iload_n 2, 1) := by decide +kernel
theorem dJ0_indexOf_7cf53_13 : decode cJ0_indexOf_7cf53 13 = .ok (.aload_n 0, 1) := by decide +kernel
theorem dJ0_indexOf_7cf53_14 : decode cJ0_indexOf_7cf53 14 = .ok (.invokevirtual 505, 3) := by decide +kernel
theorem dJ0_indexOf_7cf53_17 : decode cJ0_indexOf_7cf53 17 = .ok (.invokestatic 637, 3) := by decide +kernel
theorem dJ0_indexOf_7cf53_20 : decode cJ0_indexOf_7cf53 20 = .ok (.goto 16, 3) := by decide +kernel
theorem dJ0_indexOf_7cf53_23 : decode cJ0_indexOf_7cf53 23 = .ok (.aload_n 0, 1) := by decide +kernel
theorem dJ0_indexOf_7cf53_24 : decode cJ0_indexOf_7cf53 24 = .ok (.getfield 9, 3) := by decide +kernel
theorem dJ0_indexOf_7cf53_27 : decode cJ0_indexOf_7cf53 27 = .ok (.iload_n 1, 1) := by decide +kernel
theorem dJ0_indexOf_7cf53_28 : decode cJ0_indexOf_7cf53 28 = .ok (.iload_n 2, 1) := by decide +kernel
theorem dJ0_indexOf_7cf53_29 : decode cJ0_indexOf_7cf53 29 = .ok (.aload_n 0, 1) := by decide +kernel
theorem dJ0_indexOf_7cf53_30 : decode cJ0_indexOf_7cf53 30 = .ok (.invokevirtual 505, 3) := by decide +kernel
theorem dJ0_indexOf_7cf53_33 : decode cJ0_indexOf_7cf53 33 = .ok (.invokestatic 640, 3) := by decide +kernel
theorem dJ0_indexOf_7cf53_36 : decode cJ0_indexOf_7cf53 36 = .ok (.ireturn, 1) := by decide +kernel
theorem dJ0_coder_7d493_0 : decode cJ0_coder_7d493 0 = .ok (.getstatic 38, 3) := by decide +kernel
theorem dJ0_coder_7d493_3 : decode cJ0_coder_7d493 3 = .ok (.ifCond .eq 10, 3) := by decide +kernel
theorem dJ0_coder_7d493_6 : decode cJ0_coder_7d493 6 = .ok (.aload_n 0, 1) := by decide +kernel
theorem dJ0_coder_7d493_7 : decode cJ0_coder_7d493 7 = .ok (.getfield 15, 3) := by decide +kernel
theorem dJ0_coder_7d493_10 : decode cJ0_coder_7d493 10 = .ok (.goto 4, 3) := by decide +kernel
theorem dJ0_coder_7d493_13 : decode cJ0_coder_7d493 13 = .ok (.iconst 1, 1) := by decide +kernel
theorem dJ0_coder_7d493_14 : decode cJ0_coder_7d493 14 = .ok (.ireturn, 1) := by decide +kernel
theorem dJ0_isLatin1_aae02_0 : decode cJ0_isLatin1_aae02 0 = .ok (.getstatic 38, 3) := by decide +kernel
theorem dJ0_isLatin1_aae02_3 : decode cJ0_isLatin1_aae02 3 = .ok (.ifCond .eq 14, 3) := by decide +kernel
theorem dJ0_isLatin1_aae02_6 : decode cJ0_isLatin1_aae02 6 = .ok (.aload_n 0, 1) := by decide +kernel
theorem dJ0_isLatin1_aae02_7 : decode cJ0_isLatin1_aae02 7 = .ok (.getfield 15, 3) := by decide +kernel
theorem dJ0_isLatin1_aae02_10 : decode cJ0_isLatin1_aae02 10 = .ok (.ifCond .ne 7, 3) := by decide +kernel
theorem dJ0_isLatin1_aae02_13 : decode cJ0_isLatin1_aae02 13 = .ok (.iconst 1, 1) := by decide +kernel
theorem dJ0_isLatin1_aae02_14 : decode cJ0_isLatin1_aae02 14 = .ok (.goto 4, 3) := by decide +kernel
theorem dJ0_isLatin1_aae02_17 : decode cJ0_isLatin1_aae02 17 = .ok (.iconst 0, 1) := by decide +kernel
theorem dJ0_isLatin1_aae02_18 : decode cJ0_isLatin1_aae02 18 = .ok (.ireturn, 1) := by decide +kernel
theorem dJ0_checkIndex_df160_0 : decode cJ0_checkIndex_df160 0 = .ok (.iload_n 0, 1) := by decide +kernel
theorem dJ0_checkIndex_df160_1 : decode cJ0_checkIndex_df160 1 = .ok (.iload_n 1, 1) := by decide +kernel
theorem dJ0_checkIndex_df160_2 : decode cJ0_checkIndex_df160 2 = .ok (.getstatic 1053, 3) := by decide +kernel
theorem dJ0_checkIndex_df160_5 : decode cJ0_checkIndex_df160 5 = .ok (.invokestatic 1059, 3) := by decide +kernel
theorem dJ0_checkIndex_df160_8 : decode cJ0_checkIndex_df160 8 = .ok (.pop, 1) := by decide +kernel
theorem dJ0_checkIndex_df160_9 : decode cJ0_checkIndex_df160 9 = .ok (.return_, 1) := by decide +kernel
theorem dJ0_checkBoundsBeginEnd_23922_0 : decode cJ0_checkBoundsBeginEnd_23922 0 = .ok (.iload_n 0, 1) := by decide +kernel
theorem dJ0_checkBoundsBeginEnd_23922_1 : decode cJ0_checkBoundsBeginEnd_23922 1 = .ok (.iload_n 1, 1) := by decide +kernel
theorem dJ0_checkBoundsBeginEnd_23922_2 : decode cJ0_checkBoundsBeginEnd_23922 2 = .ok (.iload_n 2, 1) := by decide +kernel
theorem dJ0_checkBoundsBeginEnd_23922_3 : decode cJ0_checkBoundsBeginEnd_23922 3 = .ok (.getstatic 1053, 3) := by decide +kernel
theorem dJ0_checkBoundsBeginEnd_23922_6 : decode cJ0_checkBoundsBeginEnd_23922 6 = .ok (.invokestatic 1062, 3) := by decide +kernel
theorem dJ0_checkBoundsBeginEnd_23922_9 : decode cJ0_checkBoundsBeginEnd_23922 9 = .ok (.pop, 1) := by decide +kernel
theorem dJ0_checkBoundsBeginEnd_23922_10 : decode cJ0_checkBoundsBeginEnd_23922 10 = .ok (.return_, 1) := by decide +kernel
theorem dJ1_charAt_3b067_0 : decode cJ1_charAt_3b067 0 = .ok (.iload_n 1, 1) := by decide +kernel
theorem dJ1_charAt_3b067_1 : decode cJ1_charAt_3b067 1 = .ok (.aload_n 0, 1) := by decide +kernel
theorem dJ1_charAt_3b067_2 : decode cJ1_charAt_3b067 2 = .ok (.arraylength, 1) := by decide +kernel
theorem dJ1_charAt_3b067_3 : decode cJ1_charAt_3b067 3 = .ok (.invokestatic 9, 3) := by decide +kernel
theorem dJ1_charAt_3b067_6 : decode cJ1_charAt_3b067 6 = .ok (.aload_n 0, 1) := by decide +kernel
theorem dJ1_charAt_3b067_7 : decode cJ1_charAt_3b067 7 = .ok (.iload_n 1, 1) := by decide +kernel
theorem dJ1_charAt_3b067_8 : decode cJ1_charAt_3b067 8 = .ok (.baload, 1) := by decide +kernel
theorem dJ1_charAt_3b067_9 : decode cJ1_charAt_3b067 9 = .ok (.sipush 255, 3) := by decide +kernel
theorem dJ1_charAt_3b067_12 : decode cJ1_charAt_3b067 12 = .ok (.iand, 1) := by decide +kernel
theorem dJ1_charAt_3b067_13 : decode cJ1_charAt_3b067 13 = .ok (.i2c, 1) := by decide +kernel
theorem dJ1_charAt_3b067_14 : decode cJ1_charAt_3b067 14 = .ok (.ireturn, 1) := by decide +kernel
theorem dJ1_canEncode_9a6ad_0 : decode cJ1_canEncode_9a6ad 0 = .ok (.iload_n 0, 1) := by decide +kernel
theorem dJ1_canEncode_9a6ad_1 : decode cJ1_canEncode_9a6ad 1 = .ok (.ifCond .lt 14, 3) := by decide +kernel
theorem dJ1_canEncode_9a6ad_4 : decode cJ1_canEncode_9a6ad 4 = .ok (.iload_n 0, 1) := by decide +kernel
theorem dJ1_canEncode_9a6ad_5 : decode cJ1_canEncode_9a6ad 5 = .ok (.sipush 255, 3) := by decide +kernel
theorem dJ1_canEncode_9a6ad_8 : decode cJ1_canEncode_9a6ad 8 = .ok (.if_icmp .gt 7, 3) := by decide +kernel
theorem dJ1_canEncode_9a6ad_11 : decode cJ1_canEncode_9a6ad 11 = .ok (.iconst 1, 1) := by decide +kernel
theorem dJ1_canEncode_9a6ad_12 : decode cJ1_canEncode_9a6ad 12 = .ok (.goto 4, 3) := by decide +kernel
theorem dJ1_canEncode_9a6ad_15 : decode cJ1_canEncode_9a6ad 15 = .ok (.iconst 0, 1) := by decide +kernel
theorem dJ1_canEncode_9a6ad_16 : decode cJ1_canEncode_9a6ad 16 = .ok (.ireturn, 1) := by decide +kernel
theorem dJ1_indexOf_4cfef_0 : decode cJ1_indexOf_4cfef 0 = .ok (.iload_n 1, 1) := by decide +kernel
theorem dJ1_indexOf_4cfef_1 : decode cJ1_indexOf_4cfef 1 = .ok (.invokestatic 88, 3) := by decide +kernel
theorem dJ1_indexOf_4cfef_4 : decode cJ1_indexOf_4cfef 4 = .ok (.ifCond .ne 5, 3) := by decide +kernel
theorem dJ1_indexOf_4cfef_7 : decode cJ1_indexOf_4cfef 7 = .ok (.iconst (-1), 1) := by decide +kernel
theorem dJ1_indexOf_4cfef_8 : decode cJ1_indexOf_4cfef 8 = .ok (.ireturn, 1) := by decide +kernel
theorem dJ1_indexOf_4cfef_9 : decode cJ1_indexOf_4cfef 9 = .ok (.iload_n 2, 1) := by decide +kernel
theorem dJ1_indexOf_4cfef_10 : decode cJ1_indexOf_4cfef 10 = .ok (.iconst 0, 1) := by decide +kernel
theorem dJ1_indexOf_4cfef_11 : decode cJ1_indexOf_4cfef 11 = .ok (.invokestatic 92, 3) := by decide +kernel
theorem dJ1_indexOf_4cfef_14 : decode cJ1_indexOf_4cfef 14 = .ok (.istore_n 2, 1) := by decide +kernel
theorem dJ1_indexOf_4cfef_15 : decode cJ1_indexOf_4cfef 15 = .ok (.iload_n 3, 1) := by decide +kernel
theorem dJ1_indexOf_4cfef_16 : decode cJ1_indexOf_4cfef 16 = .ok (.aload_n 0, 1) := by decide +kernel
theorem dJ1_indexOf_4cfef_17 : decode cJ1_indexOf_4cfef 17 = .ok (.arraylength, 1) := by decide +kernel
theorem dJ1_indexOf_4cfef_18 : decode cJ1_indexOf_4cfef 18 = .ok (.invokestatic 38, 3) := by decide +kernel
theorem dJ1_indexOf_4cfef_21 : decode cJ1_indexOf_4cfef 21 = .ok (.istore_n 3, 1) := by decide +kernel
theorem dJ1_indexOf_4cfef_22 : decode cJ1_indexOf_4cfef 22 = .ok (.iload_n 2, 1) := by decide +kernel
theorem dJ1_indexOf_4cfef_23 : decode cJ1_indexOf_4cfef 23 = .ok (.iload_n 3, 1) := by decide +kernel
theorem dJ1_indexOf_4cfef_24 : decode cJ1_indexOf_4cfef 24 = .ok (.if_icmp .lt 5, 3) := by decide +kernel
theorem dJ1_indexOf_4cfef_27 : decode cJ1_indexOf_4cfef 27 = .ok (.iconst (-1), 1) := by decide +kernel
theorem dJ1_indexOf_4cfef_28 : decode cJ1_indexOf_4cfef 28 = .ok (.ireturn, 1) := by decide +kernel
theorem dJ1_indexOf_4cfef_29 : decode cJ1_indexOf_4cfef 29 = .ok (.aload_n 0, 1) := by decide +kernel
theorem dJ1_indexOf_4cfef_30 : decode cJ1_indexOf_4cfef 30 = .ok (.iload_n 1, 1) := by decide +kernel
theorem dJ1_indexOf_4cfef_31 : decode cJ1_indexOf_4cfef 31 = .ok (.iload_n 2, 1) := by decide +kernel
theorem dJ1_indexOf_4cfef_32 : decode cJ1_indexOf_4cfef 32 = .ok (.iload_n 3, 1) := by decide +kernel
theorem dJ1_indexOf_4cfef_33 : decode cJ1_indexOf_4cfef 33 = .ok (.invokestatic 95, 3) := by decide +kernel
theorem dJ1_indexOf_4cfef_36 : decode cJ1_indexOf_4cfef 36 = .ok (.ireturn, 1) := by decide +kernel
theorem dJ1_indexOfChar_4cfef_0 : decode cJ1_indexOfChar_4cfef 0 = .ok (.iload_n 1, 1) := by decide +kernel
theorem dJ1_indexOfChar_4cfef_1 : decode cJ1_indexOfChar_4cfef 1 = .ok (.i2b, 1) := by decide +kernel
theorem dJ1_indexOfChar_4cfef_2 : decode cJ1_indexOfChar_4cfef 2 = .ok (.istore 4, 2) := by decide +kernel
theorem dJ1_indexOfChar_4cfef_4 : decode cJ1_indexOfChar_4cfef 4 = .ok (.iload_n 2, 1) := by decide +kernel
theorem dJ1_indexOfChar_4cfef_5 : decode cJ1_indexOfChar_4cfef 5 = .ok (.istore 5, 2) := by decide +kernel
theorem dJ1_indexOfChar_4cfef_7 : decode cJ1_indexOfChar_4cfef 7 = .ok (.iload 5, 2) := by decide +kernel
theorem dJ1_indexOfChar_4cfef_9 : decode cJ1_indexOfChar_4cfef 9 = .ok (.iload_n 3, 1) := by decide +kernel
theorem dJ1_indexOfChar_4cfef_10 : decode cJ1_indexOfChar_4cfef 10 = .ok (.if_icmp .ge 21, 3) := by decide +kernel
theorem dJ1_indexOfChar_4cfef_13 : decode cJ1_indexOfChar_4cfef 13 = .ok (.aload_n 0, 1) := by decide +kernel
theorem dJ1_indexOfChar_4cfef_14 : decode cJ1_indexOfChar_4cfef 14 = .ok (.iload 5, 2) := by decide +kernel
theorem dJ1_indexOfChar_4cfef_16 : decode cJ1_indexOfChar_4cfef 16 = .ok (.baload, 1) := by decide +kernel
theorem dJ1_indexOfChar_4cfef_17 : decode cJ1_indexOfChar_4cfef 17 = .ok (.iload 4, 2) := by decide +kernel
theorem dJ1_indexOfChar_4cfef_19 : decode cJ1_indexOfChar_4cfef 19 = .ok (.if_icmp .ne 6, 3) := by decide +kernel
theorem dJ1_indexOfChar_4cfef_22 : decode cJ1_indexOfChar_4cfef 22 = .ok (.iload 5, 2) := by decide +kernel
theorem dJ1_indexOfChar_4cfef_24 : decode cJ1_indexOfChar_4cfef 24 = .ok (.ireturn, 1) := by decide +kernel
theorem dJ1_indexOfChar_4cfef_25 : decode cJ1_indexOfChar_4cfef 25 = .ok (.iinc 5 1, 3) := by decide +kernel
theorem dJ1_indexOfChar_4cfef_28 : decode cJ1_indexOfChar_4cfef 28 = .ok (.goto (-21), 3) := by decide +kernel
theorem dJ1_indexOfChar_4cfef_31 : decode cJ1_indexOfChar_4cfef 31 = .ok (.iconst (-1), 1) := by decide +kernel
theorem dJ1_indexOfChar_4cfef_32 : decode cJ1_indexOfChar_4cfef 32 = .ok (.ireturn, 1) := by decide +kernel
theorem dJ2_getChar_3b067_0 : decode cJ2_getChar_3b067 0 = .ok (.getstatic 44, 3) := by decide +kernel
theorem dJ2_getChar_3b067_3 : decode cJ2_getChar_3b067 3 = .ok (.ifCond .ne 25, 3) := by decide +kernel
theorem dJ2_getChar_3b067_6 : decode cJ2_getChar_3b067 6 = .ok (.iload_n 1, 1) := by decide +kernel
theorem dJ2_getChar_3b067_7 : decode cJ2_getChar_3b067 7 = .ok (.ifCond .lt 11, 3) := by decide +kernel
theorem dJ2_getChar_3b067_10 : decode cJ2_getChar_3b067 10 = .ok (.iload_n 1, 1) := by decide +kernel
theorem dJ2_getChar_3b067_11 : decode cJ2_getChar_3b067 11 = .ok (.aload_n 0, 1) := by decide +kernel
theorem dJ2_getChar_3b067_12 : decode cJ2_getChar_3b067 12 = .ok (.invokestatic 48, 3) := by decide +kernel
theorem dJ2_getChar_3b067_15 : decode cJ2_getChar_3b067 15 = .ok (.if_icmp .lt 13, 3) := by decide +kernel
theorem dJ2_getChar_3b067_18 : decode cJ2_getChar_3b067 18 = .ok (.new 52, 3) := by decide +kernel
theorem dJ2_getChar_3b067_21 : decode cJ2_getChar_3b067 21 = .ok (.dup, 1) := by decide +kernel
theorem dJ2_getChar_3b067_22 : decode cJ2_getChar_3b067 22 = .ok (.ldc 54, 2) := by decide +kernel
theorem dJ2_getChar_3b067_24 : decode cJ2_getChar_3b067 24 = .ok (.invokespecial 56, 3) := by decide +kernel
theorem dJ2_getChar_3b067_27 : decode cJ2_getChar_3b067 27 = .ok (.athrow, 1) := by decide +kernel
theorem dJ2_getChar_3b067_28 : decode cJ2_getChar_3b067 28 = .ok (.iload_n 1, 1) := by decide +kernel
theorem dJ2_getChar_3b067_29 : decode cJ2_getChar_3b067 29 = .ok (.iconst 1, 1) := by decide +kernel
theorem dJ2_getChar_3b067_30 : decode cJ2_getChar_3b067 30 = .ok (.ishl, 1) := by decide +kernel
theorem dJ2_getChar_3b067_31 : decode cJ2_getChar_3b067 31 = .ok (.istore_n 1, 1) := by decide +kernel
theorem dJ2_getChar_3b067_32 : decode cJ2_getChar_3b067 32 = .ok (.aload_n 0, 1) := by decide +kernel
theorem dJ2_getChar_3b067_33 : decode cJ2_getChar_3b067 33 = .ok (.iload_n 1, 1) := by decide +kernel
theorem dJ2_getChar_3b067_34 : decode cJ2_getChar_3b067 34 = .ok (.iinc 1 1, 3) := by decide +kernel
theorem dJ2_getChar_3b067_37 : decode cJ2_getChar_3b067 37 = .ok (.baload, 1) := by decide +kernel
theorem dJ2_getChar_3b067_38 : decode cJ2_getChar_3b067 38 = .ok (.sipush 255, 3) := by decide +kernel
theorem dJ2_getChar_3b067_41 : decode cJ2_getChar_3b067 41 = .ok (.iand, 1) := by decide +kernel
theorem dJ2_getChar_3b067_42 : decode cJ2_getChar_3b067 42 = .ok (.getstatic 59, 3) := by decide +kernel
theorem dJ2_getChar_3b067_45 : decode cJ2_getChar_3b067 45 = .ok (.ishl, 1) := by decide +kernel
theorem dJ2_getChar_3b067_46 : decode cJ2_getChar_3b067 46 = .ok (.aload_n 0, 1) := by decide +kernel
theorem dJ2_getChar_3b067_47 : decode cJ2_getChar_3b067 47 = .ok (.iload_n 1, 1) := by decide +kernel
theorem dJ2_getChar_3b067_48 : decode cJ2_getChar_3b067 48 = .ok (.baload, 1) := by decide +kernel
theorem dJ2_getChar_3b067_49 : decode cJ2_getChar_3b067 49 = .ok (.sipush 255, 3) := by decide +kernel
theorem dJ2_getChar_3b067_52 : decode cJ2_getChar_3b067 52 = .ok (.iand, 1) := by decide +kernel
theorem dJ2_getChar_3b067_53 : decode cJ2_getChar_3b067 53 = .ok (.getstatic 63, 3) := by decide +kernel
theorem dJ2_getChar_3b067_56 : decode cJ2_getChar_3b067 56 = .ok (.ishl, 1) := by decide +kernel
theorem dJ2_getChar_3b067_57 : decode cJ2_getChar_3b067 57 = .ok (.ior, 1) := by decide +kernel
theorem dJ2_getChar_3b067_58 : decode cJ2_getChar_3b067 58 = .ok (.i2c, 1) := by decide +kernel
theorem dJ2_getChar_3b067_59 : decode cJ2_getChar_3b067 59 = .ok (.ireturn, 1) := by decide +kernel
theorem dJ2_length_9d52b_0 : decode cJ2_length_9d52b 0 = .ok (.aload_n 0, 1) := by decide +kernel
theorem dJ2_length_9d52b_1 : decode cJ2_length_9d52b 1 = .ok (.arraylength, 1) := by decide +kernel
theorem dJ2_length_9d52b_2 : decode cJ2_length_9d52b 2 = .ok (.iconst 1, 1) := by decide +kernel
theorem dJ2_length_9d52b_3 : decode cJ2_length_9d52b 3 = .ok (.ishr, 1) := by decide +kernel
theorem dJ2_length_9d52b_4 : decode cJ2_length_9d52b 4 = .ok (.ireturn, 1) := by decide +kernel
theorem dJ2_indexOf_4cfef_0 : decode cJ2_indexOf_4cfef 0 = .ok (.iload_n 2, 1) := by decide +kernel
theorem dJ2_indexOf_4cfef_1 : decode cJ2_indexOf_4cfef 1 = .ok (.iconst 0, 1) := by decide +kernel
theorem dJ2_indexOf_4cfef_2 : decode cJ2_indexOf_4cfef 2 = .ok (.invokestatic 224, 3) := by decide +kernel
theorem dJ2_indexOf_4cfef_5 : decode cJ2_indexOf_4cfef 5 = .ok (.istore_n 2, 1) := by decide +kernel
theorem dJ2_indexOf_4cfef_6 : decode cJ2_indexOf_4cfef 6 = .ok (.iload_n 3, 1) := by decide +kernel
theorem dJ2_indexOf_4cfef_7 : decode cJ2_indexOf_4cfef 7 = .ok (.aload_n 0, 1) := by decide +kernel
theorem dJ2_indexOf_4cfef_8 : decode cJ2_indexOf_4cfef 8 = .ok (.arraylength, 1) := by decide +kernel
theorem dJ2_indexOf_4cfef_9 : decode cJ2_indexOf_4cfef 9 = .ok (.iconst 1, 1) := by decide +kernel
theorem dJ2_indexOf_4cfef_10 : decode cJ2_indexOf_4cfef 10 = .ok (.ishr, 1) := by decide +kernel
theorem dJ2_indexOf_4cfef_11 : decode cJ2_indexOf_4cfef 11 = .ok (.invokestatic 183, 3) := by decide +kernel
theorem dJ2_indexOf_4cfef_14 : decode cJ2_indexOf_4cfef 14 = .ok (.istore_n 3, 1) := by decide +kernel
theorem dJ2_indexOf_4cfef_15 : decode cJ2_indexOf_4cfef 15 = .ok (.iload_n 2, 1) := by decide +kernel
theorem dJ2_indexOf_4cfef_16 : decode cJ2_indexOf_4cfef 16 = .ok (.iload_n 3, 1) := by decide +kernel
theorem dJ2_indexOf_4cfef_17 : decode cJ2_indexOf_4cfef 17 = .ok (.if_icmp .lt 5, 3) := by decide +kernel
theorem dJ2_indexOf_4cfef_20 : decode cJ2_indexOf_4cfef 20 = .ok (.iconst (-1), 1) := by decide +kernel
theorem dJ2_indexOf_4cfef_21 : decode cJ2_indexOf_4cfef 21 = .ok (.ireturn, 1) := by decide +kernel
theorem dJ2_indexOf_4cfef_22 : decode cJ2_indexOf_4cfef 22 = .ok (.iload_n 1, 1) := by decide +kernel
theorem dJ2_indexOf_4cfef_23 : decode cJ2_indexOf_4cfef 23 = .ok (.ldc 227, 2) := by decide +kernel
theorem dJ2_indexOf_4cfef_25 : decode cJ2_indexOf_4cfef 25 = .ok (.if_icmp .ge 11, 3) := by decide +kernel
theorem dJ2_indexOf_4cfef_28 : decode cJ2_indexOf_4cfef 28 = .ok (.aload_n 0, 1) := by decide +kernel
theorem dJ2_indexOf_4cfef_29 : decode cJ2_indexOf_4cfef 29 = .ok (.iload_n 1, 1) := by decide +kernel
theorem dJ2_indexOf_4cfef_30 : decode cJ2_indexOf_4cfef 30 = .ok (.iload_n 2, 1) := by decide +kernel
theorem dJ2_indexOf_4cfef_31 : decode cJ2_indexOf_4cfef 31 = .ok (.iload_n 3, 1) := by decide +kernel
theorem dJ2_indexOf_4cfef_32 : decode cJ2_indexOf_4cfef 32 = .ok (.invokestatic 228, 3) := by decide +kernel
theorem dJ2_indexOf_4cfef_35 : decode cJ2_indexOf_4cfef 35 = .ok (.ireturn, 1) := by decide +kernel
theorem dJ2_indexOf_4cfef_36 : decode cJ2_indexOf_4cfef 36 = .ok (.aload_n 0, 1) := by decide +kernel
theorem dJ2_indexOf_4cfef_37 : decode cJ2_indexOf_4cfef 37 = .ok (.iload_n 1, 1) := by decide +kernel
theorem dJ2_indexOf_4cfef_38 : decode cJ2_indexOf_4cfef 38 = .ok (.iload_n 2, 1) := by decide +kernel
theorem dJ2_indexOf_4cfef_39 : decode cJ2_indexOf_4cfef 39 = .ok (.iload_n 3, 1) := by decide +kernel
theorem dJ2_indexOf_4cfef_40 : decode cJ2_indexOf_4cfef 40 = .ok (.invokestatic 232, 3) := by decide +kernel
theorem dJ2_indexOf_4cfef_43 : decode cJ2_indexOf_4cfef 43 = .ok (.ireturn, 1) := by decide +kernel
theorem dJ2_indexOfChar_4cfef_0 : decode cJ2_indexOfChar_4cfef 0 = .ok (.iload_n 2, 1) := by decide +kernel
theorem dJ2_indexOfChar_4cfef_1 : decode cJ2_indexOfChar_4cfef 1 = .ok (.iload_n 3, 1) := by decide +kernel
theorem dJ2_indexOfChar_4cfef_2 : decode cJ2_indexOfChar_4cfef 2 = .ok (.aload_n 0, 1) := by decide +kernel
theorem dJ2_indexOfChar_4cfef_3 : decode cJ2_indexOfChar_4cfef 3 = .ok (.invokestatic 96, 3) := by decide +kernel
theorem dJ2_indexOfChar_4cfef_6 : decode cJ2_indexOfChar_4cfef 6 = .ok (.aload_n 0, 1) := by decide +kernel
theorem dJ2_indexOfChar_4cfef_7 : decode cJ2_indexOfChar_4cfef 7 = .ok (.iload_n 1, 1) := by decide +kernel
theorem dJ2_indexOfChar_4cfef_8 : decode cJ2_indexOfChar_4cfef 8 = .ok (.iload_n 2, 1) := by decide +kernel
theorem dJ2_indexOfChar_4cfef_9 : decode cJ2_indexOfChar_4cfef 9 = .ok (.iload_n 3, 1) := by decide +kernel
theorem dJ2_indexOfChar_4cfef_10 : decode cJ2_indexOfChar_4cfef 10 = .ok (.invokestatic 244, 3) := by decide +kernel
theorem dJ2_indexOfChar_4cfef_13 : decode cJ2_indexOfChar_4cfef 13 = .ok (.ireturn, 1) := by decide +kernel
theorem dJ2_indexOfCharUnsafe_4cfef_0 : decode cJ2_indexOfCharUnsafe_4cfef 0 = .ok (.iload_n 2, 1) := by decide +kernel
theorem dJ2_indexOfCharUnsafe_4cfef_1 : decode cJ2_indexOfCharUnsafe_4cfef 1 = .ok (.istore 4, 2) := by decide +kernel
theorem dJ2_indexOfCharUnsafe_4cfef_3 : decode cJ2_indexOfCharUnsafe_4cfef 3 = .ok (.iload 4, 2) := by decide +kernel
theorem dJ2_indexOfCharUnsafe_4cfef_5 : decode cJ2_indexOfCharUnsafe_4cfef 5 = .ok (.iload_n 3, 1) := by decide +kernel
theorem dJ2_indexOfCharUnsafe_4cfef_6 : decode cJ2_indexOfCharUnsafe_4cfef 6 = .ok (.if_icmp .ge 22, 3) := by decide +kernel
theorem dJ2_indexOfCharUnsafe_4cfef_9 : decode cJ2_indexOfCharUnsafe_4cfef 9 = .ok (.aload_n 0, 1) := by decide +kernel
theorem dJ2_indexOfCharUnsafe_4cfef_10 : decode cJ2_indexOfCharUnsafe_4cfef 10 = .ok (.iload 4, 2) := by decide +kernel
theorem dJ2_indexOfCharUnsafe_4cfef_12 : decode cJ2_indexOfCharUnsafe_4cfef 12 = .ok (.invokestatic 71, 3) := by decide +kernel
theorem dJ2_indexOfCharUnsafe_4cfef_15 : decode cJ2_indexOfCharUnsafe_4cfef 15 = .ok (.iload_n 1, 1) := by decide +kernel
theorem dJ2_indexOfCharUnsafe_4cfef_16 : decode cJ2_indexOfCharUnsafe_4cfef 16 = .ok (.if_icmp .ne 6, 3) := by decide +kernel
theorem dJ2_indexOfCharUnsafe_4cfef_19 : decode cJ2_indexOfCharUnsafe_4cfef 19 = .ok (.iload 4, 2) := by decide +kernel
theorem dJ2_indexOfCharUnsafe_4cfef_21 : decode cJ2_indexOfCharUnsafe_4cfef 21 = .ok (.ireturn, 1) := by decide +kernel
theorem dJ2_indexOfCharUnsafe_4cfef_22 : decode cJ2_indexOfCharUnsafe_4cfef 22 = .ok (.iinc 4 1, 3) := by decide +kernel
theorem dJ2_indexOfCharUnsafe_4cfef_25 : decode cJ2_indexOfCharUnsafe_4cfef 25 = .ok (.goto (-22), 3) := by decide +kernel
theorem dJ2_indexOfCharUnsafe_4cfef_28 : decode cJ2_indexOfCharUnsafe_4cfef 28 = .ok (.iconst (-1), 1) := by decide +kernel
theorem dJ2_indexOfCharUnsafe_4cfef_29 : decode cJ2_indexOfCharUnsafe_4cfef 29 = .ok (.ireturn, 1) := by decide +kernel
theorem dJ2_indexOfSupplementary_4cfef_0 : decode cJ2_indexOfSupplementary_4cfef 0 = .ok (.iload_n 1, 1) := by decide +kernel
theorem dJ2_indexOfSupplementary_4cfef_1 : decode cJ2_indexOfSupplementary_4cfef 1 = .ok (.invokestatic 164, 3) := by decide +kernel
theorem dJ2_indexOfSupplementary_4cfef_4 : decode cJ2_indexOfSupplementary_4cfef 4 = .ok (.ifCond .eq 65, 3) := by decide +kernel
theorem dJ2_indexOfSupplementary_4cfef_7 : decode cJ2_indexOfSupplementary_4cfef 7 = .ok (.iload_n 1, 1) := by decide +kernel
theorem dJ2_indexOfSupplementary_4cfef_8 : decode cJ2_indexOfSupplementary_4cfef 8 = .ok (.invokestatic 157, 3) := by decide +kernel
theorem dJ2_indexOfSupplementary_4cfef_11 : decode cJ2_indexOfSupplementary_4cfef 11 = .ok (.istore 4, 2) := by decide +kernel
theorem dJ2_indexOfSupplementary_4cfef_13 : decode cJ2_indexOfSupplementary_4cfef 13 = .ok (.iload_n 1, 1) := by decide +kernel
theorem dJ2_indexOfSupplementary_4cfef_14 : decode cJ2_indexOfSupplementary_4cfef 14 = .ok (.invokestatic 161, 3) := by decide +kernel
theorem dJ2_indexOfSupplementary_4cfef_17 : decode cJ2_indexOfSupplementary_4cfef 17 = .ok (.istore 5, 2) := by decide +kernel
theorem dJ2_indexOfSupplementary_4cfef_19 : decode cJ2_indexOfSupplementary_4cfef 19 = .ok (.iload_n 2, 1) := by decide +kernel
theorem dJ2_indexOfSupplementary_4cfef_20 : decode cJ2_indexOfSupplementary_4cfef 20 = .ok (.iload_n 3, 1) := by decide +kernel
theorem dJ2_indexOfSupplementary_4cfef_21 : decode cJ2_indexOfSupplementary_4cfef 21 = .ok (.aload_n 0, 1) := by decide +kernel
theorem dJ2_indexOfSupplementary_4cfef_22 : decode cJ2_indexOfSupplementary_4cfef 22 = .ok (.invokestatic 96, 3) := by decide +kernel
theorem dJ2_indexOfSupplementary_4cfef_25 : decode cJ2_indexOfSupplementary_4cfef 25 = .ok (.iload_n 2, 1) := by decide +kernel
theorem dJ2_indexOfSupplementary_4cfef_26 : decode cJ2_indexOfSupplementary_4cfef 26 = .ok (.istore 6, 2) := by decide +kernel
theorem dJ2_indexOfSupplementary_4cfef_28 : decode cJ2_indexOfSupplementary_4cfef 28 = .ok (.iload 6, 2) := by decide +kernel
theorem dJ2_indexOfSupplementary_4cfef_30 : decode cJ2_indexOfSupplementary_4cfef 30 = .ok (.iload_n 3, 1) := by decide +kernel
theorem dJ2_indexOfSupplementary_4cfef_31 : decode cJ2_indexOfSupplementary_4cfef 31 = .ok (.iconst 1, 1) := by decide +kernel
theorem dJ2_indexOfSupplementary_4cfef_32 : decode cJ2_indexOfSupplementary_4cfef 32 = .ok (.isub, 1) := by decide +kernel
theorem dJ2_indexOfSupplementary_4cfef_33 : decode cJ2_indexOfSupplementary_4cfef 33 = .ok (.if_icmp .ge 36, 3) := by decide +kernel
theorem dJ2_indexOfSupplementary_4cfef_36 : decode cJ2_indexOfSupplementary_4cfef 36 = .ok (.aload_n 0, 1) := by decide +kernel
theorem dJ2_indexOfSupplementary_4cfef_37 : decode cJ2_indexOfSupplementary_4cfef 37 = .ok (.iload 6, 2) := by decide +kernel
theorem dJ2_indexOfSupplementary_4cfef_39 : decode cJ2_indexOfSupplementary_4cfef 39 = .ok (.invokestatic 71, 3) := by decide +kernel
theorem dJ2_indexOfSupplementary_4cfef_42 : decode cJ2_indexOfSupplementary_4cfef 42 = .ok (.iload 4, 2) := by decide +kernel
theorem dJ2_indexOfSupplementary_4cfef_44 : decode cJ2_indexOfSupplementary_4cfef 44 = .ok (.if_icmp .ne 19, 3) := by decide +kernel
theorem dJ2_indexOfSupplementary_4cfef_47 : decode cJ2_indexOfSupplementary_4cfef 47 = .ok (.aload_n 0, 1) := by decide +kernel
theorem dJ2_indexOfSupplementary_4cfef_48 : decode cJ2_indexOfSupplementary_4cfef 48 = .ok (.iload 6, 2) := by decide +kernel
theorem dJ2_indexOfSupplementary_4cfef_50 : decode cJ2_indexOfSupplementary_4cfef 50 = .ok (.iconst 1, 1) := by decide +kernel
theorem dJ2_indexOfSupplementary_4cfef_51 : decode cJ2_indexOfSupplementary_4cfef 51 = .ok (.iadd, 1) := by decide +kernel
theorem dJ2_indexOfSupplementary_4cfef_52 : decode cJ2_indexOfSupplementary_4cfef 52 = .ok (.invokestatic 71, 3) := by decide +kernel
theorem dJ2_indexOfSupplementary_4cfef_55 : decode cJ2_indexOfSupplementary_4cfef 55 = .ok (.iload 5, 2) := by decide +kernel
theorem dJ2_indexOfSupplementary_4cfef_57 : decode cJ2_indexOfSupplementary_4cfef 57 = .ok (.if_icmp .ne 6, 3) := by decide +kernel
theorem dJ2_indexOfSupplementary_4cfef_60 : decode cJ2_indexOfSupplementary_4cfef 60 = .ok (.iload 6, 2) := by decide +kernel
theorem dJ2_indexOfSupplementary_4cfef_62 : decode cJ2_indexOfSupplementary_4cfef 62 = .ok (.ireturn, 1) := by decide +kernel
theorem dJ2_indexOfSupplementary_4cfef_63 : decode cJ2_indexOfSupplementary_4cfef 63 = .ok (.iinc 6 1, 3) := by decide +kernel
theorem dJ2_indexOfSupplementary_4cfef_66 : decode cJ2_indexOfSupplementary_4cfef 66 = .ok (.goto (-38), 3) := by decide +kernel
theorem dJ2_indexOfSupplementary_4cfef_69 : decode cJ2_indexOfSupplementary_4cfef 69 = .ok (.iconst (-1), 1) := by decide +kernel
theorem dJ2_indexOfSupplementary_4cfef_70 : decode cJ2_indexOfSupplementary_4cfef 70 = .ok (.ireturn, 1) := by decide +kernel
theorem dJ2_charAt_3b067_0 : decode cJ2_charAt_3b067 0 = .ok (.iload_n 1, 1) := by decide +kernel
theorem dJ2_charAt_3b067_1 : decode cJ2_charAt_3b067 1 = .ok (.aload_n 0, 1) := by decide +kernel
theorem dJ2_charAt_3b067_2 : decode cJ2_charAt_3b067 2 = .ok (.invokestatic 67, 3) := by decide +kernel
theorem dJ2_charAt_3b067_5 : decode cJ2_charAt_3b067 5 = .ok (.aload_n 0, 1) := by decide +kernel
theorem dJ2_charAt_3b067_6 : decode cJ2_charAt_3b067 6 = .ok (.iload_n 1, 1) := by decide +kernel
theorem dJ2_charAt_3b067_7 : decode cJ2_charAt_3b067 7 = .ok (.invokestatic 71, 3) := by decide +kernel
theorem dJ2_charAt_3b067_10 : decode cJ2_charAt_3b067 10 = .ok (.ireturn, 1) := by decide +kernel
theorem dJ2_checkIndex_2214a_0 : decode cJ2_checkIndex_2214a 0 = .ok (.iload_n 0, 1) := by decide +kernel
theorem dJ2_checkIndex_2214a_1 : decode cJ2_checkIndex_2214a 1 = .ok (.aload_n 1, 1) := by decide +kernel
theorem dJ2_checkIndex_2214a_2 : decode cJ2_checkIndex_2214a 2 = .ok (.invokestatic 48, 3) := by decide +kernel
theorem dJ2_checkIndex_2214a_5 : decode cJ2_checkIndex_2214a 5 = .ok (.invokestatic 414, 3) := by decide +kernel
theorem dJ2_checkIndex_2214a_8 : decode cJ2_checkIndex_2214a 8 = .ok (.return_, 1) := by decide +kernel
theorem dJ2_checkBoundsBeginEnd_d044e_0 : decode cJ2_checkBoundsBeginEnd_d044e 0 = .ok (.iload_n 0, 1) := by decide +kernel
theorem dJ2_checkBoundsBeginEnd_d044e_1 : decode cJ2_checkBoundsBeginEnd_d044e 1 = .ok (.iload_n 1, 1) := by decide +kernel
theorem dJ2_checkBoundsBeginEnd_d044e_2 : decode cJ2_checkBoundsBeginEnd_d044e 2 = .ok (.aload_n 2, 1) := by decide +kernel
theorem dJ2_checkBoundsBeginEnd_d044e_3 : decode cJ2_checkBoundsBeginEnd_d044e 3 = .ok (.invokestatic 48, 3) := by decide +kernel
theorem dJ2_checkBoundsBeginEnd_d044e_6 : decode cJ2_checkBoundsBeginEnd_d044e 6 = .ok (.invokestatic 241, 3) := by decide +kernel
theorem dJ2_checkBoundsBeginEnd_d044e_9 : decode cJ2_checkBoundsBeginEnd_d044e 9 = .ok (.return_, 1) := by decide +kernel
theorem dJ7_fill_53178_0 : decode cJ7_fill_53178 0 = .ok (.iconst 0, 1) := by decide +kernel
theorem dJ7_fill_53178_1 : decode cJ7_fill_53178 1 = .ok (.istore_n 2, 1) := by decide +kernel
theorem dJ7_fill_53178_2 : decode cJ7_fill_53178 2 = .ok (.aload_n 0, 1) := by decide +kernel
theorem dJ7_fill_53178_3 : decode cJ7_fill_53178 3 = .ok (.arraylength, 1) := by decide +kernel
theorem dJ7_fill_53178_4 : decode cJ7_fill_53178 4 = .ok (.istore_n 3, 1) := by decide +kernel
theorem dJ7_fill_53178_5 : decode cJ7_fill_53178 5 = .ok (.iload_n 2, 1) := by decide +kernel
theorem dJ7_fill_53178_6 : decode cJ7_fill_53178 6 = .ok (.iload_n 3, 1) := by decide +kernel
theorem dJ7_fill_53178_7 : decode cJ7_fill_53178 7 = .ok (.if_icmp .ge 13, 3) := by decide +kernel
theorem dJ7_fill_53178_10 : decode cJ7_fill_53178 10 = .ok (.aload_n 0, 1) := by decide +kernel
theorem dJ7_fill_53178_11 : decode cJ7_fill_53178 11 = .ok (.iload_n 2, 1) := by decide +kernel
theorem dJ7_fill_53178_12 : decode cJ7_fill_53178 12 = .ok (.iload_n 1, 1) := by decide +kernel
theorem dJ7_fill_53178_13 : decode cJ7_fill_53178 13 = .ok (.iastore, 1) := by decide +kernel
theorem dJ7_fill_53178_14 : decode cJ7_fill_53178 14 = .ok (.iinc 2 1, 3) := by decide +kernel
theorem dJ7_fill_53178_17 : decode cJ7_fill_53178 17 = .ok (.goto (-12), 3) := by decide +kernel
theorem dJ7_fill_53178_20 : decode cJ7_fill_53178 20 = .ok (.return_, 1) := by decide +kernel
theorem dJ7_copyOf_59c91_0 : decode cJ7_copyOf_59c91 0 = .ok (.iload_n 1, 1) := by decide +kernel
theorem dJ7_copyOf_59c91_1 : decode cJ7_copyOf_59c91 1 = .ok (.aload_n 0, 1) := by decide +kernel
theorem dJ7_copyOf_59c91_2 : decode cJ7_copyOf_59c91 2 = .ok (.arraylength, 1) := by decide +kernel
theorem dJ7_copyOf_59c91_3 : decode cJ7_copyOf_59c91 3 = .ok (.if_icmp .ne 11, 3) := by decide +kernel
theorem dJ7_copyOf_59c91_6 : decode cJ7_copyOf_59c91 6 = .ok (.aload_n 0, 1) := by decide +kernel
theorem dJ7_copyOf_59c91_7 : decode cJ7_copyOf_59c91 7 = .ok (.invokevirtual 316, 3) := by decide +kernel
theorem dJ7_copyOf_59c91_10 : decode cJ7_copyOf_59c91 10 = .ok (.checkcast 317, 3) := by decide +kernel
theorem dJ7_copyOf_59c91_13 : decode cJ7_copyOf_59c91 13 = .ok (.areturn, 1) := by decide +kernel
theorem dJ7_copyOf_59c91_14 : decode cJ7_copyOf_59c91 14 = .ok (.iload_n 1, 1) := by decide +kernel
theorem dJ7_copyOf_59c91_15 : decode cJ7_copyOf_59c91 15 = .ok (.newarray .int, 2) := by decide +kernel
theorem dJ7_copyOf_59c91_17 : decode cJ7_copyOf_59c91 17 = .ok (.astore_n 2, 1) := by decide +kernel
theorem dJ7_copyOf_59c91_18 : decode cJ7_copyOf_59c91 18 = .ok (.aload_n 0, 1) := by decide +kernel
theorem dJ7_copyOf_59c91_19 : decode cJ7_copyOf_59c91 19 = .ok (.iconst 0, 1) := by decide +kernel
theorem dJ7_copyOf_59c91_20 : decode cJ7_copyOf_59c91 20 = .ok (.aload_n 2, 1) := by decide +kernel
theorem dJ7_copyOf_59c91_21 : decode cJ7_copyOf_59c91 21 = .ok (.iconst 0, 1) := by decide +kernel
theorem dJ7_copyOf_59c91_22 : decode cJ7_copyOf_59c91 22 = .ok (.aload_n 0, 1) := by decide +kernel
theorem dJ7_copyOf_59c91_23 : decode cJ7_copyOf_59c91 23 = .ok (.arraylength, 1) := by decide +kernel
theorem dJ7_copyOf_59c91_24 : decode cJ7_copyOf_59c91 24 = .ok (.iload_n 1, 1) := by decide +kernel
theorem dJ7_copyOf_59c91_25 : decode cJ7_copyOf_59c91 25 = .ok (.invokestatic 304, 3) := by decide +kernel
theorem dJ7_copyOf_59c91_28 : decode cJ7_copyOf_59c91 28 = .ok (.invokestatic 150, 3) := by decide +kernel
theorem dJ7_copyOf_59c91_31 : decode cJ7_copyOf_59c91 31 = .ok (.aload_n 2, 1) := by decide +kernel
theorem dJ7_copyOf_59c91_32 : decode cJ7_copyOf_59c91 32 = .ok (.areturn, 1) := by decide +kernel
theorem dJ3_checkIndex_8e157_0 : decode cJ3_checkIndex_8e157 0 = .ok (.iload_n 0, 1) := by decide +kernel
theorem dJ3_checkIndex_8e157_1 : decode cJ3_checkIndex_8e157 1 = .ok (.ifCond .lt 8, 3) := by decide +kernel
theorem dJ3_checkIndex_8e157_4 : decode cJ3_checkIndex_8e157 4 = .ok (.iload_n 0, 1) := by decide +kernel
theorem dJ3_checkIndex_8e157_5 : decode cJ3_checkIndex_8e157 5 = .ok (.iload_n 1, 1) := by decide +kernel
theorem dJ3_checkIndex_8e157_6 : decode cJ3_checkIndex_8e157 6 = .ok (.if_icmp .lt 10, 3) := by decide +kernel
theorem dJ3_checkIndex_8e157_9 : decode cJ3_checkIndex_8e157 9 = .ok (.aload_n 2, 1) := by decide +kernel
theorem dJ3_checkIndex_8e157_10 : decode cJ3_checkIndex_8e157 10 = .ok (.iload_n 0, 1) := by decide +kernel
theorem dJ3_checkIndex_8e157_11 : decode cJ3_checkIndex_8e157 11 = .ok (.iload_n 1, 1) := by decide +kernel
theorem dJ3_checkIndex_8e157_12 : decode cJ3_checkIndex_8e157 12 = .ok (.invokestatic 95, 3) := by decide +kernel
theorem dJ3_checkIndex_8e157_15 : decode cJ3_checkIndex_8e157 15 = .ok (.athrow, 1) := by decide +kernel
theorem dJ3_checkIndex_8e157_16 : decode cJ3_checkIndex_8e157 16 = .ok (.iload_n 0, 1) := by decide +kernel
theorem dJ3_checkIndex_8e157_17 : decode cJ3_checkIndex_8e157 17 = .ok (.ireturn, 1) := by decide +kernel
theorem dJ3_checkFromToIndex_8c36e_0 : decode cJ3_checkFromToIndex_8c36e 0 = .ok (.iload_n 0, 1) := by decide +kernel
theorem dJ3_checkFromToIndex_8c36e_1 : decode cJ3_checkFromToIndex_8c36e 1 = .ok (.ifCond .lt 13, 3) := by decide +kernel
theorem dJ3_checkFromToIndex_8c36e_4 : decode cJ3_checkFromToIndex_8c36e 4 = .ok (.iload_n 0, 1) := by decide +kernel
theorem dJ3_checkFromToIndex_8c36e_5 : decode cJ3_checkFromToIndex_8c36e 5 = .ok (.iload_n 1, 1) := by decide +kernel
theorem dJ3_checkFromToIndex_8c36e_6 : decode cJ3_checkFromToIndex_8c36e 6 = .ok (.if_icmp .gt 8, 3) := by decide +kernel
theorem dJ3_checkFromToIndex_8c36e_9 : decode cJ3_checkFromToIndex_8c36e 9 = .ok (.iload_n 1, 1) := by decide +kernel
theorem dJ3_checkFromToIndex_8c36e_10 : decode cJ3_checkFromToIndex_8c36e 10 = .ok (.iload_n 2, 1) := by decide +kernel
theorem dJ3_checkFromToIndex_8c36e_11 : decode cJ3_checkFromToIndex_8c36e 11 = .ok (.if_icmp .le 11, 3) := by decide +kernel
theorem dJ3_checkFromToIndex_8c36e_14 : decode cJ3_checkFromToIndex_8c36e 14 = .ok (.aload_n 3, 1) := by decide +kernel
theorem dJ3_checkFromToIndex_8c36e_15 : decode cJ3_checkFromToIndex_8c36e 15 = .ok (.iload_n 0, 1) := by decide +kernel
theorem dJ3_checkFromToIndex_8c36e_16 : decode cJ3_checkFromToIndex_8c36e 16 = .ok (.iload_n 1, 1) := by decide +kernel
theorem dJ3_checkFromToIndex_8c36e_17 : decode cJ3_checkFromToIndex_8c36e 17 = .ok (.iload_n 2, 1) := by decide +kernel
theorem dJ3_checkFromToIndex_8c36e_18 : decode cJ3_checkFromToIndex_8c36e 18 = .ok (.invokestatic 99, 3) := by decide +kernel
theorem dJ3_checkFromToIndex_8c36e_21 : decode cJ3_checkFromToIndex_8c36e 21 = .ok (.athrow, 1) := by decide +kernel
theorem dJ3_checkFromToIndex_8c36e_22 : decode cJ3_checkFromToIndex_8c36e 22 = .ok (.iload_n 0, 1) := by decide +kernel
theorem dJ3_checkFromToIndex_8c36e_23 : decode cJ3_checkFromToIndex_8c36e 23 = .ok (.ireturn, 1) := by decide +kernel
theorem dL_law_0 : decode cL_law 0 = .ok (.new 7, 3) := by decide +kernel
theorem dL_law_3 : decode cL_law 3 = .ok (.dup, 1) := by decide +kernel
theorem dL_law_4 : decode cL_law 4 = .ok (.invokespecial 9, 3) := by decide +kernel
theorem dL_law_7 : decode cL_law 7 = .ok (.astore_n 1, 1) := by decide +kernel
theorem dL_law_8 : decode cL_law 8 = .ok (.new 10, 3) := by decide +kernel
theorem dL_law_11 : decode cL_law 11 = .ok (.dup, 1) := by decide +kernel
theorem dL_law_12 : decode cL_law 12 = .ok (.invokespecial 12, 3) := by decide +kernel
theorem dL_law_15 : decode cL_law 15 = .ok (.astore_n 2, 1) := by decide +kernel
theorem dL_law_16 : decode cL_law 16 = .ok (.iconst 0, 1) := by decide +kernel
theorem dL_law_17 : decode cL_law 17 = .ok (.istore_n 3, 1) := by decide +kernel
theorem dL_law_18 : decode cL_law 18 = .ok (.iload_n 3, 1) := by decide +kernel
theorem dL_law_19 : decode cL_law 19 = .ok (.aload_n 0, 1) := by decide +kernel
theorem dL_law_20 : decode cL_law 20 = .ok (.arraylength, 1) := by decide +kernel
theorem dL_law_21 : decode cL_law 21 = .ok (.bipush 6, 2) := by decide +kernel
theorem dL_law_23 : decode cL_law 23 = .ok (.isub, 1) := by decide +kernel
theorem dL_law_24 : decode cL_law 24 = .ok (.if_icmp .gt 1194, 3) := by decide +kernel
theorem dL_law_27 : decode cL_law 27 = .ok (.aload_n 0, 1) := by decide +kernel
theorem dL_law_28 : decode cL_law 28 = .ok (.iload_n 3, 1) := by decide +kernel
theorem dL_law_29 : decode cL_law 29 = .ok (.iaload, 1) := by decide +kernel
theorem dL_law_30 : decode cL_law 30 = .ok (.bipush 31, 2) := by decide +kernel
theorem dL_law_32 : decode cL_law 32 = .ok (.iand, 1) := by decide +kernel
theorem dL_law_33 : decode cL_law 33 = .ok (.tableswitch 1179 0 29 #[135, 158, 192, 225, 268, 311, 334, 397, 410, 433, 446, 489, 523, 557, 590, 623, 646, 690, 733, 766, 789, 832, 895, 908, 921, 944, 987, 1030, 1093, 1146], 135) := by decide +kernel
theorem dL_law_168 : decode cL_law 168 = .ok (.aload_n 1, 1) := by decide +kernel
theorem dL_law_169 : decode cL_law 169 = .ok (.aload_n 0, 1) := by decide +kernel
theorem dL_law_170 : decode cL_law 170 = .ok (.iload_n 3, 1) := by decide +kernel
theorem dL_law_171 : decode cL_law 171 = .ok (.iconst 1, 1) := by decide +kernel
theorem dL_law_172 : decode cL_law 172 = .ok (.iadd, 1) := by decide +kernel
theorem dL_law_173 : decode cL_law 173 = .ok (.iaload, 1) := by decide +kernel
theorem dL_law_174 : decode cL_law 174 = .ok (.invokevirtual 13, 3) := by decide +kernel
theorem dL_law_177 : decode cL_law 177 = .ok (.aload_n 2, 1) := by decide +kernel
theorem dL_law_178 : decode cL_law 178 = .ok (.aload_n 0, 1) := by decide +kernel
theorem dL_law_179 : decode cL_law 179 = .ok (.iload_n 3, 1) := by decide +kernel
theorem dL_law_180 : decode cL_law 180 = .ok (.iconst 1, 1) := by decide +kernel
theorem dL_law_181 : decode cL_law 181 = .ok (.iadd, 1) := by decide +kernel
theorem dL_law_182 : decode cL_law 182 = .ok (.iaload, 1) := by decide +kernel
theorem dL_law_183 : decode cL_law 183 = .ok (.invokevirtual 17, 3) := by decide +kernel
theorem dL_law_186 : decode cL_law 186 = .ok (.if_icmp .eq 1026, 3) := by decide +kernel
theorem dL_law_189 : decode cL_law 189 = .ok (.iconst 0, 1) := by decide +kernel
theorem dL_law_190 : decode cL_law 190 = .ok (.ireturn, 1) := by decide +kernel
theorem dL_law_191 : decode cL_law 191 = .ok (.aload_n 1, 1) := by decide +kernel
theorem dL_law_192 : decode cL_law 192 = .ok (.aload_n 0, 1) := by decide +kernel
theorem dL_law_193 : decode cL_law 193 = .ok (.iload_n 3, 1) := by decide +kernel
theorem dL_law_194 : decode cL_law 194 = .ok (.iconst 1, 1) := by decide +kernel
theorem dL_law_195 : decode cL_law 195 = .ok (.iadd, 1) := by decide +kernel
theorem dL_law_196 : decode cL_law 196 = .ok (.iaload, 1) := by decide +kernel
theorem dL_law_197 : decode cL_law 197 = .ok (.aload_n 0, 1) := by decide +kernel
theorem dL_law_198 : decode cL_law 198 = .ok (.iload_n 3, 1) := by decide +kernel
theorem dL_law_199 : decode cL_law 199 = .ok (.iconst 2, 1) := by decide +kernel
theorem dL_law_200 : decode cL_law 200 = .ok (.iadd, 1) := by decide +kernel
theorem dL_law_201 : decode cL_law 201 = .ok (.iaload, 1) := by decide +kernel
theorem dL_law_202 : decode cL_law 202 = .ok (.invokevirtual 18, 3) := by decide +kernel
theorem dL_law_205 : decode cL_law 205 = .ok (.aload_n 2, 1) := by decide +kernel
theorem dL_law_206 : decode cL_law 206 = .ok (.aload_n 0, 1) := by decide +kernel
theorem dL_law_207 : decode cL_law 207 = .ok (.iload_n 3, 1) := by decide +kernel
theorem dL_law_208 : decode cL_law 208 = .ok (.iconst 1, 1) := by decide +kernel
theorem dL_law_209 : decode cL_law 209 = .ok (.iadd, 1) := by decide +kernel
theorem dL_law_210 : decode cL_law 210 = .ok (.iaload, 1) := by decide +kernel
theorem dL_law_211 : decode cL_law 211 = .ok (.aload_n 0, 1) := by decide +kernel
theorem dL_law_212 : decode cL_law 212 = .ok (.iload_n 3, 1) := by decide +kernel
theorem dL_law_213 : decode cL_law 213 = .ok (.iconst 2, 1) := by decide +kernel
theorem dL_law_214 : decode cL_law 214 = .ok (.iadd, 1) := by decide +kernel
theorem dL_law_215 : decode cL_law 215 = .ok (.iaload, 1) := by decide +kernel
theorem dL_law_216 : decode cL_law 216 = .ok (.invokevirtual 22, 3) := by decide +kernel
theorem dL_law_219 : decode cL_law 219 = .ok (.lcmp, 1) := by decide +kernel
theorem dL_law_220 : decode cL_law 220 = .ok (.ifCond .eq 992, 3) := by decide +kernel
theorem dL_law_223 : decode cL_law 223 = .ok (.iconst 0, 1) := by decide +kernel
theorem dL_law_224 : decode cL_law 224 = .ok (.ireturn, 1) := by decide +kernel
theorem dL_law_225 : decode cL_law 225 = .ok (.aload_n 1, 1) := by decide +kernel
theorem dL_law_226 : decode cL_law 226 = .ok (.aload_n 0, 1) := by decide +kernel
theorem dL_law_227 : decode cL_law 227 = .ok (.iload_n 3, 1) := by decide +kernel
theorem dL_law_228 : decode cL_law 228 = .ok (.iconst 1, 1) := by decide +kernel
theorem dL_law_229 : decode cL_law 229 = .ok (.iadd, 1) := by decide +kernel
theorem dL_law_230 : decode cL_law 230 = .ok (.iaload, 1) := by decide +kernel
theorem dL_law_231 : decode cL_law 231 = .ok (.aload_n 0, 1) := by decide +kernel
theorem dL_law_232 : decode cL_law 232 = .ok (.iload_n 3, 1) := by decide +kernel
theorem dL_law_233 : decode cL_law 233 = .ok (.iconst 2, 1) := by decide +kernel
theorem dL_law_234 : decode cL_law 234 = .ok (.iadd, 1) := by decide +kernel
theorem dL_law_235 : decode cL_law 235 = .ok (.iaload, 1) := by decide +kernel
theorem dL_law_236 : decode cL_law 236 = .ok (.invokevirtual 23, 3) := by decide +kernel
theorem dL_law_239 : decode cL_law 239 = .ok (.aload_n 2, 1) := by decide +kernel
theorem dL_law_240 : decode cL_law 240 = .ok (.aload_n 0, 1) := by decide +kernel
theorem dL_law_241 : decode cL_law 241 = .ok (.iload_n 3, 1) := by decide +kernel
theorem dL_law_242 : decode cL_law 242 = .ok (.iconst 1, 1) := by decide +kernel
theorem dL_law_243 : decode cL_law 243 = .ok (.iadd, 1) := by decide +kernel
theorem dL_law_244 : decode cL_law 244 = .ok (.iaload, 1) := by decide +kernel
theorem dL_law_245 : decode cL_law 245 = .ok (.aload_n 0, 1) := by decide +kernel
theorem dL_law_246 : decode cL_law 246 = .ok (.iload_n 3, 1) := by decide +kernel
theorem dL_law_247 : decode cL_law 247 = .ok (.iconst 2, 1) := by decide +kernel
theorem dL_law_248 : decode cL_law 248 = .ok (.iadd, 1) := by decide +kernel
theorem dL_law_249 : decode cL_law 249 = .ok (.iaload, 1) := by decide +kernel
theorem dL_law_250 : decode cL_law 250 = .ok (.invokevirtual 27, 3) := by decide +kernel
theorem dL_law_253 : decode cL_law 253 = .ok (.if_icmp .eq 959, 3) := by decide +kernel
theorem dL_law_256 : decode cL_law 256 = .ok (.iconst 0, 1) := by decide +kernel
theorem dL_law_257 : decode cL_law 257 = .ok (.ireturn, 1) := by decide +kernel
theorem dL_law_258 : decode cL_law 258 = .ok (.aload_n 1, 1) := by decide +kernel
theorem dL_law_259 : decode cL_law 259 = .ok (.aload_n 0, 1) := by decide +kernel
theorem dL_law_260 : decode cL_law 260 = .ok (.iload_n 3, 1) := by decide +kernel
theorem dL_law_261 : decode cL_law 261 = .ok (.iconst 1, 1) := by decide +kernel
theorem dL_law_262 : decode cL_law 262 = .ok (.iadd, 1) := by decide +kernel
theorem dL_law_263 : decode cL_law 263 = .ok (.iaload, 1) := by decide +kernel
theorem dL_law_264 : decode cL_law 264 = .ok (.aload_n 0, 1) := by decide +kernel
theorem dL_law_265 : decode cL_law 265 = .ok (.iload_n 3, 1) := by decide +kernel
theorem dL_law_266 : decode cL_law 266 = .ok (.iconst 2, 1) := by decide +kernel
theorem dL_law_267 : decode cL_law 267 = .ok (.iadd, 1) := by decide +kernel
theorem dL_law_268 : decode cL_law 268 = .ok (.iaload, 1) := by decide +kernel
theorem dL_law_269 : decode cL_law 269 = .ok (.aload_n 0, 1) := by decide +kernel
theorem dL_law_270 : decode cL_law 270 = .ok (.iload_n 3, 1) := by decide +kernel
theorem dL_law_271 : decode cL_law 271 = .ok (.iconst 3, 1) := by decide +kernel
theorem dL_law_272 : decode cL_law 272 = .ok (.iadd, 1) := by decide +kernel
theorem dL_law_273 : decode cL_law 273 = .ok (.iaload, 1) := by decide +kernel
theorem dL_law_274 : decode cL_law 274 = .ok (.invokevirtual 28, 3) := by decide +kernel
theorem dL_law_277 : decode cL_law 277 = .ok (.aload_n 2, 1) := by decide +kernel
theorem dL_law_278 : decode cL_law 278 = .ok (.aload_n 0, 1) := by decide +kernel
theorem dL_law_279 : decode cL_law 279 = .ok (.iload_n 3, 1) := by decide +kernel
theorem dL_law_280 : decode cL_law 280 = .ok (.iconst 1, 1) := by decide +kernel
theorem dL_law_281 : decode cL_law 281 = .ok (.iadd, 1) := by decide +kernel
theorem dL_law_282 : decode cL_law 282 = .ok (.iaload, 1) := by decide +kernel
theorem dL_law_283 : decode cL_law 283 = .ok (.aload_n 0, 1) := by decide +kernel
theorem dL_law_284 : decode cL_law 284 = .ok (.iload_n 3, 1) := by decide +kernel
theorem dL_law_285 : decode cL_law 285 = .ok (.iconst 2, 1) := by decide +kernel
theorem dL_law_286 : decode cL_law 286 = .ok (.iadd, 1) := by decide +kernel
theorem dL_law_287 : decode cL_law 287 = .ok (.iaload, 1) := by decide +kernel
theorem dL_law_288 : decode cL_law 288 = .ok (.aload_n 0, 1) := by decide +kernel
theorem dL_law_289 : decode cL_law 289 = .ok (.iload_n 3, 1) := by decide +kernel
theorem dL_law_290 : decode cL_law 290 = .ok (.iconst 3, 1) := by decide +kernel
theorem dL_law_291 : decode cL_law 291 = .ok (.iadd, 1) := by decide +kernel
theorem dL_law_292 : decode cL_law 292 = .ok (.iaload, 1) := by decide +kernel
theorem dL_law_293 : decode cL_law 293 = .ok (.invokevirtual 32, 3) := by decide +kernel
theorem dL_law_296 : decode cL_law 296 = .ok (.if_icmp .eq 916, 3) := by decide +kernel
theorem dL_law_299 : decode cL_law 299 = .ok (.iconst 0, 1) := by decide +kernel
theorem dL_law_300 : decode cL_law 300 = .ok (.ireturn, 1) := by decide +kernel
theorem dL_law_301 : decode cL_law 301 = .ok (.aload_n 1, 1) := by decide +kernel
theorem dL_law_302 : decode cL_law 302 = .ok (.aload_n 0, 1) := by decide +kernel
theorem dL_law_303 : decode cL_law 303 = .ok (.iload_n 3, 1) := by decide +kernel
theorem dL_law_304 : decode cL_law 304 = .ok (.iconst 1, 1) := by decide +kernel
theorem dL_law_305 : decode cL_law 305 = .ok (.iadd, 1) := by decide +kernel
theorem dL_law_306 : decode cL_law 306 = .ok (.iaload, 1) := by decide +kernel
theorem dL_law_307 : decode cL_law 307 = .ok (.aload_n 0, 1) := by decide +kernel
theorem dL_law_308 : decode cL_law 308 = .ok (.iload_n 3, 1) := by decide +kernel
theorem dL_law_309 : decode cL_law 309 = .ok (.iconst 2, 1) := by decide +kernel
theorem dL_law_310 : decode cL_law 310 = .ok (.iadd, 1) := by decide +kernel
theorem dL_law_311 : decode cL_law 311 = .ok (.iaload, 1) := by decide +kernel
theorem dL_law_312 : decode cL_law 312 = .ok (.aload_n 0, 1) := by decide +kernel
theorem dL_law_313 : decode cL_law 313 = .ok (.iload_n 3, 1) := by decide +kernel
theorem dL_law_314 : decode cL_law 314 = .ok (.iconst 3, 1) := by decide +kernel
theorem dL_law_315 : decode cL_law 315 = .ok (.iadd, 1) := by decide +kernel
theorem dL_law_316 : decode cL_law 316 = .ok (.iaload, 1) := by decide +kernel
theorem dL_law_317 : decode cL_law 317 = .ok (.invokevirtual 33, 3) := by decide +kernel
theorem dL_law_320 : decode cL_law 320 = .ok (.aload_n 2, 1) := by decide +kernel
theorem dL_law_321 : decode cL_law 321 = .ok (.aload_n 0, 1) := by decide +kernel
theorem dL_law_322 : decode cL_law 322 = .ok (.iload_n 3, 1) := by decide +kernel
theorem dL_law_323 : decode cL_law 323 = .ok (.iconst 1, 1) := by decide +kernel
theorem dL_law_324 : decode cL_law 324 = .ok (.iadd, 1) := by decide +kernel
theorem dL_law_325 : decode cL_law 325 = .ok (.iaload, 1) := by decide +kernel
theorem dL_law_326 : decode cL_law 326 = .ok (.aload_n 0, 1) := by decide +kernel
theorem dL_law_327 : decode cL_law 327 = .ok (.iload_n 3, 1) := by decide +kernel
theorem dL_law_328 : decode cL_law 328 = .ok (.iconst 2, 1) := by decide +kernel
theorem dL_law_329 : decode cL_law 329 = .ok (.iadd, 1) := by decide +kernel
theorem dL_law_330 : decode cL_law 330 = .ok (.iaload, 1) := by decide +kernel
theorem dL_law_331 : decode cL_law 331 = .ok (.aload_n 0, 1) := by decide +kernel
theorem dL_law_332 : decode cL_law 332 = .ok (.iload_n 3, 1) := by decide +kernel
theorem dL_law_333 : decode cL_law 333 = .ok (.iconst 3, 1) := by decide +kernel
theorem dL_law_334 : decode cL_law 334 = .ok (.iadd, 1) := by decide +kernel
theorem dL_law_335 : decode cL_law 335 = .ok (.iaload, 1) := by decide +kernel
theorem dL_law_336 : decode cL_law 336 = .ok (.invokevirtual 36, 3) := by decide +kernel
theorem dL_law_339 : decode cL_law 339 = .ok (.if_icmp .eq 873, 3) := by decide +kernel
theorem dL_law_342 : decode cL_law 342 = .ok (.iconst 0, 1) := by decide +kernel
theorem dL_law_343 : decode cL_law 343 = .ok (.ireturn, 1) := by decide +kernel
theorem dL_law_344 : decode cL_law 344 = .ok (.aload_n 1, 1) := by decide +kernel
theorem dL_law_345 : decode cL_law 345 = .ok (.aload_n 0, 1) := by decide +kernel
theorem dL_law_346 : decode cL_law 346 = .ok (.iload_n 3, 1) := by decide +kernel
theorem dL_law_347 : decode cL_law 347 = .ok (.iconst 1, 1) := by decide +kernel
theorem dL_law_348 : decode cL_law 348 = .ok (.iadd, 1) := by decide +kernel
theorem dL_law_349 : decode cL_law 349 = .ok (.iaload, 1) := by decide +kernel
theorem dL_law_350 : decode cL_law 350 = .ok (.invokevirtual 37, 3) := by decide +kernel
theorem dL_law_353 : decode cL_law 353 = .ok (.aload_n 2, 1) := by decide +kernel
theorem dL_law_354 : decode cL_law 354 = .ok (.aload_n 0, 1) := by decide +kernel
theorem dL_law_355 : decode cL_law 355 = .ok (.iload_n 3, 1) := by decide +kernel
theorem dL_law_356 : decode cL_law 356 = .ok (.iconst 1, 1) := by decide +kernel
theorem dL_law_357 : decode cL_law 357 = .ok (.iadd, 1) := by decide +kernel
theorem dL_law_358 : decode cL_law 358 = .ok (.iaload, 1) := by decide +kernel
theorem dL_law_359 : decode cL_law 359 = .ok (.invokevirtual 40, 3) := by decide +kernel
theorem dL_law_362 : decode cL_law 362 = .ok (.if_icmp .eq 850, 3) := by decide +kernel
theorem dL_law_365 : decode cL_law 365 = .ok (.iconst 0, 1) := by decide +kernel
theorem dL_law_366 : decode cL_law 366 = .ok (.ireturn, 1) := by decide +kernel
theorem dL_law_367 : decode cL_law 367 = .ok (.aload_n 1, 1) := by decide +kernel
theorem dL_law_368 : decode cL_law 368 = .ok (.aload_n 0, 1) := by decide +kernel
theorem dL_law_369 : decode cL_law 369 = .ok (.iload_n 3, 1) := by decide +kernel
theorem dL_law_370 : decode cL_law 370 = .ok (.iconst 1, 1) := by decide +kernel
theorem dL_law_371 : decode cL_law 371 = .ok (.iadd, 1) := by decide +kernel
theorem dL_law_372 : decode cL_law 372 = .ok (.iaload, 1) := by decide +kernel
theorem dL_law_373 : decode cL_law 373 = .ok (.aload_n 0, 1) := by decide +kernel
theorem dL_law_374 : decode cL_law 374 = .ok (.iload_n 3, 1) := by decide +kernel
theorem dL_law_375 : decode cL_law 375 = .ok (.iconst 2, 1) := by decide +kernel
theorem dL_law_376 : decode cL_law 376 = .ok (.iadd, 1) := by decide +kernel
theorem dL_law_377 : decode cL_law 377 = .ok (.iaload, 1) := by decide +kernel
theorem dL_law_378 : decode cL_law 378 = .ok (.i2l, 1) := by decide +kernel
theorem dL_law_379 : decode cL_law 379 = .ok (.bipush 32, 2) := by decide +kernel
theorem dL_law_381 : decode cL_law 381 = .ok (.lshl, 1) := by decide +kernel
theorem dL_law_382 : decode cL_law 382 = .ok (.aload_n 0, 1) := by decide +kernel
theorem dL_law_383 : decode cL_law 383 = .ok (.iload_n 3, 1) := by decide +kernel
theorem dL_law_384 : decode cL_law 384 = .ok (.iconst 3, 1) := by decide +kernel
theorem dL_law_385 : decode cL_law 385 = .ok (.iadd, 1) := by decide +kernel
theorem dL_law_386 : decode cL_law 386 = .ok (.iaload, 1) := by decide +kernel
theorem dL_law_387 : decode cL_law 387 = .ok (.i2l, 1) := by decide +kernel
theorem dL_law_388 : decode cL_law 388 = .ok (.ldc2_w 41, 3) := by decide +kernel
theorem dL_law_391 : decode cL_law 391 = .ok (.land, 1) := by decide +kernel
theorem dL_law_392 : decode cL_law 392 = .ok (.lor, 1) := by decide +kernel
theorem dL_law_393 : decode cL_law 393 = .ok (.invokevirtual 43, 3) := by decide +kernel
theorem dL_law_396 : decode cL_law 396 = .ok (.aload_n 2, 1) := by decide +kernel
theorem dL_law_397 : decode cL_law 397 = .ok (.aload_n 0, 1) := by decide +kernel
theorem dL_law_398 : decode cL_law 398 = .ok (.iload_n 3, 1) := by decide +kernel
theorem dL_law_399 : decode cL_law 399 = .ok (.iconst 1, 1) := by decide +kernel
theorem dL_law_400 : decode cL_law 400 = .ok (.iadd, 1) := by decide +kernel
theorem dL_law_401 : decode cL_law 401 = .ok (.iaload, 1) := by decide +kernel
theorem dL_law_402 : decode cL_law 402 = .ok (.aload_n 0, 1) := by decide +kernel
theorem dL_law_403 : decode cL_law 403 = .ok (.iload_n 3, 1) := by decide +kernel
theorem dL_law_404 : decode cL_law 404 = .ok (.iconst 2, 1) := by decide +kernel
theorem dL_law_405 : decode cL_law 405 = .ok (.iadd, 1) := by decide +kernel
theorem dL_law_406 : decode cL_law 406 = .ok (.iaload, 1) := by decide +kernel
theorem dL_law_407 : decode cL_law 407 = .ok (.i2l, 1) := by decide +kernel
theorem dL_law_408 : decode cL_law 408 = .ok (.bipush 32, 2) := by decide +kernel
theorem dL_law_410 : decode cL_law 410 = .ok (.lshl, 1) := by decide +kernel
theorem dL_law_411 : decode cL_law 411 = .ok (.aload_n 0, 1) := by decide +kernel
theorem dL_law_412 : decode cL_law 412 = .ok (.iload_n 3, 1) := by decide +kernel
theorem dL_law_413 : decode cL_law 413 = .ok (.iconst 3, 1) := by decide +kernel
theorem dL_law_414 : decode cL_law 414 = .ok (.iadd, 1) := by decide +kernel
theorem dL_law_415 : decode cL_law 415 = .ok (.iaload, 1) := by decide +kernel
theorem dL_law_416 : decode cL_law 416 = .ok (.i2l, 1) := by decide +kernel
theorem dL_law_417 : decode cL_law 417 = .ok (.ldc2_w 41, 3) := by decide +kernel
theorem dL_law_420 : decode cL_law 420 = .ok (.land, 1) := by decide +kernel
theorem dL_law_421 : decode cL_law 421 = .ok (.lor, 1) := by decide +kernel
theorem dL_law_422 : decode cL_law 422 = .ok (.invokevirtual 47, 3) := by decide +kernel
theorem dL_law_425 : decode cL_law 425 = .ok (.if_icmp .eq 787, 3) := by decide +kernel
theorem dL_law_428 : decode cL_law 428 = .ok (.iconst 0, 1) := by decide +kernel
theorem dL_law_429 : decode cL_law 429 = .ok (.ireturn, 1) := by decide +kernel
theorem dL_law_430 : decode cL_law 430 = .ok (.aload_n 1, 1) := by decide +kernel
theorem dL_law_431 : decode cL_law 431 = .ok (.invokevirtual 48, 3) := by decide +kernel
theorem dL_law_434 : decode cL_law 434 = .ok (.aload_n 2, 1) := by decide +kernel
theorem dL_law_435 : decode cL_law 435 = .ok (.invokevirtual 52, 3) := by decide +kernel
theorem dL_law_438 : decode cL_law 438 = .ok (.if_icmp .eq 774, 3) := by decide +kernel
theorem dL_law_441 : decode cL_law 441 = .ok (.iconst 0, 1) := by decide +kernel
theorem dL_law_442 : decode cL_law 442 = .ok (.ireturn, 1) := by decide +kernel
theorem dL_law_443 : decode cL_law 443 = .ok (.aload_n 1, 1) := by decide +kernel
theorem dL_law_444 : decode cL_law 444 = .ok (.aload_n 0, 1) := by decide +kernel
theorem dL_law_445 : decode cL_law 445 = .ok (.iload_n 3, 1) := by decide +kernel
theorem dL_law_446 : decode cL_law 446 = .ok (.iconst 1, 1) := by decide +kernel
theorem dL_law_447 : decode cL_law 447 = .ok (.iadd, 1) := by decide +kernel
theorem dL_law_448 : decode cL_law 448 = .ok (.iaload, 1) := by decide +kernel
theorem dL_law_449 : decode cL_law 449 = .ok (.invokevirtual 53, 3) := by decide +kernel
theorem dL_law_452 : decode cL_law 452 = .ok (.aload_n 2, 1) := by decide +kernel
theorem dL_law_453 : decode cL_law 453 = .ok (.aload_n 0, 1) := by decide +kernel
theorem dL_law_454 : decode cL_law 454 = .ok (.iload_n 3, 1) := by decide +kernel
theorem dL_law_455 : decode cL_law 455 = .ok (.iconst 1, 1) := by decide +kernel
theorem dL_law_456 : decode cL_law 456 = .ok (.iadd, 1) := by decide +kernel
theorem dL_law_457 : decode cL_law 457 = .ok (.iaload, 1) := by decide +kernel
theorem dL_law_458 : decode cL_law 458 = .ok (.invokevirtual 56, 3) := by decide +kernel
theorem dL_law_461 : decode cL_law 461 = .ok (.if_icmp .eq 751, 3) := by decide +kernel
theorem dL_law_464 : decode cL_law 464 = .ok (.iconst 0, 1) := by decide +kernel
theorem dL_law_465 : decode cL_law 465 = .ok (.ireturn, 1) := by decide +kernel
theorem dL_law_466 : decode cL_law 466 = .ok (.aload_n 1, 1) := by decide +kernel
theorem dL_law_467 : decode cL_law 467 = .ok (.invokevirtual 57, 3) := by decide +kernel
theorem dL_law_470 : decode cL_law 470 = .ok (.aload_n 2, 1) := by decide +kernel
theorem dL_law_471 : decode cL_law 471 = .ok (.invokevirtual 60, 3) := by decide +kernel
theorem dL_law_474 : decode cL_law 474 = .ok (.if_icmp .eq 738, 3) := by decide +kernel
theorem dL_law_477 : decode cL_law 477 = .ok (.iconst 0, 1) := by decide +kernel
theorem dL_law_478 : decode cL_law 478 = .ok (.ireturn, 1) := by decide +kernel
theorem dL_law_479 : decode cL_law 479 = .ok (.aload_n 1, 1) := by decide +kernel
theorem dL_law_480 : decode cL_law 480 = .ok (.aload_n 0, 1) := by decide +kernel
theorem dL_law_481 : decode cL_law 481 = .ok (.iload_n 3, 1) := by decide +kernel
theorem dL_law_482 : decode cL_law 482 = .ok (.iconst 1, 1) := by decide +kernel
theorem dL_law_483 : decode cL_law 483 = .ok (.iadd, 1) := by decide +kernel
theorem dL_law_484 : decode cL_law 484 = .ok (.iaload, 1) := by decide +kernel
theorem dL_law_485 : decode cL_law 485 = .ok (.aload_n 0, 1) := by decide +kernel
theorem dL_law_486 : decode cL_law 486 = .ok (.iload_n 3, 1) := by decide +kernel
theorem dL_law_487 : decode cL_law 487 = .ok (.iconst 2, 1) := by decide +kernel
theorem dL_law_488 : decode cL_law 488 = .ok (.iadd, 1) := by decide +kernel
theorem dL_law_489 : decode cL_law 489 = .ok (.iaload, 1) := by decide +kernel
theorem dL_law_490 : decode cL_law 490 = .ok (.aload_n 0, 1) := by decide +kernel
theorem dL_law_491 : decode cL_law 491 = .ok (.iload_n 3, 1) := by decide +kernel
theorem dL_law_492 : decode cL_law 492 = .ok (.iconst 3, 1) := by decide +kernel
theorem dL_law_493 : decode cL_law 493 = .ok (.iadd, 1) := by decide +kernel
theorem dL_law_494 : decode cL_law 494 = .ok (.iaload, 1) := by decide +kernel
theorem dL_law_495 : decode cL_law 495 = .ok (.invokevirtual 61, 3) := by decide +kernel
theorem dL_law_498 : decode cL_law 498 = .ok (.aload_n 2, 1) := by decide +kernel
theorem dL_law_499 : decode cL_law 499 = .ok (.aload_n 0, 1) := by decide +kernel
theorem dL_law_500 : decode cL_law 500 = .ok (.iload_n 3, 1) := by decide +kernel
theorem dL_law_501 : decode cL_law 501 = .ok (.iconst 1, 1) := by decide +kernel
theorem dL_law_502 : decode cL_law 502 = .ok (.iadd, 1) := by decide +kernel
theorem dL_law_503 : decode cL_law 503 = .ok (.iaload, 1) := by decide +kernel
theorem dL_law_504 : decode cL_law 504 = .ok (.aload_n 0, 1) := by decide +kernel
theorem dL_law_505 : decode cL_law 505 = .ok (.iload_n 3, 1) := by decide +kernel
theorem dL_law_506 : decode cL_law 506 = .ok (.iconst 2, 1) := by decide +kernel
theorem dL_law_507 : decode cL_law 507 = .ok (.iadd, 1) := by decide +kernel
theorem dL_law_508 : decode cL_law 508 = .ok (.iaload, 1) := by decide +kernel
theorem dL_law_509 : decode cL_law 509 = .ok (.aload_n 0, 1) := by decide +kernel
theorem dL_law_510 : decode cL_law 510 = .ok (.iload_n 3, 1) := by decide +kernel
theorem dL_law_511 : decode cL_law 511 = .ok (.iconst 3, 1) := by decide +kernel
theorem dL_law_512 : decode cL_law 512 = .ok (.iadd, 1) := by decide +kernel
theorem dL_law_513 : decode cL_law 513 = .ok (.iaload, 1) := by decide +kernel
theorem dL_law_514 : decode cL_law 514 = .ok (.invokevirtual 64, 3) := by decide +kernel
theorem dL_law_517 : decode cL_law 517 = .ok (.if_icmp .eq 695, 3) := by decide +kernel
theorem dL_law_520 : decode cL_law 520 = .ok (.iconst 0, 1) := by decide +kernel
theorem dL_law_521 : decode cL_law 521 = .ok (.ireturn, 1) := by decide +kernel
theorem dL_law_522 : decode cL_law 522 = .ok (.aload_n 1, 1) := by decide +kernel
theorem dL_law_523 : decode cL_law 523 = .ok (.aload_n 0, 1) := by decide +kernel
theorem dL_law_524 : decode cL_law 524 = .ok (.iload_n 3, 1) := by decide +kernel
theorem dL_law_525 : decode cL_law 525 = .ok (.iconst 1, 1) := by decide +kernel
theorem dL_law_526 : decode cL_law 526 = .ok (.iadd, 1) := by decide +kernel
theorem dL_law_527 : decode cL_law 527 = .ok (.iaload, 1) := by decide +kernel
theorem dL_law_528 : decode cL_law 528 = .ok (.aload_n 0, 1) := by decide +kernel
theorem dL_law_529 : decode cL_law 529 = .ok (.iload_n 3, 1) := by decide +kernel
theorem dL_law_530 : decode cL_law 530 = .ok (.iconst 2, 1) := by decide +kernel
theorem dL_law_531 : decode cL_law 531 = .ok (.iadd, 1) := by decide +kernel
theorem dL_law_532 : decode cL_law 532 = .ok (.iaload, 1) := by decide +kernel
theorem dL_law_533 : decode cL_law 533 = .ok (.invokevirtual 65, 3) := by decide +kernel
theorem dL_law_536 : decode cL_law 536 = .ok (.aload_n 2, 1) := by decide +kernel
theorem dL_law_537 : decode cL_law 537 = .ok (.aload_n 0, 1) := by decide +kernel
theorem dL_law_538 : decode cL_law 538 = .ok (.iload_n 3, 1) := by decide +kernel
theorem dL_law_539 : decode cL_law 539 = .ok (.iconst 1, 1) := by decide +kernel
theorem dL_law_540 : decode cL_law 540 = .ok (.iadd, 1) := by decide +kernel
theorem dL_law_541 : decode cL_law 541 = .ok (.iaload, 1) := by decide +kernel
theorem dL_law_542 : decode cL_law 542 = .ok (.aload_n 0, 1) := by decide +kernel
theorem dL_law_543 : decode cL_law 543 = .ok (.iload_n 3, 1) := by decide +kernel
theorem dL_law_544 : decode cL_law 544 = .ok (.iconst 2, 1) := by decide +kernel
theorem dL_law_545 : decode cL_law 545 = .ok (.iadd, 1) := by decide +kernel
theorem dL_law_546 : decode cL_law 546 = .ok (.iaload, 1) := by decide +kernel
theorem dL_law_547 : decode cL_law 547 = .ok (.invokevirtual 68, 3) := by decide +kernel
theorem dL_law_550 : decode cL_law 550 = .ok (.lcmp, 1) := by decide +kernel
theorem dL_law_551 : decode cL_law 551 = .ok (.ifCond .eq 661, 3) := by decide +kernel
theorem dL_law_554 : decode cL_law 554 = .ok (.iconst 0, 1) := by decide +kernel
theorem dL_law_555 : decode cL_law 555 = .ok (.ireturn, 1) := by decide +kernel
theorem dL_law_556 : decode cL_law 556 = .ok (.aload_n 1, 1) := by decide +kernel
theorem dL_law_557 : decode cL_law 557 = .ok (.aload_n 0, 1) := by decide +kernel
theorem dL_law_558 : decode cL_law 558 = .ok (.iload_n 3, 1) := by decide +kernel
theorem dL_law_559 : decode cL_law 559 = .ok (.iconst 1, 1) := by decide +kernel
theorem dL_law_560 : decode cL_law 560 = .ok (.iadd, 1) := by decide +kernel
theorem dL_law_561 : decode cL_law 561 = .ok (.iaload, 1) := by decide +kernel
theorem dL_law_562 : decode cL_law 562 = .ok (.aload_n 0, 1) := by decide +kernel
theorem dL_law_563 : decode cL_law 563 = .ok (.iload_n 3, 1) := by decide +kernel
theorem dL_law_564 : decode cL_law 564 = .ok (.iconst 2, 1) := by decide +kernel
theorem dL_law_565 : decode cL_law 565 = .ok (.iadd, 1) := by decide +kernel
theorem dL_law_566 : decode cL_law 566 = .ok (.iaload, 1) := by decide +kernel
theorem dL_law_567 : decode cL_law 567 = .ok (.invokevirtual 69, 3) := by decide +kernel
theorem dL_law_570 : decode cL_law 570 = .ok (.aload_n 2, 1) := by decide +kernel
theorem dL_law_571 : decode cL_law 571 = .ok (.aload_n 0, 1) := by decide +kernel
theorem dL_law_572 : decode cL_law 572 = .ok (.iload_n 3, 1) := by decide +kernel
theorem dL_law_573 : decode cL_law 573 = .ok (.iconst 1, 1) := by decide +kernel
theorem dL_law_574 : decode cL_law 574 = .ok (.iadd, 1) := by decide +kernel
theorem dL_law_575 : decode cL_law 575 = .ok (.iaload, 1) := by decide +kernel
theorem dL_law_576 : decode cL_law 576 = .ok (.aload_n 0, 1) := by decide +kernel
theorem dL_law_577 : decode cL_law 577 = .ok (.iload_n 3, 1) := by decide +kernel
theorem dL_law_578 : decode cL_law 578 = .ok (.iconst 2, 1) := by decide +kernel
theorem dL_law_579 : decode cL_law 579 = .ok (.iadd, 1) := by decide +kernel
theorem dL_law_580 : decode cL_law 580 = .ok (.iaload, 1) := by decide +kernel
theorem dL_law_581 : decode cL_law 581 = .ok (.invokevirtual 72, 3) := by decide +kernel
theorem dL_law_584 : decode cL_law 584 = .ok (.lcmp, 1) := by decide +kernel
theorem dL_law_585 : decode cL_law 585 = .ok (.ifCond .eq 627, 3) := by decide +kernel
theorem dL_law_588 : decode cL_law 588 = .ok (.iconst 0, 1) := by decide +kernel
theorem dL_law_589 : decode cL_law 589 = .ok (.ireturn, 1) := by decide +kernel
theorem dL_law_590 : decode cL_law 590 = .ok (.aload_n 1, 1) := by decide +kernel
theorem dL_law_591 : decode cL_law 591 = .ok (.aload_n 0, 1) := by decide +kernel
theorem dL_law_592 : decode cL_law 592 = .ok (.iload_n 3, 1) := by decide +kernel
theorem dL_law_593 : decode cL_law 593 = .ok (.iconst 1, 1) := by decide +kernel
theorem dL_law_594 : decode cL_law 594 = .ok (.iadd, 1) := by decide +kernel
theorem dL_law_595 : decode cL_law 595 = .ok (.iaload, 1) := by decide +kernel
theorem dL_law_596 : decode cL_law 596 = .ok (.aload_n 0, 1) := by decide +kernel
theorem dL_law_597 : decode cL_law 597 = .ok (.iload_n 3, 1) := by decide +kernel
theorem dL_law_598 : decode cL_law 598 = .ok (.iconst 2, 1) := by decide +kernel
theorem dL_law_599 : decode cL_law 599 = .ok (.iadd, 1) := by decide +kernel
theorem dL_law_600 : decode cL_law 600 = .ok (.iaload, 1) := by decide +kernel
theorem dL_law_601 : decode cL_law 601 = .ok (.invokevirtual 73, 3) := by decide +kernel
theorem dL_law_604 : decode cL_law 604 = .ok (.aload_n 2, 1) := by decide +kernel
theorem dL_law_605 : decode cL_law 605 = .ok (.aload_n 0, 1) := by decide +kernel
theorem dL_law_606 : decode cL_law 606 = .ok (.iload_n 3, 1) := by decide +kernel
theorem dL_law_607 : decode cL_law 607 = .ok (.iconst 1, 1) := by decide +kernel
theorem dL_law_608 : decode cL_law 608 = .ok (.iadd, 1) := by decide +kernel
theorem dL_law_609 : decode cL_law 609 = .ok (.iaload, 1) := by decide +kernel
theorem dL_law_610 : decode cL_law 610 = .ok (.aload_n 0, 1) := by decide +kernel
theorem dL_law_611 : decode cL_law 611 = .ok (.iload_n 3, 1) := by decide +kernel
theorem dL_law_612 : decode cL_law 612 = .ok (.iconst 2, 1) := by decide +kernel
theorem dL_law_613 : decode cL_law 613 = .ok (.iadd, 1) := by decide +kernel
theorem dL_law_614 : decode cL_law 614 = .ok (.iaload, 1) := by decide +kernel
theorem dL_law_615 : decode cL_law 615 = .ok (.invokevirtual 76, 3) := by decide +kernel
theorem dL_law_618 : decode cL_law 618 = .ok (.if_icmp .eq 594, 3) := by decide +kernel
theorem dL_law_621 : decode cL_law 621 = .ok (.iconst 0, 1) := by decide +kernel
theorem dL_law_622 : decode cL_law 622 = .ok (.ireturn, 1) := by decide +kernel
theorem dL_law_623 : decode cL_law 623 = .ok (.aload_n 1, 1) := by decide +kernel
theorem dL_law_624 : decode cL_law 624 = .ok (.aload_n 0, 1) := by decide +kernel
theorem dL_law_625 : decode cL_law 625 = .ok (.iload_n 3, 1) := by decide +kernel
theorem dL_law_626 : decode cL_law 626 = .ok (.iconst 1, 1) := by decide +kernel
theorem dL_law_627 : decode cL_law 627 = .ok (.iadd, 1) := by decide +kernel
theorem dL_law_628 : decode cL_law 628 = .ok (.iaload, 1) := by decide +kernel
theorem dL_law_629 : decode cL_law 629 = .ok (.aload_n 0, 1) := by decide +kernel
theorem dL_law_630 : decode cL_law 630 = .ok (.iload_n 3, 1) := by decide +kernel
theorem dL_law_631 : decode cL_law 631 = .ok (.iconst 2, 1) := by decide +kernel
theorem dL_law_632 : decode cL_law 632 = .ok (.iadd, 1) := by decide +kernel
theorem dL_law_633 : decode cL_law 633 = .ok (.iaload, 1) := by decide +kernel
theorem dL_law_634 : decode cL_law 634 = .ok (.invokevirtual 77, 3) := by decide +kernel
theorem dL_law_637 : decode cL_law 637 = .ok (.aload_n 2, 1) := by decide +kernel
theorem dL_law_638 : decode cL_law 638 = .ok (.aload_n 0, 1) := by decide +kernel
theorem dL_law_639 : decode cL_law 639 = .ok (.iload_n 3, 1) := by decide +kernel
theorem dL_law_640 : decode cL_law 640 = .ok (.iconst 1, 1) := by decide +kernel
theorem dL_law_641 : decode cL_law 641 = .ok (.iadd, 1) := by decide +kernel
theorem dL_law_642 : decode cL_law 642 = .ok (.iaload, 1) := by decide +kernel
theorem dL_law_643 : decode cL_law 643 = .ok (.aload_n 0, 1) := by decide +kernel
theorem dL_law_644 : decode cL_law 644 = .ok (.iload_n 3, 1) := by decide +kernel
theorem dL_law_645 : decode cL_law 645 = .ok (.iconst 2, 1) := by decide +kernel
theorem dL_law_646 : decode cL_law 646 = .ok (.iadd, 1) := by decide +kernel
theorem dL_law_647 : decode cL_law 647 = .ok (.iaload, 1) := by decide +kernel
theorem dL_law_648 : decode cL_law 648 = .ok (.invokevirtual 80, 3) := by decide +kernel
theorem dL_law_651 : decode cL_law 651 = .ok (.if_icmp .eq 561, 3) := by decide +kernel
theorem dL_law_654 : decode cL_law 654 = .ok (.iconst 0, 1) := by decide +kernel
theorem dL_law_655 : decode cL_law 655 = .ok (.ireturn, 1) := by decide +kernel
theorem dL_law_656 : decode cL_law 656 = .ok (.aload_n 1, 1) := by decide +kernel
theorem dL_law_657 : decode cL_law 657 = .ok (.aload_n 0, 1) := by decide +kernel
theorem dL_law_658 : decode cL_law 658 = .ok (.iload_n 3, 1) := by decide +kernel
theorem dL_law_659 : decode cL_law 659 = .ok (.iconst 1, 1) := by decide +kernel
theorem dL_law_660 : decode cL_law 660 = .ok (.iadd, 1) := by decide +kernel
theorem dL_law_661 : decode cL_law 661 = .ok (.iaload, 1) := by decide +kernel
theorem dL_law_662 : decode cL_law 662 = .ok (.invokevirtual 81, 3) := by decide +kernel
theorem dL_law_665 : decode cL_law 665 = .ok (.aload_n 2, 1) := by decide +kernel
theorem dL_law_666 : decode cL_law 666 = .ok (.aload_n 0, 1) := by decide +kernel
theorem dL_law_667 : decode cL_law 667 = .ok (.iload_n 3, 1) := by decide +kernel
theorem dL_law_668 : decode cL_law 668 = .ok (.iconst 1, 1) := by decide +kernel
theorem dL_law_669 : decode cL_law 669 = .ok (.iadd, 1) := by decide +kernel
theorem dL_law_670 : decode cL_law 670 = .ok (.iaload, 1) := by decide +kernel
theorem dL_law_671 : decode cL_law 671 = .ok (.invokevirtual 84, 3) := by decide +kernel
theorem dL_law_674 : decode cL_law 674 = .ok (.if_icmp .eq 538, 3) := by decide +kernel
theorem dL_law_677 : decode cL_law 677 = .ok (.iconst 0, 1) := by decide +kernel
theorem dL_law_678 : decode cL_law 678 = .ok (.ireturn, 1) := by decide +kernel
theorem dL_law_679 : decode cL_law 679 = .ok (.aload_n 1, 1) := by decide +kernel
theorem dL_law_680 : decode cL_law 680 = .ok (.aload_n 0, 1) := by decide +kernel
theorem dL_law_681 : decode cL_law 681 = .ok (.iload_n 3, 1) := by decide +kernel
theorem dL_law_682 : decode cL_law 682 = .ok (.iconst 1, 1) := by decide +kernel
theorem dL_law_683 : decode cL_law 683 = .ok (.iadd, 1) := by decide +kernel
theorem dL_law_684 : decode cL_law 684 = .ok (.iaload, 1) := by decide +kernel
theorem dL_law_685 : decode cL_law 685 = .ok (.aload_n 0, 1) := by decide +kernel
theorem dL_law_686 : decode cL_law 686 = .ok (.iload_n 3, 1) := by decide +kernel
theorem dL_law_687 : decode cL_law 687 = .ok (.iconst 2, 1) := by decide +kernel
theorem dL_law_688 : decode cL_law 688 = .ok (.iadd, 1) := by decide +kernel
theorem dL_law_689 : decode cL_law 689 = .ok (.iaload, 1) := by decide +kernel
theorem dL_law_690 : decode cL_law 690 = .ok (.aload_n 0, 1) := by decide +kernel
theorem dL_law_691 : decode cL_law 691 = .ok (.iload_n 3, 1) := by decide +kernel
theorem dL_law_692 : decode cL_law 692 = .ok (.iconst 3, 1) := by decide +kernel
theorem dL_law_693 : decode cL_law 693 = .ok (.iadd, 1) := by decide +kernel
theorem dL_law_694 : decode cL_law 694 = .ok (.iaload, 1) := by decide +kernel
theorem dL_law_695 : decode cL_law 695 = .ok (.invokevirtual 85, 3) := by decide +kernel
theorem dL_law_698 : decode cL_law 698 = .ok (.aload_n 2, 1) := by decide +kernel
theorem dL_law_699 : decode cL_law 699 = .ok (.aload_n 0, 1) := by decide +kernel
theorem dL_law_700 : decode cL_law 700 = .ok (.iload_n 3, 1) := by decide +kernel
theorem dL_law_701 : decode cL_law 701 = .ok (.iconst 1, 1) := by decide +kernel
theorem dL_law_702 : decode cL_law 702 = .ok (.iadd, 1) := by decide +kernel
theorem dL_law_703 : decode cL_law 703 = .ok (.iaload, 1) := by decide +kernel
theorem dL_law_704 : decode cL_law 704 = .ok (.aload_n 0, 1) := by decide +kernel
theorem dL_law_705 : decode cL_law 705 = .ok (.iload_n 3, 1) := by decide +kernel
theorem dL_law_706 : decode cL_law 706 = .ok (.iconst 2, 1) := by decide +kernel
theorem dL_law_707 : decode cL_law 707 = .ok (.iadd, 1) := by decide +kernel
theorem dL_law_708 : decode cL_law 708 = .ok (.iaload, 1) := by decide +kernel
theorem dL_law_709 : decode cL_law 709 = .ok (.aload_n 0, 1) := by decide +kernel
theorem dL_law_710 : decode cL_law 710 = .ok (.iload_n 3, 1) := by decide +kernel
theorem dL_law_711 : decode cL_law 711 = .ok (.iconst 3, 1) := by decide +kernel
theorem dL_law_712 : decode cL_law 712 = .ok (.iadd, 1) := by decide +kernel
theorem dL_law_713 : decode cL_law 713 = .ok (.iaload, 1) := by decide +kernel
theorem dL_law_714 : decode cL_law 714 = .ok (.invokevirtual 89, 3) := by decide +kernel
theorem dL_law_717 : decode cL_law 717 = .ok (.lcmp, 1) := by decide +kernel
theorem dL_law_718 : decode cL_law 718 = .ok (.ifCond .eq 494, 3) := by decide +kernel
theorem dL_law_721 : decode cL_law 721 = .ok (.iconst 0, 1) := by decide +kernel
theorem dL_law_722 : decode cL_law 722 = .ok (.ireturn, 1) := by decide +kernel
theorem dL_law_723 : decode cL_law 723 = .ok (.aload_n 1, 1) := by decide +kernel
theorem dL_law_724 : decode cL_law 724 = .ok (.aload_n 0, 1) := by decide +kernel
theorem dL_law_725 : decode cL_law 725 = .ok (.iload_n 3, 1) := by decide +kernel
theorem dL_law_726 : decode cL_law 726 = .ok (.iconst 1, 1) := by decide +kernel
theorem dL_law_727 : decode cL_law 727 = .ok (.iadd, 1) := by decide +kernel
theorem dL_law_728 : decode cL_law 728 = .ok (.iaload, 1) := by decide +kernel
theorem dL_law_729 : decode cL_law 729 = .ok (.aload_n 0, 1) := by decide +kernel
theorem dL_law_730 : decode cL_law 730 = .ok (.iload_n 3, 1) := by decide +kernel
theorem dL_law_731 : decode cL_law 731 = .ok (.iconst 2, 1) := by decide +kernel
theorem dL_law_732 : decode cL_law 732 = .ok (.iadd, 1) := by decide +kernel
theorem dL_law_733 : decode cL_law 733 = .ok (.iaload, 1) := by decide +kernel
theorem dL_law_734 : decode cL_law 734 = .ok (.aload_n 0, 1) := by decide +kernel
theorem dL_law_735 : decode cL_law 735 = .ok (.iload_n 3, 1) := by decide +kernel
theorem dL_law_736 : decode cL_law 736 = .ok (.iconst 3, 1) := by decide +kernel
theorem dL_law_737 : decode cL_law 737 = .ok (.iadd, 1) := by decide +kernel
theorem dL_law_738 : decode cL_law 738 = .ok (.iaload, 1) := by decide +kernel
theorem dL_law_739 : decode cL_law 739 = .ok (.invokevirtual 90, 3) := by decide +kernel
theorem dL_law_742 : decode cL_law 742 = .ok (.aload_n 2, 1) := by decide +kernel
theorem dL_law_743 : decode cL_law 743 = .ok (.aload_n 0, 1) := by decide +kernel
theorem dL_law_744 : decode cL_law 744 = .ok (.iload_n 3, 1) := by decide +kernel
theorem dL_law_745 : decode cL_law 745 = .ok (.iconst 1, 1) := by decide +kernel
theorem dL_law_746 : decode cL_law 746 = .ok (.iadd, 1) := by decide +kernel
theorem dL_law_747 : decode cL_law 747 = .ok (.iaload, 1) := by decide +kernel
theorem dL_law_748 : decode cL_law 748 = .ok (.aload_n 0, 1) := by decide +kernel
theorem dL_law_749 : decode cL_law 749 = .ok (.iload_n 3, 1) := by decide +kernel
theorem dL_law_750 : decode cL_law 750 = .ok (.iconst 2, 1) := by decide +kernel
theorem dL_law_751 : decode cL_law 751 = .ok (.iadd, 1) := by decide +kernel
theorem dL_law_752 : decode cL_law 752 = .ok (.iaload, 1) := by decide +kernel
theorem dL_law_753 : decode cL_law 753 = .ok (.aload_n 0, 1) := by decide +kernel
theorem dL_law_754 : decode cL_law 754 = .ok (.iload_n 3, 1) := by decide +kernel
theorem dL_law_755 : decode cL_law 755 = .ok (.iconst 3, 1) := by decide +kernel
theorem dL_law_756 : decode cL_law 756 = .ok (.iadd, 1) := by decide +kernel
theorem dL_law_757 : decode cL_law 757 = .ok (.iaload, 1) := by decide +kernel
theorem dL_law_758 : decode cL_law 758 = .ok (.invokevirtual 93, 3) := by decide +kernel
theorem dL_law_761 : decode cL_law 761 = .ok (.if_icmp .eq 451, 3) := by decide +kernel
theorem dL_law_764 : decode cL_law 764 = .ok (.iconst 0, 1) := by decide +kernel
theorem dL_law_765 : decode cL_law 765 = .ok (.ireturn, 1) := by decide +kernel
theorem dL_law_766 : decode cL_law 766 = .ok (.aload_n 1, 1) := by decide +kernel
theorem dL_law_767 : decode cL_law 767 = .ok (.aload_n 0, 1) := by decide +kernel
theorem dL_law_768 : decode cL_law 768 = .ok (.iload_n 3, 1) := by decide +kernel
theorem dL_law_769 : decode cL_law 769 = .ok (.iconst 1, 1) := by decide +kernel
theorem dL_law_770 : decode cL_law 770 = .ok (.iadd, 1) := by decide +kernel
theorem dL_law_771 : decode cL_law 771 = .ok (.iaload, 1) := by decide +kernel
theorem dL_law_772 : decode cL_law 772 = .ok (.aload_n 0, 1) := by decide +kernel
theorem dL_law_773 : decode cL_law 773 = .ok (.iload_n 3, 1) := by decide +kernel
theorem dL_law_774 : decode cL_law 774 = .ok (.iconst 2, 1) := by decide +kernel
theorem dL_law_775 : decode cL_law 775 = .ok (.iadd, 1) := by decide +kernel
theorem dL_law_776 : decode cL_law 776 = .ok (.iaload, 1) := by decide +kernel
theorem dL_law_777 : decode cL_law 777 = .ok (.invokevirtual 94, 3) := by decide +kernel
theorem dL_law_780 : decode cL_law 780 = .ok (.aload_n 2, 1) := by decide +kernel
theorem dL_law_781 : decode cL_law 781 = .ok (.aload_n 0, 1) := by decide +kernel
theorem dL_law_782 : decode cL_law 782 = .ok (.iload_n 3, 1) := by decide +kernel
theorem dL_law_783 : decode cL_law 783 = .ok (.iconst 1, 1) := by decide +kernel
theorem dL_law_784 : decode cL_law 784 = .ok (.iadd, 1) := by decide +kernel
theorem dL_law_785 : decode cL_law 785 = .ok (.iaload, 1) := by decide +kernel
theorem dL_law_786 : decode cL_law 786 = .ok (.aload_n 0, 1) := by decide +kernel
theorem dL_law_787 : decode cL_law 787 = .ok (.iload_n 3, 1) := by decide +kernel
theorem dL_law_788 : decode cL_law 788 = .ok (.iconst 2, 1) := by decide +kernel
theorem dL_law_789 : decode cL_law 789 = .ok (.iadd, 1) := by decide +kernel
theorem dL_law_790 : decode cL_law 790 = .ok (.iaload, 1) := by decide +kernel
theorem dL_law_791 : decode cL_law 791 = .ok (.invokevirtual 97, 3) := by decide +kernel
theorem dL_law_794 : decode cL_law 794 = .ok (.if_icmp .eq 418, 3) := by decide +kernel
theorem dL_law_797 : decode cL_law 797 = .ok (.iconst 0, 1) := by decide +kernel
theorem dL_law_798 : decode cL_law 798 = .ok (.ireturn, 1) := by decide +kernel
theorem dL_law_799 : decode cL_law 799 = .ok (.aload_n 1, 1) := by decide +kernel
theorem dL_law_800 : decode cL_law 800 = .ok (.aload_n 0, 1) := by decide +kernel
theorem dL_law_801 : decode cL_law 801 = .ok (.iload_n 3, 1) := by decide +kernel
theorem dL_law_802 : decode cL_law 802 = .ok (.iconst 1, 1) := by decide +kernel
theorem dL_law_803 : decode cL_law 803 = .ok (.iadd, 1) := by decide +kernel
theorem dL_law_804 : decode cL_law 804 = .ok (.iaload, 1) := by decide +kernel
theorem dL_law_805 : decode cL_law 805 = .ok (.invokevirtual 98, 3) := by decide +kernel
theorem dL_law_808 : decode cL_law 808 = .ok (.aload_n 2, 1) := by decide +kernel
theorem dL_law_809 : decode cL_law 809 = .ok (.aload_n 0, 1) := by decide +kernel
theorem dL_law_810 : decode cL_law 810 = .ok (.iload_n 3, 1) := by decide +kernel
theorem dL_law_811 : decode cL_law 811 = .ok (.iconst 1, 1) := by decide +kernel
theorem dL_law_812 : decode cL_law 812 = .ok (.iadd, 1) := by decide +kernel
theorem dL_law_813 : decode cL_law 813 = .ok (.iaload, 1) := by decide +kernel
theorem dL_law_814 : decode cL_law 814 = .ok (.invokevirtual 101, 3) := by decide +kernel
theorem dL_law_817 : decode cL_law 817 = .ok (.if_icmp .eq 395, 3) := by decide +kernel
theorem dL_law_820 : decode cL_law 820 = .ok (.iconst 0, 1) := by decide +kernel
theorem dL_law_821 : decode cL_law 821 = .ok (.ireturn, 1) := by decide +kernel
theorem dL_law_822 : decode cL_law 822 = .ok (.aload_n 1, 1) := by decide +kernel
theorem dL_law_823 : decode cL_law 823 = .ok (.aload_n 0, 1) := by decide +kernel
theorem dL_law_824 : decode cL_law 824 = .ok (.iload_n 3, 1) := by decide +kernel
theorem dL_law_825 : decode cL_law 825 = .ok (.iconst 1, 1) := by decide +kernel
theorem dL_law_826 : decode cL_law 826 = .ok (.iadd, 1) := by decide +kernel
theorem dL_law_827 : decode cL_law 827 = .ok (.iaload, 1) := by decide +kernel
theorem dL_law_828 : decode cL_law 828 = .ok (.aload_n 0, 1) := by decide +kernel
theorem dL_law_829 : decode cL_law 829 = .ok (.iload_n 3, 1) := by decide +kernel
theorem dL_law_830 : decode cL_law 830 = .ok (.iconst 2, 1) := by decide +kernel
theorem dL_law_831 : decode cL_law 831 = .ok (.iadd, 1) := by decide +kernel
theorem dL_law_832 : decode cL_law 832 = .ok (.iaload, 1) := by decide +kernel
theorem dL_law_833 : decode cL_law 833 = .ok (.aload_n 0, 1) := by decide +kernel
theorem dL_law_834 : decode cL_law 834 = .ok (.iload_n 3, 1) := by decide +kernel
theorem dL_law_835 : decode cL_law 835 = .ok (.iconst 3, 1) := by decide +kernel
theorem dL_law_836 : decode cL_law 836 = .ok (.iadd, 1) := by decide +kernel
theorem dL_law_837 : decode cL_law 837 = .ok (.iaload, 1) := by decide +kernel
theorem dL_law_838 : decode cL_law 838 = .ok (.invokevirtual 102, 3) := by decide +kernel
theorem dL_law_841 : decode cL_law 841 = .ok (.aload_n 2, 1) := by decide +kernel
theorem dL_law_842 : decode cL_law 842 = .ok (.aload_n 0, 1) := by decide +kernel
theorem dL_law_843 : decode cL_law 843 = .ok (.iload_n 3, 1) := by decide +kernel
theorem dL_law_844 : decode cL_law 844 = .ok (.iconst 1, 1) := by decide +kernel
theorem dL_law_845 : decode cL_law 845 = .ok (.iadd, 1) := by decide +kernel
theorem dL_law_846 : decode cL_law 846 = .ok (.iaload, 1) := by decide +kernel
theorem dL_law_847 : decode cL_law 847 = .ok (.aload_n 0, 1) := by decide +kernel
theorem dL_law_848 : decode cL_law 848 = .ok (.iload_n 3, 1) := by decide +kernel
theorem dL_law_849 : decode cL_law 849 = .ok (.iconst 2, 1) := by decide +kernel
theorem dL_law_850 : decode cL_law 850 = .ok (.iadd, 1) := by decide +kernel
theorem dL_law_851 : decode cL_law 851 = .ok (.iaload, 1) := by decide +kernel
theorem dL_law_852 : decode cL_law 852 = .ok (.aload_n 0, 1) := by decide +kernel
theorem dL_law_853 : decode cL_law 853 = .ok (.iload_n 3, 1) := by decide +kernel
theorem dL_law_854 : decode cL_law 854 = .ok (.iconst 3, 1) := by decide +kernel
theorem dL_law_855 : decode cL_law 855 = .ok (.iadd, 1) := by decide +kernel
theorem dL_law_856 : decode cL_law 856 = .ok (.iaload, 1) := by decide +kernel
theorem dL_law_857 : decode cL_law 857 = .ok (.invokevirtual 105, 3) := by decide +kernel
theorem dL_law_860 : decode cL_law 860 = .ok (.if_icmp .eq 352, 3) := by decide +kernel
theorem dL_law_863 : decode cL_law 863 = .ok (.iconst 0, 1) := by decide +kernel
theorem dL_law_864 : decode cL_law 864 = .ok (.ireturn, 1) := by decide +kernel
theorem dL_law_865 : decode cL_law 865 = .ok (.aload_n 1, 1) := by decide +kernel
theorem dL_law_866 : decode cL_law 866 = .ok (.aload_n 0, 1) := by decide +kernel
theorem dL_law_867 : decode cL_law 867 = .ok (.iload_n 3, 1) := by decide +kernel
theorem dL_law_868 : decode cL_law 868 = .ok (.iconst 1, 1) := by decide +kernel
theorem dL_law_869 : decode cL_law 869 = .ok (.iadd, 1) := by decide +kernel
theorem dL_law_870 : decode cL_law 870 = .ok (.iaload, 1) := by decide +kernel
theorem dL_law_871 : decode cL_law 871 = .ok (.aload_n 0, 1) := by decide +kernel
theorem dL_law_872 : decode cL_law 872 = .ok (.iload_n 3, 1) := by decide +kernel
theorem dL_law_873 : decode cL_law 873 = .ok (.iconst 2, 1) := by decide +kernel
theorem dL_law_874 : decode cL_law 874 = .ok (.iadd, 1) := by decide +kernel
theorem dL_law_875 : decode cL_law 875 = .ok (.iaload, 1) := by decide +kernel
theorem dL_law_876 : decode cL_law 876 = .ok (.aload_n 0, 1) := by decide +kernel
theorem dL_law_877 : decode cL_law 877 = .ok (.iload_n 3, 1) := by decide +kernel
theorem dL_law_878 : decode cL_law 878 = .ok (.iconst 3, 1) := by decide +kernel
theorem dL_law_879 : decode cL_law 879 = .ok (.iadd, 1) := by decide +kernel
theorem dL_law_880 : decode cL_law 880 = .ok (.iaload, 1) := by decide +kernel
theorem dL_law_881 : decode cL_law 881 = .ok (.aload_n 0, 1) := by decide +kernel
theorem dL_law_882 : decode cL_law 882 = .ok (.iload_n 3, 1) := by decide +kernel
theorem dL_law_883 : decode cL_law 883 = .ok (.iconst 4, 1) := by decide +kernel
theorem dL_law_884 : decode cL_law 884 = .ok (.iadd, 1) := by decide +kernel
theorem dL_law_885 : decode cL_law 885 = .ok (.iaload, 1) := by decide +kernel
theorem dL_law_886 : decode cL_law 886 = .ok (.aload_n 0, 1) := by decide +kernel
theorem dL_law_887 : decode cL_law 887 = .ok (.iload_n 3, 1) := by decide +kernel
theorem dL_law_888 : decode cL_law 888 = .ok (.iconst 5, 1) := by decide +kernel
theorem dL_law_889 : decode cL_law 889 = .ok (.iadd, 1) := by decide +kernel
theorem dL_law_890 : decode cL_law 890 = .ok (.iaload, 1) := by decide +kernel
theorem dL_law_891 : decode cL_law 891 = .ok (.invokevirtual 106, 3) := by decide +kernel
theorem dL_law_894 : decode cL_law 894 = .ok (.aload_n 2, 1) := by decide +kernel
theorem dL_law_895 : decode cL_law 895 = .ok (.aload_n 0, 1) := by decide +kernel
theorem dL_law_896 : decode cL_law 896 = .ok (.iload_n 3, 1) := by decide +kernel
theorem dL_law_897 : decode cL_law 897 = .ok (.iconst 1, 1) := by decide +kernel
theorem dL_law_898 : decode cL_law 898 = .ok (.iadd, 1) := by decide +kernel
theorem dL_law_899 : decode cL_law 899 = .ok (.iaload, 1) := by decide +kernel
theorem dL_law_900 : decode cL_law 900 = .ok (.aload_n 0, 1) := by decide +kernel
theorem dL_law_901 : decode cL_law 901 = .ok (.iload_n 3, 1) := by decide +kernel
theorem dL_law_902 : decode cL_law 902 = .ok (.iconst 2, 1) := by decide +kernel
theorem dL_law_903 : decode cL_law 903 = .ok (.iadd, 1) := by decide +kernel
theorem dL_law_904 : decode cL_law 904 = .ok (.iaload, 1) := by decide +kernel
theorem dL_law_905 : decode cL_law 905 = .ok (.aload_n 0, 1) := by decide +kernel
theorem dL_law_906 : decode cL_law 906 = .ok (.iload_n 3, 1) := by decide +kernel
theorem dL_law_907 : decode cL_law 907 = .ok (.iconst 3, 1) := by decide +kernel
theorem dL_law_908 : decode cL_law 908 = .ok (.iadd, 1) := by decide +kernel
theorem dL_law_909 : decode cL_law 909 = .ok (.iaload, 1) := by decide +kernel
theorem dL_law_910 : decode cL_law 910 = .ok (.aload_n 0, 1) := by decide +kernel
theorem dL_law_911 : decode cL_law 911 = .ok (.iload_n 3, 1) := by decide +kernel
theorem dL_law_912 : decode cL_law 912 = .ok (.iconst 4, 1) := by decide +kernel
theorem dL_law_913 : decode cL_law 913 = .ok (.iadd, 1) := by decide +kernel
theorem dL_law_914 : decode cL_law 914 = .ok (.iaload, 1) := by decide +kernel
theorem dL_law_915 : decode cL_law 915 = .ok (.aload_n 0, 1) := by decide +kernel
theorem dL_law_916 : decode cL_law 916 = .ok (.iload_n 3, 1) := by decide +kernel
theorem dL_law_917 : decode cL_law 917 = .ok (.iconst 5, 1) := by decide +kernel
theorem dL_law_918 : decode cL_law 918 = .ok (.iadd, 1) := by decide +kernel
theorem dL_law_919 : decode cL_law 919 = .ok (.iaload, 1) := by decide +kernel
theorem dL_law_920 : decode cL_law 920 = .ok (.invokevirtual 110, 3) := by decide +kernel
theorem dL_law_923 : decode cL_law 923 = .ok (.if_icmp .eq 289, 3) := by decide +kernel
theorem dL_law_926 : decode cL_law 926 = .ok (.iconst 0, 1) := by decide +kernel
theorem dL_law_927 : decode cL_law 927 = .ok (.ireturn, 1) := by decide +kernel
theorem dL_law_928 : decode cL_law 928 = .ok (.aload_n 1, 1) := by decide +kernel
theorem dL_law_929 : decode cL_law 929 = .ok (.invokevirtual 111, 3) := by decide +kernel
theorem dL_law_932 : decode cL_law 932 = .ok (.aload_n 2, 1) := by decide +kernel
theorem dL_law_933 : decode cL_law 933 = .ok (.invokevirtual 114, 3) := by decide +kernel
theorem dL_law_936 : decode cL_law 936 = .ok (.if_icmp .eq 276, 3) := by decide +kernel
theorem dL_law_939 : decode cL_law 939 = .ok (.iconst 0, 1) := by decide +kernel
theorem dL_law_940 : decode cL_law 940 = .ok (.ireturn, 1) := by decide +kernel
theorem dL_law_941 : decode cL_law 941 = .ok (.aload_n 1, 1) := by decide +kernel
theorem dL_law_942 : decode cL_law 942 = .ok (.invokevirtual 115, 3) := by decide +kernel
theorem dL_law_945 : decode cL_law 945 = .ok (.aload_n 2, 1) := by decide +kernel
theorem dL_law_946 : decode cL_law 946 = .ok (.invokevirtual 118, 3) := by decide +kernel
theorem dL_law_949 : decode cL_law 949 = .ok (.if_icmp .eq 263, 3) := by decide +kernel
theorem dL_law_952 : decode cL_law 952 = .ok (.iconst 0, 1) := by decide +kernel
theorem dL_law_953 : decode cL_law 953 = .ok (.ireturn, 1) := by decide +kernel
theorem dL_law_954 : decode cL_law 954 = .ok (.aload_n 1, 1) := by decide +kernel
theorem dL_law_955 : decode cL_law 955 = .ok (.aload_n 0, 1) := by decide +kernel
theorem dL_law_956 : decode cL_law 956 = .ok (.iload_n 3, 1) := by decide +kernel
theorem dL_law_957 : decode cL_law 957 = .ok (.iconst 1, 1) := by decide +kernel
theorem dL_law_958 : decode cL_law 958 = .ok (.iadd, 1) := by decide +kernel
theorem dL_law_959 : decode cL_law 959 = .ok (.iaload, 1) := by decide +kernel
theorem dL_law_960 : decode cL_law 960 = .ok (.invokevirtual 119, 3) := by decide +kernel
theorem dL_law_963 : decode cL_law 963 = .ok (.aload_n 2, 1) := by decide +kernel
theorem dL_law_964 : decode cL_law 964 = .ok (.aload_n 0, 1) := by decide +kernel
theorem dL_law_965 : decode cL_law 965 = .ok (.iload_n 3, 1) := by decide +kernel
theorem dL_law_966 : decode cL_law 966 = .ok (.iconst 1, 1) := by decide +kernel
theorem dL_law_967 : decode cL_law 967 = .ok (.iadd, 1) := by decide +kernel
theorem dL_law_968 : decode cL_law 968 = .ok (.iaload, 1) := by decide +kernel
theorem dL_law_969 : decode cL_law 969 = .ok (.invokevirtual 122, 3) := by decide +kernel
theorem dL_law_972 : decode cL_law 972 = .ok (.if_icmp .eq 240, 3) := by decide +kernel
theorem dL_law_975 : decode cL_law 975 = .ok (.iconst 0, 1) := by decide +kernel
theorem dL_law_976 : decode cL_law 976 = .ok (.ireturn, 1) := by decide +kernel
theorem dL_law_977 : decode cL_law 977 = .ok (.aload_n 1, 1) := by decide +kernel
theorem dL_law_978 : decode cL_law 978 = .ok (.aload_n 0, 1) := by decide +kernel
theorem dL_law_979 : decode cL_law 979 = .ok (.iload_n 3, 1) := by decide +kernel
theorem dL_law_980 : decode cL_law 980 = .ok (.iconst 1, 1) := by decide +kernel
theorem dL_law_981 : decode cL_law 981 = .ok (.iadd, 1) := by decide +kernel
theorem dL_law_982 : decode cL_law 982 = .ok (.iaload, 1) := by decide +kernel
theorem dL_law_983 : decode cL_law 983 = .ok (.aload_n 0, 1) := by decide +kernel
theorem dL_law_984 : decode cL_law 984 = .ok (.iload_n 3, 1) := by decide +kernel
theorem dL_law_985 : decode cL_law 985 = .ok (.iconst 2, 1) := by decide +kernel
theorem dL_law_986 : decode cL_law 986 = .ok (.iadd, 1) := by decide +kernel
theorem dL_law_987 : decode cL_law 987 = .ok (.iaload, 1) := by decide +kernel
theorem dL_law_988 : decode cL_law 988 = .ok (.aload_n 0, 1) := by decide +kernel
theorem dL_law_989 : decode cL_law 989 = .ok (.iload_n 3, 1) := by decide +kernel
theorem dL_law_990 : decode cL_law 990 = .ok (.iconst 3, 1) := by decide +kernel
theorem dL_law_991 : decode cL_law 991 = .ok (.iadd, 1) := by decide +kernel
theorem dL_law_992 : decode cL_law 992 = .ok (.iaload, 1) := by decide +kernel
theorem dL_law_993 : decode cL_law 993 = .ok (.invokevirtual 123, 3) := by decide +kernel
theorem dL_law_996 : decode cL_law 996 = .ok (.aload_n 2, 1) := by decide +kernel
theorem dL_law_997 : decode cL_law 997 = .ok (.aload_n 0, 1) := by decide +kernel
theorem dL_law_998 : decode cL_law 998 = .ok (.iload_n 3, 1) := by decide +kernel
theorem dL_law_999 : decode cL_law 999 = .ok (.iconst 1, 1) := by decide +kernel
theorem dL_law_1000 : decode cL_law 1000 = .ok (.iadd, 1) := by decide +kernel
theorem dL_law_1001 : decode cL_law 1001 = .ok (.iaload, 1) := by decide +kernel
theorem dL_law_1002 : decode cL_law 1002 = .ok (.aload_n 0, 1) := by decide +kernel
theorem dL_law_1003 : decode cL_law 1003 = .ok (.iload_n 3, 1) := by decide +kernel
theorem dL_law_1004 : decode cL_law 1004 = .ok (.iconst 2, 1) := by decide +kernel
theorem dL_law_1005 : decode cL_law 1005 = .ok (.iadd, 1) := by decide +kernel
theorem dL_law_1006 : decode cL_law 1006 = .ok (.iaload, 1) := by decide +kernel
theorem dL_law_1007 : decode cL_law 1007 = .ok (.aload_n 0, 1) := by decide +kernel
theorem dL_law_1008 : decode cL_law 1008 = .ok (.iload_n 3, 1) := by decide +kernel
theorem dL_law_1009 : decode cL_law 1009 = .ok (.iconst 3, 1) := by decide +kernel
theorem dL_law_1010 : decode cL_law 1010 = .ok (.iadd, 1) := by decide +kernel
theorem dL_law_1011 : decode cL_law 1011 = .ok (.iaload, 1) := by decide +kernel
theorem dL_law_1012 : decode cL_law 1012 = .ok (.invokevirtual 126, 3) := by decide +kernel
theorem dL_law_1015 : decode cL_law 1015 = .ok (.if_icmp .eq 197, 3) := by decide +kernel
theorem dL_law_1018 : decode cL_law 1018 = .ok (.iconst 0, 1) := by decide +kernel
theorem dL_law_1019 : decode cL_law 1019 = .ok (.ireturn, 1) := by decide +kernel
theorem dL_law_1020 : decode cL_law 1020 = .ok (.aload_n 1, 1) := by decide +kernel
theorem dL_law_1021 : decode cL_law 1021 = .ok (.aload_n 0, 1) := by decide +kernel
theorem dL_law_1022 : decode cL_law 1022 = .ok (.iload_n 3, 1) := by decide +kernel
theorem dL_law_1023 : decode cL_law 1023 = .ok (.iconst 1, 1) := by decide +kernel
theorem dL_law_1024 : decode cL_law 1024 = .ok (.iadd, 1) := by decide +kernel
theorem dL_law_1025 : decode cL_law 1025 = .ok (.iaload, 1) := by decide +kernel
theorem dL_law_1026 : decode cL_law 1026 = .ok (.aload_n 0, 1) := by decide +kernel
theorem dL_law_1027 : decode cL_law 1027 = .ok (.iload_n 3, 1) := by decide +kernel
theorem dL_law_1028 : decode cL_law 1028 = .ok (.iconst 2, 1) := by decide +kernel
theorem dL_law_1029 : decode cL_law 1029 = .ok (.iadd, 1) := by decide +kernel
theorem dL_law_1030 : decode cL_law 1030 = .ok (.iaload, 1) := by decide +kernel
theorem dL_law_1031 : decode cL_law 1031 = .ok (.aload_n 0, 1) := by decide +kernel
theorem dL_law_1032 : decode cL_law 1032 = .ok (.iload_n 3, 1) := by decide +kernel
theorem dL_law_1033 : decode cL_law 1033 = .ok (.iconst 3, 1) := by decide +kernel
theorem dL_law_1034 : decode cL_law 1034 = .ok (.iadd, 1) := by decide +kernel
theorem dL_law_1035 : decode cL_law 1035 = .ok (.iaload, 1) := by decide +kernel
theorem dL_law_1036 : decode cL_law 1036 = .ok (.invokevirtual 127, 3) := by decide +kernel
theorem dL_law_1039 : decode cL_law 1039 = .ok (.aload_n 2, 1) := by decide +kernel
theorem dL_law_1040 : decode cL_law 1040 = .ok (.aload_n 0, 1) := by decide +kernel
theorem dL_law_1041 : decode cL_law 1041 = .ok (.iload_n 3, 1) := by decide +kernel
theorem dL_law_1042 : decode cL_law 1042 = .ok (.iconst 1, 1) := by decide +kernel
theorem dL_law_1043 : decode cL_law 1043 = .ok (.iadd, 1) := by decide +kernel
theorem dL_law_1044 : decode cL_law 1044 = .ok (.iaload, 1) := by decide +kernel
theorem dL_law_1045 : decode cL_law 1045 = .ok (.aload_n 0, 1) := by decide +kernel
theorem dL_law_1046 : decode cL_law 1046 = .ok (.iload_n 3, 1) := by decide +kernel
theorem dL_law_1047 : decode cL_law 1047 = .ok (.iconst 2, 1) := by decide +kernel
theorem dL_law_1048 : decode cL_law 1048 = .ok (.iadd, 1) := by decide +kernel
theorem dL_law_1049 : decode cL_law 1049 = .ok (.iaload, 1) := by decide +kernel
theorem dL_law_1050 : decode cL_law 1050 = .ok (.aload_n 0, 1) := by decide +kernel
theorem dL_law_1051 : decode cL_law 1051 = .ok (.iload_n 3, 1) := by decide +kernel
theorem dL_law_1052 : decode cL_law 1052 = .ok (.iconst 3, 1) := by decide +kernel
theorem dL_law_1053 : decode cL_law 1053 = .ok (.iadd, 1) := by decide +kernel
theorem dL_law_1054 : decode cL_law 1054 = .ok (.iaload, 1) := by decide +kernel
theorem dL_law_1055 : decode cL_law 1055 = .ok (.invokevirtual 130, 3) := by decide +kernel
theorem dL_law_1058 : decode cL_law 1058 = .ok (.if_icmp .eq 154, 3) := by decide +kernel
theorem dL_law_1061 : decode cL_law 1061 = .ok (.iconst 0, 1) := by decide +kernel
theorem dL_law_1062 : decode cL_law 1062 = .ok (.ireturn, 1) := by decide +kernel
theorem dL_law_1063 : decode cL_law 1063 = .ok (.aload_n 1, 1) := by decide +kernel
theorem dL_law_1064 : decode cL_law 1064 = .ok (.aload_n 0, 1) := by decide +kernel
theorem dL_law_1065 : decode cL_law 1065 = .ok (.iload_n 3, 1) := by decide +kernel
theorem dL_law_1066 : decode cL_law 1066 = .ok (.iconst 1, 1) := by decide +kernel
theorem dL_law_1067 : decode cL_law 1067 = .ok (.iadd, 1) := by decide +kernel
theorem dL_law_1068 : decode cL_law 1068 = .ok (.iaload, 1) := by decide +kernel
theorem dL_law_1069 : decode cL_law 1069 = .ok (.aload_n 0, 1) := by decide +kernel
theorem dL_law_1070 : decode cL_law 1070 = .ok (.iload_n 3, 1) := by decide +kernel
theorem dL_law_1071 : decode cL_law 1071 = .ok (.iconst 2, 1) := by decide +kernel
theorem dL_law_1072 : decode cL_law 1072 = .ok (.iadd, 1) := by decide +kernel
theorem dL_law_1073 : decode cL_law 1073 = .ok (.iaload, 1) := by decide +kernel
theorem dL_law_1074 : decode cL_law 1074 = .ok (.aload_n 0, 1) := by decide +kernel
theorem dL_law_1075 : decode cL_law 1075 = .ok (.iload_n 3, 1) := by decide +kernel
theorem dL_law_1076 : decode cL_law 1076 = .ok (.iconst 3, 1) := by decide +kernel
theorem dL_law_1077 : decode cL_law 1077 = .ok (.iadd, 1) := by decide +kernel
theorem dL_law_1078 : decode cL_law 1078 = .ok (.iaload, 1) := by decide +kernel
theorem dL_law_1079 : decode cL_law 1079 = .ok (.aload_n 0, 1) := by decide +kernel
theorem dL_law_1080 : decode cL_law 1080 = .ok (.iload_n 3, 1) := by decide +kernel
theorem dL_law_1081 : decode cL_law 1081 = .ok (.iconst 4, 1) := by decide +kernel
theorem dL_law_1082 : decode cL_law 1082 = .ok (.iadd, 1) := by decide +kernel
theorem dL_law_1083 : decode cL_law 1083 = .ok (.iaload, 1) := by decide +kernel
theorem dL_law_1084 : decode cL_law 1084 = .ok (.aload_n 0, 1) := by decide +kernel
theorem dL_law_1085 : decode cL_law 1085 = .ok (.iload_n 3, 1) := by decide +kernel
theorem dL_law_1086 : decode cL_law 1086 = .ok (.iconst 5, 1) := by decide +kernel
theorem dL_law_1087 : decode cL_law 1087 = .ok (.iadd, 1) := by decide +kernel
theorem dL_law_1088 : decode cL_law 1088 = .ok (.iaload, 1) := by decide +kernel
theorem dL_law_1089 : decode cL_law 1089 = .ok (.invokevirtual 131, 3) := by decide +kernel
theorem dL_law_1092 : decode cL_law 1092 = .ok (.aload_n 2, 1) := by decide +kernel
theorem dL_law_1093 : decode cL_law 1093 = .ok (.aload_n 0, 1) := by decide +kernel
theorem dL_law_1094 : decode cL_law 1094 = .ok (.iload_n 3, 1) := by decide +kernel
theorem dL_law_1095 : decode cL_law 1095 = .ok (.iconst 1, 1) := by decide +kernel
theorem dL_law_1096 : decode cL_law 1096 = .ok (.iadd, 1) := by decide +kernel
theorem dL_law_1097 : decode cL_law 1097 = .ok (.iaload, 1) := by decide +kernel
theorem dL_law_1098 : decode cL_law 1098 = .ok (.aload_n 0, 1) := by decide +kernel
theorem dL_law_1099 : decode cL_law 1099 = .ok (.iload_n 3, 1) := by decide +kernel
theorem dL_law_1100 : decode cL_law 1100 = .ok (.iconst 2, 1) := by decide +kernel
theorem dL_law_1101 : decode cL_law 1101 = .ok (.iadd, 1) := by decide +kernel
theorem dL_law_1102 : decode cL_law 1102 = .ok (.iaload, 1) := by decide +kernel
theorem dL_law_1103 : decode cL_law 1103 = .ok (.aload_n 0, 1) := by decide +kernel
theorem dL_law_1104 : decode cL_law 1104 = .ok (.iload_n 3, 1) := by decide +kernel
theorem dL_law_1105 : decode cL_law 1105 = .ok (.iconst 3, 1) := by decide +kernel
theorem dL_law_1106 : decode cL_law 1106 = .ok (.iadd, 1) := by decide +kernel
theorem dL_law_1107 : decode cL_law 1107 = .ok (.iaload, 1) := by decide +kernel
theorem dL_law_1108 : decode cL_law 1108 = .ok (.aload_n 0, 1) := by decide +kernel
theorem dL_law_1109 : decode cL_law 1109 = .ok (.iload_n 3, 1) := by decide +kernel
theorem dL_law_1110 : decode cL_law 1110 = .ok (.iconst 4, 1) := by decide +kernel
theorem dL_law_1111 : decode cL_law 1111 = .ok (.iadd, 1) := by decide +kernel
theorem dL_law_1112 : decode cL_law 1112 = .ok (.iaload, 1) := by decide +kernel
theorem dL_law_1113 : decode cL_law 1113 = .ok (.aload_n 0, 1) := by decide +kernel
theorem dL_law_1114 : decode cL_law 1114 = .ok (.iload_n 3, 1) := by decide +kernel
theorem dL_law_1115 : decode cL_law 1115 = .ok (.iconst 5, 1) := by decide +kernel
theorem dL_law_1116 : decode cL_law 1116 = .ok (.iadd, 1) := by decide +kernel
theorem dL_law_1117 : decode cL_law 1117 = .ok (.iaload, 1) := by decide +kernel
theorem dL_law_1118 : decode cL_law 1118 = .ok (.invokevirtual 134, 3) := by decide +kernel
theorem dL_law_1121 : decode cL_law 1121 = .ok (.if_icmp .eq 91, 3) := by decide +kernel
theorem dL_law_1124 : decode cL_law 1124 = .ok (.iconst 0, 1) := by decide +kernel
theorem dL_law_1125 : decode cL_law 1125 = .ok (.ireturn, 1) := by decide +kernel
theorem dL_law_1126 : decode cL_law 1126 = .ok (.aload_n 1, 1) := by decide +kernel
theorem dL_law_1127 : decode cL_law 1127 = .ok (.aload_n 0, 1) := by decide +kernel
theorem dL_law_1128 : decode cL_law 1128 = .ok (.iload_n 3, 1) := by decide +kernel
theorem dL_law_1129 : decode cL_law 1129 = .ok (.iconst 1, 1) := by decide +kernel
theorem dL_law_1130 : decode cL_law 1130 = .ok (.iadd, 1) := by decide +kernel
theorem dL_law_1131 : decode cL_law 1131 = .ok (.iaload, 1) := by decide +kernel
theorem dL_law_1132 : decode cL_law 1132 = .ok (.aload_n 0, 1) := by decide +kernel
theorem dL_law_1133 : decode cL_law 1133 = .ok (.iload_n 3, 1) := by decide +kernel
theorem dL_law_1134 : decode cL_law 1134 = .ok (.iconst 2, 1) := by decide +kernel
theorem dL_law_1135 : decode cL_law 1135 = .ok (.iadd, 1) := by decide +kernel
theorem dL_law_1136 : decode cL_law 1136 = .ok (.iaload, 1) := by decide +kernel
theorem dL_law_1137 : decode cL_law 1137 = .ok (.aload_n 0, 1) := by decide +kernel
theorem dL_law_1138 : decode cL_law 1138 = .ok (.iload_n 3, 1) := by decide +kernel
theorem dL_law_1139 : decode cL_law 1139 = .ok (.iconst 3, 1) := by decide +kernel
theorem dL_law_1140 : decode cL_law 1140 = .ok (.iadd, 1) := by decide +kernel
theorem dL_law_1141 : decode cL_law 1141 = .ok (.iaload, 1) := by decide +kernel
theorem dL_law_1142 : decode cL_law 1142 = .ok (.aload_n 0, 1) := by decide +kernel
theorem dL_law_1143 : decode cL_law 1143 = .ok (.iload_n 3, 1) := by decide +kernel
theorem dL_law_1144 : decode cL_law 1144 = .ok (.iconst 4, 1) := by decide +kernel
theorem dL_law_1145 : decode cL_law 1145 = .ok (.iadd, 1) := by decide +kernel
theorem dL_law_1146 : decode cL_law 1146 = .ok (.iaload, 1) := by decide +kernel
theorem dL_law_1147 : decode cL_law 1147 = .ok (.invokevirtual 135, 3) := by decide +kernel
theorem dL_law_1150 : decode cL_law 1150 = .ok (.aload_n 2, 1) := by decide +kernel
theorem dL_law_1151 : decode cL_law 1151 = .ok (.aload_n 0, 1) := by decide +kernel
theorem dL_law_1152 : decode cL_law 1152 = .ok (.iload_n 3, 1) := by decide +kernel
theorem dL_law_1153 : decode cL_law 1153 = .ok (.iconst 1, 1) := by decide +kernel
theorem dL_law_1154 : decode cL_law 1154 = .ok (.iadd, 1) := by decide +kernel
theorem dL_law_1155 : decode cL_law 1155 = .ok (.iaload, 1) := by decide +kernel
theorem dL_law_1156 : decode cL_law 1156 = .ok (.aload_n 0, 1) := by decide +kernel
theorem dL_law_1157 : decode cL_law 1157 = .ok (.iload_n 3, 1) := by decide +kernel
theorem dL_law_1158 : decode cL_law 1158 = .ok (.iconst 2, 1) := by decide +kernel
theorem dL_law_1159 : decode cL_law 1159 = .ok (.iadd, 1) := by decide +kernel
theorem dL_law_1160 : decode cL_law 1160 = .ok (.iaload, 1) := by decide +kernel
theorem dL_law_1161 : decode cL_law 1161 = .ok (.aload_n 0, 1) := by decide +kernel
theorem dL_law_1162 : decode cL_law 1162 = .ok (.iload_n 3, 1) := by decide +kernel
theorem dL_law_1163 : decode cL_law 1163 = .ok (.iconst 3, 1) := by decide +kernel
theorem dL_law_1164 : decode cL_law 1164 = .ok (.iadd, 1) := by decide +kernel
theorem dL_law_1165 : decode cL_law 1165 = .ok (.iaload, 1) := by decide +kernel
theorem dL_law_1166 : decode cL_law 1166 = .ok (.aload_n 0, 1) := by decide +kernel
theorem dL_law_1167 : decode cL_law 1167 = .ok (.iload_n 3, 1) := by decide +kernel
theorem dL_law_1168 : decode cL_law 1168 = .ok (.iconst 4, 1) := by decide +kernel
theorem dL_law_1169 : decode cL_law 1169 = .ok (.iadd, 1) := by decide +kernel
theorem dL_law_1170 : decode cL_law 1170 = .ok (.iaload, 1) := by decide +kernel
theorem dL_law_1171 : decode cL_law 1171 = .ok (.invokevirtual 139, 3) := by decide +kernel
theorem dL_law_1174 : decode cL_law 1174 = .ok (.if_icmp .eq 38, 3) := by decide +kernel
theorem dL_law_1177 : decode cL_law 1177 = .ok (.iconst 0, 1) := by decide +kernel
theorem dL_law_1178 : decode cL_law 1178 = .ok (.ireturn, 1) := by decide +kernel
theorem dL_law_1179 : decode cL_law 1179 = .ok (.aload_n 1, 1) := by decide +kernel
theorem dL_law_1180 : decode cL_law 1180 = .ok (.aload_n 0, 1) := by decide +kernel
theorem dL_law_1181 : decode cL_law 1181 = .ok (.iload_n 3, 1) := by decide +kernel
theorem dL_law_1182 : decode cL_law 1182 = .ok (.iconst 1, 1) := by decide +kernel
theorem dL_law_1183 : decode cL_law 1183 = .ok (.iadd, 1) := by decide +kernel
theorem dL_law_1184 : decode cL_law 1184 = .ok (.iaload, 1) := by decide +kernel
theorem dL_law_1185 : decode cL_law 1185 = .ok (.aload_n 0, 1) := by decide +kernel
theorem dL_law_1186 : decode cL_law 1186 = .ok (.iload_n 3, 1) := by decide +kernel
theorem dL_law_1187 : decode cL_law 1187 = .ok (.iconst 2, 1) := by decide +kernel
theorem dL_law_1188 : decode cL_law 1188 = .ok (.iadd, 1) := by decide +kernel
theorem dL_law_1189 : decode cL_law 1189 = .ok (.iaload, 1) := by decide +kernel
theorem dL_law_1190 : decode cL_law 1190 = .ok (.invokevirtual 140, 3) := by decide +kernel
theorem dL_law_1193 : decode cL_law 1193 = .ok (.aload_n 2, 1) := by decide +kernel
theorem dL_law_1194 : decode cL_law 1194 = .ok (.aload_n 0, 1) := by decide +kernel
theorem dL_law_1195 : decode cL_law 1195 = .ok (.iload_n 3, 1) := by decide +kernel
theorem dL_law_1196 : decode cL_law 1196 = .ok (.iconst 1, 1) := by decide +kernel
theorem dL_law_1197 : decode cL_law 1197 = .ok (.iadd, 1) := by decide +kernel
theorem dL_law_1198 : decode cL_law 1198 = .ok (.iaload, 1) := by decide +kernel
theorem dL_law_1199 : decode cL_law 1199 = .ok (.aload_n 0, 1) := by decide +kernel
theorem dL_law_1200 : decode cL_law 1200 = .ok (.iload_n 3, 1) := by decide +kernel
theorem dL_law_1201 : decode cL_law 1201 = .ok (.iconst 2, 1) := by decide +kernel
theorem dL_law_1202 : decode cL_law 1202 = .ok (.iadd, 1) := by decide +kernel
theorem dL_law_1203 : decode cL_law 1203 = .ok (.iaload, 1) := by decide +kernel
theorem dL_law_1204 : decode cL_law 1204 = .ok (.invokevirtual 143, 3) := by decide +kernel
theorem dL_law_1207 : decode cL_law 1207 = .ok (.if_icmp .eq 5, 3) := by decide +kernel
theorem dL_law_1210 : decode cL_law 1210 = .ok (.iconst 0, 1) := by decide +kernel
theorem dL_law_1211 : decode cL_law 1211 = .ok (.ireturn, 1) := by decide +kernel
theorem dL_law_1212 : decode cL_law 1212 = .ok (.iinc 3 6, 3) := by decide +kernel
theorem dL_law_1215 : decode cL_law 1215 = .ok (.goto (-1197), 3) := by decide +kernel
theorem dL_law_1218 : decode cL_law 1218 = .ok (.iconst 1, 1) := by decide +kernel
theorem dL_law_1219 : decode cL_law 1219 = .ok (.ireturn, 1) := by decide +kernel
end
section
/-! ===== the base: one word list for all contracts; contexts, worlds, calls, ends ===== -/
theorem Tw_code {y : MethodName} {cc : ByteArray} {n : Nat} {r : Option FieldType} (h : Cond.code y cc n r ∈ Tw) : GoodIn Tw (Cond.code y cc n r :: Tw) := fun w hw => (List.mem_cons.mp hw).elim (fun e => by rw [e]; exact Tw_good _ h) (Tw_good w)
/-- the context of a walk: the machine, the code, the words, the classes, the answer's type, what may be written -/
def Cx (D : va_G) (tys : List (ClassId × FieldType)) (own : String) (cc : ByteArray) (nL : Nat) (rt : Option FieldType) (p : Program) (s : State) (m : MethodId) (args : Array Value) (meth : Method) (c : Code) (A : Nat → Prop) : Prop :=
  p.tables.exec = Jvm.exec ∧ c.code = cc ∧ c.maxLocals = nL ∧ s.vm.findClass own = some m.cls ∧ (∀ w ∈ Tw, w.before args s = true) ∧ va_K D vwCl tys s ∧ meth.sig.returnType = rt ∧ meth.locks = false ∧ (∀ q : Nat, s.heap.size ≤ q → A q)
/-- the world in the heap -/
def Hd (D : va_G) (ws : va_W) (A : Nat → Prop) (s : State) (H : Heap) (locs : List Loc) : Prop := va_P D vwCl ws H ∧ va_D A ws ∧ va_S A s.heap H locs
def ctPre (D : va_G) (tys : List (ClassId × FieldType)) (ws : va_W) (sz : Nat) : State → Prop := fun U => U.heap.size = sz ∧ va_P D vwCl ws U.heap ∧ va_K D vwCl tys U ∧ va_D (fun _ => True) ws
def ctPost (D : va_G) (tys : List (ClassId × FieldType)) {S : Type} (w : S → va_W) (A : Nat → Prop) : S → State → Prop := fun u t => va_P D vwCl (w u) t.heap ∧ va_K D vwCl tys t ∧ va_D A (w u)
/-- contracts over a whole world: an int, a boolean, a long, nothing -/
def Ci (l : Launch) (D : va_G) (tys : List (ClassId × FieldType)) {S : Type} (w : S → va_W) (y : MethodName) (cc : ByteArray) (maxL : Nat) (rm : Room) (av : List Value) (k : S) (Q : Int32 → S → Prop) : Prop :=
  ∀ sz : Nat, Met l y (.code y cc maxL (some .int) :: Tw) rm (va_Pc av (ctPre D tys (w k) sz)) (va_Qi Q (ctPost D tys w (va_A (w k) sz)) (va_A (w k) sz)) 0 0 (va_A (w k) sz)
def Cz (l : Launch) (D : va_G) (tys : List (ClassId × FieldType)) {S : Type} (w : S → va_W) (y : MethodName) (cc : ByteArray) (maxL : Nat) (rm : Room) (av : List Value) (k : S) (Q : Int32 → S → Prop) : Prop :=
  ∀ sz : Nat, Met l y (.code y cc maxL (some .boolean) :: Tw) rm (va_Pc av (ctPre D tys (w k) sz)) (va_Qi (fun r u => (r = 0 ∨ r = 1) ∧ Q r u) (ctPost D tys w (va_A (w k) sz)) (va_A (w k) sz)) 0 0 (va_A (w k) sz)
def Cl (l : Launch) (D : va_G) (tys : List (ClassId × FieldType)) {S : Type} (w : S → va_W) (y : MethodName) (cc : ByteArray) (maxL : Nat) (rm : Room) (av : List Value) (k : S) (Q : Int64 → S → Prop) : Prop :=
  ∀ sz : Nat, Met l y (.code y cc maxL (some .long) :: Tw) rm (va_Pc av (ctPre D tys (w k) sz)) (va_Ql Q (ctPost D tys w (va_A (w k) sz)) (va_A (w k) sz)) 0 0 (va_A (w k) sz)
def Cv (l : Launch) (D : va_G) (tys : List (ClassId × FieldType)) {S : Type} (w : S → va_W) (y : MethodName) (cc : ByteArray) (maxL : Nat) (rm : Room) (av : List Value) (k : S) (Q : S → Prop) : Prop :=
  ∀ sz : Nat, Met l y (.code y cc maxL none :: Tw) rm (va_Pc av (ctPre D tys (w k) sz)) (va_Qv Q (ctPost D tys w (va_A (w k) sz)) (va_A (w k) sz)) 0 0 (va_A (w k) sz)
theorem ctBlind {D : va_G} {tys : List (ClassId × FieldType)} {ws : va_W} {sz : Nat} {av : List Value} : FrameBlind (va_Pc av (ctPre D tys ws sz)) := fun a U g mk q => by
  obtain ⟨q0, q1, qP, qK, qD⟩ := q
  exact ⟨q0, q1, qP, va_K.moved (u := U) (U := U.calling g mk a) (Vm.Alike.refl U.vm) qK, qD⟩
/-- the words of a call -/
def CWd (own : String) (idx : Nat) (y : MethodName) (bytes : ByteArray) (maxL : Nat) (ret : Option FieldType) (n : Nat) : Prop :=
  Cond.code y bytes maxL ret ∈ Tw ∧ Cond.methodLink own idx y ∈ Tw ∧ Cond.initialized y.cls ∈ Tw ∧ (y.cls ≠ "java/lang/invoke/MethodHandle" ∧ y.cls ≠ "java/lang/invoke/VarHandle" ∧ (parseMethodDescriptor y.desc).map (fun d => d.parameters.length) = some n)
def CWv (own : String) (idx : Nat) (y : MethodName) (bytes : ByteArray) (maxL : Nat) (ret : Option FieldType) (n : Nat) : Prop :=
  CWd own idx y bytes maxL ret n ∧ Cond.instanceMethod y ∈ Tw ∧ Cond.selects y.cls y y ∈ Tw
def CWs (own : String) (idx : Nat) (y : MethodName) (bytes : ByteArray) (maxL : Nat) (ret : Option FieldType) (n : Nat) : Prop :=
  CWd own idx y bytes maxL ret n ∧ Cond.static y ∈ Tw
section Base
variable {p : Program} {l : Launch} {e : Env} {R : Room} {s : State} {m : MethodId} {args : Array Value} {below : List Frame} {meth : Method} {c : Code} {H : Heap} {locs : List Loc} {Q : State → Prop} {D : va_G} {tys : List (ClassId × FieldType)} {A : Nat → Prop} {cells slots : Nat}
variable {own : String} {cc bytes : ByteArray} {nL maxL n idx pc : Nat} {rt ret : Option FieldType} {y : MethodName} {rm : Room} {b : Addr} {As rest st : List Value} {ls : Array Slot} {S : Type} {w : S → va_W} {k : S}
theorem CWd.b (h : CWd own idx y bytes maxL ret n) (ht : ∀ w ∈ Tw, w.before args s = true) (hrc : rm.cells = 0) (hrs : rm.slots = 0) (hR : rm.frames + 1 ≤ R.frames ∧ 8 + (maxL + 11) + rm.locals ≤ R.locals) : CallB R s args own idx y bytes maxL ret (.code y bytes maxL ret :: Tw) rm 0 0 n :=
  callB_of n ht (Tw_code h.1) rfl hrc hrs (ht _ h.2.2.1) (ht _ h.2.1) h.2.2.2 hR
theorem Hd.free (C : Cx D tys own cc nL rt p s m args meth c A) (h : Hd D (w k) A s H locs) : ∀ q, va_A (w k) H.size q → A q := fun q hq => by
  rcases hq with ⟨j, e', hk⟩ | hge
  · exact h.2.1.2 _ _ hk
  · exact C.2.2.2.2.2.2.2.2 q (Nat.le_trans h.2.2.1 hge)
theorem Hd.pre (C : Cx D tys own cc nL rt p s m args meth c A) (h : Hd D (w k) A s H locs) (av : List Value) : ∀ U : State, U.heap = H → s.WarmedH U.vm → va_Pc av (ctPre D tys (w k) H.size) av.toArray U := fun U hU hW =>
  ⟨rfl, by rw [hU], by rw [hU]; exact h.1, va_K.moved hW.alike C.2.2.2.2.2.1, h.2.1.weaken (fun _ _ _ _ => trivial)⟩
theorem Hd.post (C : Cx D tys own cc nL rt p s m args meth c A) (h : Hd D (w k) A s H locs) {u : S} {t : State} {H1 : Heap} {locs1 : List Loc} (ht : t.heap = H1) (hB : ctPost D tys w (va_A (w k) H.size) u t) (hS : va_S A s.heap H1 locs1) : Hd D (w u) A s H1 locs1 :=
  ⟨by rw [← ht]; exact hB.1, hB.2.2.weaken (fun _ q _ h1 => Hd.free C h q.1 h1), hS⟩
/-- a receiver of a class of the world -/
def Rcv (ws : va_W) (b : Nat) (C : String) : Prop := ∃ (ci q0 N : Nat) (T : u_T) (fs : List Value), vwCl[ci]? = some (C, T, N) ∧ ws[q0]? = some (b, .inr (ci, fs))
theorem Rcv.at {ws : va_W} {C : String} (h : Rcv ws b C) (hK : va_K D vwCl tys s) (hP : va_P D vwCl ws H) : ∃ cell : Cell, H[b]? = some cell ∧ cell.vm.isStatics = false ∧ s.vm.findClass C = some cell.cls := by
  obtain ⟨ci, q0, N, T, fs, h1, h2⟩ := h
  exact va_recv hK hP h1 h2
theorem xv_i {Qp : Int32 → S → Prop} (C : Cx D tys own cc nL rt p s m args meth c A) (h : Hd D (w k) A s H locs) (kw : CWv own idx y bytes maxL (some .int) n) (hC : Ci l D tys w y bytes maxL rm (.ref b :: As) k Qp) (hrc : rm.cells = 0 ∧ rm.slots = 0) (hR : rm.frames + 1 ≤ R.frames ∧ 8 + (maxL + 11) + rm.locals ≤ R.locals) (hv : Rcv (w k) b y.cls) (hls : ls.size = nL) (hn : As.length = n) (hst : st = As.reverse ++ .ref b :: rest) (hW : (rest.map fun v => v.category).sum ≤ 8) (hcs : cells ≤ R.cells ∧ slots ≤ R.slots) (hdg : decode cc pc = .ok (.invokevirtual idx, 3))
    (kk : ∀ (r : Int32) (u : S) (H1 : Heap) (locs1 : List Loc), Qp r u → Hd D (w u) A s H1 locs1 → W p l e R s m args below meth c H1 locs1 cells slots Q (F0 m (pc + 3) ls (.int r :: rest))) : W p l e R s m args below meth c H locs cells slots Q (F0 m pc ls st) := by
  subst hst
  have ht := C.2.2.2.2.1
  exact va_calli (va_runV (As := As) (rest := rest) ⟨C.1, C.2.1, C.2.2.1, C.2.2.2.1, ht⟩ (hC H.size) ⟨kw.1.b ht hrc.1 hrc.2 hR, ht _ kw.2.1, ht _ kw.2.2⟩ ⟨ctBlind, hv.at C.2.2.2.2.2.1 h.1, Hd.pre C h _⟩ rfl hn hls rfl (lv_room hW) hdg hcs) h.2.2 (fun q _ hq => Hd.free C h q hq) (Hd.free C h) (fun r u t H1 locs1 ht hvm hw hB hz1 hk1 hS => kk r u H1 locs1 hw (Hd.post C h ht hB hS))
theorem xv_z {Qp : Int32 → S → Prop} (C : Cx D tys own cc nL rt p s m args meth c A) (h : Hd D (w k) A s H locs) (kw : CWv own idx y bytes maxL (some .boolean) n) (hC : Cz l D tys w y bytes maxL rm (.ref b :: As) k Qp) (hrc : rm.cells = 0 ∧ rm.slots = 0) (hR : rm.frames + 1 ≤ R.frames ∧ 8 + (maxL + 11) + rm.locals ≤ R.locals) (hv : Rcv (w k) b y.cls) (hls : ls.size = nL) (hn : As.length = n) (hst : st = As.reverse ++ .ref b :: rest) (hW : (rest.map fun v => v.category).sum ≤ 8) (hcs : cells ≤ R.cells ∧ slots ≤ R.slots) (hdg : decode cc pc = .ok (.invokevirtual idx, 3))
    (kk : ∀ (r : Int32) (u : S) (H1 : Heap) (locs1 : List Loc), (r = 0 ∨ r = 1) → Qp r u → Hd D (w u) A s H1 locs1 → W p l e R s m args below meth c H1 locs1 cells slots Q (F0 m (pc + 3) ls (.int r :: rest))) : W p l e R s m args below meth c H locs cells slots Q (F0 m pc ls st) := by
  subst hst
  have ht := C.2.2.2.2.1
  exact va_calli (va_runV (As := As) (rest := rest) ⟨C.1, C.2.1, C.2.2.1, C.2.2.2.1, ht⟩ (hC H.size) ⟨kw.1.b ht hrc.1 hrc.2 hR, ht _ kw.2.1, ht _ kw.2.2⟩ ⟨ctBlind, hv.at C.2.2.2.2.2.1 h.1, Hd.pre C h _⟩ rfl hn hls rfl (lv_room hW) hdg hcs) h.2.2 (fun q _ hq => Hd.free C h q hq) (Hd.free C h) (fun r u t H1 locs1 ht hvm hw hB hz1 hk1 hS => kk r u H1 locs1 hw.1 hw.2 (Hd.post C h ht hB hS))
theorem xv_l {Qp : Int64 → S → Prop} (C : Cx D tys own cc nL rt p s m args meth c A) (h : Hd D (w k) A s H locs) (kw : CWv own idx y bytes maxL (some .long) n) (hC : Cl l D tys w y bytes maxL rm (.ref b :: As) k Qp) (hrc : rm.cells = 0 ∧ rm.slots = 0) (hR : rm.frames + 1 ≤ R.frames ∧ 8 + (maxL + 11) + rm.locals ≤ R.locals) (hv : Rcv (w k) b y.cls) (hls : ls.size = nL) (hn : As.length = n) (hst : st = As.reverse ++ .ref b :: rest) (hW : (rest.map fun v => v.category).sum ≤ 8) (hcs : cells ≤ R.cells ∧ slots ≤ R.slots) (hdg : decode cc pc = .ok (.invokevirtual idx, 3))
    (kk : ∀ (r : Int64) (u : S) (H1 : Heap) (locs1 : List Loc), Qp r u → Hd D (w u) A s H1 locs1 → W p l e R s m args below meth c H1 locs1 cells slots Q (F0 m (pc + 3) ls (.long r :: rest))) : W p l e R s m args below meth c H locs cells slots Q (F0 m pc ls st) := by
  subst hst
  have ht := C.2.2.2.2.1
  exact va_calll (va_runV (As := As) (rest := rest) ⟨C.1, C.2.1, C.2.2.1, C.2.2.2.1, ht⟩ (hC H.size) ⟨kw.1.b ht hrc.1 hrc.2 hR, ht _ kw.2.1, ht _ kw.2.2⟩ ⟨ctBlind, hv.at C.2.2.2.2.2.1 h.1, Hd.pre C h _⟩ rfl hn hls rfl (lv_room hW) hdg hcs) h.2.2 (fun q _ hq => Hd.free C h q hq) (Hd.free C h) (fun r u t H1 locs1 ht hvm hw hB hz1 hk1 hS => kk r u H1 locs1 hw (Hd.post C h ht hB hS))
theorem xv_v {Qp : S → Prop} (C : Cx D tys own cc nL rt p s m args meth c A) (h : Hd D (w k) A s H locs) (kw : CWv own idx y bytes maxL none n) (hC : Cv l D tys w y bytes maxL rm (.ref b :: As) k Qp) (hrc : rm.cells = 0 ∧ rm.slots = 0) (hR : rm.frames + 1 ≤ R.frames ∧ 8 + (maxL + 11) + rm.locals ≤ R.locals) (hv : Rcv (w k) b y.cls) (hls : ls.size = nL) (hn : As.length = n) (hst : st = As.reverse ++ .ref b :: rest) (hW : (rest.map fun v => v.category).sum ≤ 8) (hcs : cells ≤ R.cells ∧ slots ≤ R.slots) (hdg : decode cc pc = .ok (.invokevirtual idx, 3))
    (kk : ∀ (u : S) (H1 : Heap) (locs1 : List Loc), Qp u → Hd D (w u) A s H1 locs1 → W p l e R s m args below meth c H1 locs1 cells slots Q (F0 m (pc + 3) ls rest)) : W p l e R s m args below meth c H locs cells slots Q (F0 m pc ls st) := by
  subst hst
  have ht := C.2.2.2.2.1
  exact va_callv (va_runV (As := As) (rest := rest) ⟨C.1, C.2.1, C.2.2.1, C.2.2.2.1, ht⟩ (hC H.size) ⟨kw.1.b ht hrc.1 hrc.2 hR, ht _ kw.2.1, ht _ kw.2.2⟩ ⟨ctBlind, hv.at C.2.2.2.2.2.1 h.1, Hd.pre C h _⟩ rfl hn hls rfl (lv_room hW) hdg hcs) h.2.2 (fun q _ hq => Hd.free C h q hq) (Hd.free C h) (fun u t H1 locs1 ht hvm hw hB hz1 hk1 hS => kk u H1 locs1 hw (Hd.post C h ht hB hS))
theorem xs_i {Qp : Int32 → S → Prop} (C : Cx D tys own cc nL rt p s m args meth c A) (h : Hd D (w k) A s H locs) (kw : CWs own idx y bytes maxL (some .int) n) (hC : Ci l D tys w y bytes maxL rm As k Qp) (hrc : rm.cells = 0 ∧ rm.slots = 0) (hR : rm.frames + 1 ≤ R.frames ∧ 8 + (maxL + 11) + rm.locals ≤ R.locals) (hls : ls.size = nL) (hn : As.length = n) (hst : st = As.reverse ++ rest) (hW : (rest.map fun v => v.category).sum ≤ 8) (hcs : cells ≤ R.cells ∧ slots ≤ R.slots) (hdg : decode cc pc = .ok (.invokestatic idx, 3))
    (kk : ∀ (r : Int32) (u : S) (H1 : Heap) (locs1 : List Loc), Qp r u → Hd D (w u) A s H1 locs1 → W p l e R s m args below meth c H1 locs1 cells slots Q (F0 m (pc + 3) ls (.int r :: rest))) : W p l e R s m args below meth c H locs cells slots Q (F0 m pc ls st) := by
  subst hst
  have ht := C.2.2.2.2.1
  exact va_calli (va_runS (As := As) (rest := rest) ⟨C.1, C.2.1, C.2.2.1, C.2.2.2.1, ht⟩ (hC H.size) ⟨kw.1.b ht hrc.1 hrc.2 hR, ht _ kw.2⟩ ⟨ctBlind, Hd.pre C h _⟩ rfl hn hls rfl (lv_room hW) hdg hcs) h.2.2 (fun q _ hq => Hd.free C h q hq) (Hd.free C h) (fun r u t H1 locs1 ht hvm hw hB hz1 hk1 hS => kk r u H1 locs1 hw (Hd.post C h ht hB hS))
theorem xs_z {Qp : Int32 → S → Prop} (C : Cx D tys own cc nL rt p s m args meth c A) (h : Hd D (w k) A s H locs) (kw : CWs own idx y bytes maxL (some .boolean) n) (hC : Cz l D tys w y bytes maxL rm As k Qp) (hrc : rm.cells = 0 ∧ rm.slots = 0) (hR : rm.frames + 1 ≤ R.frames ∧ 8 + (maxL + 11) + rm.locals ≤ R.locals) (hls : ls.size = nL) (hn : As.length = n) (hst : st = As.reverse ++ rest) (hW : (rest.map fun v => v.category).sum ≤ 8) (hcs : cells ≤ R.cells ∧ slots ≤ R.slots) (hdg : decode cc pc = .ok (.invokestatic idx, 3))
    (kk : ∀ (r : Int32) (u : S) (H1 : Heap) (locs1 : List Loc), (r = 0 ∨ r = 1) → Qp r u → Hd D (w u) A s H1 locs1 → W p l e R s m args below meth c H1 locs1 cells slots Q (F0 m (pc + 3) ls (.int r :: rest))) : W p l e R s m args below meth c H locs cells slots Q (F0 m pc ls st) := by
  subst hst
  have ht := C.2.2.2.2.1
  exact va_calli (va_runS (As := As) (rest := rest) ⟨C.1, C.2.1, C.2.2.1, C.2.2.2.1, ht⟩ (hC H.size) ⟨kw.1.b ht hrc.1 hrc.2 hR, ht _ kw.2⟩ ⟨ctBlind, Hd.pre C h _⟩ rfl hn hls rfl (lv_room hW) hdg hcs) h.2.2 (fun q _ hq => Hd.free C h q hq) (Hd.free C h) (fun r u t H1 locs1 ht hvm hw hB hz1 hk1 hS => kk r u H1 locs1 hw.1 hw.2 (Hd.post C h ht hB hS))
theorem xs_l {Qp : Int64 → S → Prop} (C : Cx D tys own cc nL rt p s m args meth c A) (h : Hd D (w k) A s H locs) (kw : CWs own idx y bytes maxL (some .long) n) (hC : Cl l D tys w y bytes maxL rm As k Qp) (hrc : rm.cells = 0 ∧ rm.slots = 0) (hR : rm.frames + 1 ≤ R.frames ∧ 8 + (maxL + 11) + rm.locals ≤ R.locals) (hls : ls.size = nL) (hn : As.length = n) (hst : st = As.reverse ++ rest) (hW : (rest.map fun v => v.category).sum ≤ 8) (hcs : cells ≤ R.cells ∧ slots ≤ R.slots) (hdg : decode cc pc = .ok (.invokestatic idx, 3))
    (kk : ∀ (r : Int64) (u : S) (H1 : Heap) (locs1 : List Loc), Qp r u → Hd D (w u) A s H1 locs1 → W p l e R s m args below meth c H1 locs1 cells slots Q (F0 m (pc + 3) ls (.long r :: rest))) : W p l e R s m args below meth c H locs cells slots Q (F0 m pc ls st) := by
  subst hst
  have ht := C.2.2.2.2.1
  exact va_calll (va_runS (As := As) (rest := rest) ⟨C.1, C.2.1, C.2.2.1, C.2.2.2.1, ht⟩ (hC H.size) ⟨kw.1.b ht hrc.1 hrc.2 hR, ht _ kw.2⟩ ⟨ctBlind, Hd.pre C h _⟩ rfl hn hls rfl (lv_room hW) hdg hcs) h.2.2 (fun q _ hq => Hd.free C h q hq) (Hd.free C h) (fun r u t H1 locs1 ht hvm hw hB hz1 hk1 hS => kk r u H1 locs1 hw (Hd.post C h ht hB hS))
/-- ends -/
theorem xr_i {Qp : Int32 → S → Prop} {v : Int32} {u : S} (C : Cx D tys own cc nL (some .int) p s m args meth c A) (h : Hd D (w u) A s H locs) (hq : Qp v u) (hdg : decode cc pc = .ok (.ireturn, 1)) : W p l e R s m args below meth c H locs 0 0 (MQ below (va_Qi Qp (ctPost D tys w A) A) args s 0 0 A) (F0 m pc ls [.int v]) :=
  W.iret (v := v) C.1 C.2.1 C.2.2.2.2.2.2.1 (fun t ht hW => ⟨⟨v, u, rfl, hq, by rw [ht]; exact h.1, va_K.moved hW.alike C.2.2.2.2.2.1, h.2.1⟩, h.2.2.F ht⟩) h.2.2.2.2 hdg C.2.2.2.2.2.2.2.1
theorem xr_z {Qp : Int32 → S → Prop} {v : Int32} {u : S} (C : Cx D tys own cc nL (some .boolean) p s m args meth c A) (h : Hd D (w u) A s H locs) (hz : v = 0 ∨ v = 1) (hq : Qp v u) (hdg : decode cc pc = .ok (.ireturn, 1)) : W p l e R s m args below meth c H locs 0 0 (MQ below (va_Qi (fun r u => (r = 0 ∨ r = 1) ∧ Qp r u) (ctPost D tys w A) A) args s 0 0 A) (F0 m pc ls [.int v]) :=
  W.zret (v := v) (ty := .boolean) C.1 C.2.1 C.2.2.2.2.2.2.1 (by rcases hz with rfl | rfl <;> decide +kernel) (fun t ht hW => ⟨⟨v, u, rfl, ⟨hz, hq⟩, by rw [ht]; exact h.1, va_K.moved hW.alike C.2.2.2.2.2.1, h.2.1⟩, h.2.2.F ht⟩) h.2.2.2.2 hdg C.2.2.2.2.2.2.2.1
theorem xr_l {Qp : Int64 → S → Prop} {v : Int64} {u : S} (C : Cx D tys own cc nL (some .long) p s m args meth c A) (h : Hd D (w u) A s H locs) (hq : Qp v u) (hdg : decode cc pc = .ok (.lreturn, 1)) : W p l e R s m args below meth c H locs 0 0 (MQ below (va_Ql Qp (ctPost D tys w A) A) args s 0 0 A) (F0 m pc ls [.long v]) :=
  W.lret (v := v) C.1 C.2.1 C.2.2.2.2.2.2.1 (fun t ht hW => ⟨⟨v, u, rfl, hq, by rw [ht]; exact h.1, va_K.moved hW.alike C.2.2.2.2.2.1, h.2.1⟩, h.2.2.F ht⟩) h.2.2.2.2 hdg C.2.2.2.2.2.2.2.1
theorem xr_v {Qp : S → Prop} {u : S} (C : Cx D tys own cc nL none p s m args meth c A) (h : Hd D (w u) A s H locs) (hq : Qp u) (hdg : decode cc pc = .ok (.return_, 1)) : W p l e R s m args below meth c H locs 0 0 (MQ below (va_Qv Qp (ctPost D tys w A) A) args s 0 0 A) (F0 m pc ls []) :=
  W.vret C.1 C.2.1 C.2.2.2.2.2.2.1 (fun t ht hW => ⟨⟨u, rfl, hq, by rw [ht]; exact h.1, va_K.moved hW.alike C.2.2.2.2.2.1, h.2.1⟩, h.2.2.F ht⟩) h.2.2.2.2 hdg C.2.2.2.2.2.2.2.1
end Base
end
section
theorem zz_last : True := trivial
end
